/-! the heap read by its typing: contents as functions of the heap -/
section AUT
variable {n fr lo k pc sl : Nat} {L : pm_L} {S : List Value} {h h' : pm_H} {R : pm_Rs}
/-- the typing without its intervals -/
def wk (a : av) : av := cond (Nat.beq a.1 0) ai_top (cond (Nat.beq a.1 1) al_top a)
def wd (c : ac) : ac := match c with
  | .inl (kd, n, a) => .inl (kd, n, wk a)
  | .inr (ci, as) => cond (Nat.ble 1000 ci) (.inl (ci - 1000, as.length, ai_top)) (.inr (ci, as.map wk))
def WT (h : pm_H) : Prop := ∀ i, i < 198 → ac_ok (h i) (wd (bB i))
theorem wk_ok {v : Value} {a : av} (q : av_ok v a) : av_ok v (wk a) := by
  cases v with
  | int x =>
    have e : a.1 = 0 := q.1
    unfold wk
    rw [e]
    exact ai_top_ok x
  | long x =>
    have e : a.1 = 1 := q.1
    unfold wk
    rw [e]
    exact al_top_ok x
  | ref p =>
    have e : a.1 = 2 := q.1
    unfold wk
    rw [e]
    exact q
  | null =>
    have e : a.1 = 3 := q
    unfold wk
    rw [e]
    exact q
  | retAddr i =>
    have e : a.1 = 4 := q.1
    unfold wk
    rw [e]
    exact q
  | _ => exact q.elim
theorem wk_2 {a : av} (e : a.1 = 2) : wk a = a := by
  unfold wk
  rw [e]
  rfl
theorem wk_n2 {a : av} (e : a.1 ≠ 2) : (wk a).1 ≠ 2 := by
  unfold wk
  cases Nat.beq a.1 0 with
  | true => exact (by decide : ai_top.1 ≠ 2)
  | false =>
    cases Nat.beq a.1 1 with
    | true => exact (by decide : al_top.1 ≠ 2)
    | false => exact e
theorem wk_aq {v : Value} {a : av} {j : Nat} (q : av_ok v (aq a j)) : av_ok v (aq (wk a) j) := by
  by_cases z : a.1 = 2
  · rw [wk_2 z]
    exact q
  · unfold aq at q ⊢
    rw [if_neg z] at q
    rw [if_neg (wk_n2 z)]
    exact wk_ok q
theorem wd_ok {e : pm_E} {c : ac} (q : ac_ok e c) : ac_ok e (wd c) := by
  rcases e with ⟨kd, n, f | f | f | f | f⟩ | ⟨ci, fs⟩
  · rcases c with ⟨kd', n', a⟩ | ⟨ci', as⟩
    · exact ⟨q.1, q.2.1, fun j hj => wk_ok (q.2.2 j hj)⟩
    · obtain ⟨rfl, q2, -⟩ := q
      show ac_ok _ (cond (Nat.ble 1000 (1000 + kd)) _ _)
      rw [show Nat.ble 1000 (1000 + kd) = true from Nat.ble_eq_true_of_le (Nat.le_add_right _ _)]
      exact ⟨by omega, q2, fun j _ => ai_top_ok _⟩
  · rcases c with ⟨kd', n', a⟩ | ⟨ci', as⟩
    · exact ⟨q.1, q.2.1, fun j hj => wk_ok (q.2.2 j hj)⟩
    · exact q.elim
  · rcases c with ⟨kd', n', a⟩ | ⟨ci', as⟩
    · exact q.elim
    · exact q.elim
  · rcases c with ⟨kd', n', a⟩ | ⟨ci', as⟩
    · exact q.elim
    · exact q.elim
  · rcases c with ⟨kd', n', a⟩ | ⟨ci', as⟩
    · exact ⟨q.1, q.2.1, fun j hj => wk_aq (q.2.2 j hj)⟩
    · exact q.elim
  · rcases c with ⟨kd', n', a⟩ | ⟨ci', as⟩
    · exact q.elim
    · obtain ⟨⟨rfl, q1⟩, q2, q3⟩ := q
      show ac_ok _ (cond (Nat.ble 1000 ci) _ _)
      rw [show Nat.ble 1000 ci = false by
        cases z : Nat.ble 1000 ci with
        | false => rfl
        | true => exact absurd (Nat.le_of_ble_eq_true z) (by omega)]
      refine ⟨⟨rfl, q1⟩, by rw [List.length_map]; exact q2, fun i v a hv ha => ?_⟩
      rw [List.getElem?_map] at ha
      cases z : as[i]? with
      | none => rw [z] at ha; cases ha
      | some b =>
        rw [z] at ha
        cases ha
        exact wk_ok (q3 i v b hv z)
theorem wt_of (hI : ah_ok bB 198 [] h) : WT h := fun i hi => wd_ok (hI i hi)
def Ar (h : pm_H) (a : Nat) : Nat → Int32 := match h a with
  | .inl (_, _, .inl f) => f
  | _ => fun _ => 0
def Fi (h : pm_H) (c g : Nat) : Int32 := match h c with
  | .inr (_, fs) => (match fs[g]? with
    | some (.int x) => x
    | _ => 0)
  | _ => 0
def fset (h : pm_H) (c g : Nat) (v : Value) : pm_H := va_up h c (match h c with
  | .inr (ci, fs) => .inr (ci, fs.set g v)
  | e => e)
theorem wt_a {a kd m : Nat} (hw : WT h) (ha : a < 198) (hb : wd (bB a) = .inl (kd, m, ai_top)) (hm : 0 < m) : h a = .inl (kd, m, .inl (Ar h a)) := by
  have q := hw a ha
  rw [hb] at q
  unfold Ar
  generalize h a = e at q ⊢
  rcases e with ⟨kd', n', f | f | f | f | f⟩ | ⟨ci, fs⟩
  · obtain ⟨rfl, rfl, -⟩ := q
    rfl
  · obtain ⟨-, rfl, q⟩ := q
    exact absurd (q 0 hm).1 (by decide)
  · exact q.elim
  · exact q.elim
  · obtain ⟨-, rfl, q⟩ := q
    have q : av_ok (va_rf (f 0)) ai_top := q 0 hm
    cases e2 : f 0 with
    | none => rw [e2] at q; exact absurd (show ai_top.1 = 3 from q) (by decide)
    | some p => rw [e2] at q; exact absurd (show ai_top.1 = 2 from q.1) (by decide)
  · exact q.elim
theorem wt_i {c ci g : Nat} {as : List av} (hw : WT h) (hc : c < 198) (hb : wd (bB c) = .inr (ci, as)) (hl : ci < 1000) (hg : as[g]? = some ai_top) : ∃ fs, h c = .inr (ci, fs) ∧ fs[g]? = some (.int (Fi h c g)) := by
  have q := hw c hc
  rw [hb] at q
  obtain ⟨fs, e, hl', hv⟩ := aE_obj q hl
  have hlt : g < fs.length := by rw [hl']; exact (List.getElem?_eq_some_iff.mp hg).1
  have ev : fs[g]? = some fs[g] := List.getElem?_eq_getElem hlt
  have q := hv g _ _ ev hg
  refine ⟨fs, e, ?_⟩
  cases e2 : fs[g] with
  | int x =>
    have e3 : Fi h c g = x := by
      unfold Fi
      rw [e]
      dsimp only
      rw [ev, e2]
    rw [ev, e2, e3]
  | null => rw [e2] at q; exact absurd (show ai_top.1 = 3 from q) (by decide)
  | _ => rw [e2] at q; first | exact q.elim | exact absurd q.1 (by decide)
theorem wt_r {c ci g p : Nat} {as : List av} (hw : WT h) (hc : c < 198) (hb : wd (bB c) = .inr (ci, as)) (hl : ci < 1000) (hg : as[g]? = some (2, (p : Int), 1)) (hi : av_ids (2, (p : Int), 1) = [p]) : ∃ fs, h c = .inr (ci, fs) ∧ fs[g]? = some (.ref p) := by
  have q := hw c hc
  rw [hb] at q
  obtain ⟨fs, e, hl', hv⟩ := aE_obj q hl
  have hlt : g < fs.length := by rw [hl']; exact (List.getElem?_eq_some_iff.mp hg).1
  have ev : fs[g]? = some fs[g] := List.getElem?_eq_getElem hlt
  have q := hv g _ _ ev hg
  refine ⟨fs, e, ?_⟩
  cases e2 : fs[g] with
  | ref x =>
    rw [e2] at q
    have q := q.2
    rw [hi] at q
    rw [ev, e2, List.mem_singleton.mp q]
  | null => rw [e2] at q; exact absurd (show (2 : Nat) = 3 from q) (by decide)
  | _ => rw [e2] at q; first | exact q.elim | exact absurd (show (2 : Nat) = _ from q.1) (by decide)
/-- contents behind a store -/
theorem Ar_s {a m : Nat} {f : Nat → Int32} : Ar (aset h a m f) a = f := by
  unfold Ar
  rw [asR_self]
theorem Ar_n {a b m : Nat} {f : Nat → Int32} (hn : b ≠ a) : Ar (aset h a m f) b = Ar h b := by
  unfold Ar
  rw [asR_ne hn]
theorem Ar_f {b c g : Nat} {v : Value} : Ar (fset h c g v) b = Ar h b := by
  unfold Ar fset
  by_cases z : b = c
  · subst z
    rw [show va_up h b _ b = _ from if_pos rfl]
    generalize h b = e
    rcases e with ⟨kd', n', f | f | f | f | f⟩ | ⟨ci, fs⟩ <;> rfl
  · rw [show va_up h c _ b = h b from if_neg z]
theorem Ar_e {b : Nat} (e : h' b = h b) : Ar h' b = Ar h b := by
  unfold Ar
  rw [e]
theorem Fi_e {c g : Nat} (e : h' c = h c) : Fi h' c g = Fi h c g := by
  unfold Fi
  rw [e]
theorem Fi_a {a c g m : Nat} {f : Nat → Int32} (hn : c ≠ a) : Fi (aset h a m f) c g = Fi h c g := Fi_e (asR_ne hn)
theorem Fi_s {c ci g : Nat} {as : List av} {x : Int32} (hw : WT h) (hc : c < 198) (hb : wd (bB c) = .inr (ci, as)) (hl : ci < 1000) (hg : as[g]? = some ai_top) : Fi (fset h c g (.int x)) c g = x := by
  obtain ⟨fs, e, e1⟩ := wt_i hw hc hb hl hg
  unfold Fi fset
  rw [show va_up h c _ c = _ from if_pos rfl, e]
  dsimp only
  rw [List.getElem?_set_self (List.getElem?_eq_some_iff.mp e1).1]
theorem Fi_n {c c' g g' : Nat} {v : Value} (hn : c' ≠ c ∨ g' ≠ g) : Fi (fset h c g v) c' g' = Fi h c' g' := by
  unfold Fi fset
  by_cases z : c' = c
  · subst z
    rw [show va_up h c' _ c' = _ from if_pos rfl]
    generalize h c' = e
    rcases e with ⟨kd', n', f | f | f | f | f⟩ | ⟨ci, fs⟩
    · rfl
    · rfl
    · rfl
    · rfl
    · rfl
    · dsimp only
      rw [List.getElem?_set_ne (fun q => hn.elim (fun y => y rfl) (fun y => y q.symm))]
  · rw [show va_up h c _ c' = h c' from if_neg z]
/-- the typing is kept -/
theorem wt_as {a m : Nat} {f : Nat → Int32} (hb : wd (bB a) = .inl (0, m, ai_top)) (hw : WT h) : WT (aset h a m f) := by
  intro i hi
  by_cases z : i = a
  · subst z
    rw [asR_self, hb]
    exact ⟨rfl, rfl, fun j _ => ai_top_ok _⟩
  · rw [asR_ne z]
    exact hw i hi
theorem wt_fs {c ci g : Nat} {as : List av} {x : Int32} (hb : wd (bB c) = .inr (ci, as)) (hl : ci < 1000) (hg : as[g]? = some ai_top) (hw : WT h) : WT (fset h c g (.int x)) := by
  intro i hi
  unfold fset
  by_cases z : i = c
  · subst z
    have q := hw i hi
    rw [hb] at q ⊢
    obtain ⟨fs, e, hl', hv⟩ := aE_obj q hl
    rw [show va_up h i _ i = _ from if_pos rfl, e]
    refine ⟨⟨rfl, hl⟩, by rw [List.length_set]; exact hl', fun j v a hv' ha => ?_⟩
    by_cases y : j = g
    · subst y
      rw [hg] at ha
      cases ha
      have hlt : j < fs.length := by rw [hl']; exact (List.getElem?_eq_some_iff.mp hg).1
      rw [List.getElem?_set_self hlt] at hv'
      cases hv'
      exact ai_top_ok x
    · rw [List.getElem?_set_ne (fun q => y q.symm)] at hv'
      exact hv j v a hv' ha
  · rw [show va_up h c _ i = h i from if_neg z]
    exact hw i hi
/-- the steps -/
theorem en_in {i : Int32} {m : Nat} (z : pm_in i m = true) : i.toNatClampNeg < m := by
  have z : ¬ (i < 0 ∨ m ≤ i.toNatClampNeg) := of_decide_eq_true z
  omega
theorem rn_gi {a ci g j t : Nat} {as : List av} {x : Int32} (hw : WT h) (hi : pm_ins PT k pc = some (.getfield j, 3)) (hf : pm_fld PT (pm_o PT k) j = some (ci, g, t)) (ha : a < 198) (hb : wd (bB a) = .inr (ci, as)) (hl : ci < 1000) (hg : as[g]? = some ai_top) (e : Fi h a g = x) (hh : pm_run PT n fr lo k (pc, L, .ref a :: S, h, 198, sl) = some R) : ∃ m, pm_run PT m fr lo k (pc + 3, L, .int x :: S, h, 198, sl) = some R := by
  obtain ⟨fs, e1, e2⟩ := wt_i hw ha hb hl hg
  rw [e] at e2
  exact rn_gfo hi hf ha e1 e2 hh
theorem rn_gr {a ci g j t p : Nat} {as : List av} (hw : WT h) (hi : pm_ins PT k pc = some (.getfield j, 3)) (hf : pm_fld PT (pm_o PT k) j = some (ci, g, t)) (ha : a < 198) (hb : wd (bB a) = .inr (ci, as)) (hl : ci < 1000) (hg : as[g]? = some (2, (p : Int), 1)) (hi2 : av_ids (2, (p : Int), 1) = [p]) (hh : pm_run PT n fr lo k (pc, L, .ref a :: S, h, 198, sl) = some R) : ∃ m, pm_run PT m fr lo k (pc + 3, L, .ref p :: S, h, 198, sl) = some R := by
  obtain ⟨fs, e1, e2⟩ := wt_r hw ha hb hl hg hi2
  exact rn_gfo hi hf ha e1 e2 hh
theorem en_ias {a m : Nat} {i : Int32} {g : Nat → Int32} (hi : pm_ins PT k pc = some (.iaload, 1)) (ha : h a = .inl (0, m, .inl g)) (hl : a < 198) (hh : pm_run PT n fr lo k (pc, L, .int i :: .ref a :: S, h, 198, sl) = some R) : ∃ q, i.toNatClampNeg < m ∧ pm_run PT q fr lo k (pc + 1, L, .int (g i.toNatClampNeg) :: S, h, 198, sl) = some R := by
  obtain ⟨st, q, e, hh⟩ := rn_ex hi rfl (fun q => by cases q) (fun q => by cases q) (fun q => by cases q) hh
  have e : pm_ia PT .int pc L (.int i :: .ref a :: S) h 198 sl = some st := e
  unfold pm_ia at e
  dsimp only at e
  rw [pm_iar_m ha hl] at e
  dsimp only at e
  by_cases z : pm_in i m = true
  · rw [if_pos z] at e
    cases e
    exact ⟨q, en_in z, hh⟩
  · rw [if_neg z] at e
    cases e
theorem en_iss {a m : Nat} {i x : Int32} {g : Nat → Int32} (hi : pm_ins PT k pc = some (.iastore, 1)) (ha : h a = .inl (0, m, .inl g)) (hl : a < 198) (hh : pm_run PT n fr lo k (pc, L, .int x :: .int i :: .ref a :: S, h, 198, sl) = some R) : ∃ q, i.toNatClampNeg < m ∧ pm_run PT q fr lo k (pc + 1, L, S, aset h a m (upd g i.toNatClampNeg x), 198, sl) = some R := by
  obtain ⟨st, q, e, hh⟩ := rn_ex hi rfl (fun q => by cases q) (fun q => by cases q) (fun q => by cases q) hh
  have e : pm_iS PT .int (fun x => x) pc L (.int x :: .int i :: .ref a :: S) h 198 sl = some st := e
  unfold pm_iS at e
  dsimp only at e
  rw [pm_iar_m ha hl] at e
  dsimp only at e
  by_cases z : pm_in i m = true
  · rw [if_pos z] at e
    cases e
    exact ⟨q, en_in z, hh⟩
  · rw [if_neg z] at e
    cases e
theorem rn_ai {a m : Nat} {i : Int32} {g : Nat → Int32} (hw : WT h) (hi : pm_ins PT k pc = some (.iaload, 1)) (ha : a < 198) (hb : wd (bB a) = .inl (0, m, ai_top)) (hm : 0 < m) (e : Ar h a = g) (hh : pm_run PT n fr lo k (pc, L, .int i :: .ref a :: S, h, 198, sl) = some R) : ∃ q, i.toNatClampNeg < m ∧ pm_run PT q fr lo k (pc + 1, L, .int (g i.toNatClampNeg) :: S, h, 198, sl) = some R := by
  have e1 := wt_a hw ha hb hm
  rw [e] at e1
  exact en_ias hi e1 ha hh
theorem rn_si {a m : Nat} {i x : Int32} {g : Nat → Int32} (hw : WT h) (hi : pm_ins PT k pc = some (.iastore, 1)) (ha : a < 198) (hb : wd (bB a) = .inl (0, m, ai_top)) (hm : 0 < m) (e : Ar h a = g) (hh : pm_run PT n fr lo k (pc, L, .int x :: .int i :: .ref a :: S, h, 198, sl) = some R) : ∃ q, i.toNatClampNeg < m ∧ pm_run PT q fr lo k (pc + 1, L, S, aset h a m (upd g i.toNatClampNeg x), 198, sl) = some R := by
  have e1 := wt_a hw ha hb hm
  rw [e] at e1
  exact en_iss hi e1 ha hh
theorem rn_pi {a ci g j : Nat} {as : List av} {x : Int32} (hw : WT h) (hi : pm_ins PT k pc = some (.putfield j, 3)) (hf : pm_fld PT (pm_o PT k) j = some (ci, g, 0)) (ha : a < 198) (hb : wd (bB a) = .inr (ci, as)) (hl : ci < 1000) (hg : as[g]? = some ai_top) (hh : pm_run PT n fr lo k (pc, L, .int x :: .ref a :: S, h, 198, sl) = some R) : ∃ m, pm_run PT m fr lo k (pc + 3, L, S, fset h a g (.int x), 198, sl) = some R := by
  obtain ⟨fs, e1, e2⟩ := wt_i hw ha hb hl hg
  have ef : fset h a g (.int x) = va_up h a (.inr (ci, fs.set g (.int x))) := by
    unfold fset
    rw [e1]
  rw [ef]
  exact rn_i hi rfl rfl (pf_eq hf rfl (by decide) ha e1 e2) hh
/-- a division that went through -/
theorem rn_dv {x y : Int32} (hi : pm_ins PT k pc = some (.idiv, 1)) (hh : pm_run PT n fr lo k (pc, L, .int y :: .int x :: S, h, 198, sl) = some R) : ∃ m, y ≠ 0 ∧ pm_run PT m fr lo k (pc + 1, L, .int (x / y) :: S, h, 198, sl) = some R := by
  obtain ⟨st, q, e, hh⟩ := rn_ex hi rfl (fun q => by cases q) (fun q => by cases q) (fun q => by cases q) hh
  have e : (if y = 0 then none else some (pc + 1, L, Value.int (x / y) :: S, h, 198, sl)) = some st := e
  split at e
  · cases e
  · rename_i z
    cases e
    exact ⟨q, z, hh⟩
theorem rn_rm {x y : Int32} (hi : pm_ins PT k pc = some (.irem, 1)) (hh : pm_run PT n fr lo k (pc, L, .int y :: .int x :: S, h, 198, sl) = some R) : ∃ m, y ≠ 0 ∧ pm_run PT m fr lo k (pc + 1, L, .int (x - x / y * y) :: S, h, 198, sl) = some R := by
  obtain ⟨st, q, e, hh⟩ := rn_ex hi rfl (fun q => by cases q) (fun q => by cases q) (fun q => by cases q) hh
  have e : (if y = 0 then none else some (pc + 1, L, Value.int (x - x / y * y) :: S, h, 198, sl)) = some st := e
  split at e
  · cases e
  · rename_i z
    cases e
    exact ⟨q, z, hh⟩
/-- arraycopy that went through -/
theorem rn_cp {a a0 j m0 m w : Nat} {i dp sp : Int32} {f g : Nat → Int32} (hw : WT h) (hi : pm_ins PT k pc = some (.invokestatic j, 3)) (hc : pm_callee PT k (.invokestatic j) = none) (hm : pm_mlk PT (pm_o PT k) j = some (9, w)) (ha0 : a0 < 198) (hb0 : wd (bB a0) = .inl (0, m0, ai_top)) (hm0 : 0 < m0) (e0 : Ar h a0 = f) (ha : a < 198) (hb : wd (bB a) = .inl (0, m, ai_top)) (hm1 : 0 < m) (e1 : Ar h a = g) (hh : pm_run PT n fr lo k (pc, L, .int i :: .int dp :: .ref a :: .int sp :: .ref a0 :: S, h, 198, sl) = some R) : ∃ q, pm_run PT q fr lo k (pc + 3, L, S, aset h a m (va_cpy f g sp.toNatClampNeg dp.toNatClampNeg i.toNatClampNeg), 198, sl) = some R := by
  have f0 := wt_a hw ha0 hb0 hm0
  have f1 := wt_a hw ha hb hm1
  rw [e0] at f0
  rw [e1] at f1
  obtain ⟨st, q, e, hh⟩ := rn_ex hi hc (fun q => by cases q) (fun q => by cases q) (fun q => by cases q) hh
  have e : pm_libW PT false fr lo k j pc L (.int i :: .int dp :: .ref a :: .int sp :: .ref a0 :: S) h 198 sl = some st := e
  unfold pm_libW at e
  rw [hm] at e
  have e : pm_lib PT fr lo 9 pc L (.int i :: .int dp :: .ref a :: .int sp :: .ref a0 :: S) h 198 sl = some st := e
  have e : (match pm_iar PT .int h 198 a0, pm_iar PT .int h 198 a with
    | some (_, n0, f), some (kd, n1, g) => if (1 ≤ fr ∧ pm_sum S + 60 ≤ lo) ∧ ¬ sp < 0 ∧ ¬ dp < 0 ∧ ¬ i < 0 ∧ sp.toNatClampNeg + i.toNatClampNeg ≤ n0 ∧ dp.toNatClampNeg + i.toNatClampNeg ≤ n1 then some (pc + 3, L, S, va_up h a (.inl (kd, n1, .inl (va_cpy f g sp.toNatClampNeg dp.toNatClampNeg i.toNatClampNeg))), 198, sl) else none
    | _, _ => none) = some st := e
  rw [pm_iar_m f0 ha0, pm_iar_m f1 ha] at e
  try dsimp only at e
  split at e
  · cases e
    exact ⟨q, hh⟩
  · cases e
end AUT
