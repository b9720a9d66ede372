section MG95zzxax0
/-! the heap read by its typing: contents as functions of the heap -/
section AUT
variable {n fr lo k pc sl : Nat} {L : pm_L} {S : List Value} {h h' : pm_H} {R : pm_Rs}
/-- the typing without its intervals -/
def wk (a : av) : av := cond (Nat.beq a.1 0) ai_top (cond (Nat.beq a.1 1) al_top a)
def wd (c : ac) : ac := match c with
  | .inl (kd, n, a) => .inl (kd, n, wk a)
  | .inr (ci, as) => cond (Nat.ble 1000 ci) (.inl (ci - 1000, as.length, ai_top)) (.inr (ci, as.map wk))
def WT (h : pm_H) : Prop := ∀ i, i < 198 → ac_ok (h i) (wd (bB i))
theorem wk_ok {v : Value} {a : av} (q : av_ok v a) : av_ok v (wk a) := by
  cases v with
  | int x =>
    have e : a.1 = 0 := q.1
    unfold wk
    rw [e]
    exact ai_top_ok x
  | long x =>
    have e : a.1 = 1 := q.1
    unfold wk
    rw [e]
    exact al_top_ok x
  | ref p =>
    have e : a.1 = 2 := q.1
    unfold wk
    rw [e]
    exact q
  | null =>
    have e : a.1 = 3 := q
    unfold wk
    rw [e]
    exact q
  | retAddr i =>
    have e : a.1 = 4 := q.1
    unfold wk
    rw [e]
    exact q
  | _ => exact q.elim
theorem wk_2 {a : av} (e : a.1 = 2) : wk a = a := by
  unfold wk
  rw [e]
  rfl
theorem wk_n2 {a : av} (e : a.1 ≠ 2) : (wk a).1 ≠ 2 := by
  unfold wk
  cases Nat.beq a.1 0 with
  | true => exact (by decide : ai_top.1 ≠ 2)
  | false =>
    cases Nat.beq a.1 1 with
    | true => exact (by decide : al_top.1 ≠ 2)
    | false => exact e
theorem wk_aq {v : Value} {a : av} {j : Nat} (q : av_ok v (aq a j)) : av_ok v (aq (wk a) j) := by
  by_cases z : a.1 = 2
  · rw [wk_2 z]
    exact q
  · unfold aq at q ⊢
    rw [if_neg z] at q
    rw [if_neg (wk_n2 z)]
    exact wk_ok q
theorem wd_ok {e : pm_E} {c : ac} (q : ac_ok e c) : ac_ok e (wd c) := by
  rcases e with ⟨kd, n, f | f | f | f | f⟩ | ⟨ci, fs⟩
  · rcases c with ⟨kd', n', a⟩ | ⟨ci', as⟩
    · exact ⟨q.1, q.2.1, fun j hj => wk_ok (q.2.2 j hj)⟩
    · obtain ⟨rfl, q2, -⟩ := q
      show ac_ok _ (cond (Nat.ble 1000 (1000 + kd)) _ _)
      rw [show Nat.ble 1000 (1000 + kd) = true from Nat.ble_eq_true_of_le (Nat.le_add_right _ _)]
      exact ⟨by omega, q2, fun j _ => ai_top_ok _⟩
  · rcases c with ⟨kd', n', a⟩ | ⟨ci', as⟩
    · exact ⟨q.1, q.2.1, fun j hj => wk_ok (q.2.2 j hj)⟩
    · exact q.elim
  · rcases c with ⟨kd', n', a⟩ | ⟨ci', as⟩
    · exact q.elim
    · exact q.elim
  · rcases c with ⟨kd', n', a⟩ | ⟨ci', as⟩
    · exact q.elim
    · exact q.elim
  · rcases c with ⟨kd', n', a⟩ | ⟨ci', as⟩
    · exact ⟨q.1, q.2.1, fun j hj => wk_aq (q.2.2 j hj)⟩
    · exact q.elim
  · rcases c with ⟨kd', n', a⟩ | ⟨ci', as⟩
    · exact q.elim
    · obtain ⟨⟨rfl, q1⟩, q2, q3⟩ := q
      show ac_ok _ (cond (Nat.ble 1000 ci) _ _)
      rw [show Nat.ble 1000 ci = false by
        cases z : Nat.ble 1000 ci with
        | false => rfl
        | true => exact absurd (Nat.le_of_ble_eq_true z) (by omega)]
      refine ⟨⟨rfl, q1⟩, by rw [List.length_map]; exact q2, fun i v a hv ha => ?_⟩
      rw [List.getElem?_map] at ha
      cases z : as[i]? with
      | none => rw [z] at ha; cases ha
      | some b =>
        rw [z] at ha
        cases ha
        exact wk_ok (q3 i v b hv z)
theorem wt_of (hI : ah_ok bB 198 [] h) : WT h := fun i hi => wd_ok (hI i hi)
def Ar (h : pm_H) (a : Nat) : Nat → Int32 := match h a with
  | .inl (_, _, .inl f) => f
  | _ => fun _ => 0
def Fi (h : pm_H) (c g : Nat) : Int32 := match h c with
  | .inr (_, fs) => (match fs[g]? with
    | some (.int x) => x
    | _ => 0)
  | _ => 0
def fset (h : pm_H) (c g : Nat) (v : Value) : pm_H := va_up h c (match h c with
  | .inr (ci, fs) => .inr (ci, fs.set g v)
  | e => e)
theorem wt_a {a kd m : Nat} (hw : WT h) (ha : a < 198) (hb : wd (bB a) = .inl (kd, m, ai_top)) (hm : 0 < m) : h a = .inl (kd, m, .inl (Ar h a)) := by
  have q := hw a ha
  rw [hb] at q
  unfold Ar
  generalize h a = e at q ⊢
  rcases e with ⟨kd', n', f | f | f | f | f⟩ | ⟨ci, fs⟩
  · obtain ⟨rfl, rfl, -⟩ := q
    rfl
  · obtain ⟨-, rfl, q⟩ := q
    exact absurd (q 0 hm).1 (by decide)
  · exact q.elim
  · exact q.elim
  · obtain ⟨-, rfl, q⟩ := q
    have q : av_ok (va_rf (f 0)) ai_top := q 0 hm
    cases e2 : f 0 with
    | none => rw [e2] at q; exact absurd (show ai_top.1 = 3 from q) (by decide)
    | some p => rw [e2] at q; exact absurd (show ai_top.1 = 2 from q.1) (by decide)
  · exact q.elim
theorem wt_i {c ci g : Nat} {as : List av} (hw : WT h) (hc : c < 198) (hb : wd (bB c) = .inr (ci, as)) (hl : ci < 1000) (hg : as[g]? = some ai_top) : ∃ fs, h c = .inr (ci, fs) ∧ fs[g]? = some (.int (Fi h c g)) := by
  have q := hw c hc
  rw [hb] at q
  obtain ⟨fs, e, hl', hv⟩ := aE_obj q hl
  have hlt : g < fs.length := by rw [hl']; exact (List.getElem?_eq_some_iff.mp hg).1
  have ev : fs[g]? = some fs[g] := List.getElem?_eq_getElem hlt
  have q := hv g _ _ ev hg
  refine ⟨fs, e, ?_⟩
  cases e2 : fs[g] with
  | int x =>
    have e3 : Fi h c g = x := by
      unfold Fi
      rw [e]
      dsimp only
      rw [ev, e2]
    rw [ev, e2, e3]
  | null => rw [e2] at q; exact absurd (show ai_top.1 = 3 from q) (by decide)
  | _ => rw [e2] at q; first | exact q.elim | exact absurd q.1 (by decide)
theorem wt_r {c ci g p : Nat} {as : List av} (hw : WT h) (hc : c < 198) (hb : wd (bB c) = .inr (ci, as)) (hl : ci < 1000) (hg : as[g]? = some (2, (p : Int), 1)) (hi : av_ids (2, (p : Int), 1) = [p]) : ∃ fs, h c = .inr (ci, fs) ∧ fs[g]? = some (.ref p) := by
  have q := hw c hc
  rw [hb] at q
  obtain ⟨fs, e, hl', hv⟩ := aE_obj q hl
  have hlt : g < fs.length := by rw [hl']; exact (List.getElem?_eq_some_iff.mp hg).1
  have ev : fs[g]? = some fs[g] := List.getElem?_eq_getElem hlt
  have q := hv g _ _ ev hg
  refine ⟨fs, e, ?_⟩
  cases e2 : fs[g] with
  | ref x =>
    rw [e2] at q
    have q := q.2
    rw [hi] at q
    rw [ev, e2, List.mem_singleton.mp q]
  | null => rw [e2] at q; exact absurd (show (2 : Nat) = 3 from q) (by decide)
  | _ => rw [e2] at q; first | exact q.elim | exact absurd (show (2 : Nat) = _ from q.1) (by decide)
/-- contents behind a store -/
theorem Ar_s {a m : Nat} {f : Nat → Int32} : Ar (aset h a m f) a = f := by
  unfold Ar
  rw [asR_self]
theorem Ar_n {a b m : Nat} {f : Nat → Int32} (hn : b ≠ a) : Ar (aset h a m f) b = Ar h b := by
  unfold Ar
  rw [asR_ne hn]
theorem Ar_f {b c g : Nat} {v : Value} : Ar (fset h c g v) b = Ar h b := by
  unfold Ar fset
  by_cases z : b = c
  · subst z
    rw [show va_up h b _ b = _ from if_pos rfl]
    generalize h b = e
    rcases e with ⟨kd', n', f | f | f | f | f⟩ | ⟨ci, fs⟩ <;> rfl
  · rw [show va_up h c _ b = h b from if_neg z]
theorem Ar_e {b : Nat} (e : h' b = h b) : Ar h' b = Ar h b := by
  unfold Ar
  rw [e]
theorem Fi_e {c g : Nat} (e : h' c = h c) : Fi h' c g = Fi h c g := by
  unfold Fi
  rw [e]
theorem Fi_a {a c g m : Nat} {f : Nat → Int32} (hn : c ≠ a) : Fi (aset h a m f) c g = Fi h c g := Fi_e (asR_ne hn)
theorem Fi_s {c ci g : Nat} {as : List av} {x : Int32} (hw : WT h) (hc : c < 198) (hb : wd (bB c) = .inr (ci, as)) (hl : ci < 1000) (hg : as[g]? = some ai_top) : Fi (fset h c g (.int x)) c g = x := by
  obtain ⟨fs, e, e1⟩ := wt_i hw hc hb hl hg
  unfold Fi fset
  rw [show va_up h c _ c = _ from if_pos rfl, e]
  dsimp only
  rw [List.getElem?_set_self (List.getElem?_eq_some_iff.mp e1).1]
theorem Fi_n {c c' g g' : Nat} {v : Value} (hn : c' ≠ c ∨ g' ≠ g) : Fi (fset h c g v) c' g' = Fi h c' g' := by
  unfold Fi fset
  by_cases z : c' = c
  · subst z
    rw [show va_up h c' _ c' = _ from if_pos rfl]
    generalize h c' = e
    rcases e with ⟨kd', n', f | f | f | f | f⟩ | ⟨ci, fs⟩
    · rfl
    · rfl
    · rfl
    · rfl
    · rfl
    · dsimp only
      rw [List.getElem?_set_ne (fun q => hn.elim (fun y => y rfl) (fun y => y q.symm))]
  · rw [show va_up h c _ c' = h c' from if_neg z]
/-- the typing is kept -/
theorem wt_as {a m : Nat} {f : Nat → Int32} (hb : wd (bB a) = .inl (0, m, ai_top)) (hw : WT h) : WT (aset h a m f) := by
  intro i hi
  by_cases z : i = a
  · subst z
    rw [asR_self, hb]
    exact ⟨rfl, rfl, fun j _ => ai_top_ok _⟩
  · rw [asR_ne z]
    exact hw i hi
theorem wt_fs {c ci g : Nat} {as : List av} {x : Int32} (hb : wd (bB c) = .inr (ci, as)) (hl : ci < 1000) (hg : as[g]? = some ai_top) (hw : WT h) : WT (fset h c g (.int x)) := by
  intro i hi
  unfold fset
  by_cases z : i = c
  · subst z
    have q := hw i hi
    rw [hb] at q ⊢
    obtain ⟨fs, e, hl', hv⟩ := aE_obj q hl
    rw [show va_up h i _ i = _ from if_pos rfl, e]
    refine ⟨⟨rfl, hl⟩, by rw [List.length_set]; exact hl', fun j v a hv' ha => ?_⟩
    by_cases y : j = g
    · subst y
      rw [hg] at ha
      cases ha
      have hlt : j < fs.length := by rw [hl']; exact (List.getElem?_eq_some_iff.mp hg).1
      rw [List.getElem?_set_self hlt] at hv'
      cases hv'
      exact ai_top_ok x
    · rw [List.getElem?_set_ne (fun q => y q.symm)] at hv'
      exact hv j v a hv' ha
  · rw [show va_up h c _ i = h i from if_neg z]
    exact hw i hi
/-- the steps -/
theorem en_in {i : Int32} {m : Nat} (z : pm_in i m = true) : i.toNatClampNeg < m := by
  have z : ¬ (i < 0 ∨ m ≤ i.toNatClampNeg) := of_decide_eq_true z
  omega
theorem rn_gi {a ci g j t : Nat} {as : List av} {x : Int32} (hw : WT h) (hi : pm_ins PT k pc = some (.getfield j, 3)) (hf : pm_fld PT (pm_o PT k) j = some (ci, g, t)) (ha : a < 198) (hb : wd (bB a) = .inr (ci, as)) (hl : ci < 1000) (hg : as[g]? = some ai_top) (e : Fi h a g = x) (hh : pm_run PT n fr lo k (pc, L, .ref a :: S, h, 198, sl) = some R) : ∃ m, pm_run PT m fr lo k (pc + 3, L, .int x :: S, h, 198, sl) = some R := by
  obtain ⟨fs, e1, e2⟩ := wt_i hw ha hb hl hg
  rw [e] at e2
  exact rn_gfo hi hf ha e1 e2 hh
theorem rn_gr {a ci g j t p : Nat} {as : List av} (hw : WT h) (hi : pm_ins PT k pc = some (.getfield j, 3)) (hf : pm_fld PT (pm_o PT k) j = some (ci, g, t)) (ha : a < 198) (hb : wd (bB a) = .inr (ci, as)) (hl : ci < 1000) (hg : as[g]? = some (2, (p : Int), 1)) (hi2 : av_ids (2, (p : Int), 1) = [p]) (hh : pm_run PT n fr lo k (pc, L, .ref a :: S, h, 198, sl) = some R) : ∃ m, pm_run PT m fr lo k (pc + 3, L, .ref p :: S, h, 198, sl) = some R := by
  obtain ⟨fs, e1, e2⟩ := wt_r hw ha hb hl hg hi2
  exact rn_gfo hi hf ha e1 e2 hh
theorem en_ias {a m : Nat} {i : Int32} {g : Nat → Int32} (hi : pm_ins PT k pc = some (.iaload, 1)) (ha : h a = .inl (0, m, .inl g)) (hl : a < 198) (hh : pm_run PT n fr lo k (pc, L, .int i :: .ref a :: S, h, 198, sl) = some R) : ∃ q, i.toNatClampNeg < m ∧ pm_run PT q fr lo k (pc + 1, L, .int (g i.toNatClampNeg) :: S, h, 198, sl) = some R := by
  obtain ⟨st, q, e, hh⟩ := rn_ex hi rfl (fun q => by cases q) (fun q => by cases q) (fun q => by cases q) hh
  have e : pm_ia PT .int pc L (.int i :: .ref a :: S) h 198 sl = some st := e
  unfold pm_ia at e
  dsimp only at e
  rw [pm_iar_m ha hl] at e
  dsimp only at e
  by_cases z : pm_in i m = true
  · rw [if_pos z] at e
    cases e
    exact ⟨q, en_in z, hh⟩
  · rw [if_neg z] at e
    cases e
theorem en_iss {a m : Nat} {i x : Int32} {g : Nat → Int32} (hi : pm_ins PT k pc = some (.iastore, 1)) (ha : h a = .inl (0, m, .inl g)) (hl : a < 198) (hh : pm_run PT n fr lo k (pc, L, .int x :: .int i :: .ref a :: S, h, 198, sl) = some R) : ∃ q, i.toNatClampNeg < m ∧ pm_run PT q fr lo k (pc + 1, L, S, aset h a m (upd g i.toNatClampNeg x), 198, sl) = some R := by
  obtain ⟨st, q, e, hh⟩ := rn_ex hi rfl (fun q => by cases q) (fun q => by cases q) (fun q => by cases q) hh
  have e : pm_iS PT .int (fun x => x) pc L (.int x :: .int i :: .ref a :: S) h 198 sl = some st := e
  unfold pm_iS at e
  dsimp only at e
  rw [pm_iar_m ha hl] at e
  dsimp only at e
  by_cases z : pm_in i m = true
  · rw [if_pos z] at e
    cases e
    exact ⟨q, en_in z, hh⟩
  · rw [if_neg z] at e
    cases e
theorem rn_ai {a m : Nat} {i : Int32} {g : Nat → Int32} (hw : WT h) (hi : pm_ins PT k pc = some (.iaload, 1)) (ha : a < 198) (hb : wd (bB a) = .inl (0, m, ai_top)) (hm : 0 < m) (e : Ar h a = g) (hh : pm_run PT n fr lo k (pc, L, .int i :: .ref a :: S, h, 198, sl) = some R) : ∃ q, i.toNatClampNeg < m ∧ pm_run PT q fr lo k (pc + 1, L, .int (g i.toNatClampNeg) :: S, h, 198, sl) = some R := by
  have e1 := wt_a hw ha hb hm
  rw [e] at e1
  exact en_ias hi e1 ha hh
theorem rn_si {a m : Nat} {i x : Int32} {g : Nat → Int32} (hw : WT h) (hi : pm_ins PT k pc = some (.iastore, 1)) (ha : a < 198) (hb : wd (bB a) = .inl (0, m, ai_top)) (hm : 0 < m) (e : Ar h a = g) (hh : pm_run PT n fr lo k (pc, L, .int x :: .int i :: .ref a :: S, h, 198, sl) = some R) : ∃ q, i.toNatClampNeg < m ∧ pm_run PT q fr lo k (pc + 1, L, S, aset h a m (upd g i.toNatClampNeg x), 198, sl) = some R := by
  have e1 := wt_a hw ha hb hm
  rw [e] at e1
  exact en_iss hi e1 ha hh
theorem rn_pi {a ci g j : Nat} {as : List av} {x : Int32} (hw : WT h) (hi : pm_ins PT k pc = some (.putfield j, 3)) (hf : pm_fld PT (pm_o PT k) j = some (ci, g, 0)) (ha : a < 198) (hb : wd (bB a) = .inr (ci, as)) (hl : ci < 1000) (hg : as[g]? = some ai_top) (hh : pm_run PT n fr lo k (pc, L, .int x :: .ref a :: S, h, 198, sl) = some R) : ∃ m, pm_run PT m fr lo k (pc + 3, L, S, fset h a g (.int x), 198, sl) = some R := by
  obtain ⟨fs, e1, e2⟩ := wt_i hw ha hb hl hg
  have ef : fset h a g (.int x) = va_up h a (.inr (ci, fs.set g (.int x))) := by
    unfold fset
    rw [e1]
  rw [ef]
  exact rn_i hi rfl rfl (pf_eq hf rfl (by decide) ha e1 e2) hh
/-- a division that went through -/
theorem rn_dv {x y : Int32} (hi : pm_ins PT k pc = some (.idiv, 1)) (hh : pm_run PT n fr lo k (pc, L, .int y :: .int x :: S, h, 198, sl) = some R) : ∃ m, y ≠ 0 ∧ pm_run PT m fr lo k (pc + 1, L, .int (x / y) :: S, h, 198, sl) = some R := by
  obtain ⟨st, q, e, hh⟩ := rn_ex hi rfl (fun q => by cases q) (fun q => by cases q) (fun q => by cases q) hh
  have e : (if y = 0 then none else some (pc + 1, L, Value.int (x / y) :: S, h, 198, sl)) = some st := e
  split at e
  · cases e
  · rename_i z
    cases e
    exact ⟨q, z, hh⟩
theorem rn_rm {x y : Int32} (hi : pm_ins PT k pc = some (.irem, 1)) (hh : pm_run PT n fr lo k (pc, L, .int y :: .int x :: S, h, 198, sl) = some R) : ∃ m, y ≠ 0 ∧ pm_run PT m fr lo k (pc + 1, L, .int (x - x / y * y) :: S, h, 198, sl) = some R := by
  obtain ⟨st, q, e, hh⟩ := rn_ex hi rfl (fun q => by cases q) (fun q => by cases q) (fun q => by cases q) hh
  have e : (if y = 0 then none else some (pc + 1, L, Value.int (x - x / y * y) :: S, h, 198, sl)) = some st := e
  split at e
  · cases e
  · rename_i z
    cases e
    exact ⟨q, z, hh⟩
/-- arraycopy that went through -/
theorem rn_cp {a a0 j m0 m w : Nat} {i dp sp : Int32} {f g : Nat → Int32} (hw : WT h) (hi : pm_ins PT k pc = some (.invokestatic j, 3)) (hc : pm_callee PT k (.invokestatic j) = none) (hm : pm_mlk PT (pm_o PT k) j = some (9, w)) (ha0 : a0 < 198) (hb0 : wd (bB a0) = .inl (0, m0, ai_top)) (hm0 : 0 < m0) (e0 : Ar h a0 = f) (ha : a < 198) (hb : wd (bB a) = .inl (0, m, ai_top)) (hm1 : 0 < m) (e1 : Ar h a = g) (hh : pm_run PT n fr lo k (pc, L, .int i :: .int dp :: .ref a :: .int sp :: .ref a0 :: S, h, 198, sl) = some R) : ∃ q, pm_run PT q fr lo k (pc + 3, L, S, aset h a m (va_cpy f g sp.toNatClampNeg dp.toNatClampNeg i.toNatClampNeg), 198, sl) = some R := by
  have f0 := wt_a hw ha0 hb0 hm0
  have f1 := wt_a hw ha hb hm1
  rw [e0] at f0
  rw [e1] at f1
  obtain ⟨st, q, e, hh⟩ := rn_ex hi hc (fun q => by cases q) (fun q => by cases q) (fun q => by cases q) hh
  have e : pm_libW PT false fr lo k j pc L (.int i :: .int dp :: .ref a :: .int sp :: .ref a0 :: S) h 198 sl = some st := e
  unfold pm_libW at e
  rw [hm] at e
  have e : pm_lib PT fr lo 9 pc L (.int i :: .int dp :: .ref a :: .int sp :: .ref a0 :: S) h 198 sl = some st := e
  have e : (match pm_iar PT .int h 198 a0, pm_iar PT .int h 198 a with
    | some (_, n0, f), some (kd, n1, g) => if (1 ≤ fr ∧ pm_sum S + 60 ≤ lo) ∧ ¬ sp < 0 ∧ ¬ dp < 0 ∧ ¬ i < 0 ∧ sp.toNatClampNeg + i.toNatClampNeg ≤ n0 ∧ dp.toNatClampNeg + i.toNatClampNeg ≤ n1 then some (pc + 3, L, S, va_up h a (.inl (kd, n1, .inl (va_cpy f g sp.toNatClampNeg dp.toNatClampNeg i.toNatClampNeg))), 198, sl) else none
    | _, _ => none) = some st := e
  rw [pm_iar_m f0 ha0, pm_iar_m f1 ha] at e
  try dsimp only at e
  split at e
  · cases e
    exact ⟨q, hh⟩
  · cases e
end AUT
end MG95zzxax0
section MG95zzxax1
/-! runs told exactly: the steps that the walker writes -/
/-- the ruling rule's cell, how long its code is, how long the reference's is -/
abbrev QT : Type := Nat × Nat × Nat
section EXT
variable {n fr lo k pc sl cc gc : Nat} {q : QT} {L : pm_L} {S : List Value} {h g h' : pm_H} {R : pm_Rs}
def shl (x y : Int32) : Int32 := x <<< (y &&& 31)
def shr (x y : Int32) : Int32 := x >>> (y &&& 31)
def ushr (x y : Int32) : Int32 := (x.toUInt32 >>> (y.toUInt32 &&& Int32.toUInt32 31)).toInt32
def imin (x y : Int32) : Int32 := if y < x then y else x
def imax (x y : Int32) : Int32 := if x < y then y else x
def irm (x y : Int32) : Int32 := x - x / y * y
theorem cd_s {α : Type} {P : α → Prop} {b : Bool} {x y : α} (hx : b = true → P x) (hy : b = false → P y) : P (cond b x y) := by
  cases b with
  | true => exact hx rfl
  | false => exact hy rfl
/-- counted loops -/
def lp {α : Type} (f : Nat → α → α) : Nat → Nat → α → α
  | 0, _, a => a
  | j + 1, i, a => lp f j (i + 1) (f i a)
def lpE {α β : Type} (f : Nat → α → α ⊕ β) : Nat → Nat → α → α ⊕ β
  | 0, _, a => .inl a
  | j + 1, i, a => match f i a with
    | .inl b => lpE f j (i + 1) b
    | .inr r => .inr r
theorem lpE_l {α β : Type} {f : Nat → α → α ⊕ β} {j i : Nat} {a b : α} (e : f i a = .inl b) : lpE f (j + 1) i a = lpE f j (i + 1) b := by
  show (match f i a with
    | .inl b => lpE f j (i + 1) b
    | .inr r => .inr r) = _
  rw [e]
theorem lpE_r {α β : Type} {f : Nat → α → α ⊕ β} {j i : Nat} {a : α} {r : β} (e : f i a = .inr r) : lpE f (j + 1) i a = .inr r := by
  show (match f i a with
    | .inl b => lpE f j (i + 1) b
    | .inr r => .inr r) = _
  rw [e]
theorem ct {α : Type} {b : Bool} {x y : α} (e : b = true) : cond b x y = x := by rw [e]; rfl
theorem cf {α : Type} {b : Bool} {x y : α} (e : b = false) : cond b x y = y := by rw [e]; rfl
theorem se_l {α β γ : Type} {s : α ⊕ β} {f : α → γ} {g : β → γ} {a : α} (e : s = .inl a) : Sum.elim f g s = f a := by rw [e]; rfl
theorem se_r {α β γ : Type} {s : α ⊕ β} {f : α → γ} {g : β → γ} {b : β} (e : s = .inr b) : Sum.elim f g s = g b := by rw [e]; rfl
/-- the heap that calls find: typed, so many courts and gifts, the ruling rule -/
def HC (q : QT) (cc gc : Nat) (h : pm_H) : Prop := WT h ∧ (Fi h 5 0 = nI cc ∧ Fi h 5 1 = nI gc) ∧ (Fi h 162 3 = nI cc ∧ (Fi h 162 4 = nI gc ∧ (Fi h 162 23 = nI q.2.2 ∧ Fi h q.1 1 = nI q.2.1))) ∧ (cc ≤ 6 ∧ (gc ≤ 8 ∧ (q.2.1 ≤ 40 ∧ q.2.2 ≤ 80))) ∧ ((∃ fs, h 0 = .inr (10, fs) ∧ fs[8]? = some (.ref q.1)) ∧ (q.1 = 142 ∨ q.1 = 145))
theorem HC.wt (c : HC q cc gc h) : WT h := c.1
theorem HC.x0 (c : HC q cc gc h) : Fi h 5 0 = nI cc := c.2.1.1
theorem HC.x1 (c : HC q cc gc h) : Fi h 5 1 = nI gc := c.2.1.2
theorem HC.m3 (c : HC q cc gc h) : Fi h 162 3 = nI cc := c.2.2.1.1
theorem HC.m4 (c : HC q cc gc h) : Fi h 162 4 = nI gc := c.2.2.1.2.1
theorem HC.m23 (c : HC q cc gc h) : Fi h 162 23 = nI q.2.2 := c.2.2.1.2.2.1
theorem HC.rs (c : HC q cc gc h) : Fi h q.1 1 = nI q.2.1 := c.2.2.1.2.2.2
theorem HC.cb (c : HC q cc gc h) : cc ≤ 6 := c.2.2.2.1.1
theorem HC.gb (c : HC q cc gc h) : gc ≤ 8 := c.2.2.2.1.2.1
theorem HC.zx (c : HC q cc gc h) : q.2.1 ≤ 40 := c.2.2.2.1.2.2.1
theorem HC.zr (c : HC q cc gc h) : q.2.2 ≤ 80 := c.2.2.2.1.2.2.2
theorem HC.qq (c : HC q cc gc h) : q.1 = 142 ∨ q.1 = 145 := c.2.2.2.2.2
def hcA (a : Nat) : Bool := !(Nat.beq a 0 || (Nat.beq a 5 || (Nat.beq a 162 || (Nat.beq a 142 || Nat.beq a 145))))
def hcF (c g : Nat) : Bool := !((Nat.beq c 0 && Nat.beq g 8) || ((Nat.beq c 5 && Nat.ble g 1) || ((Nat.beq c 162 && (Nat.beq g 3 || (Nat.beq g 4 || Nat.beq g 23))) || ((Nat.beq c 142 || Nat.beq c 145) && Nat.beq g 1))))
theorem hcA_0 {a : Nat} (e : hcA a = true) : a ≠ 0 ∧ a ≠ 5 ∧ a ≠ 162 ∧ a ≠ 142 ∧ a ≠ 145 := by
  refine ⟨?_, ?_, ?_, ?_, ?_⟩ <;> (rintro rfl; cases e)
theorem qq_ne {a x : Nat} (r : x = 142 ∨ x = 145) (e1 : a ≠ 142) (e2 : a ≠ 145) : x ≠ a := by
  rintro rfl
  rcases r with r | r
  · exact e1 r
  · exact e2 r
theorem hc_a {a m : Nat} {f : Nat → Int32} (e : hcA a = true) (hb : wd (bB a) = .inl (0, m, ai_top)) (c : HC q cc gc h) : HC q cc gc (aset h a m f) := by
  obtain ⟨w, ⟨x0, x1⟩, ⟨m3, m4, m23, rs⟩, b, ⟨fs, r1, r2⟩, r3⟩ := c
  obtain ⟨e0, e5, e2, e6, e7⟩ := hcA_0 e
  exact ⟨wt_as hb w, ⟨(Fi_a (Ne.symm e5)).trans x0, (Fi_a (Ne.symm e5)).trans x1⟩, ⟨(Fi_a (Ne.symm e2)).trans m3, (Fi_a (Ne.symm e2)).trans m4, (Fi_a (Ne.symm e2)).trans m23, (Fi_a (qq_ne r3 e6 e7)).trans rs⟩, b, ⟨fs, (asR_ne (Ne.symm e0)).trans r1, r2⟩, r3⟩
theorem ls_ne {a m i : Nat} {f : Nat → Int64} (hn : i ≠ a) : lset h a m f i = h i := if_neg hn
theorem ls_self {a m : Nat} {f : Nat → Int64} : lset h a m f a = .inl (2, m, .inr (.inl f)) := if_pos rfl
def Al (h : pm_H) (a : Nat) : Nat → Int64 := match h a with
  | .inl (_, _, .inr (.inl f)) => f
  | _ => fun _ => 0
theorem wt_al {a m : Nat} (hw : WT h) (ha : a < 198) (hb : wd (bB a) = .inl (2, m, al_top)) (hm : 0 < m) : h a = .inl (2, m, .inr (.inl (Al h a))) := by
  have q := hw a ha
  rw [hb] at q
  unfold Al
  generalize h a = e at q ⊢
  rcases e with ⟨kd', n', f | f | f | f | f⟩ | ⟨ci, fs⟩
  · obtain ⟨-, rfl, q⟩ := q
    exact absurd (q 0 hm).1 (by decide)
  · obtain ⟨rfl, rfl, -⟩ := q
    rfl
  · exact q.elim
  · exact q.elim
  · obtain ⟨-, rfl, q⟩ := q
    have q : av_ok (va_rf (f 0)) al_top := q 0 hm
    cases e2 : f 0 with
    | none => rw [e2] at q; exact absurd (show al_top.1 = 3 from q) (by decide)
    | some p => rw [e2] at q; exact absurd (show al_top.1 = 2 from q.1) (by decide)
  · exact q.elim
theorem wt_ls {a m : Nat} {f : Nat → Int64} (hb : wd (bB a) = .inl (2, m, al_top)) (hw : WT h) : WT (lset h a m f) := by
  intro i hi
  by_cases z : i = a
  · subst z
    rw [ls_self, hb]
    exact ⟨rfl, rfl, fun j _ => al_top_ok _⟩
  · rw [ls_ne z]
    exact hw i hi
theorem hc_l {a m : Nat} {f : Nat → Int64} (e : hcA a = true) (hb : wd (bB a) = .inl (2, m, al_top)) (c : HC q cc gc h) : HC q cc gc (lset h a m f) := by
  obtain ⟨w, ⟨x0, x1⟩, ⟨m3, m4, m23, rs⟩, b, ⟨fs, r1, r2⟩, r3⟩ := c
  obtain ⟨e0, e5, e2, e6, e7⟩ := hcA_0 e
  exact ⟨wt_ls hb w, ⟨(Fi_e (ls_ne (Ne.symm e5))).trans x0, (Fi_e (ls_ne (Ne.symm e5))).trans x1⟩, ⟨(Fi_e (ls_ne (Ne.symm e2))).trans m3, (Fi_e (ls_ne (Ne.symm e2))).trans m4, (Fi_e (ls_ne (Ne.symm e2))).trans m23, (Fi_e (ls_ne (qq_ne r3 e6 e7))).trans rs⟩, b, ⟨fs, (ls_ne (Ne.symm e0)).trans r1, r2⟩, r3⟩
theorem fs_ne {c g i : Nat} {v : Value} (hn : i ≠ c) : fset h c g v i = h i := if_neg hn
theorem hc_f {c ci g : Nat} {as : List av} {x : Int32} (e : hcF c g = true) (hb : wd (bB c) = .inr (ci, as)) (hl : ci < 1000) (hg : as[g]? = some ai_top) (z : HC q cc gc h) : HC q cc gc (fset h c g (.int x)) := by
  obtain ⟨w, ⟨x0, x1⟩, ⟨m3, m4, m23, rs⟩, b, ⟨fs, r1, r2⟩, r3⟩ := z
  have ne : ∀ c' g', hcF c' g' = false → c' ≠ c ∨ g' ≠ g := by
    intro c' g' e'
    by_cases z1 : c' = c
    · by_cases z2 : g' = g
      · subst z1
        subst z2
        rw [e] at e'
        cases e'
      · exact Or.inr z2
    · exact Or.inl z1
  refine ⟨wt_fs hb hl hg w, ⟨(Fi_n (ne 5 0 rfl)).trans x0, (Fi_n (ne 5 1 rfl)).trans x1⟩, ⟨(Fi_n (ne 162 3 rfl)).trans m3, (Fi_n (ne 162 4 rfl)).trans m4, (Fi_n (ne 162 23 rfl)).trans m23, (Fi_n (r3.elim (fun y => ne _ 1 (by rw [y]; rfl)) (fun y => ne _ 1 (by rw [y]; rfl)))).trans rs⟩, b, ?_, r3⟩
  by_cases z1 : 0 = c
  · subst z1
    have z2 : g ≠ 8 := fun z2 => by subst z2; cases e
    refine ⟨fs.set g (.int x), ?_, ?_⟩
    · unfold fset
      rw [show va_up h 0 _ 0 = _ from if_pos rfl, r1]
    · rw [List.getElem?_set_ne z2]
      exact r2
  · exact ⟨fs, (fs_ne z1).trans r1, r2⟩
/-- what is written at all: cells, ints of objects -/
def isO (c : Nat) : Bool := match bB c with
  | .inr (ci, _) => Nat.blt ci 1000
  | _ => false
def frm (W : List Nat) (V : List (Nat × Nat)) (h h' : pm_H) : Prop := (∀ i, W.elem i = false → h' i = h i) ∧ ∀ c g, isO c = true → V.elem (c, g) = false → Fi h' c g = Fi h c g
theorem fr_0 {W : List Nat} {V : List (Nat × Nat)} : frm W V h h := ⟨fun _ _ => rfl, fun _ _ _ _ => rfl⟩
theorem fr_el {W : List Nat} {a i : Nat} (e : W.elem a = true) (z : W.elem i = false) : i ≠ a := by
  rintro rfl
  rw [e] at z
  cases z
theorem fr_no {a c : Nat} (e : isO a = false) (z : isO c = true) : c ≠ a := by
  rintro rfl
  rw [e] at z
  cases z
theorem fr_a {W : List Nat} {V : List (Nat × Nat)} {a m : Nat} {f : Nat → Int32} (e : W.elem a = true) (o : isO a = false) (z : frm W V h g) : frm W V h (aset g a m f) := ⟨fun i hi => (asR_ne (fr_el e hi)).trans (z.1 i hi), fun c j hc hv => (Fi_a (fr_no o hc)).trans (z.2 c j hc hv)⟩
theorem fr_l {W : List Nat} {V : List (Nat × Nat)} {a m : Nat} {f : Nat → Int64} (e : W.elem a = true) (o : isO a = false) (z : frm W V h g) : frm W V h (lset g a m f) := ⟨fun i hi => (ls_ne (fr_el e hi)).trans (z.1 i hi), fun c j hc hv => (Fi_e (ls_ne (fr_no o hc))).trans (z.2 c j hc hv)⟩
theorem fr_f {W : List Nat} {V : List (Nat × Nat)} {c j : Nat} {v : Value} (e : W.elem c = true) (o : V.elem (c, j) = true) (z : frm W V h g) : frm W V h (fset g c j v) := ⟨fun i hi => (fs_ne (fr_el e hi)).trans (z.1 i hi), fun c' j' hc hv => (Fi_n (by
    by_cases y1 : c' = c
    · by_cases y2 : j' = j
      · subst y1
        subst y2
        rw [o] at hv
        cases hv
      · exact Or.inr y2
    · exact Or.inl y1)).trans (z.2 c' j' hc hv)⟩
theorem fr_g {W W' : List Nat} {V V' : List (Nat × Nat)} (e : W'.all (fun x => W.elem x) = true) (e2 : V'.all (fun x => V.elem x) = true) (y : frm W' V' g h') (z : frm W V h g) : frm W V h h' := ⟨fun i hi => (y.1 i (by
    cases w : W'.elem i with
    | false => rfl
    | true => rw [List.all_eq_true.mp e i (List.elem_iff.mp w)] at hi; cases hi)).trans (z.1 i hi), fun c j hc hv => (y.2 c j hc (by
    cases w : V'.elem (c, j) with
    | false => rfl
    | true => rw [List.all_eq_true.mp e2 (c, j) (List.elem_iff.mp w)] at hv; cases hv)).trans (z.2 c j hc hv)⟩
theorem fr_t {W : List Nat} {V : List (Nat × Nat)} (y : frm W V g h') (z : frm W V h g) : frm W V h h' := ⟨fun i hi => (y.1 i hi).trans (z.1 i hi), fun c j hc hv => (y.2 c j hc hv).trans (z.2 c j hc hv)⟩
/-- an array of small numbers -/
def NA (h : pm_H) (a l m b : Nat) : Prop := ∀ j, l ≤ j → j < m → Ar h a j = nI (Ar h a j).toNatClampNeg ∧ (Ar h a j).toNatClampNeg < b
theorem NA_e {a l m b : Nat} (e : Ar h' a = Ar h a) (z : NA h a l m b) : NA h' a l m b := by
  unfold NA
  rw [e]
  exact z
theorem en_cn {cc : Jvm.ClassFile.Cond} {off : Int} {x y : Int32} {t : Nat} {b : Bool} (e : pm_cmp cc x y = b) (hi : pm_ins PT k pc = some (.if_icmp cc off, 3)) (ht : pm_tgt pc off = some t) (hh : pm_run PT n fr lo k (pc, L, .int y :: .int x :: S, h, 198, sl) = some R) : ∃ m, pm_run PT m fr lo k (cond b t (pc + 3), L, S, h, 198, sl) = some R := by
  obtain ⟨m, hh⟩ := rn_icmp hi ht hh
  rw [e] at hh
  exact ⟨m, hh⟩
theorem en_zn {cc : Jvm.ClassFile.Cond} {off : Int} {x : Int32} {t : Nat} {b : Bool} (e : pm_cmp cc x 0 = b) (hi : pm_ins PT k pc = some (.ifCond cc off, 3)) (ht : pm_tgt pc off = some t) (hh : pm_run PT n fr lo k (pc, L, .int x :: S, h, 198, sl) = some R) : ∃ m, pm_run PT m fr lo k (cond b t (pc + 3), L, S, h, 198, sl) = some R := by
  obtain ⟨m, hh⟩ := rn_if hi ht hh
  rw [e] at hh
  exact ⟨m, hh⟩
theorem en_sub {x y : Nat} (hy : y ≤ x) (hi : pm_ins PT k pc = some (.isub, 1)) (hh : pm_run PT n fr lo k (pc, L, .int (nI y) :: .int (nI x) :: S, h, 198, sl) = some R) : ∃ m, pm_run PT m fr lo k (pc + 1, L, .int (nI (x - y)) :: S, h, 198, sl) = some R := by
  obtain ⟨m, hh⟩ := rn_i hi rfl rfl rfl hh
  have hh : pm_run PT m fr lo k (pc + 1, L, .int (nI x - nI y) :: S, h, 198, sl) = some R := hh
  have e : nI x - nI y = nI (x - y) := by
    have e : nI x = nI (x - y) + nI y := by rw [nI_add, Nat.sub_add_cancel hy]
    rw [e]
    exact Int32.add_sub_cancel _ _
  rw [e] at hh
  exact ⟨m, hh⟩
theorem en_r16 {x : Nat} (hx : x < 32) (hi : pm_ins PT k pc = some (.irem, 1)) (hh : pm_run PT n fr lo k (pc, L, .int (nI 16) :: .int (nI x) :: S, h, 198, sl) = some R) : ∃ m, pm_run PT m fr lo k (pc + 1, L, .int (nI (x % 16)) :: S, h, 198, sl) = some R := by
  obtain ⟨m, -, hh⟩ := rn_rm hi hh
  have e : ∀ x, x < 32 → nI x - nI x / nI 16 * nI 16 = nI (x % 16) := by decide +kernel
  rw [e x hx] at hh
  exact ⟨m, hh⟩
theorem wt_q {a m b : Nat} {w : Int} (hw : WT h) (ha : a < 198) (hb : wd (bB a) = .inl (4, m, (2, (b : Int), w))) (hm : 0 < m) : ∃ f : Nat → Option Nat, h a = .inl (4, m, .inr (.inr (.inr (.inr f)))) ∧ ∀ j, j < m → va_rf (f j) = .ref (b + 6 * j) := by
  have q := hw a ha
  rw [hb] at q
  generalize h a = e at q ⊢
  rcases e with ⟨kd', n', f | f | f | f | f⟩ | ⟨ci, fs⟩
  · obtain ⟨-, rfl, q⟩ := q
    exact absurd (show (2 : Nat) = 0 from (q 0 hm).1) (by decide)
  · obtain ⟨-, rfl, q⟩ := q
    exact absurd (show (2 : Nat) = 1 from (q 0 hm).1) (by decide)
  · exact q.elim
  · exact q.elim
  · obtain ⟨rfl, rfl, q⟩ := q
    refine ⟨f, rfl, fun j hj => ?_⟩
    have q := q j hj
    have e1 : aq (2, (b : Int), w) j = (2, ((b + 6 * j : Nat) : Int), 1) := by
      unfold aq
      rw [if_pos rfl]
      simp
    rw [e1] at q
    cases e2 : f j with
    | none => rw [e2] at q; exact absurd (show (2 : Nat) = 3 from q) (by decide)
    | some p =>
      rw [e2] at q
      have q : p ∈ av_ids (2, ((b + 6 * j : Nat) : Int), 1) := q.2
      rw [show av_ids (2, ((b + 6 * j : Nat) : Int), 1) = [b + 6 * j] from rfl] at q
      rw [List.mem_singleton.mp q]
      rfl
  · exact q.elim
theorem en_qq {a t m b : Nat} {w : Int} (ht : t < 2 ^ 31) (hw : WT h) (hi : pm_ins PT k pc = some (.aaload, 1)) (ha : a < 198) (hb : wd (bB a) = .inl (4, m, (2, (b : Int), w))) (hm : 0 < m) (hh : pm_run PT n fr lo k (pc, L, .int (nI t) :: .ref a :: S, h, 198, sl) = some R) : ∃ q, t < m ∧ pm_run PT q fr lo k (pc + 1, L, .ref (b + 6 * t) :: S, h, 198, sl) = some R := by
  obtain ⟨f, e, ef⟩ := wt_q hw ha hb hm
  obtain ⟨st, q, es, hh⟩ := rn_ex hi rfl (fun q => by cases q) (fun q => by cases q) (fun q => by cases q) hh
  have es : pm_qa PT pc L (.int (nI t) :: .ref a :: S) h 198 sl = some st := es
  unfold pm_qa at es
  dsimp only at es
  have ea : pm_qar h 198 a = some (4, m, f) := by
    unfold pm_qar
    rw [if_pos ha, e]
  rw [ea] at es
  dsimp only at es
  split at es
  · rename_i z
    have hx := en_in z.1
    rw [nI_clamp ht] at hx es
    rw [ef t hx] at es
    cases es
    exact ⟨q, hx, hh⟩
  · cases es
theorem en_q26 {t : Nat} (ht : t < 2 ^ 31) (hw : WT h) (hi : pm_ins PT k pc = some (.aaload, 1)) (hh : pm_run PT n fr lo k (pc, L, .int (nI t) :: .ref 26 :: S, h, 198, sl) = some R) : ∃ q, t < 16 ∧ pm_run PT q fr lo k (pc + 1, L, .ref (27 + 6 * t) :: S, h, 198, sl) = some R := en_qq ht hw hi (by decide) (show wd (bB 26) = .inl (4, 16, (2, ((27 : Nat) : Int), 16)) from rfl) (by decide) hh
theorem en_q123 {t : Nat} (ht : t < 2 ^ 31) (hw : WT h) (hi : pm_ins PT k pc = some (.aaload, 1)) (hh : pm_run PT n fr lo k (pc, L, .int (nI t) :: .ref 123 :: S, h, 198, sl) = some R) : ∃ q, t < 3 ∧ pm_run PT q fr lo k (pc + 1, L, .ref (124 + 6 * t) :: S, h, 198, sl) = some R := en_qq ht hw hi (by decide) (show wd (bB 123) = .inl (4, 3, (2, ((124 : Nat) : Int), 3)) from rfl) (by decide) hh
theorem eb_ne {b : Bool} : pm_cmp .ne (cond b 1 0) 0 = b := by cases b <;> decide
theorem eb_eq {b : Bool} : pm_cmp .eq (cond b 1 0) 0 = !b := by cases b <;> decide
/-- a branch that is known -/
theorem en_t {b : Bool} {t p : Nat} (e : b = true) (hh : pm_run PT n fr lo k (cond b t p, L, S, h, 198, sl) = some R) : pm_run PT n fr lo k (t, L, S, h, 198, sl) = some R := by
  rw [e] at hh
  exact hh
theorem en_f {b : Bool} {t p : Nat} (e : b = false) (hh : pm_run PT n fr lo k (cond b t p, L, S, h, 198, sl) = some R) : pm_run PT n fr lo k (p, L, S, h, 198, sl) = some R := by
  rw [e] at hh
  exact hh
theorem en_nt {b : Bool} {t p : Nat} (e : b = true) (hh : pm_run PT n fr lo k (cond (!b) t p, L, S, h, 198, sl) = some R) : pm_run PT n fr lo k (p, L, S, h, 198, sl) = some R := by
  rw [e] at hh
  exact hh
theorem en_nf {b : Bool} {t p : Nat} (e : b = false) (hh : pm_run PT n fr lo k (cond (!b) t p, L, S, h, 198, sl) = some R) : pm_run PT n fr lo k (t, L, S, h, 198, sl) = some R := by
  rw [e] at hh
  exact hh
/-- two ways that meet again -/
theorem en_J {b : Bool} {s t : pm_St} (h1 : b = true → ∃ m, pm_run PT m fr lo k s = some R) (h2 : b = false → ∃ m, pm_run PT m fr lo k t = some R) : ∃ m, pm_run PT m fr lo k (cond b s t) = some R := by
  cases b with
  | true => exact h1 rfl
  | false => exact h2 rfl
/-- an addition, a product, a step of a counter, over Nats -/
theorem en_add {x y : Nat} (hi : pm_ins PT k pc = some (.iadd, 1)) (hh : pm_run PT n fr lo k (pc, L, .int (nI y) :: .int (nI x) :: S, h, 198, sl) = some R) : ∃ m, pm_run PT m fr lo k (pc + 1, L, .int (nI (x + y)) :: S, h, 198, sl) = some R := by
  obtain ⟨m, hh⟩ := rn_i hi rfl rfl rfl hh
  have hh : pm_run PT m fr lo k (pc + 1, L, .int (nI x + nI y) :: S, h, 198, sl) = some R := hh
  rw [nI_add] at hh
  exact ⟨m, hh⟩
theorem en_mul {x y : Nat} (hi : pm_ins PT k pc = some (.imul, 1)) (hh : pm_run PT n fr lo k (pc, L, .int (nI y) :: .int (nI x) :: S, h, 198, sl) = some R) : ∃ m, pm_run PT m fr lo k (pc + 1, L, .int (nI (x * y)) :: S, h, 198, sl) = some R := by
  obtain ⟨m, hh⟩ := rn_i hi rfl rfl rfl hh
  have hh : pm_run PT m fr lo k (pc + 1, L, .int (nI x * nI y) :: S, h, 198, sl) = some R := hh
  rw [hI_mul] at hh
  exact ⟨m, hh⟩
theorem nI_inc (x c : Nat) : nI x + Int32.ofInt c = nI (x + c) := by
  rw [show Int32.ofInt (c : Int) = nI c from Int32.ofInt_eq_ofNat]
  exact nI_add x c
theorem en_inc {x c j : Nat} (hi : pm_ins PT k pc = some (.iinc j (c : Int), 3)) (hg : pm_get L j = some (.int (nI x))) (hj : j < pm_max PT k) (hh : pm_run PT n fr lo k (pc, L, S, h, 198, sl) = some R) : ∃ m, pm_run PT m fr lo k (pc + 3, pm_st1 L j (.int (nI (x + c))), S, h, 198, sl) = some R := by
  refine rn_i hi rfl rfl ?_ hh
  show (match pm_get L j with
    | some (.int x) => if j < pm_max PT k then some (pc + 3, pm_st1 L j (.int (x + Int32.ofInt c)), S, h, 198, sl) else none
    | _ => none) = _
  rw [hg]
  dsimp only
  rw [if_pos hj, nI_inc]
theorem en_lu {a m : Nat} {i w : Int32} {t : Nat} {f : Nat → Int32} (ht : i.toNatClampNeg = t) (hw : WT h) (hi : pm_ins PT k pc = some (.iaload, 1)) (ha : a < 198) (hb : wd (bB a) = .inl (0, m, ai_top)) (hm : 0 < m) (e : Ar h a = f) (ew : t < m → f t = w) (hh : pm_run PT n fr lo k (pc, L, .int i :: .ref a :: S, h, 198, sl) = some R) : ∃ q, t < m ∧ pm_run PT q fr lo k (pc + 1, L, .int w :: S, h, 198, sl) = some R := by
  obtain ⟨q, hx, hh⟩ := rn_ai hw hi ha hb hm e hh
  subst ht
  rw [ew hx] at hh
  exact ⟨q, hx, hh⟩
theorem en_st {a m : Nat} {i x : Int32} {t : Nat} {f : Nat → Int32} (ht : i.toNatClampNeg = t) (hw : WT h) (hi : pm_ins PT k pc = some (.iastore, 1)) (ha : a < 198) (hb : wd (bB a) = .inl (0, m, ai_top)) (hm : 0 < m) (e : Ar h a = f) (hh : pm_run PT n fr lo k (pc, L, .int x :: .int i :: .ref a :: S, h, 198, sl) = some R) : ∃ q, t < m ∧ pm_run PT q fr lo k (pc + 1, L, S, aset h a m (upd f t x), 198, sl) = some R := by
  obtain ⟨q, hx, hh⟩ := rn_si hw hi ha hb hm e hh
  subst ht
  exact ⟨q, hx, hh⟩
theorem en_lst {a m : Nat} {i : Int32} {x : Int64} {t : Nat} {f : Nat → Int64} (ht : i.toNatClampNeg = t) (hw : WT h) (hi : pm_ins PT k pc = some (.lastore, 1)) (ha : a < 198) (hb : wd (bB a) = .inl (2, m, al_top)) (hm : 0 < m) (e : Al h a = f) (hh : pm_run PT n fr lo k (pc, L, .long x :: .int i :: .ref a :: S, h, 198, sl) = some R) : ∃ q, t < m ∧ pm_run PT q fr lo k (pc + 1, L, S, lset h a m (vp_updL f t x), 198, sl) = some R := by
  have e0 := wt_al hw ha hb hm
  rw [e] at e0
  obtain ⟨st, q, es, hh⟩ := rn_ex hi rfl (fun q => by cases q) (fun q => by cases q) (fun q => by cases q) hh
  have es : pm_lS PT pc L (.long x :: .int i :: .ref a :: S) h 198 sl = some st := es
  unfold pm_lS at es
  dsimp only at es
  have ea : pm_lar PT h 198 a = some (2, m, f) := by
    unfold pm_lar
    rw [if_pos ha, e0]
    exact if_pos rfl
  rw [ea] at es
  dsimp only at es
  subst ht
  by_cases z : pm_in i m = true
  · rw [if_pos z] at es
    cases es
    exact ⟨q, en_in z, hh⟩
  · rw [if_neg z] at es
    cases es
theorem en_min {j v : Nat} {x y : Int32} (hi : pm_ins PT k pc = some (.invokestatic j, 3)) (hc : pm_callee PT k (.invokestatic j) = none) (hm : pm_mlk PT (pm_o PT k) j = some (7, v)) (hh : pm_run PT n fr lo k (pc, L, .int y :: .int x :: S, h, 198, sl) = some R) : ∃ q, pm_run PT q fr lo k (pc + 3, L, .int (imin x y) :: S, h, 198, sl) = some R := by
  obtain ⟨st, q, e, hh⟩ := rn_ex hi hc (fun q => by cases q) (fun q => by cases q) (fun q => by cases q) hh
  have e : pm_libW PT false fr lo k j pc L (.int y :: .int x :: S) h 198 sl = some st := e
  unfold pm_libW at e
  rw [hm] at e
  have e : (if 1 ≤ fr ∧ pm_sum S + 13 ≤ lo then some (pc + 3, L, Value.int (imin x y) :: S, h, 198, sl) else none) = some st := e
  split at e
  · cases e
    exact ⟨q, hh⟩
  · cases e
theorem en_max {j v : Nat} {x y : Int32} (hi : pm_ins PT k pc = some (.invokestatic j, 3)) (hc : pm_callee PT k (.invokestatic j) = none) (hm : pm_mlk PT (pm_o PT k) j = some (8, v)) (hh : pm_run PT n fr lo k (pc, L, .int y :: .int x :: S, h, 198, sl) = some R) : ∃ q, pm_run PT q fr lo k (pc + 3, L, .int (imax x y) :: S, h, 198, sl) = some R := by
  obtain ⟨st, q, e, hh⟩ := rn_ex hi hc (fun q => by cases q) (fun q => by cases q) (fun q => by cases q) hh
  have e : pm_libW PT false fr lo k j pc L (.int y :: .int x :: S) h 198 sl = some st := e
  unfold pm_libW at e
  rw [hm] at e
  have e : (if 1 ≤ fr ∧ pm_sum S + 13 ≤ lo then some (pc + 3, L, Value.int (imax x y) :: S, h, 198, sl) else none) = some st := e
  split at e
  · cases e
    exact ⟨q, hh⟩
  · cases e
/-- the ruling rule -/
theorem en_q {j t : Nat} (c : HC q cc gc h) (hi : pm_ins PT k pc = some (.getfield j, 3)) (hf : pm_fld PT (pm_o PT k) j = some (10, 8, t)) (hh : pm_run PT n fr lo k (pc, L, .ref 0 :: S, h, 198, sl) = some R) : ∃ m, pm_run PT m fr lo k (pc + 3, L, .ref q.1 :: S, h, 198, sl) = some R := by
  obtain ⟨-, -, -, -, ⟨fs, r1, r2⟩, -⟩ := c
  exact rn_gfo hi hf (by decide) r1 r2 hh
/-- switches -/
theorem en_xc {x : Int32} {c : Nat} (hc : c < 2 ^ 31) (e : pm_cmp .eq x (nI c) = true) : x.toInt = (c : Int) := by
  have e : x = nI c := of_decide_eq_true e
  rw [e, nI_toInt hc]
theorem en_xn {x : Int32} {c : Nat} (hc : c < 2 ^ 31) (e : pm_cmp .eq x (nI c) = false) : x.toInt ≠ (c : Int) := by
  have e : ¬ x = nI c := of_decide_eq_false e
  intro q
  apply e
  apply Int32.toInt_inj.mp
  rw [q, nI_toInt hc]
theorem en_nc {x c : Nat} (hx : x < 2 ^ 31) (e : decide (x = c) = true) : (nI x).toInt = (c : Int) := by
  rw [nI_toInt hx, of_decide_eq_true e]
theorem en_nn {x c : Nat} (hx : x < 2 ^ 31) (e : decide (x = c) = false) : (nI x).toInt ≠ (c : Int) := by
  have e : ¬ x = c := of_decide_eq_false e
  rw [nI_toInt hx]
  omega
theorem en_tsc {x : Int32} {d lw hg c off : Int} {offs : Array Int} {len t : Nat} (hi : pm_ins PT k pc = some (.tableswitch d lw hg offs, len)) (e : x.toInt = c) (hb : ¬ (c < lw ∨ hg < c)) (ho : offs[(c - lw).toNat]? = some off) (ht : pm_tgt pc off = some t) (hh : pm_run PT n fr lo k (pc, L, .int x :: S, h, 198, sl) = some R) : ∃ m, pm_run PT m fr lo k (t, L, S, h, 198, sl) = some R := by
  refine rn_i hi rfl rfl ?_ hh
  show (if x.toInt < lw ∨ hg < x.toInt then pm_jp pc d L S h 198 sl else (match offs[(x.toInt - lw).toNat]? with
      | some off => pm_jp pc off L S h 198 sl
      | none => none)) = _
  rw [e, if_neg hb, ho]
  dsimp only
  unfold pm_jp
  rw [ht]
theorem en_tsd {x : Int32} {d lw hg : Int} {offs : Array Int} {len t : Nat} (cs : List Int) (hi : pm_ins PT k pc = some (.tableswitch d lw hg offs, len)) (hs : offs.size = (hg - lw + 1).toNat) (hc : (List.range offs.size).all (fun j => decide (offs[j]? = some d) || cs.elem (lw + (j : Int))) = true) (hn : ∀ c, c ∈ cs → x.toInt ≠ c) (ht : pm_tgt pc d = some t) (hh : pm_run PT n fr lo k (pc, L, .int x :: S, h, 198, sl) = some R) : ∃ m, pm_run PT m fr lo k (t, L, S, h, 198, sl) = some R := by
  refine rn_i hi rfl rfl ?_ hh
  show (if x.toInt < lw ∨ hg < x.toInt then pm_jp pc d L S h 198 sl else (match offs[(x.toInt - lw).toNat]? with
      | some off => pm_jp pc off L S h 198 sl
      | none => none)) = _
  have ej : pm_jp pc d L S h 198 sl = some (t, L, S, h, 198, sl) := by
    unfold pm_jp
    rw [ht]
  by_cases z : x.toInt < lw ∨ hg < x.toInt
  · rw [if_pos z]
    exact ej
  · rw [if_neg z]
    have hj : (x.toInt - lw).toNat < offs.size := by omega
    have q := List.all_eq_true.mp hc _ (List.mem_range.mpr hj)
    rw [Bool.or_eq_true] at q
    rcases q with q | q
    · rw [of_decide_eq_true q]
      exact ej
    · exact absurd (by omega) (hn _ (List.elem_iff.mp q))
theorem en_lsn : ∀ (ps : List (Int × Int)) (d v : Int) (cs : List Int), ps.all (fun p => cs.elem p.1 || decide (p.2 = d)) = true → (∀ c, c ∈ cs → v ≠ c) → Op.lookupswitch.offset ps d v = d
  | [], _, _, _, _, _ => rfl
  | (a, o) :: r, d, v, cs, h, hn => by
    rw [Op.lookupswitch.offset_cons]
    rw [List.all_cons, Bool.and_eq_true, Bool.or_eq_true] at h
    obtain ⟨h1, h2⟩ := h
    split
    · rename_i e
      rcases h1 with h1 | h1
      · have e : v = a := by simpa using e.symm
        exact absurd e (hn _ (List.elem_iff.mp h1))
      · exact of_decide_eq_true h1
    · exact en_lsn r d v cs h2 hn
theorem en_lsd {x : Int32} {d : Int} {ps : Array (Int × Int)} {len t : Nat} (cs : List Int) (hi : pm_ins PT k pc = some (.lookupswitch d ps, len)) (hk : pm_swOk ps.toList = true) (hc : ps.toList.all (fun p => cs.elem p.1 || decide (p.2 = d)) = true) (hn : ∀ c, c ∈ cs → x.toInt ≠ c) (ht : pm_tgt pc d = some t) (hh : pm_run PT n fr lo k (pc, L, .int x :: S, h, 198, sl) = some R) : ∃ m, pm_run PT m fr lo k (t, L, S, h, 198, sl) = some R := by
  refine rn_i hi rfl rfl ?_ hh
  show (if pm_swOk ps.toList = true then pm_jp pc (Op.lookupswitch.offset ps.toList d x.toInt) L S h 198 sl else none) = _
  rw [if_pos hk, en_lsn _ _ _ cs hc hn]
  unfold pm_jp
  rw [ht]
theorem en_lsc {x : Int32} {d c off : Int} {ps : Array (Int × Int)} {len t : Nat} (hi : pm_ins PT k pc = some (.lookupswitch d ps, len)) (hk : pm_swOk ps.toList = true) (e : x.toInt = c) (ho : Op.lookupswitch.offset ps.toList d c = off) (ht : pm_tgt pc off = some t) (hh : pm_run PT n fr lo k (pc, L, .int x :: S, h, 198, sl) = some R) : ∃ m, pm_run PT m fr lo k (t, L, S, h, 198, sl) = some R := by
  refine rn_i hi rfl rfl ?_ hh
  show (if pm_swOk ps.toList = true then pm_jp pc (Op.lookupswitch.offset ps.toList d x.toInt) L S h 198 sl else none) = _
  rw [if_pos hk, e, ho]
  unfold pm_jp
  rw [ht]
theorem en_l0 {v : Int} : ∀ c : Int, c ∈ ([] : List Int) → v ≠ c := fun _ q => by cases q
theorem en_l1 {v a : Int} {cs : List Int} (h : v ≠ a) (q : ∀ c, c ∈ cs → v ≠ c) : ∀ c, c ∈ a :: cs → v ≠ c := fun c hc => by
  rcases List.mem_cons.mp hc with rfl | hc
  · exact h
  · exact q c hc
/-- how long an array is -/
theorem en_al {a kd m : Nat} (hw : WT h) (hi : pm_ins PT k pc = some (.arraylength, 1)) (ha : a < 198) (hb : wd (bB a) = .inl (kd, m, ai_top)) (hm : 0 < m) (hk : ((pm_ty PT)[kd]?).isSome = true) (hh : pm_run PT n fr lo k (pc, L, .ref a :: S, h, 198, sl) = some R) : ∃ q, pm_run PT q fr lo k (pc + 1, L, .int (nI m) :: S, h, 198, sl) = some R := by
  refine rn_i hi rfl rfl ?_ hh
  show (if a < 198 then (match h a with
    | .inl (kd, n, _) => if ((pm_ty PT)[kd]?).isSome = true then some (pc + 1, L, .int (Int32.ofNat n) :: S, h, 198, sl) else none
    | _ => none) else none) = _
  rw [if_pos ha, wt_a hw ha hb hm]
  dsimp only
  rw [if_pos hk]
  rfl
/-- who is a court, a gift, who are two courts: both sides, over Nats -/
theorem hc_rC (c : HC q cc gc h) : rC h (.int (nI cc)) := by
  obtain ⟨fs, e1, e2⟩ := wt_i c.wt (by decide) (show wd (bB 5) = _ from rfl) (by decide) (show _ = some ai_top from rfl) (g := 0)
  rw [c.x0] at e2
  exact ⟨fs, e1, e2⟩
theorem hc_m3 (c : HC q cc gc h) : mF h 3 (.int (nI cc)) := by
  obtain ⟨fs, e1, e2⟩ := wt_i c.wt (by decide) (show wd (bB 162) = _ from rfl) (by decide) (show _ = some ai_top from rfl) (g := 3)
  rw [c.m3] at e2
  exact ⟨fs, e1, e2⟩
theorem hc_m4 (c : HC q cc gc h) : mF h 4 (.int (nI gc)) := by
  obtain ⟨fs, e1, e2⟩ := wt_i c.wt (by decide) (show wd (bB 162) = _ from rfl) (by decide) (show _ = some ai_top from rfl) (g := 4)
  rw [c.m4] at e2
  exact ⟨fs, e1, e2⟩
theorem hc_rG (c : HC q cc gc h) : ∃ rs, h 5 = .inr (3, rs) ∧ rs[1]? = some (.int (nI gc)) := by
  obtain ⟨fs, e1, e2⟩ := wt_i c.wt (by decide) (show wd (bB 5) = _ from rfl) (by decide) (show _ = some ai_top from rfl) (g := 1)
  rw [c.x1] at e2
  exact ⟨fs, e1, e2⟩
theorem inb_cG {x : Int32} (hc : gc ≤ 8) : in_b x.toInt64 0 (nI gc - 1).toInt64 = cB gc x := by
  have e : ∀ c, c < 9 → (nI c - 1).toInt = (c : Int) - 1 := by decide +kernel
  have e := e gc (by omega)
  generalize nI gc - 1 = w at *
  unfold in_b cB
  have n1 : (0 : Int64).toInt = 0 := by decide
  rw [Bool.eq_iff_iff, Bool.and_eq_true, decide_eq_true_iff, Bool.not_eq_true', Bool.not_eq_true', decide_eq_false_iff_not, decide_eq_false_iff_not, Int64.lt_iff_toInt_lt, Int64.lt_iff_toInt_lt, Int32.toInt_toInt64, Int32.toInt_toInt64, n1, e]
  omega
theorem en_mg {x : Int32} (hc : gc ≤ 8) (h4 : mF h 4 (.int (nI gc))) (hh : pm_run PT n fr lo 169 (0, pm_l0 [.ref 162, .int x] 2, [], h, 198, sl) = some R) : R = (some (.int (cond (cB gc x) 1 0)), h, 198, sl) := by
  have q := rn_dt (F := 10) (Lo := 1000) (hd_isGift (fr := 10) (lo := 1000) (sl := sl) x h4 (by omega) (by omega)) hh
  rw [inb_cG hc] at q
  exact q
theorem en_xg {x : Int32} (hc : gc ≤ 8) (r : ∃ rs, h 5 = .inr (3, rs) ∧ rs[1]? = some (.int (nI gc))) (hh : pm_run PT n fr lo 25 (0, pm_l0 [.ref 5, .int x] 2, [], h, 198, sl) = some R) : R = (some (.int (cond (cB gc x) 1 0)), h, 198, sl) := by
  obtain ⟨rs, e5, e50⟩ := r
  have no : ∀ n : Nat, cB gc x = false → pm_run PT n fr lo 25 (16, [some (.ref 5), some (.int x)], [], h, 198, sl) = some R → R = (some (.int (cond (cB gc x) 1 0)), h, 198, sl) := by
    intro n e hh
    obtain ⟨n, hh⟩ := rn_i rfl rfl rfl rfl hh
    have q := (rn_ret rfl (Or.inr rfl) hh).2
    rw [q, e]
    rfl
  obtain ⟨n, hh⟩ := rn_i rfl rfl rfl rfl hh
  obtain ⟨n, hh⟩ := rn_if (cc := .lt) (off := 15) (t := 16) rfl rfl hh
  rw [lt0_e] at hh
  by_cases a : x.toInt < 0
  · rw [decide_eq_true a] at hh
    exact no n (cB_f (by omega)) hh
  · rw [decide_eq_false a] at hh
    have hh : pm_run PT n fr lo 25 (4, [some (.ref 5), some (.int x)], [], h, 198, sl) = some R := hh
    obtain ⟨n, hh⟩ := rn_i rfl rfl rfl rfl hh
    obtain ⟨n, hh⟩ := rn_i rfl rfl rfl rfl hh
    obtain ⟨n, hh⟩ := rn_gfo (g := 1) rfl rfl (by decide) e5 e50 hh
    obtain ⟨n, hh⟩ := rn_icmp (cc := .ge) (off := 7) (t := 16) rfl rfl hh
    rw [ge_e (by omega)] at hh
    by_cases b : (gc : Int) ≤ x.toInt
    · rw [decide_eq_true b] at hh
      exact no n (cB_f (by omega)) hh
    · rw [decide_eq_false b] at hh
      have hh : pm_run PT n fr lo 25 (12, [some (.ref 5), some (.int x)], [], h, 198, sl) = some R := hh
      obtain ⟨n, hh⟩ := rn_i rfl rfl rfl rfl hh
      obtain ⟨n, hh⟩ := rn_i rfl rfl rfl rfl hh
      have q := (rn_ret rfl (Or.inr rfl) hh).2
      rw [q, cB_t (by omega)]
      rfl
theorem cB_n {a : Nat} (ha : a < 2 ^ 31) : cB cc (nI a) = decide (a < cc) := by
  unfold cB
  rw [nI_toInt ha, Bool.eq_iff_iff, decide_eq_true_iff, decide_eq_true_iff]
  omega
end EXT
end MG95zzxax1
section MG95zzxax2
/-! runs told exactly, written by ext.py -/
section EA
def v270 (q : QT) (cc gc : Nat) (a : Int32) : Int32 := (((((((a - ((ushr a (nI 1)) &&& (nI 1431655765))) &&& (nI 858993459)) + ((ushr (a - ((ushr a (nI 1)) &&& (nI 1431655765))) (nI 2)) &&& (nI 858993459))) + (ushr (((a - ((ushr a (nI 1)) &&& (nI 1431655765))) &&& (nI 858993459)) + ((ushr (a - ((ushr a (nI 1)) &&& (nI 1431655765))) (nI 2)) &&& (nI 858993459))) (nI 4))) &&& (nI 252645135)) + (ushr (((((a - ((ushr a (nI 1)) &&& (nI 1431655765))) &&& (nI 858993459)) + ((ushr (a - ((ushr a (nI 1)) &&& (nI 1431655765))) (nI 2)) &&& (nI 858993459))) + (ushr (((a - ((ushr a (nI 1)) &&& (nI 1431655765))) &&& (nI 858993459)) + ((ushr (a - ((ushr a (nI 1)) &&& (nI 1431655765))) (nI 2)) &&& (nI 858993459))) (nI 4))) &&& (nI 252645135)) (nI 8))) + (ushr ((((((a - ((ushr a (nI 1)) &&& (nI 1431655765))) &&& (nI 858993459)) + ((ushr (a - ((ushr a (nI 1)) &&& (nI 1431655765))) (nI 2)) &&& (nI 858993459))) + (ushr (((a - ((ushr a (nI 1)) &&& (nI 1431655765))) &&& (nI 858993459)) + ((ushr (a - ((ushr a (nI 1)) &&& (nI 1431655765))) (nI 2)) &&& (nI 858993459))) (nI 4))) &&& (nI 252645135)) + (ushr (((((a - ((ushr a (nI 1)) &&& (nI 1431655765))) &&& (nI 858993459)) + ((ushr (a - ((ushr a (nI 1)) &&& (nI 1431655765))) (nI 2)) &&& (nI 858993459))) + (ushr (((a - ((ushr a (nI 1)) &&& (nI 1431655765))) &&& (nI 858993459)) + ((ushr (a - ((ushr a (nI 1)) &&& (nI 1431655765))) (nI 2)) &&& (nI 858993459))) (nI 4))) &&& (nI 252645135)) (nI 8))) (nI 16))) &&& (nI 63)
theorem v270_ok {n fr lo sl cc gc : Nat} {q : QT} {h : pm_H} {R : pm_Rs} {a : Int32} (hw : HC q cc gc h) (hh : pm_run PT n fr lo 270 (0, pm_l0 [.int a] 1, [], h, 198, sl) = some R) : R = (some (.int (v270 q cc gc a)), h, 198, sl) := by
  have hcc := hw.cb
  have hgc := hw.gb
  have hzr := hw.zr
  obtain ⟨n, hh⟩ := rn_i rfl rfl rfl rfl hh
  obtain ⟨n, hh⟩ := rn_i rfl rfl rfl rfl hh
  obtain ⟨n, hh⟩ := rn_i rfl rfl rfl rfl hh
  obtain ⟨n, hh⟩ := rn_i rfl rfl rfl rfl hh
  obtain ⟨n, hh⟩ := rn_i rfl rfl rfl rfl hh
  obtain ⟨n, hh⟩ := rn_i rfl rfl rfl rfl hh
  obtain ⟨n, hh⟩ := rn_i rfl rfl rfl rfl hh
  obtain ⟨n, hh⟩ := rn_i rfl rfl rfl rfl hh
  obtain ⟨n, hh⟩ := rn_i rfl rfl rfl rfl hh
  obtain ⟨n, hh⟩ := rn_i rfl rfl rfl rfl hh
  obtain ⟨n, hh⟩ := rn_i rfl rfl rfl rfl hh
  obtain ⟨n, hh⟩ := rn_i rfl rfl rfl rfl hh
  obtain ⟨n, hh⟩ := rn_i rfl rfl rfl rfl hh
  obtain ⟨n, hh⟩ := rn_i rfl rfl rfl rfl hh
  obtain ⟨n, hh⟩ := rn_i rfl rfl rfl rfl hh
  obtain ⟨n, hh⟩ := rn_i rfl rfl rfl rfl hh
  obtain ⟨n, hh⟩ := rn_i rfl rfl rfl rfl hh
  obtain ⟨n, hh⟩ := rn_i rfl rfl rfl rfl hh
  obtain ⟨n, hh⟩ := rn_i rfl rfl rfl rfl hh
  obtain ⟨n, hh⟩ := rn_i rfl rfl rfl rfl hh
  obtain ⟨n, hh⟩ := rn_i rfl rfl rfl rfl hh
  obtain ⟨n, hh⟩ := rn_i rfl rfl rfl rfl hh
  obtain ⟨n, hh⟩ := rn_i rfl rfl rfl rfl hh
  obtain ⟨n, hh⟩ := rn_i rfl rfl rfl rfl hh
  obtain ⟨n, hh⟩ := rn_i rfl rfl rfl rfl hh
  obtain ⟨n, hh⟩ := rn_i rfl rfl rfl rfl hh
  obtain ⟨n, hh⟩ := rn_i rfl rfl rfl rfl hh
  obtain ⟨n, hh⟩ := rn_i rfl rfl rfl rfl hh
  obtain ⟨n, hh⟩ := rn_i rfl rfl rfl rfl hh
  obtain ⟨n, hh⟩ := rn_i rfl rfl rfl rfl hh
  obtain ⟨n, hh⟩ := rn_i rfl rfl rfl rfl hh
  obtain ⟨n, hh⟩ := rn_i rfl rfl rfl rfl hh
  obtain ⟨n, hh⟩ := rn_i rfl rfl rfl rfl hh
  obtain ⟨n, hh⟩ := rn_i rfl rfl rfl rfl hh
  obtain ⟨n, hh⟩ := rn_i rfl rfl rfl rfl hh
  obtain ⟨n, hh⟩ := rn_i rfl rfl rfl rfl hh
  obtain ⟨n, hh⟩ := rn_i rfl rfl rfl rfl hh
  obtain ⟨n, hh⟩ := rn_i rfl rfl rfl rfl hh
  obtain ⟨n, hh⟩ := rn_i rfl rfl rfl rfl hh
  obtain ⟨n, hh⟩ := rn_i rfl rfl rfl rfl hh
  obtain ⟨n, hh⟩ := rn_i rfl rfl rfl rfl hh
  have hh : pm_run PT n fr lo 270 (52, [some (.int (((((((a - ((ushr a (nI 1)) &&& (nI 1431655765))) &&& (nI 858993459)) + ((ushr (a - ((ushr a (nI 1)) &&& (nI 1431655765))) (nI 2)) &&& (nI 858993459))) + (ushr (((a - ((ushr a (nI 1)) &&& (nI 1431655765))) &&& (nI 858993459)) + ((ushr (a - ((ushr a (nI 1)) &&& (nI 1431655765))) (nI 2)) &&& (nI 858993459))) (nI 4))) &&& (nI 252645135)) + (ushr (((((a - ((ushr a (nI 1)) &&& (nI 1431655765))) &&& (nI 858993459)) + ((ushr (a - ((ushr a (nI 1)) &&& (nI 1431655765))) (nI 2)) &&& (nI 858993459))) + (ushr (((a - ((ushr a (nI 1)) &&& (nI 1431655765))) &&& (nI 858993459)) + ((ushr (a - ((ushr a (nI 1)) &&& (nI 1431655765))) (nI 2)) &&& (nI 858993459))) (nI 4))) &&& (nI 252645135)) (nI 8))) + (ushr ((((((a - ((ushr a (nI 1)) &&& (nI 1431655765))) &&& (nI 858993459)) + ((ushr (a - ((ushr a (nI 1)) &&& (nI 1431655765))) (nI 2)) &&& (nI 858993459))) + (ushr (((a - ((ushr a (nI 1)) &&& (nI 1431655765))) &&& (nI 858993459)) + ((ushr (a - ((ushr a (nI 1)) &&& (nI 1431655765))) (nI 2)) &&& (nI 858993459))) (nI 4))) &&& (nI 252645135)) + (ushr (((((a - ((ushr a (nI 1)) &&& (nI 1431655765))) &&& (nI 858993459)) + ((ushr (a - ((ushr a (nI 1)) &&& (nI 1431655765))) (nI 2)) &&& (nI 858993459))) + (ushr (((a - ((ushr a (nI 1)) &&& (nI 1431655765))) &&& (nI 858993459)) + ((ushr (a - ((ushr a (nI 1)) &&& (nI 1431655765))) (nI 2)) &&& (nI 858993459))) (nI 4))) &&& (nI 252645135)) (nI 8))) (nI 16))))], [.int ((((((((a - ((ushr a (nI 1)) &&& (nI 1431655765))) &&& (nI 858993459)) + ((ushr (a - ((ushr a (nI 1)) &&& (nI 1431655765))) (nI 2)) &&& (nI 858993459))) + (ushr (((a - ((ushr a (nI 1)) &&& (nI 1431655765))) &&& (nI 858993459)) + ((ushr (a - ((ushr a (nI 1)) &&& (nI 1431655765))) (nI 2)) &&& (nI 858993459))) (nI 4))) &&& (nI 252645135)) + (ushr (((((a - ((ushr a (nI 1)) &&& (nI 1431655765))) &&& (nI 858993459)) + ((ushr (a - ((ushr a (nI 1)) &&& (nI 1431655765))) (nI 2)) &&& (nI 858993459))) + (ushr (((a - ((ushr a (nI 1)) &&& (nI 1431655765))) &&& (nI 858993459)) + ((ushr (a - ((ushr a (nI 1)) &&& (nI 1431655765))) (nI 2)) &&& (nI 858993459))) (nI 4))) &&& (nI 252645135)) (nI 8))) + (ushr ((((((a - ((ushr a (nI 1)) &&& (nI 1431655765))) &&& (nI 858993459)) + ((ushr (a - ((ushr a (nI 1)) &&& (nI 1431655765))) (nI 2)) &&& (nI 858993459))) + (ushr (((a - ((ushr a (nI 1)) &&& (nI 1431655765))) &&& (nI 858993459)) + ((ushr (a - ((ushr a (nI 1)) &&& (nI 1431655765))) (nI 2)) &&& (nI 858993459))) (nI 4))) &&& (nI 252645135)) + (ushr (((((a - ((ushr a (nI 1)) &&& (nI 1431655765))) &&& (nI 858993459)) + ((ushr (a - ((ushr a (nI 1)) &&& (nI 1431655765))) (nI 2)) &&& (nI 858993459))) + (ushr (((a - ((ushr a (nI 1)) &&& (nI 1431655765))) &&& (nI 858993459)) + ((ushr (a - ((ushr a (nI 1)) &&& (nI 1431655765))) (nI 2)) &&& (nI 858993459))) (nI 4))) &&& (nI 252645135)) (nI 8))) (nI 16))) &&& (nI 63))], h, 198, sl) = some R := hh
  have er1 : R = (some (.int ((((((((a - ((ushr a (nI 1)) &&& (nI 1431655765))) &&& (nI 858993459)) + ((ushr (a - ((ushr a (nI 1)) &&& (nI 1431655765))) (nI 2)) &&& (nI 858993459))) + (ushr (((a - ((ushr a (nI 1)) &&& (nI 1431655765))) &&& (nI 858993459)) + ((ushr (a - ((ushr a (nI 1)) &&& (nI 1431655765))) (nI 2)) &&& (nI 858993459))) (nI 4))) &&& (nI 252645135)) + (ushr (((((a - ((ushr a (nI 1)) &&& (nI 1431655765))) &&& (nI 858993459)) + ((ushr (a - ((ushr a (nI 1)) &&& (nI 1431655765))) (nI 2)) &&& (nI 858993459))) + (ushr (((a - ((ushr a (nI 1)) &&& (nI 1431655765))) &&& (nI 858993459)) + ((ushr (a - ((ushr a (nI 1)) &&& (nI 1431655765))) (nI 2)) &&& (nI 858993459))) (nI 4))) &&& (nI 252645135)) (nI 8))) + (ushr ((((((a - ((ushr a (nI 1)) &&& (nI 1431655765))) &&& (nI 858993459)) + ((ushr (a - ((ushr a (nI 1)) &&& (nI 1431655765))) (nI 2)) &&& (nI 858993459))) + (ushr (((a - ((ushr a (nI 1)) &&& (nI 1431655765))) &&& (nI 858993459)) + ((ushr (a - ((ushr a (nI 1)) &&& (nI 1431655765))) (nI 2)) &&& (nI 858993459))) (nI 4))) &&& (nI 252645135)) + (ushr (((((a - ((ushr a (nI 1)) &&& (nI 1431655765))) &&& (nI 858993459)) + ((ushr (a - ((ushr a (nI 1)) &&& (nI 1431655765))) (nI 2)) &&& (nI 858993459))) + (ushr (((a - ((ushr a (nI 1)) &&& (nI 1431655765))) &&& (nI 858993459)) + ((ushr (a - ((ushr a (nI 1)) &&& (nI 1431655765))) (nI 2)) &&& (nI 858993459))) (nI 4))) &&& (nI 252645135)) (nI 8))) (nI 16))) &&& (nI 63))), h, 198, sl) := (rn_ret rfl (Or.inl rfl) hh).2
  have ed : v270 q cc gc a = (((((((a - ((ushr a (nI 1)) &&& (nI 1431655765))) &&& (nI 858993459)) + ((ushr (a - ((ushr a (nI 1)) &&& (nI 1431655765))) (nI 2)) &&& (nI 858993459))) + (ushr (((a - ((ushr a (nI 1)) &&& (nI 1431655765))) &&& (nI 858993459)) + ((ushr (a - ((ushr a (nI 1)) &&& (nI 1431655765))) (nI 2)) &&& (nI 858993459))) (nI 4))) &&& (nI 252645135)) + (ushr (((((a - ((ushr a (nI 1)) &&& (nI 1431655765))) &&& (nI 858993459)) + ((ushr (a - ((ushr a (nI 1)) &&& (nI 1431655765))) (nI 2)) &&& (nI 858993459))) + (ushr (((a - ((ushr a (nI 1)) &&& (nI 1431655765))) &&& (nI 858993459)) + ((ushr (a - ((ushr a (nI 1)) &&& (nI 1431655765))) (nI 2)) &&& (nI 858993459))) (nI 4))) &&& (nI 252645135)) (nI 8))) + (ushr ((((((a - ((ushr a (nI 1)) &&& (nI 1431655765))) &&& (nI 858993459)) + ((ushr (a - ((ushr a (nI 1)) &&& (nI 1431655765))) (nI 2)) &&& (nI 858993459))) + (ushr (((a - ((ushr a (nI 1)) &&& (nI 1431655765))) &&& (nI 858993459)) + ((ushr (a - ((ushr a (nI 1)) &&& (nI 1431655765))) (nI 2)) &&& (nI 858993459))) (nI 4))) &&& (nI 252645135)) + (ushr (((((a - ((ushr a (nI 1)) &&& (nI 1431655765))) &&& (nI 858993459)) + ((ushr (a - ((ushr a (nI 1)) &&& (nI 1431655765))) (nI 2)) &&& (nI 858993459))) + (ushr (((a - ((ushr a (nI 1)) &&& (nI 1431655765))) &&& (nI 858993459)) + ((ushr (a - ((ushr a (nI 1)) &&& (nI 1431655765))) (nI 2)) &&& (nI 858993459))) (nI 4))) &&& (nI 252645135)) (nI 8))) (nI 16))) &&& (nI 63) := rfl
  rw [ed]
  exact er1
def v164 (q : QT) (cc gc : Nat) (a : Int32) (b : Int32) : Bool := cond (pm_cmp .ne ((shr a b) &&& (nI 1)) (nI 1)) false true
theorem v164_ok {n fr lo sl cc gc : Nat} {q : QT} {h : pm_H} {R : pm_Rs} {a : Int32} {b : Int32} (hw : HC q cc gc h) (hh : pm_run PT n fr lo 164 (0, pm_l0 [.int a, .int b] 2, [], h, 198, sl) = some R) : R = (some (.int (cond (v164 q cc gc a b) 1 0)), h, 198, sl) := by
  have hcc := hw.cb
  have hgc := hw.gb
  have hzr := hw.zr
  obtain ⟨n, hh⟩ := rn_i rfl rfl rfl rfl hh
  obtain ⟨n, hh⟩ := rn_i rfl rfl rfl rfl hh
  obtain ⟨n, hh⟩ := rn_i rfl rfl rfl rfl hh
  obtain ⟨n, hh⟩ := rn_i rfl rfl rfl rfl hh
  obtain ⟨n, hh⟩ := rn_i rfl rfl rfl rfl hh
  obtain ⟨n, hh⟩ := rn_i rfl rfl rfl rfl hh
  have hh : pm_run PT n fr lo 164 (6, [some (.int a), some (.int b)], [.int (nI 1), .int ((shr a b) &&& (nI 1))], h, 198, sl) = some R := hh
  obtain ⟨n, hh⟩ := en_cn (cc := .ne) (off := 7) (t := 13) (b := pm_cmp .ne ((shr a b) &&& (nI 1)) (nI 1)) rfl rfl rfl hh
  have hj2 : ∃ mJ, pm_run PT mJ fr lo 164 (cond (pm_cmp .ne ((shr a b) &&& (nI 1)) (nI 1)) (14, [some (.int a), some (.int b)], [.int (nI 0)], h, 198, sl) (14, [some (.int a), some (.int b)], [.int (nI 1)], h, 198, sl)) = some R := en_J (fun z1 => by
      have hh := en_t z1 hh
      have hh : pm_run PT n fr lo 164 (13, [some (.int a), some (.int b)], [], h, 198, sl) = some R := hh
      obtain ⟨n, hh⟩ := rn_i rfl rfl rfl rfl hh
      exact ⟨n, hh⟩) (fun z1 => by
      have hh := en_f z1 hh
      have hh : pm_run PT n fr lo 164 (9, [some (.int a), some (.int b)], [], h, 198, sl) = some R := hh
      obtain ⟨n, hh⟩ := rn_i rfl rfl rfl rfl hh
      obtain ⟨n, hh⟩ := rn_i rfl rfl rfl rfl hh
      exact ⟨n, hh⟩)
  obtain ⟨n, hh⟩ := hj2
  rw [show (cond (pm_cmp .ne ((shr a b) &&& (nI 1)) (nI 1)) (14, [some (.int a), some (.int b)], [.int (nI 0)], h, 198, sl) (14, [some (.int a), some (.int b)], [.int (nI 1)], h, 198, sl) : pm_St) = (14, [some (.int a), some (.int b)], [.int (cond (cond (pm_cmp .ne ((shr a b) &&& (nI 1)) (nI 1)) false true) 1 0)], h, 198, sl) from by cases (pm_cmp .ne ((shr a b) &&& (nI 1)) (nI 1)) <;> rfl] at hh
  have hh : pm_run PT n fr lo 164 (14, [some (.int a), some (.int b)], [.int (cond (cond (pm_cmp .ne ((shr a b) &&& (nI 1)) (nI 1)) false true) 1 0)], h, 198, sl) = some R := hh
  have er3 : R = (some (.int (cond (cond (pm_cmp .ne ((shr a b) &&& (nI 1)) (nI 1)) false true) 1 0)), h, 198, sl) := (rn_ret rfl (Or.inr rfl) hh).2
  have ed : v164 q cc gc a b = cond (pm_cmp .ne ((shr a b) &&& (nI 1)) (nI 1)) false true := rfl
  rw [ed]
  exact er3
def v74 (q : QT) (cc gc : Nat) (d0 : Int32) (g : Nat) : Bool := cond (pm_cmp .eq ((shr (d0) (nI g)) &&& (nI 1)) 0) false true
theorem v74_ok {n fr lo sl cc gc : Nat} {q : QT} {h : pm_H} {R : pm_Rs} {g : Nat} (hw : HC q cc gc h) (h_g : g < 10000) (hh : pm_run PT n fr lo 74 (0, pm_l0 [.ref 13, .int (nI g)] 2, [], h, 198, sl) = some R) : R = (some (.int (cond (v74 q cc gc (Fi h 13 5) g) 1 0)), h, 198, sl) := by
  have hcc := hw.cb
  have hgc := hw.gb
  have hzr := hw.zr
  obtain ⟨n, hh⟩ := rn_i rfl rfl rfl rfl hh
  have hh : pm_run PT n fr lo 74 (1, [some (.ref 13), some (.int (nI g))], [.ref 13], h, 198, sl) = some R := hh
  obtain ⟨n, hh⟩ := rn_gi (x := Fi h 13 5) hw.wt rfl rfl (by decide) rfl (by decide) rfl rfl hh
  obtain ⟨n, hh⟩ := rn_i rfl rfl rfl rfl hh
  obtain ⟨n, hh⟩ := rn_i rfl rfl rfl rfl hh
  obtain ⟨n, hh⟩ := rn_i rfl rfl rfl rfl hh
  obtain ⟨n, hh⟩ := rn_i rfl rfl rfl rfl hh
  have hh : pm_run PT n fr lo 74 (8, [some (.ref 13), some (.int (nI g))], [.int ((shr (Fi h 13 5) (nI g)) &&& (nI 1))], h, 198, sl) = some R := hh
  obtain ⟨n, hh⟩ := en_zn (cc := .eq) (off := 7) (t := 15) (b := pm_cmp .eq ((shr (Fi h 13 5) (nI g)) &&& (nI 1)) 0) rfl rfl rfl hh
  have hj2 : ∃ mJ, pm_run PT mJ fr lo 74 (cond (pm_cmp .eq ((shr (Fi h 13 5) (nI g)) &&& (nI 1)) 0) (16, [some (.ref 13), some (.int (nI g))], [.int (nI 0)], h, 198, sl) (16, [some (.ref 13), some (.int (nI g))], [.int (nI 1)], h, 198, sl)) = some R := en_J (fun z1 => by
      have hh := en_t z1 hh
      have hh : pm_run PT n fr lo 74 (15, [some (.ref 13), some (.int (nI g))], [], h, 198, sl) = some R := hh
      obtain ⟨n, hh⟩ := rn_i rfl rfl rfl rfl hh
      exact ⟨n, hh⟩) (fun z1 => by
      have hh := en_f z1 hh
      have hh : pm_run PT n fr lo 74 (11, [some (.ref 13), some (.int (nI g))], [], h, 198, sl) = some R := hh
      obtain ⟨n, hh⟩ := rn_i rfl rfl rfl rfl hh
      obtain ⟨n, hh⟩ := rn_i rfl rfl rfl rfl hh
      exact ⟨n, hh⟩)
  obtain ⟨n, hh⟩ := hj2
  rw [show (cond (pm_cmp .eq ((shr (Fi h 13 5) (nI g)) &&& (nI 1)) 0) (16, [some (.ref 13), some (.int (nI g))], [.int (nI 0)], h, 198, sl) (16, [some (.ref 13), some (.int (nI g))], [.int (nI 1)], h, 198, sl) : pm_St) = (16, [some (.ref 13), some (.int (nI g))], [.int (cond (cond (pm_cmp .eq ((shr (Fi h 13 5) (nI g)) &&& (nI 1)) 0) false true) 1 0)], h, 198, sl) from by cases (pm_cmp .eq ((shr (Fi h 13 5) (nI g)) &&& (nI 1)) 0) <;> rfl] at hh
  have hh : pm_run PT n fr lo 74 (16, [some (.ref 13), some (.int (nI g))], [.int (cond (cond (pm_cmp .eq ((shr (Fi h 13 5) (nI g)) &&& (nI 1)) 0) false true) 1 0)], h, 198, sl) = some R := hh
  have er3 : R = (some (.int (cond (cond (pm_cmp .eq ((shr (Fi h 13 5) (nI g)) &&& (nI 1)) 0) false true) 1 0)), h, 198, sl) := (rn_ret rfl (Or.inr rfl) hh).2
  have ed : v74 q cc gc (Fi h 13 5) g = cond (pm_cmp .eq ((shr (Fi h 13 5) (nI g)) &&& (nI 1)) 0) false true := rfl
  rw [ed]
  exact er3
def v75 (q : QT) (cc gc : Nat) (d0 : Nat → Int32) (g : Nat) (c : Nat) : Bool := cond (pm_cmp .eq ((shr ((d0) g) (nI c)) &&& (nI 1)) 0) false true
theorem v75_ok {n fr lo sl cc gc : Nat} {q : QT} {h : pm_H} {R : pm_Rs} {g : Nat} {c : Nat} (hw : HC q cc gc h) (h_g : g < 10000) (h_c : c < 10000) (hh : pm_run PT n fr lo 75 (0, pm_l0 [.ref 13, .int (nI g), .int (nI c)] 3, [], h, 198, sl) = some R) : R = (some (.int (cond (v75 q cc gc (Ar h 18) g c) 1 0)), h, 198, sl) := by
  have hcc := hw.cb
  have hgc := hw.gb
  have hzr := hw.zr
  obtain ⟨n, hh⟩ := rn_i rfl rfl rfl rfl hh
  have hh : pm_run PT n fr lo 75 (1, [some (.ref 13), some (.int (nI g)), some (.int (nI c))], [.ref 13], h, 198, sl) = some R := hh
  obtain ⟨n, hh⟩ := rn_gr hw.wt rfl rfl (by decide) rfl (by decide) (show _ = some (2, ((18 : Nat) : Int), 1) from rfl) rfl hh
  obtain ⟨n, hh⟩ := rn_i rfl rfl rfl rfl hh
  have hh : pm_run PT n fr lo 75 (5, [some (.ref 13), some (.int (nI g)), some (.int (nI c))], [.int (nI g), .ref 18], h, 198, sl) = some R := hh
  obtain ⟨n, hx1, hh⟩ := en_lu (t := g) (f := Ar h 18) (w := (Ar h 18) g) (nI_clamp (by omega)) hw.wt rfl (by decide) rfl (by decide) rfl (fun _ => rfl) hh
  obtain ⟨n, hh⟩ := rn_i rfl rfl rfl rfl hh
  obtain ⟨n, hh⟩ := rn_i rfl rfl rfl rfl hh
  obtain ⟨n, hh⟩ := rn_i rfl rfl rfl rfl hh
  obtain ⟨n, hh⟩ := rn_i rfl rfl rfl rfl hh
  have hh : pm_run PT n fr lo 75 (10, [some (.ref 13), some (.int (nI g)), some (.int (nI c))], [.int ((shr ((Ar h 18) g) (nI c)) &&& (nI 1))], h, 198, sl) = some R := hh
  obtain ⟨n, hh⟩ := en_zn (cc := .eq) (off := 7) (t := 17) (b := pm_cmp .eq ((shr ((Ar h 18) g) (nI c)) &&& (nI 1)) 0) rfl rfl rfl hh
  have hj3 : ∃ mJ, pm_run PT mJ fr lo 75 (cond (pm_cmp .eq ((shr ((Ar h 18) g) (nI c)) &&& (nI 1)) 0) (18, [some (.ref 13), some (.int (nI g)), some (.int (nI c))], [.int (nI 0)], h, 198, sl) (18, [some (.ref 13), some (.int (nI g)), some (.int (nI c))], [.int (nI 1)], h, 198, sl)) = some R := en_J (fun z2 => by
      have hh := en_t z2 hh
      have hh : pm_run PT n fr lo 75 (17, [some (.ref 13), some (.int (nI g)), some (.int (nI c))], [], h, 198, sl) = some R := hh
      obtain ⟨n, hh⟩ := rn_i rfl rfl rfl rfl hh
      exact ⟨n, hh⟩) (fun z2 => by
      have hh := en_f z2 hh
      have hh : pm_run PT n fr lo 75 (13, [some (.ref 13), some (.int (nI g)), some (.int (nI c))], [], h, 198, sl) = some R := hh
      obtain ⟨n, hh⟩ := rn_i rfl rfl rfl rfl hh
      obtain ⟨n, hh⟩ := rn_i rfl rfl rfl rfl hh
      exact ⟨n, hh⟩)
  obtain ⟨n, hh⟩ := hj3
  rw [show (cond (pm_cmp .eq ((shr ((Ar h 18) g) (nI c)) &&& (nI 1)) 0) (18, [some (.ref 13), some (.int (nI g)), some (.int (nI c))], [.int (nI 0)], h, 198, sl) (18, [some (.ref 13), some (.int (nI g)), some (.int (nI c))], [.int (nI 1)], h, 198, sl) : pm_St) = (18, [some (.ref 13), some (.int (nI g)), some (.int (nI c))], [.int (cond (cond (pm_cmp .eq ((shr ((Ar h 18) g) (nI c)) &&& (nI 1)) 0) false true) 1 0)], h, 198, sl) from by cases (pm_cmp .eq ((shr ((Ar h 18) g) (nI c)) &&& (nI 1)) 0) <;> rfl] at hh
  have hh : pm_run PT n fr lo 75 (18, [some (.ref 13), some (.int (nI g)), some (.int (nI c))], [.int (cond (cond (pm_cmp .eq ((shr ((Ar h 18) g) (nI c)) &&& (nI 1)) 0) false true) 1 0)], h, 198, sl) = some R := hh
  have er4 : R = (some (.int (cond (cond (pm_cmp .eq ((shr ((Ar h 18) g) (nI c)) &&& (nI 1)) 0) false true) 1 0)), h, 198, sl) := (rn_ret rfl (Or.inr rfl) hh).2
  have ed : v75 q cc gc (Ar h 18) g c = cond (pm_cmp .eq ((shr ((Ar h 18) g) (nI c)) &&& (nI 1)) 0) false true := rfl
  rw [ed]
  exact er4
theorem v74t_ok {n fr lo sl cc gc : Nat} {q : QT} {h : pm_H} {R : pm_Rs} {g : Nat} (hw : HC q cc gc h) (h_g : g < 10000) (hh : pm_run PT n fr lo 74 (0, pm_l0 [.ref 19, .int (nI g)] 2, [], h, 198, sl) = some R) : R = (some (.int (cond (v74 q cc gc (Fi h 19 5) g) 1 0)), h, 198, sl) := by
  have hcc := hw.cb
  have hgc := hw.gb
  have hzr := hw.zr
  obtain ⟨n, hh⟩ := rn_i rfl rfl rfl rfl hh
  have hh : pm_run PT n fr lo 74 (1, [some (.ref 19), some (.int (nI g))], [.ref 19], h, 198, sl) = some R := hh
  obtain ⟨n, hh⟩ := rn_gi (x := Fi h 19 5) hw.wt rfl rfl (by decide) rfl (by decide) rfl rfl hh
  obtain ⟨n, hh⟩ := rn_i rfl rfl rfl rfl hh
  obtain ⟨n, hh⟩ := rn_i rfl rfl rfl rfl hh
  obtain ⟨n, hh⟩ := rn_i rfl rfl rfl rfl hh
  obtain ⟨n, hh⟩ := rn_i rfl rfl rfl rfl hh
  have hh : pm_run PT n fr lo 74 (8, [some (.ref 19), some (.int (nI g))], [.int ((shr (Fi h 19 5) (nI g)) &&& (nI 1))], h, 198, sl) = some R := hh
  obtain ⟨n, hh⟩ := en_zn (cc := .eq) (off := 7) (t := 15) (b := pm_cmp .eq ((shr (Fi h 19 5) (nI g)) &&& (nI 1)) 0) rfl rfl rfl hh
  have hj2 : ∃ mJ, pm_run PT mJ fr lo 74 (cond (pm_cmp .eq ((shr (Fi h 19 5) (nI g)) &&& (nI 1)) 0) (16, [some (.ref 19), some (.int (nI g))], [.int (nI 0)], h, 198, sl) (16, [some (.ref 19), some (.int (nI g))], [.int (nI 1)], h, 198, sl)) = some R := en_J (fun z1 => by
      have hh := en_t z1 hh
      have hh : pm_run PT n fr lo 74 (15, [some (.ref 19), some (.int (nI g))], [], h, 198, sl) = some R := hh
      obtain ⟨n, hh⟩ := rn_i rfl rfl rfl rfl hh
      exact ⟨n, hh⟩) (fun z1 => by
      have hh := en_f z1 hh
      have hh : pm_run PT n fr lo 74 (11, [some (.ref 19), some (.int (nI g))], [], h, 198, sl) = some R := hh
      obtain ⟨n, hh⟩ := rn_i rfl rfl rfl rfl hh
      obtain ⟨n, hh⟩ := rn_i rfl rfl rfl rfl hh
      exact ⟨n, hh⟩)
  obtain ⟨n, hh⟩ := hj2
  rw [show (cond (pm_cmp .eq ((shr (Fi h 19 5) (nI g)) &&& (nI 1)) 0) (16, [some (.ref 19), some (.int (nI g))], [.int (nI 0)], h, 198, sl) (16, [some (.ref 19), some (.int (nI g))], [.int (nI 1)], h, 198, sl) : pm_St) = (16, [some (.ref 19), some (.int (nI g))], [.int (cond (cond (pm_cmp .eq ((shr (Fi h 19 5) (nI g)) &&& (nI 1)) 0) false true) 1 0)], h, 198, sl) from by cases (pm_cmp .eq ((shr (Fi h 19 5) (nI g)) &&& (nI 1)) 0) <;> rfl] at hh
  have hh : pm_run PT n fr lo 74 (16, [some (.ref 19), some (.int (nI g))], [.int (cond (cond (pm_cmp .eq ((shr (Fi h 19 5) (nI g)) &&& (nI 1)) 0) false true) 1 0)], h, 198, sl) = some R := hh
  have er3 : R = (some (.int (cond (cond (pm_cmp .eq ((shr (Fi h 19 5) (nI g)) &&& (nI 1)) 0) false true) 1 0)), h, 198, sl) := (rn_ret rfl (Or.inr rfl) hh).2
  have ed : v74 q cc gc (Fi h 19 5) g = cond (pm_cmp .eq ((shr (Fi h 19 5) (nI g)) &&& (nI 1)) 0) false true := rfl
  rw [ed]
  exact er3
theorem v75t_ok {n fr lo sl cc gc : Nat} {q : QT} {h : pm_H} {R : pm_Rs} {g : Nat} {c : Nat} (hw : HC q cc gc h) (h_g : g < 10000) (h_c : c < 10000) (hh : pm_run PT n fr lo 75 (0, pm_l0 [.ref 19, .int (nI g), .int (nI c)] 3, [], h, 198, sl) = some R) : R = (some (.int (cond (v75 q cc gc (Ar h 24) g c) 1 0)), h, 198, sl) := by
  have hcc := hw.cb
  have hgc := hw.gb
  have hzr := hw.zr
  obtain ⟨n, hh⟩ := rn_i rfl rfl rfl rfl hh
  have hh : pm_run PT n fr lo 75 (1, [some (.ref 19), some (.int (nI g)), some (.int (nI c))], [.ref 19], h, 198, sl) = some R := hh
  obtain ⟨n, hh⟩ := rn_gr hw.wt rfl rfl (by decide) rfl (by decide) (show _ = some (2, ((24 : Nat) : Int), 1) from rfl) rfl hh
  obtain ⟨n, hh⟩ := rn_i rfl rfl rfl rfl hh
  have hh : pm_run PT n fr lo 75 (5, [some (.ref 19), some (.int (nI g)), some (.int (nI c))], [.int (nI g), .ref 24], h, 198, sl) = some R := hh
  obtain ⟨n, hx1, hh⟩ := en_lu (t := g) (f := Ar h 24) (w := (Ar h 24) g) (nI_clamp (by omega)) hw.wt rfl (by decide) rfl (by decide) rfl (fun _ => rfl) hh
  obtain ⟨n, hh⟩ := rn_i rfl rfl rfl rfl hh
  obtain ⟨n, hh⟩ := rn_i rfl rfl rfl rfl hh
  obtain ⟨n, hh⟩ := rn_i rfl rfl rfl rfl hh
  obtain ⟨n, hh⟩ := rn_i rfl rfl rfl rfl hh
  have hh : pm_run PT n fr lo 75 (10, [some (.ref 19), some (.int (nI g)), some (.int (nI c))], [.int ((shr ((Ar h 24) g) (nI c)) &&& (nI 1))], h, 198, sl) = some R := hh
  obtain ⟨n, hh⟩ := en_zn (cc := .eq) (off := 7) (t := 17) (b := pm_cmp .eq ((shr ((Ar h 24) g) (nI c)) &&& (nI 1)) 0) rfl rfl rfl hh
  have hj3 : ∃ mJ, pm_run PT mJ fr lo 75 (cond (pm_cmp .eq ((shr ((Ar h 24) g) (nI c)) &&& (nI 1)) 0) (18, [some (.ref 19), some (.int (nI g)), some (.int (nI c))], [.int (nI 0)], h, 198, sl) (18, [some (.ref 19), some (.int (nI g)), some (.int (nI c))], [.int (nI 1)], h, 198, sl)) = some R := en_J (fun z2 => by
      have hh := en_t z2 hh
      have hh : pm_run PT n fr lo 75 (17, [some (.ref 19), some (.int (nI g)), some (.int (nI c))], [], h, 198, sl) = some R := hh
      obtain ⟨n, hh⟩ := rn_i rfl rfl rfl rfl hh
      exact ⟨n, hh⟩) (fun z2 => by
      have hh := en_f z2 hh
      have hh : pm_run PT n fr lo 75 (13, [some (.ref 19), some (.int (nI g)), some (.int (nI c))], [], h, 198, sl) = some R := hh
      obtain ⟨n, hh⟩ := rn_i rfl rfl rfl rfl hh
      obtain ⟨n, hh⟩ := rn_i rfl rfl rfl rfl hh
      exact ⟨n, hh⟩)
  obtain ⟨n, hh⟩ := hj3
  rw [show (cond (pm_cmp .eq ((shr ((Ar h 24) g) (nI c)) &&& (nI 1)) 0) (18, [some (.ref 19), some (.int (nI g)), some (.int (nI c))], [.int (nI 0)], h, 198, sl) (18, [some (.ref 19), some (.int (nI g)), some (.int (nI c))], [.int (nI 1)], h, 198, sl) : pm_St) = (18, [some (.ref 19), some (.int (nI g)), some (.int (nI c))], [.int (cond (cond (pm_cmp .eq ((shr ((Ar h 24) g) (nI c)) &&& (nI 1)) 0) false true) 1 0)], h, 198, sl) from by cases (pm_cmp .eq ((shr ((Ar h 24) g) (nI c)) &&& (nI 1)) 0) <;> rfl] at hh
  have hh : pm_run PT n fr lo 75 (18, [some (.ref 19), some (.int (nI g)), some (.int (nI c))], [.int (cond (cond (pm_cmp .eq ((shr ((Ar h 24) g) (nI c)) &&& (nI 1)) 0) false true) 1 0)], h, 198, sl) = some R := hh
  have er4 : R = (some (.int (cond (cond (pm_cmp .eq ((shr ((Ar h 24) g) (nI c)) &&& (nI 1)) 0) false true) 1 0)), h, 198, sl) := (rn_ret rfl (Or.inr rfl) hh).2
  have ed : v75 q cc gc (Ar h 24) g c = cond (pm_cmp .eq ((shr ((Ar h 24) g) (nI c)) &&& (nI 1)) 0) false true := rfl
  rw [ed]
  exact er4
def v29_5b (q : QT) (cc gc : Nat) (d0 : Nat → Int32) (m2 : Nat) (i : Nat) (x3 : Int32) : Int32 := cond (pm_cmp .ne ((d0) i) (nI m2)) x3 (x3 ||| (shl (nI 1) (nI i)))
def v29_5 (q : QT) (cc gc : Nat) (d0 : Nat → Int32) (m2 : Nat) (j i : Nat) (a : Int32) : Int32 := lp (fun i a => v29_5b q cc gc d0 m2 i a) j i a
def v29 (q : QT) (cc gc : Nat) (d0 : Nat → Int32) (c : Nat) : Int32 := (v29_5 q cc gc (d0) c gc 0 (nI 0))
def v36_4b (q : QT) (cc gc : Nat) (d0 : Nat → Int32) (i : Nat) (x2 : Int32) : Int32 := x2 + ((d0) i)
def v36_4 (q : QT) (cc gc : Nat) (d0 : Nat → Int32) (j i : Nat) (a : Int32) : Int32 := lp (fun i a => v36_4b q cc gc d0 i a) j i a
theorem v36_4_e {n fr lo sl cc gc : Nat} {q : QT} {h : pm_H} {R : pm_Rs} {i : Nat} {x2 : Int32} (hw : HC q cc gc h) (hi : cc ≤ i) (hI : i < 1000000) (hh : pm_run PT n fr lo 36 (4, [some (.ref 5), some (.ref 13), some (.int x2), some (.int (nI i))], [], h, 198, sl) = some R) : ∃ m, pm_run PT m fr lo 36 (27, [some (.ref 5), some (.ref 13), some (.int x2), some (.int (nI i))], [], h, 198, sl) = some R := by
  have hcc := hw.cb
  have hgc := hw.gb
  have hzr := hw.zr
  obtain ⟨n, hh⟩ := rn_i rfl rfl rfl rfl hh
  obtain ⟨n, hh⟩ := rn_i rfl rfl rfl rfl hh
  have hh : pm_run PT n fr lo 36 (6, [some (.ref 5), some (.ref 13), some (.int x2), some (.int (nI i))], [.ref 5, .int (nI i)], h, 198, sl) = some R := hh
  obtain ⟨n, hh⟩ := rn_gi (x := nI cc) hw.wt rfl rfl (by decide) rfl (by decide) rfl hw.x0 hh
  have hh : pm_run PT n fr lo 36 (9, [some (.ref 5), some (.ref 13), some (.int x2), some (.int (nI i))], [.int (nI cc), .int (nI i)], h, 198, sl) = some R := hh
  obtain ⟨n, hh⟩ := en_cn (cc := .ge) (off := 18) (t := 27) (b := decide (cc ≤ i)) (hI_ge (by omega) (by omega)) rfl rfl hh
  have hh := en_t (show decide (cc ≤ i) = true from decide_eq_true (by omega)) hh
  have hh : pm_run PT n fr lo 36 (27, [some (.ref 5), some (.ref 13), some (.int x2), some (.int (nI i))], [], h, 198, sl) = some R := hh
  exact ⟨n, hh⟩
theorem v36_4_s {n fr lo sl cc gc : Nat} {q : QT} {h : pm_H} {R : pm_Rs} {i : Nat} {x2 : Int32} (hw : HC q cc gc h) (hi : i < cc) (hI : i < 1000000) (hh : pm_run PT n fr lo 36 (4, [some (.ref 5), some (.ref 13), some (.int x2), some (.int (nI i))], [], h, 198, sl) = some R) : ∃ m, pm_run PT m fr lo 36 (4, [some (.ref 5), some (.ref 13), some (.int (v36_4b q cc gc (Ar h 14) i x2)), some (.int (nI (i + 1)))], [], h, 198, sl) = some R := by
  have hcc := hw.cb
  have hgc := hw.gb
  have hzr := hw.zr
  obtain ⟨n, hh⟩ := rn_i rfl rfl rfl rfl hh
  obtain ⟨n, hh⟩ := rn_i rfl rfl rfl rfl hh
  have hh : pm_run PT n fr lo 36 (6, [some (.ref 5), some (.ref 13), some (.int x2), some (.int (nI i))], [.ref 5, .int (nI i)], h, 198, sl) = some R := hh
  obtain ⟨n, hh⟩ := rn_gi (x := nI cc) hw.wt rfl rfl (by decide) rfl (by decide) rfl hw.x0 hh
  have hh : pm_run PT n fr lo 36 (9, [some (.ref 5), some (.ref 13), some (.int x2), some (.int (nI i))], [.int (nI cc), .int (nI i)], h, 198, sl) = some R := hh
  obtain ⟨n, hh⟩ := en_cn (cc := .ge) (off := 18) (t := 27) (b := decide (cc ≤ i)) (hI_ge (by omega) (by omega)) rfl rfl hh
  have hh := en_f (show decide (cc ≤ i) = false from decide_eq_false (by omega)) hh
  have hh : pm_run PT n fr lo 36 (12, [some (.ref 5), some (.ref 13), some (.int x2), some (.int (nI i))], [], h, 198, sl) = some R := hh
  obtain ⟨n, hh⟩ := rn_i rfl rfl rfl rfl hh
  obtain ⟨n, hh⟩ := rn_i rfl rfl rfl rfl hh
  have hh : pm_run PT n fr lo 36 (14, [some (.ref 5), some (.ref 13), some (.int x2), some (.int (nI i))], [.ref 13, .int x2], h, 198, sl) = some R := hh
  obtain ⟨n, hh⟩ := rn_gr hw.wt rfl rfl (by decide) rfl (by decide) (show _ = some (2, ((14 : Nat) : Int), 1) from rfl) rfl hh
  obtain ⟨n, hh⟩ := rn_i rfl rfl rfl rfl hh
  have hh : pm_run PT n fr lo 36 (18, [some (.ref 5), some (.ref 13), some (.int x2), some (.int (nI i))], [.int (nI i), .ref 14, .int x2], h, 198, sl) = some R := hh
  obtain ⟨n, hx1, hh⟩ := en_lu (t := i) (f := Ar h 14) (w := (Ar h 14) i) (nI_clamp (by omega)) hw.wt rfl (by decide) rfl (by decide) rfl (fun _ => rfl) hh
  obtain ⟨n, hh⟩ := rn_i rfl rfl rfl rfl hh
  obtain ⟨n, hh⟩ := rn_i rfl rfl rfl rfl hh
  have hh : pm_run PT n fr lo 36 (21, [some (.ref 5), some (.ref 13), some (.int (x2 + ((Ar h 14) i))), some (.int (nI i))], [], h, 198, sl) = some R := hh
  obtain ⟨n, hh⟩ := en_inc (x := i) (c := 1) (j := 3) rfl rfl (by decide) hh
  have hh : pm_run PT n fr lo 36 (24, [some (.ref 5), some (.ref 13), some (.int (x2 + ((Ar h 14) i))), some (.int (nI (i + 1)))], [], h, 198, sl) = some R := hh
  obtain ⟨n, hh⟩ := rn_i rfl rfl rfl rfl hh
  have ed : v36_4b q cc gc (Ar h 14) i x2 = x2 + ((Ar h 14) i) := rfl
  rw [ed]
  exact ⟨n, hh⟩
theorem v36_4_ok {fr lo sl cc gc : Nat} {q : QT} {R : pm_Rs} : ∀ {j i : Nat} {x2 : Int32} {h : pm_H} {n : Nat}, cc - i = j → i + j < 1000000 → HC q cc gc h → pm_run PT n fr lo 36 (4, [some (.ref 5), some (.ref 13), some (.int x2), some (.int (nI i))], [], h, 198, sl) = some R → ∃ m wc, pm_run PT m fr lo 36 (27, [some (.ref 5), some (.ref 13), some (.int (v36_4 q cc gc (Ar h 14) j i x2)), wc], [], h, 198, sl) = some R := by
  intro j
  induction j with
  | zero =>
    intro i x2 h n e eI hw hh
    obtain ⟨n, hh⟩ := v36_4_e hw (by omega) (by omega) hh
    exact ⟨n, _, hh⟩
  | succ j ih =>
    intro i x2 h n e eI hw hh
    obtain ⟨n, hh⟩ := v36_4_s hw (by omega) (by omega) hh
    obtain ⟨n, wc, hh⟩ := ih (by omega) (by omega) hw hh
    exact ⟨n, wc, hh⟩
def v36 (q : QT) (cc gc : Nat) (d0 : Nat → Int32) : Int32 := (v36_4 q cc gc (d0) cc 0 (nI 0))
theorem v36_ok {n fr lo sl cc gc : Nat} {q : QT} {h : pm_H} {R : pm_Rs} (hw : HC q cc gc h) (hh : pm_run PT n fr lo 36 (0, pm_l0 [.ref 5, .ref 13] 4, [], h, 198, sl) = some R) : R = (some (.int (v36 q cc gc (Ar h 14))), h, 198, sl) := by
  have hcc := hw.cb
  have hgc := hw.gb
  have hzr := hw.zr
  obtain ⟨n, hh⟩ := rn_i rfl rfl rfl rfl hh
  obtain ⟨n, hh⟩ := rn_i rfl rfl rfl rfl hh
  obtain ⟨n, hh⟩ := rn_i rfl rfl rfl rfl hh
  obtain ⟨n, hh⟩ := rn_i rfl rfl rfl rfl hh
  have hh : pm_run PT n fr lo 36 (4, [some (.ref 5), some (.ref 13), some (.int (nI 0)), some (.int (nI 0))], [], h, 198, sl) = some R := hh
  obtain ⟨n, u1, hh⟩ := v36_4_ok  (i := 0) (x2 := (nI 0)) (j := cc) (by omega) (by omega) hw hh
  have hh : pm_run PT n fr lo 36 (27, [some (.ref 5), some (.ref 13), some (.int (v36_4 q cc gc (Ar h 14) cc 0 (nI 0))), u1], [], h, 198, sl) = some R := hh
  obtain ⟨n, hh⟩ := rn_i rfl rfl rfl rfl hh
  have hh : pm_run PT n fr lo 36 (28, [some (.ref 5), some (.ref 13), some (.int (v36_4 q cc gc (Ar h 14) cc 0 (nI 0))), u1], [.int (v36_4 q cc gc (Ar h 14) cc 0 (nI 0))], h, 198, sl) = some R := hh
  have er2 : R = (some (.int (v36_4 q cc gc (Ar h 14) cc 0 (nI 0))), h, 198, sl) := (rn_ret rfl (Or.inl rfl) hh).2
  have ed : v36 q cc gc (Ar h 14) = (v36_4 q cc gc (Ar h 14) cc 0 (nI 0)) := rfl
  rw [ed]
  exact er2
def v37_5b (q : QT) (cc gc : Nat) (d0 : Nat → Int32) (m2 : Nat) (i : Nat) (x3 : Int32) : Int32 := cond (decide (i = m2)) x3 (x3 + ((d0) (i * 6 + m2)))
def v37_5 (q : QT) (cc gc : Nat) (d0 : Nat → Int32) (m2 : Nat) (j i : Nat) (a : Int32) : Int32 := lp (fun i a => v37_5b q cc gc d0 m2 i a) j i a
def v37 (q : QT) (cc gc : Nat) (d0 : Nat → Int32) (c : Nat) : Int32 := (v37_5 q cc gc (d0) c cc 0 (nI 0))
def v7_5b (q : QT) (cc gc : Nat) (d0 : Nat → Int32) (m2 : Nat) (i : Nat) (x3 : Int32) : Int32 := x3 + ((d0) (m2 * 6 + i))
def v7_5 (q : QT) (cc gc : Nat) (d0 : Nat → Int32) (m2 : Nat) (j i : Nat) (a : Int32) : Int32 := lp (fun i a => v7_5b q cc gc d0 m2 i a) j i a
def v7 (q : QT) (cc gc : Nat) (d0 : Nat → Int32) (c : Nat) : Int32 := (v7_5 q cc gc (d0) c cc 0 (nI 0))
def v8_5b (q : QT) (cc gc : Nat) (d0 : Nat → Int32) (m2 : Nat) (i : Nat) (x3 : Int32) : Int32 := x3 + ((d0) (i * 6 + m2))
def v8_5 (q : QT) (cc gc : Nat) (d0 : Nat → Int32) (m2 : Nat) (j i : Nat) (a : Int32) : Int32 := lp (fun i a => v8_5b q cc gc d0 m2 i a) j i a
def v8 (q : QT) (cc gc : Nat) (d0 : Nat → Int32) (c : Nat) : Int32 := (v8_5 q cc gc (d0) c cc 0 (nI 0))
end EA
end MG95zzxax2
