/-! by hand: the model's object (cell 162, class 11), its fields and arrays -/
section HND
variable {k fr lo pc sl : Nat} {L : pm_L} {S r : List Value} {h : pm_H} {Q : pm_Rs → Prop}
theorem ls_of {T : pm_Tab} {sz : Nat} {go : Nat → Nat → Nat → List Value → pm_H → Nat → Nat → Option pm_Rs} {ins : Instr} {len : Nat} (hi : pm_ins T k pc = some (ins, len)) (hl : pm_lenOk ins len = true) (hc : pm_callee T k ins = none) : pm_step T go fr lo k (pc, L, S, h, sz, sl) = pm_simple T fr lo k ins pc L S h sz sl := by
  unfold pm_step
  dsimp only
  rw [hi]
  dsimp only
  rw [if_pos hl, hc]
theorem wp_i {T : pm_Tab} {sz : Nat} {ins : Instr} {len : Nat} {st' : pm_St} (hi : pm_ins T k pc = some (ins, len)) (hl : pm_lenOk ins len = true) (hc : pm_callee T k ins = none) (hs : pm_simple T fr lo k ins pc L S h sz sl = some st') (kk : pm_WP T fr lo k st' Q) : pm_WP T fr lo k (pc, L, S, h, sz, sl) Q := wp_step ((ls_of hi hl hc).trans hs) kk
def mF (h : pm_H) (f : Nat) (v : Value) : Prop := ∃ fs, h 162 = .inr (11, fs) ∧ fs[f]? = some v
def mset (h : pm_H) (f : Nat) (v : Value) : pm_H := match h 162 with
  | .inr (ci, fs) => va_up h 162 (.inr (ci, fs.set f v))
  | _ => h
def aset (h : pm_H) (a n : Nat) (f : Nat → Int32) : pm_H := va_up h a (.inl (0, n, .inl f))
theorem mF_obj {f : Nat} {v : Value} (q : mF h f v) : ∃ fs, h 162 = .inr (11, fs) := by
  obtain ⟨fs, e, -⟩ := q
  exact ⟨fs, e⟩
theorem mF_inj {f : Nat} {v w : Value} (q : mF h f v) (q' : mF h f w) : v = w := by
  obtain ⟨fs, e, e1⟩ := q
  obtain ⟨fs', e', e1'⟩ := q'
  rw [e] at e'
  cases e'
  rw [e1] at e1'
  exact Option.some.inj e1'
theorem mset_of {f : Nat} {v : Value} {fs : List Value} (e : h 162 = .inr (11, fs)) : mset h f v = va_up h 162 (.inr (11, fs.set f v)) := by
  unfold mset
  rw [e]
theorem mF_self {f : Nat} {v w : Value} (q : mF h f w) : mF (mset h f v) f v := by
  obtain ⟨fs, e, e1⟩ := q
  refine ⟨fs.set f v, by rw [mset_of e]; simp [va_up], ?_⟩
  exact List.getElem?_set_self (List.getElem?_eq_some_iff.mp e1).1
theorem mF_ne {f g : Nat} {v w : Value} (hn : f ≠ g) (q : mF h g w) : mF (mset h f v) g w := by
  obtain ⟨fs, e, e1⟩ := q
  exact ⟨fs.set f v, by rw [mset_of e]; simp [va_up], by rw [List.getElem?_set_ne hn]; exact e1⟩
theorem mF_as {a n g : Nat} {f : Nat → Int32} {w : Value} (hn : 162 ≠ a) (q : mF h g w) : mF (aset h a n f) g w := by
  obtain ⟨fs, e, e1⟩ := q
  exact ⟨fs, by unfold aset; simp [va_up, hn, e], e1⟩
theorem mset_ne {f i : Nat} {v : Value} (hn : i ≠ 162) : mset h f v i = h i := by
  unfold mset
  cases e : h 162 with
  | inl a => rfl
  | inr o => obtain ⟨ci, fs⟩ := o; simp [va_up, hn]
theorem mset_arr {f a n : Nat} {v : Value} {g : Nat → Int32} (hn : a ≠ 162) (q : h a = .inl (0, n, .inl g)) : mset h f v a = .inl (0, n, .inl g) := by
  rw [mset_ne hn]
  exact q
theorem aset_self (h : pm_H) (a n : Nat) (f : Nat → Int32) : aset h a n f a = .inl (0, n, .inl f) := by simp [aset, va_up]
theorem aset_ne {a b n m : Nat} {f g : Nat → Int32} (hn : b ≠ a) (q : h b = .inl (0, m, .inl g)) : aset h a n f b = .inl (0, m, .inl g) := by simp [aset, va_up, hn, q]
theorem aset_nei {a b n : Nat} {f : Nat → Int32} (hn : b ≠ a) : aset h a n f b = h b := by simp [aset, va_up, hn]
theorem aset_aset {a n : Nat} {f g : Nat → Int32} : aset (aset h a n f) a n g = aset h a n g := by
  unfold aset
  funext i
  by_cases e : i = a <;> simp [va_up, e]
theorem set_same {fs : List Value} {f : Nat} {v : Value} (e : fs[f]? = some v) : fs.set f v = fs := by
  apply List.ext_getElem?
  intro i
  by_cases hi : f = i
  · subst hi
    rw [List.getElem?_set_self (List.getElem?_eq_some_iff.mp e).1, e]
  · rw [List.getElem?_set_ne hi]
theorem mset_same {f : Nat} {v : Value} (q : mF h f v) : mset h f v = h := by
  obtain ⟨fs, e, e1⟩ := q
  rw [mset_of e]
  funext i
  by_cases hi : i = 162
  · subst hi
    simp only [va_up, if_pos]
    rw [e, set_same e1]
  · simp [va_up, hi]
theorem mset_mset {f : Nat} {v w : Value} : mset (mset h f v) f w = mset h f w := by
  cases e : h 162 with
  | inl a => simp [mset, e]
  | inr o =>
    obtain ⟨ci, fs⟩ := o
    have e1 : mset h f v = va_up h 162 (.inr (ci, fs.set f v)) := by unfold mset; rw [e]
    rw [e1]
    unfold mset
    rw [e]
    simp only [va_up, if_pos, List.set_set]
    funext i
    by_cases hi : i = 162 <;> simp [va_up, hi]
theorem wp_gfm {j f t : Nat} {v : Value} (hi : pm_ins PT k pc = some (.getfield j, 3)) (hf : pm_fld PT (pm_o PT k) j = some (11, f, t)) (hm : mF h f v) (kk : pm_WP PT fr lo k (pc + 3, L, v :: r, h, 198, sl) Q) : pm_WP PT fr lo k (pc, L, .ref 162 :: r, h, 198, sl) Q := by
  obtain ⟨fs, e, e1⟩ := hm
  refine wp_i hi rfl rfl ?_ kk
  show pm_gf PT k j pc L (.ref 162 :: r) h 198 sl = _
  unfold pm_gf pm_obj
  dsimp only
  rw [if_pos (by decide), e]
  dsimp only
  rw [hf]
  dsimp only
  rw [if_pos rfl, e1]
theorem wp_pfm {j f t : Nat} {v w : Value} (hi : pm_ins PT k pc = some (.putfield j, 3)) (hf : pm_fld PT (pm_o PT k) j = some (11, f, t)) (ht : pm_fits (t % 10) v = true) (ht2 : t < 10) (hm : mF h f w) (kk : pm_WP PT fr lo k (pc + 3, L, r, mset h f v, 198, sl) Q) : pm_WP PT fr lo k (pc, L, v :: .ref 162 :: r, h, 198, sl) Q := by
  obtain ⟨fs, e, e1⟩ := hm
  rw [mset_of e] at kk
  refine wp_i hi rfl rfl ?_ kk
  show pm_pf PT k j pc L (v :: .ref 162 :: r) h 198 sl = _
  unfold pm_pf pm_obj
  dsimp only
  rw [if_pos (by decide), e]
  dsimp only
  rw [hf]
  dsimp only
  rw [if_pos ⟨rfl, (List.getElem?_eq_some_iff.mp e1).1, ht, Or.inl ht2⟩]
theorem pm_iar_m {a n : Nat} {f : Nat → Int32} (ha : h a = .inl (0, n, .inl f)) (hl : a < 198) : pm_iar PT .int h 198 a = some (0, n, f) := by
  unfold pm_iar
  rw [if_pos hl, ha]
  exact if_pos rfl
theorem wp_iam {a n : Nat} {i : Int32} {f : Nat → Int32} (hi : pm_ins PT k pc = some (.iaload, 1)) (ha : h a = .inl (0, n, .inl f)) (hin : pm_in i n = true) (hl : a < 198) (kk : pm_WP PT fr lo k (pc + 1, L, .int (f i.toNatClampNeg) :: r, h, 198, sl) Q) : pm_WP PT fr lo k (pc, L, .int i :: .ref a :: r, h, 198, sl) Q := by
  refine wp_i hi rfl rfl ?_ kk
  show pm_ia PT .int pc L (.int i :: .ref a :: r) h 198 sl = _
  unfold pm_ia
  dsimp only
  rw [pm_iar_m ha hl]
  dsimp only
  rw [if_pos hin]
theorem wp_ism {a n : Nat} {i x : Int32} {f : Nat → Int32} (hi : pm_ins PT k pc = some (.iastore, 1)) (ha : h a = .inl (0, n, .inl f)) (hin : pm_in i n = true) (hl : a < 198) (kk : pm_WP PT fr lo k (pc + 1, L, r, aset h a n (upd f i.toNatClampNeg x), 198, sl) Q) : pm_WP PT fr lo k (pc, L, .int x :: .int i :: .ref a :: r, h, 198, sl) Q := by
  refine wp_i hi rfl rfl ?_ kk
  show pm_iS PT .int (fun x => x) pc L (.int x :: .int i :: .ref a :: r) h 198 sl = _
  unfold pm_iS
  dsimp only
  rw [pm_iar_m ha hl]
  dsimp only
  rw [if_pos hin]
  rfl
theorem wp_callS {T : pm_Tab} {sz t mx j : Nat} {As rest : List Value} (hi : pm_ins T k pc = some (.invokestatic j, 3)) (hm : pm_mlk T (pm_o T k) j = some (2, t)) (hn : pm_na T t = As.length) (hmx : pm_max T t = mx) (hsum : pm_sum rest ≤ 8) (ha : (pm_args As).length ≤ mx) (hf : 1 ≤ fr) (hl : 19 + mx ≤ lo)
    (kk : pm_WP T (fr - 1) (lo - (19 + mx)) t (0, pm_l0 As mx, [], h, sz, sl) (fun r => pm_WP T fr lo k (pc + 3, L, r.1.toList ++ rest, r.2) Q)) : pm_WP T fr lo k (pc, L, As.reverse ++ rest, h, sz, sl) Q := by
  refine wp_call (As := As) (rest := rest) ?_ hmx hf hl kk
  have htk : (As.reverse ++ rest).take As.length = As.reverse := by rw [← List.length_reverse, List.take_left']; rfl
  have hdr : (As.reverse ++ rest).drop As.length = rest := by rw [← List.length_reverse, List.drop_left']; rfl
  unfold pm_cd
  dsimp only
  rw [hi]
  dsimp only
  have hcal : pm_callee T k (.invokestatic j) = some (2, t) := by
    unfold pm_callee
    dsimp only
    rw [hm]
    rfl
  rw [if_pos (show pm_lenOk (Instr.invokestatic j) 3 = true from rfl), hcal]
  dsimp only
  rw [hn, htk, hdr, List.reverse_reverse, hmx]
  refine if_pos ⟨?_, ?_, hsum, ha⟩
  · rw [List.length_append, List.length_reverse]
    omega
  · unfold pm_rcv
    rw [if_pos (Or.inl rfl)]
/-- a method of the model's object -/
theorem wp_callM {t mx j : Nat} {As rest : List Value} (hi : pm_ins PT k pc = some (.invokevirtual j, 3)) (hm : pm_mlk PT (pm_o PT k) j = some (0, t)) (hn : pm_na PT t = As.length + 1) (hmx : pm_max PT t = mx) (hsum : pm_sum rest ≤ 8) (ha : (pm_args (.ref 162 :: As)).length ≤ mx) (hf : 1 ≤ fr) (hl : 19 + mx ≤ lo) (hci : pm_ci PT t = 11) (ho : ∃ fs, h 162 = .inr (11, fs))
    (kk : pm_WP PT (fr - 1) (lo - (19 + mx)) t (0, pm_l0 (.ref 162 :: As) mx, [], h, 198, sl) (fun r => pm_WP PT fr lo k (pc + 3, L, r.1.toList ++ rest, r.2) Q)) : pm_WP PT fr lo k (pc, L, As.reverse ++ .ref 162 :: rest, h, 198, sl) Q := by
  refine wp_call (As := .ref 162 :: As) (rest := rest) ?_ hmx hf hl kk
  have hS : As.reverse ++ Value.ref 162 :: rest = (Value.ref 162 :: As).reverse ++ rest := by simp
  have hn' : pm_na PT t = (Value.ref 162 :: As).length := by simp [hn]
  rw [hS]
  generalize hA : (Value.ref 162 :: As) = A1 at hn' ha ⊢
  have htk : (A1.reverse ++ rest).take A1.length = A1.reverse := by rw [← List.length_reverse, List.take_left']; rfl
  have hdr : (A1.reverse ++ rest).drop A1.length = rest := by rw [← List.length_reverse, List.drop_left']; rfl
  unfold pm_cd
  dsimp only
  rw [hi]
  dsimp only
  have hcal : pm_callee PT k (.invokevirtual j) = some (0, t) := by
    unfold pm_callee
    dsimp only
    rw [hm]
    rfl
  rw [if_pos (show pm_lenOk (Instr.invokevirtual j) 3 = true from rfl), hcal]
  dsimp only
  rw [hn', htk, hdr, List.reverse_reverse, hmx]
  refine if_pos ⟨?_, ?_, hsum, ha⟩
  · rw [List.length_append, List.length_reverse]
    omega
  · rw [← hA]
    unfold pm_rcv
    rw [if_neg (by omega)]
    obtain ⟨fs, e⟩ := ho
    dsimp only [pm_obj]
    rw [if_pos (by decide), e]
    dsimp only
    rw [hci]
    rfl
theorem wp_iret {T : pm_Tab} {sz : Nat} {v : Int32} (hi : pm_ins T k pc = some (.ireturn, 1)) (hr : pm_ret T k = some .int) (hq : Q (some (.int v), h, sz, sl)) : pm_WP T fr lo k (pc, L, [.int v], h, sz, sl) Q := by
  refine wp_end (r := (some (.int v), h, sz, sl)) ?_ hq
  unfold pm_end
  dsimp only
  rw [hi]
  dsimp only [pm_lenOk, pm_rets]
  rw [hr]
  rfl
theorem wp_lret {T : pm_Tab} {sz : Nat} {v : Int64} (hi : pm_ins T k pc = some (.lreturn, 1)) (hr : pm_ret T k = some .long) (hq : Q (some (.long v), h, sz, sl)) : pm_WP T fr lo k (pc, L, [.long v], h, sz, sl) Q := by
  refine wp_end (r := (some (.long v), h, sz, sl)) ?_ hq
  unfold pm_end
  dsimp only
  rw [hi]
  dsimp only [pm_lenOk, pm_rets]
  rw [hr]
  rfl
theorem wp_vret {T : pm_Tab} {sz : Nat} (hi : pm_ins T k pc = some (.return_, 1)) (hr : pm_ret T k = none) (hq : Q (none, h, sz, sl)) : pm_WP T fr lo k (pc, L, [], h, sz, sl) Q := by
  refine wp_end (r := (none, h, sz, sl)) ?_ hq
  unfold pm_end
  dsimp only
  rw [hi]
  dsimp only [pm_lenOk, pm_rets]
  rw [hr]
  rfl
theorem wp_zret {T : pm_Tab} {sz : Nat} {v : Int32} (hi : pm_ins T k pc = some (.ireturn, 1)) (hr : pm_ret T k = some .boolean) (hv : v = 0 ∨ v = 1) (hq : Q (some (.int v), h, sz, sl)) : pm_WP T fr lo k (pc, L, [.int v], h, sz, sl) Q := by
  refine wp_end (r := (some (.int v), h, sz, sl)) ?_ hq
  unfold pm_end
  dsimp only
  rw [hi]
  dsimp only [pm_lenOk, pm_rets]
  rw [hr]
  dsimp only
  rw [if_pos hv]
  rfl
theorem rs_t {c : Jvm.ClassFile.Cond} {x y : Int32} {P : Prop} [d : Decidable P] (e : pm_cmp c x y = decide P) : (pm_cmp c x y = true → P) ∧ (pm_cmp c x y = false → ¬ P) := by
  rw [e]
  exact ⟨of_decide_eq_true, of_decide_eq_false⟩
end HND
/-! numbers -/
section NUM
theorem hI_mul (a b : Nat) : nI a * nI b = nI (a * b) := (Int32.ofNat_mul a b).symm
theorem hI_in {a n : Nat} (h : a < n) (hn : n < 2 ^ 31) : pm_in (nI a) n = true := decide_eq_true (nI_in h hn)
theorem hI_eq {a b : Nat} (ha : a < 2 ^ 31) (hb : b < 2 ^ 31) : pm_cmp .eq (nI a) (nI b) = decide (a = b) := by simp only [pm_cmp]; rw [decide_eq_decide]; exact nI_eq ha hb
theorem hI_ne {a b : Nat} (ha : a < 2 ^ 31) (hb : b < 2 ^ 31) : pm_cmp .ne (nI a) (nI b) = decide (¬ a = b) := by simp only [pm_cmp]; rw [decide_eq_decide]; exact not_congr (nI_eq ha hb)
theorem hI_lt {a b : Nat} (ha : a < 2 ^ 31) (hb : b < 2 ^ 31) : pm_cmp .lt (nI a) (nI b) = decide (a < b) := by simp only [pm_cmp]; rw [decide_eq_decide]; exact nI_ltI ha hb
theorem hI_gt {a b : Nat} (ha : a < 2 ^ 31) (hb : b < 2 ^ 31) : pm_cmp .gt (nI a) (nI b) = decide (b < a) := by simp only [pm_cmp]; rw [decide_eq_decide]; exact nI_ltI hb ha
theorem hI_le {a b : Nat} (ha : a < 2 ^ 31) (hb : b < 2 ^ 31) : pm_cmp .le (nI a) (nI b) = decide (a ≤ b) := by simp only [pm_cmp]; rw [decide_eq_decide]; exact nI_leI ha hb
theorem hI_ge {a b : Nat} (ha : a < 2 ^ 31) (hb : b < 2 ^ 31) : pm_cmp .ge (nI a) (nI b) = decide (b ≤ a) := by simp only [pm_cmp]; rw [decide_eq_decide]; exact nI_leI hb ha
theorem hI_of {x : Int32} (h : 0 ≤ x.toInt) : ∃ n : Nat, x = nI n ∧ n < 2 ^ 31 ∧ x.toInt = n := by
  have h2 := Int32.toInt_lt x
  refine ⟨x.toInt.toNat, ?_, by omega, by omega⟩
  apply Int32.toInt_inj.1
  rw [nI_toInt (by omega)]
  omega
end NUM
/-! what a run changes: the cells C, the fields G of the model's object -/
section DIF
def dD (C G : Nat → Bool) (h h' : pm_H) : Prop := (∀ i, i ≠ 162 → C i = false → h' i = h i) ∧ ∀ fs, h 162 = .inr (11, fs) → ∃ fs', h' 162 = .inr (11, fs') ∧ fs'.length = fs.length ∧ ∀ g, G g = false → fs'[g]? = fs[g]?
variable {C G C' G' : Nat → Bool} {h h' h'' : pm_H}
theorem dD_rf (h : pm_H) : dD C G h h := ⟨fun _ _ _ => rfl, fun fs e => ⟨fs, e, rfl, fun _ _ => rfl⟩⟩
theorem dD_tr (p : dD C G h h') (q : dD C G h' h'') : dD C G h h'' := by
  refine ⟨fun i a b => (q.1 i a b).trans (p.1 i a b), fun fs e => ?_⟩
  obtain ⟨fs1, e1, l1, g1⟩ := p.2 fs e
  obtain ⟨fs2, e2, l2, g2⟩ := q.2 fs1 e1
  exact ⟨fs2, e2, l2.trans l1, fun g hg => (g2 g hg).trans (g1 g hg)⟩
theorem dD_mono (p : dD C G h h') (hC : ∀ i, C' i = false → C i = false) (hG : ∀ i, G' i = false → G i = false) : dD C' G' h h' := by
  refine ⟨fun i a b => p.1 i a (hC i b), fun fs e => ?_⟩
  obtain ⟨fs1, e1, l1, g1⟩ := p.2 fs e
  exact ⟨fs1, e1, l1, fun g hg => g1 g (hG g hg)⟩
theorem dD_set {f : Nat} {v : Value} (hf : G f = true) : dD C G h (mset h f v) := by
  refine ⟨fun i a _ => mset_ne a, fun fs e => ⟨fs.set f v, by rw [mset_of e]; simp [va_up], by simp, fun g hg => ?_⟩⟩
  have : f ≠ g := fun q => by rw [q, hg] at hf; cases hf
  rw [List.getElem?_set_ne this]
theorem dD_arr {a n : Nat} {f : Nat → Int32} (ha : C a = true) (ha2 : 162 ≠ a) : dD C G h (aset h a n f) := by
  refine ⟨fun i _ b => aset_nei (fun q => by rw [q, ha] at b; cases b), fun fs e => ⟨fs, ?_, rfl, fun _ _ => rfl⟩⟩
  rw [aset_nei ha2]
  exact e
theorem dD_mF {f : Nat} {v : Value} (p : dD C G h h') (hf : G f = false) (q : mF h f v) : mF h' f v := by
  obtain ⟨fs, e, e1⟩ := q
  obtain ⟨fs', e', -, g⟩ := p.2 fs e
  exact ⟨fs', e', (g f hf).trans e1⟩
theorem dD_obj (p : dD C G h h') (q : ∃ fs, h 162 = .inr (11, fs)) : ∃ fs, h' 162 = .inr (11, fs) := by
  obtain ⟨fs, e⟩ := q
  obtain ⟨fs', e', -⟩ := p.2 fs e
  exact ⟨fs', e'⟩
/-- the typing is kept -/
theorem dD_ty (hh : ah_ok bB 198 [] h) (p : dD C G h h') (hC : ∀ i, C i = true → i ≠ 162 → i < 198 → ac_ok (h' i) (bB i)) (hG : ∀ g, G g = true → ∀ a, sp_fld bB [] 162 g = some a → ∃ v, mF h' g v ∧ av_ok v a) : ah_ok bB 198 [] h' := by
  intro i hi
  show ac_ok (h' i) (bB i)
  by_cases e : i = 162
  · subst e
    have h0 : ac_ok (h 162) (bB 162) := hh 162 hi
    have hb : ∃ as, bB 162 = .inr (11, as) := ⟨_, rfl⟩
    obtain ⟨as, eb⟩ := hb
    rw [eb] at h0 ⊢
    obtain ⟨fs, ef, hl, hg⟩ := aE_obj h0 (by decide)
    obtain ⟨fs', ef', hl', hg'⟩ := p.2 fs ef
    rw [ef']
    refine ⟨⟨rfl, by decide⟩, hl'.trans hl, fun j v a hv ha => ?_⟩
    cases hq : G j with
    | false => exact hg j v a (by rw [← hg' j hq]; exact hv) ha
    | true =>
      obtain ⟨w, ⟨fs2, e2, e3⟩, hw⟩ := hG j hq a (by unfold sp_fld; rw [show ah_get bB [] 162 = bB 162 from rfl, eb]; exact ha)
      rw [ef'] at e2
      cases e2
      rw [hv] at e3
      cases e3
      exact hw
  · cases hc : C i with
    | false => rw [p.1 i e hc]; exact hh i hi
    | true => exact hC i hc e hi
theorem ty_fld (hh : ah_ok bB 198 [] h) {g : Nat} {a : av} (ha : sp_fld bB [] 162 g = some a) : ∃ v, mF h g v ∧ av_ok v a := by
  have h0 : ac_ok (h 162) (bB 162) := hh 162 (by decide)
  have hb : ∃ as, bB 162 = .inr (11, as) := ⟨_, rfl⟩
  obtain ⟨as, eb⟩ := hb
  rw [eb] at h0
  obtain ⟨fs, ef, hl, hg⟩ := aE_obj h0 (by decide)
  unfold sp_fld at ha
  rw [show ah_get bB [] 162 = bB 162 from rfl, eb] at ha
  have ha : as[g]? = some a := ha
  have hlt : g < fs.length := by have := (List.getElem?_eq_some_iff.mp ha).1; omega
  exact ⟨fs[g], ⟨fs, ef, List.getElem?_eq_getElem hlt⟩, hg g fs[g] a (List.getElem?_eq_getElem hlt) ha⟩
theorem ty_ref (hh : ah_ok bB 198 [] h) {g : Nat} {p : Nat} (ha : sp_fld bB [] 162 g = some (2, (p : Int), 1)) : mF h g (.ref p) := by
  obtain ⟨v, h1, h2⟩ := ty_fld hh ha
  obtain ⟨q, rfl, hq⟩ := av_ref rfl h2
  have : q = p := by simpa [av_ids] using hq
  subst this
  exact h1
theorem ty_int (hh : ah_ok bB 198 [] h) {g : Nat} {l u : Int} (ha : sp_fld bB [] 162 g = some (0, l, u)) : ∃ x : Int32, mF h g (.int x) ∧ l ≤ x.toInt ∧ x.toInt ≤ u := by
  obtain ⟨v, h1, h2⟩ := ty_fld hh ha
  obtain ⟨x, rfl, h3⟩ := av_int rfl h2
  exact ⟨x, h1, h3⟩
/-- a field that holds a number from 0 to u -/
theorem ty_nat (hh : ah_ok bB 198 [] h) {g u : Nat} (ha : sp_fld bB [] 162 g = some (0, 0, (u : Int))) (hu : u < 1000000) : ∃ n : Nat, mF h g (.int (nI n)) ∧ n ≤ u := by
  obtain ⟨x, h1, h2, h3⟩ := ty_int hh ha
  have h4 := Int32.toInt_lt x
  refine ⟨x.toInt.toNat, ?_, by omega⟩
  have : nI x.toInt.toNat = x := by
    apply Int32.toInt_inj.1
    rw [nI_toInt (by omega)]
    omega
  rw [this]
  exact h1
/-- an array of ints, known by one interval -/
theorem ty_arr (hh : ah_ok bB 198 [] h) {i n : Nat} {a : av} (hi : i < 198) (hb : bB i = .inl (0, n, a)) (ha : a.1 = 0) (hn : 0 < n) : ∃ f : Nat → Int32, h i = .inl (0, n, .inl f) ∧ ∀ j, j < n → a.2.1 ≤ (f j).toInt ∧ (f j).toInt ≤ a.2.2 := by
  have h0 : ac_ok (h i) (bB i) := hh i hi
  rw [hb] at h0
  cases e : h i with
  | inr o => rw [e] at h0; obtain ⟨ci, fs⟩ := o; exact h0.elim
  | inl o =>
    rw [e] at h0
    obtain ⟨kd, m, f | f | f | f | f⟩ := o
    · obtain ⟨rfl, rfl, q⟩ := h0
      exact ⟨f, rfl, fun j hj => (q j hj).2⟩
    · obtain ⟨rfl, rfl, q⟩ := h0
      have := (q 0 hn).1
      omega
    · exact h0.elim
    · exact h0.elim
    · obtain ⟨rfl, rfl, q⟩ := h0
      have q := q 0 hn
      unfold aq at q
      rw [if_neg (by omega)] at q
      cases e2 : f 0 with
      | none => rw [e2] at q; have q : a.1 = 3 := q; omega
      | some p => rw [e2] at q; have := q.1; omega
/-- an array of ints, known place by place -/
theorem ty_arrE (hh : ah_ok bB 198 [] h) {i : Nat} {as : List av} (hi : i < 198) (hb : bB i = .inr (1000, as)) : ∃ f : Nat → Int32, h i = .inl (0, as.length, .inl f) ∧ ∀ j a, as[j]? = some a → av_ok (.int (f j)) a := by
  have h0 : ac_ok (h i) (bB i) := hh i hi
  rw [hb] at h0
  cases e : h i with
  | inr o => rw [e] at h0; obtain ⟨ci, fs⟩ := o; have := h0.1.2; have h2 := h0.1.1; omega
  | inl o =>
    rw [e] at h0
    obtain ⟨kd, m, f | f | f | f | f⟩ := o
    · obtain ⟨q1, rfl, q⟩ := h0
      have : kd = 0 := by omega
      subst this
      exact ⟨f, rfl, q⟩
    · exact h0.elim
    · exact h0.elim
    · exact h0.elim
    · exact h0.elim
end DIF
