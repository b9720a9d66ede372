/-! one step of the abstract machine -/
section ABT
/-- what a comparison of intervals is: known, or not -/
def ag_cmp (c : Jvm.ClassFile.Cond) (a b : av) : Option Bool := match c with
  | .eq => if a.2.2 < b.2.1 ∨ b.2.2 < a.2.1 then some false else if a.2.1 = a.2.2 ∧ b.2.1 = b.2.2 ∧ a.2.1 = b.2.1 then some true else none
  | .ne => if a.2.2 < b.2.1 ∨ b.2.2 < a.2.1 then some true else if a.2.1 = a.2.2 ∧ b.2.1 = b.2.2 ∧ a.2.1 = b.2.1 then some false else none
  | .lt => if a.2.2 < b.2.1 then some true else if b.2.2 ≤ a.2.1 then some false else none
  | .ge => if b.2.2 ≤ a.2.1 then some true else if a.2.2 < b.2.1 then some false else none
  | .gt => if b.2.2 < a.2.1 then some true else if a.2.2 ≤ b.2.1 then some false else none
  | .le => if a.2.2 ≤ b.2.1 then some true else if b.2.2 < a.2.1 then some false else none
theorem ag_cmp_ok {c : Jvm.ClassFile.Cond} {a b : av} {r : Bool} {x y : Int32} (h : ag_cmp c a b = some r) (h1 : a.2.1 ≤ x.toInt) (h2 : x.toInt ≤ a.2.2) (h3 : b.2.1 ≤ y.toInt) (h4 : y.toInt ≤ b.2.2) : pm_cmp c x y = r := by
  cases c with
  | eq =>
    unfold ag_cmp at h
    dsimp only at h
    split at h
    · cases h; exact decide_eq_false (fun q => by subst q; omega)
    · split at h
      · cases h; exact decide_eq_true (Int32.toInt_inj.1 (by omega))
      · cases h
  | ne =>
    unfold ag_cmp at h
    dsimp only at h
    split at h
    · cases h; exact decide_eq_true (fun q => by subst q; omega)
    · split at h
      · cases h; exact decide_eq_false (fun q => q (Int32.toInt_inj.1 (by omega)))
      · cases h
  | lt =>
    unfold ag_cmp at h
    dsimp only at h
    split at h
    · cases h; exact decide_eq_true (by rw [Int32.lt_iff_toInt_lt]; omega)
    · split at h
      · cases h; exact decide_eq_false (by rw [Int32.lt_iff_toInt_lt]; omega)
      · cases h
  | ge =>
    unfold ag_cmp at h
    dsimp only at h
    split at h
    · cases h; exact decide_eq_true (by rw [Int32.le_iff_toInt_le]; omega)
    · split at h
      · cases h; exact decide_eq_false (by rw [Int32.le_iff_toInt_le]; omega)
      · cases h
  | gt =>
    unfold ag_cmp at h
    dsimp only at h
    split at h
    · cases h; exact decide_eq_true (by rw [Int32.lt_iff_toInt_lt]; omega)
    · split at h
      · cases h; exact decide_eq_false (by rw [Int32.lt_iff_toInt_lt]; omega)
      · cases h
  | le =>
    unfold ag_cmp at h
    dsimp only at h
    split at h
    · cases h; exact decide_eq_true (by rw [Int32.le_iff_toInt_le]; omega)
    · split at h
      · cases h; exact decide_eq_false (by rw [Int32.le_iff_toInt_le]; omega)
      · cases h
/-! locals -/
def aA_get (A : List (Option av)) (i : Nat) : Option av := match A[i]? with
  | some (some a) => some a
  | _ => none
def aA_cut (A : List (Option av)) (i : Nat) : List (Option av) := match i with
  | 0 => A
  | j + 1 => (match aA_get A j with
    | some a => cond (Nat.beq a.1 1) (A.set j none) A
    | none => A)
def aA_st1 (A : List (Option av)) (i : Nat) (a : av) : List (Option av) := (aA_cut A i).set i (some a)
def aA_st2 (A : List (Option av)) (i : Nat) (a : av) : List (Option av) := ((aA_cut A i).set i (some a)).set (i + 1) none
theorem aA_get_at {A : List (Option av)} {i : Nat} {a : av} (h : aA_get A i = some a) : A[i]? = some (some a) := by
  unfold aA_get at h
  split at h
  · rename_i e; cases h; exact e
  · cases h
theorem al_len_cut (A : List (Option av)) (i : Nat) : (aA_cut A i).length = A.length := by
  unfold aA_cut
  cases i with
  | zero => rfl
  | succ j =>
    dsimp only
    split
    · rename_i a _
      cases Nat.beq a.1 1 <;> simp [cond]
    · rfl
theorem pm_len_cut (L : pm_L) (i : Nat) : (pm_cut L i).length = L.length := by
  unfold pm_cut
  cases i with
  | zero => rfl
  | succ j =>
    dsimp only
    split <;> simp
theorem pm_set_ne {L : pm_L} {i j : Nat} {o : Option Value} (h : j ≠ i) : pm_get (L.set i o) j = pm_get L j := by
  unfold pm_get
  rw [List.getElem?_set_ne (Ne.symm h)]
theorem pm_set_eq {L : pm_L} {i : Nat} {v : Value} (h : i < L.length) : pm_get (L.set i (some v)) i = some v := by
  unfold pm_get
  rw [List.getElem?_set_self h]
theorem al_cut {L : pm_L} {A : List (Option av)} (h : al_ok L A) (i : Nat) : al_ok (pm_cut L i) (aA_cut A i) ∧ ∀ (j : Nat) (a : av), (aA_cut A i)[j]? = some (some a) → A[j]? = some (some a) := by
  have key : ∀ (j : Nat) (a : av), (aA_cut A i)[j]? = some (some a) → A[j]? = some (some a) ∧ ¬ (j + 1 = i ∧ a.1 = 1) := by
    intro j a hj
    unfold aA_cut at hj
    cases i with
    | zero => exact ⟨hj, fun q => by omega⟩
    | succ i =>
      dsimp only at hj
      cases hg : aA_get A i with
      | none =>
        rw [hg] at hj
        refine ⟨hj, fun q => ?_⟩
        have e : j = i := by omega
        subst e
        unfold aA_get at hg
        rw [hj] at hg
        cases hg
      | some a' =>
        rw [hg] at hj
        dsimp only at hj
        cases hb : Nat.beq a'.1 1 with
        | true =>
          rw [hb] at hj
          dsimp only [cond] at hj
          by_cases e : j = i
          · subst e
            rw [List.getElem?_set] at hj
            rw [if_pos rfl] at hj
            split at hj
            · cases hj
            · cases hj
          · rw [List.getElem?_set_ne (Ne.symm e)] at hj
            exact ⟨hj, fun q => e (by omega)⟩
        | false =>
          rw [hb] at hj
          dsimp only [cond] at hj
          refine ⟨hj, fun q => ?_⟩
          have e : j = i := by omega
          subst e
          have h2 := aA_get_at hg
          rw [hj] at h2
          cases h2
          rw [q.2] at hb
          cases hb
  refine ⟨⟨by rw [pm_len_cut, al_len_cut]; exact h.1, fun j a hj => ?_⟩, fun j a hj => (key j a hj).1⟩
  obtain ⟨k1, k2⟩ := key j a hj
  obtain ⟨v, hv, hok⟩ := h.2 j a k1
  refine ⟨v, ?_, hok⟩
  unfold pm_cut
  cases i with
  | zero => exact hv
  | succ i =>
    dsimp only
    by_cases hc : pm_cat2 L i = true
    · rw [if_pos hc]
      by_cases e : j = i
      · subst e
        exfalso
        apply k2
        refine ⟨rfl, ?_⟩
        unfold pm_cat2 at hc
        rw [hv] at hc
        dsimp only at hc
        have h5 := av_cat hok
        rw [h5] at hc
        by_cases q : a.1 = 1
        · exact q
        · rw [if_neg q] at hc; simp at hc
      · rw [pm_set_ne e]; exact hv
    · rw [if_neg hc]; exact hv
theorem al_st1 {L : pm_L} {A : List (Option av)} {i : Nat} {v : Value} {a : av} (h : al_ok L A) (hv : av_ok v a) (hi : i < A.length) : al_ok (pm_st1 L i v) (aA_st1 A i a) := by
  obtain ⟨⟨hl, hc⟩, -⟩ := al_cut h i
  unfold pm_st1 aA_st1
  refine ⟨by simp [hl], fun j a' hj => ?_⟩
  by_cases e : j = i
  · subst e
    rw [List.getElem?_set_self (by rw [al_len_cut]; exact hi)] at hj
    cases hj
    exact ⟨v, pm_set_eq (by rw [hl, al_len_cut]; exact hi), hv⟩
  · rw [List.getElem?_set_ne (Ne.symm e)] at hj
    obtain ⟨w, hw, hok⟩ := hc j a' hj
    exact ⟨w, by rw [pm_set_ne e]; exact hw, hok⟩
theorem al_st2 {L : pm_L} {A : List (Option av)} {i : Nat} {v : Value} {a : av} (h : al_ok L A) (hv : av_ok v a) (hi : i < A.length) : al_ok (pm_st2 L i v) (aA_st2 A i a) := by
  have h1 := al_st1 h hv hi
  unfold pm_st1 aA_st1 at h1
  unfold pm_st2 aA_st2
  refine ⟨by have h2 := h1.1; simp only [List.length_set] at h2 ⊢; exact h2, fun j a' hj => ?_⟩
  by_cases e : j = i + 1
  · subst e
    rw [List.getElem?_set, if_pos rfl] at hj
    split at hj
    · cases hj
    · cases hj
  · rw [List.getElem?_set_ne (Ne.symm e)] at hj
    obtain ⟨w, hw, hok⟩ := h1.2 j a' hj
    exact ⟨w, by rw [pm_set_ne e]; exact hw, hok⟩
theorem al_get {L : pm_L} {A : List (Option av)} (h : al_ok L A) {i : Nat} {a : av} (hi : aA_get A i = some a) : ∃ v, pm_get L i = some v ∧ av_ok v a := h.2 i a (aA_get_at hi)
/-! cells that are changed -/
theorem ah_weak_mono {B : Nat → ac} {f : ac → Option ac} {sz : Nat} {h : pm_H} : ∀ {is : List Nat} {o o' : ah}, ah_weak B f is o = some o' → ah_ok B sz o h → ah_ok B sz o' h
  | [], o, o', e, q => by cases (Option.some.inj e : o = o'); exact q
  | i :: r, o, o', e, q => by
    unfold ah_weak at e
    split at e
    · rename_i c e1
      split at e
      · rename_i d e2
        refine ah_weak_mono e (fun j hj => ?_)
        rw [ah_put_get]
        by_cases ej : j = i
        · rw [if_pos ej, ej]
          exact (ac_join_ok e2).1 (ej ▸ q j hj)
        · rw [if_neg ej]; exact q j hj
      · cases e
    · cases e
theorem ah_weak_ok {B : Nat → ac} {f : ac → Option ac} {sz : Nat} {h : pm_H} {p : Nat} {x : pm_E} (hp : p < sz) (hf : ∀ c c', f c = some c' → ac_ok (h p) c → ac_ok x c') : ∀ {is : List Nat} {o o' : ah}, ah_weak B f is o = some o' → p ∈ is → ah_ok B sz o h → ah_ok B sz o' (va_up h p x)
  | [], o, o', e, hm, q => by simp at hm
  | i :: r, o, o', e, hm, q => by
    unfold ah_weak at e
    split at e
    · rename_i c e1
      split at e
      · rename_i d e2
        by_cases ei : p = i
        · subst ei
          refine ah_weak_mono e (fun j hj => ?_)
          rw [ah_put_get]
          unfold va_up
          by_cases ej : j = p
          · rw [if_pos ej, if_pos ej]
            exact (ac_join_ok e2).2 (hf _ _ e1 (q p hp))
          · rw [if_neg ej, if_neg ej]; exact q j hj
        · refine ah_weak_ok hp hf e ((List.mem_cons.mp hm).resolve_left ei) (fun j hj => ?_)
          rw [ah_put_get]
          by_cases ej : j = i
          · rw [if_pos ej, ej]
            exact (ac_join_ok e2).1 (ej ▸ q j hj)
          · rw [if_neg ej]; exact q j hj
      · cases e
    · cases e
theorem ah_upd_ok {B : Nat → ac} {f : ac → Option ac} {sz : Nat} {h : pm_H} {p : Nat} {x : pm_E} {is : List Nat} {o o' : ah} (e : ah_upd B f is o = some o') (hm : p ∈ is) (hp : p < sz) (q : ah_ok B sz o h) (hf : ∀ c c', f c = some c' → ac_ok (h p) c → ac_ok x c') : ah_ok B sz o' (va_up h p x) := by
  unfold ah_upd at e
  split at e
  · rename_i i
    split at e
    · rename_i c e1
      cases e
      have ei : p = i := by simpa using hm
      subst ei
      intro j hj
      rw [ah_put_get]
      unfold va_up
      by_cases ej : j = p
      · rw [if_pos ej, if_pos ej]; exact hf _ _ e1 (q p hp)
      · rw [if_neg ej, if_neg ej]; exact q j hj
    · cases e
  · exact ah_weak_ok hp hf e hm q
end ABT
