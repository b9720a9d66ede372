/-! the pure machine's cells and locals as the kit's worlds: cell i lies at b + i -/
/-- aC: the classes of arrays; from 1000 on, the addresses of the cells outside -/
def pm_tr (aC : Nat → ClassId) (b : Nat) (v : Value) : Value := match v with
  | .ref a => .ref (b + a)
  | .retAddr a => .ref (aC (1000 + a))
  | v => v
def pm_trA (b : Nat) (a : vp_A) : vp_A := match a with
  | (n, .inr (.inr (.inr (.inr f)))) => (n, .inr (.inr (.inr (.inr (fun j => (f j).map (fun x => b + x))))))
  | a => a
def pm_trE (aC : Nat → ClassId) (b : Nat) (e : pm_E) : va_E := match e with
  | .inl a => .inl (aC a.1, pm_trA b a.2)
  | .inr o => .inr (o.1, o.2.map (pm_tr aC b))
def pm_w (aC : Nat → ClassId) (b : Nat) (h : pm_H) (sz : Nat) : va_W := (List.range sz).map (fun i => (b + i, pm_trE aC b (h i)))
theorem pm_w_len (aC : Nat → ClassId) (b : Nat) (h : pm_H) (sz : Nat) : (pm_w aC b h sz).length = sz := by simp [pm_w]
theorem pm_w_get {aC : Nat → ClassId} {b : Nat} {h : pm_H} {sz i : Nat} (hi : i < sz) : (pm_w aC b h sz)[i]? = some (b + i, pm_trE aC b (h i)) := by simp [pm_w, hi]
theorem pm_w_at {aC : Nat → ClassId} {b : Nat} {h : pm_H} {sz i : Nat} {q : Nat × va_E} (hq : (pm_w aC b h sz)[i]? = some q) : i < sz ∧ q = (b + i, pm_trE aC b (h i)) := by
  have hl : i < (pm_w aC b h sz).length := (List.getElem?_eq_some_iff.mp hq).1
  rw [pm_w_len] at hl
  rw [pm_w_get hl] at hq
  exact ⟨hl, (Option.some.inj hq).symm⟩
theorem pm_w_cong {aC : Nat → ClassId} {b : Nat} {h h' : pm_H} {sz : Nat} (e : ∀ i, i < sz → h i = h' i) : pm_w aC b h sz = pm_w aC b h' sz := by
  unfold pm_w
  exact List.map_congr_left (fun i hi => by rw [e i (List.mem_range.mp hi)])
theorem pm_w_set {aC : Nat → ClassId} {b : Nat} {h : pm_H} {sz a : Nat} {e : pm_E} {e' : va_E} (he : e' = pm_trE aC b e) : (pm_w aC b h sz).set a (b + a, e') = pm_w aC b (va_up h a e) sz := by
  subst he
  apply List.ext_getElem?
  intro i
  rw [List.getElem?_set, pm_w_len]
  by_cases hi : i < sz
  · rw [pm_w_get hi, pm_w_get hi]
    by_cases ha : a = i
    · subst ha
      simp [va_up, hi]
    · simp [va_up, ha, Ne.symm ha]
  · have h1 : (pm_w aC b h sz)[i]? = none := List.getElem?_eq_none (by rw [pm_w_len]; omega)
    have h2 : (pm_w aC b (va_up h a e) sz)[i]? = none := List.getElem?_eq_none (by rw [pm_w_len]; omega)
    rw [h1, h2]
    by_cases ha : a = i
    · subst ha; simp [hi]
    · simp [ha]
theorem pm_w_push {aC : Nat → ClassId} {b : Nat} {h : pm_H} {sz : Nat} {e : pm_E} {e' : va_E} (he : e' = pm_trE aC b e) : pm_w aC b h sz ++ [(b + sz, e')] = pm_w aC b (va_up h sz e) (sz + 1) := by
  subst he
  unfold pm_w
  rw [List.range_succ, List.map_append]
  congr 1
  · exact List.map_congr_left (fun i hi => by
      have := List.mem_range.mp hi
      simp [va_up, Nat.ne_of_lt this])
  · simp [va_up]
theorem pm_w_D (aC : Nat → ClassId) (b : Nat) (h : pm_H) (sz : Nat) : va_D (fun q => b ≤ q) (pm_w aC b h sz) := by
  refine ⟨fun i j p q hp hq e => ?_, fun k q hq => ?_⟩
  · obtain ⟨-, rfl⟩ := pm_w_at hp
    obtain ⟨-, rfl⟩ := pm_w_at hq
    dsimp only at e
    omega
  · obtain ⟨-, rfl⟩ := pm_w_at hq
    exact Nat.le_add_right b k
theorem pm_cat (aC : Nat → ClassId) (b : Nat) (v : Value) : (pm_tr aC b v).category = v.category := by cases v <;> rfl
theorem pm_sum_tr (aC : Nat → ClassId) (b : Nat) (S : List Value) : ((S.map (pm_tr aC b)).map fun v => v.category).sum = pm_sum S := by
  unfold pm_sum
  rw [List.map_map]
  congr 1
  exact List.map_congr_left (fun v _ => pm_cat aC b v)
/-! locals -/
def pm_loc (aC : Nat → ClassId) (b : Nat) (ls : Array Slot) (n : Nat) (L : pm_L) : Prop := ls.size = n ∧ lv_wf ls ∧ ∀ i v, pm_get L i = some v → ls[i]? = some (.val (pm_tr aC b v))
def pm_ll (aC : Nat → ClassId) (b : Nat) (L : pm_L) : List (Nat × Value) := (List.range L.length).filterMap (fun i => (pm_get L i).map (fun v => (i, pm_tr aC b v)))
theorem pm_get_lt {L : pm_L} {i : Nat} {v : Value} (h : pm_get L i = some v) : i < L.length := by
  unfold pm_get at h
  rcases Nat.lt_or_ge i L.length with q | q
  · exact q
  · rw [List.getElem?_eq_none q] at h
    cases h
theorem pm_ll_mem {aC : Nat → ClassId} {b : Nat} {L : pm_L} {i : Nat} {v : Value} (h : pm_get L i = some v) : (i, pm_tr aC b v) ∈ pm_ll aC b L := by
  unfold pm_ll
  exact List.mem_filterMap.mpr ⟨i, List.mem_range.mpr (pm_get_lt h), by rw [h]; rfl⟩
theorem pm_ll_of {aC : Nat → ClassId} {b : Nat} {L : pm_L} {q : Nat × Value} (h : q ∈ pm_ll aC b L) : ∃ v, pm_get L q.1 = some v ∧ q.2 = pm_tr aC b v := by
  unfold pm_ll at h
  obtain ⟨i, -, hi⟩ := List.mem_filterMap.mp h
  cases hg : pm_get L i with
  | none => rw [hg] at hi; cases hi
  | some v => rw [hg] at hi; cases hi; exact ⟨v, hg, rfl⟩
theorem pm_loc.has {aC : Nat → ClassId} {b : Nat} {ls : Array Slot} {n : Nat} {L : pm_L} (h : pm_loc aC b ls n L) : lv_has ls n (pm_ll aC b L) := by
  refine ⟨h.1, h.2.1, fun q hq => ?_⟩
  obtain ⟨v, h1, h2⟩ := pm_ll_of hq
  rw [h2]
  exact h.2.2 _ _ h1
theorem pm_get_set {L : pm_L} {i j : Nat} {o : Option Value} {w : Value} (h : pm_get (L.set i o) j = some w) : (j = i ∧ o = some w) ∨ (j ≠ i ∧ pm_get L j = some w) := by
  unfold pm_get at h ⊢
  rw [List.getElem?_set] at h
  by_cases e : i = j
  · subst e
    rw [if_pos rfl] at h
    by_cases hl : i < L.length
    · rw [if_pos hl] at h
      cases o with
      | none => cases h
      | some x => exact Or.inl ⟨rfl, h⟩
    · rw [if_neg hl] at h; cases h
  · rw [if_neg e] at h
    exact Or.inr ⟨Ne.symm e, h⟩
theorem pm_get_cut {L : pm_L} {i j : Nat} {w : Value} (h : pm_get (pm_cut L i) j = some w) : pm_get L j = some w ∧ ¬ (j + 1 = i ∧ w.category = 2) := by
  unfold pm_cut at h
  cases i with
  | zero => exact ⟨h, fun q => by omega⟩
  | succ i =>
    dsimp only at h
    by_cases hc : pm_cat2 L i = true
    · rw [if_pos hc] at h
      rcases pm_get_set h with ⟨-, h2⟩ | ⟨h1, h2⟩
      · cases h2
      · exact ⟨h2, fun q => h1 (by omega)⟩
    · rw [if_neg hc] at h
      refine ⟨h, fun q => hc ?_⟩
      have e : j = i := by omega
      subst e
      unfold pm_cat2
      rw [h]
      simp [q.2]
theorem pm_get_st1 {L : pm_L} {i j : Nat} {v w : Value} (h : pm_get (pm_st1 L i v) j = some w) : (j = i ∧ w = v) ∨ (j ≠ i ∧ pm_get L j = some w ∧ ¬ (j + 1 = i ∧ w.category = 2)) := by
  rcases pm_get_set h with ⟨h1, h2⟩ | ⟨h1, h2⟩
  · exact Or.inl ⟨h1, (Option.some.inj h2).symm⟩
  · exact Or.inr ⟨h1, pm_get_cut h2⟩
theorem pm_get_st2 {L : pm_L} {i j : Nat} {v w : Value} (h : pm_get (pm_st2 L i v) j = some w) : (j = i ∧ w = v) ∨ (j ≠ i ∧ j ≠ i + 1 ∧ pm_get L j = some w ∧ ¬ (j + 1 = i ∧ w.category = 2)) := by
  rcases pm_get_set h with ⟨-, h2⟩ | ⟨h0, h2⟩
  · cases h2
  · rcases pm_get_st1 (L := L) (i := i) (v := v) h2 with ⟨h1, h3⟩ | ⟨h1, h3, h4⟩
    · exact Or.inl ⟨h1, h3⟩
    · exact Or.inr ⟨h1, h0, h3, h4⟩
theorem pm_loc.st1 {aC : Nat → ClassId} {b : Nat} {ls : Array Slot} {n i : Nat} {L : pm_L} {v : Value} (h : lv_has ls n ((i, pm_tr aC b v) :: (pm_ll aC b L).filter (fun q => !(q.1 == i) && !(q.1 + 1 == i && q.2.category == 2)))) : pm_loc aC b ls n (pm_st1 L i v) := by
  refine ⟨h.1, h.2.1, fun j w hj => ?_⟩
  rcases pm_get_st1 hj with ⟨rfl, rfl⟩ | ⟨h1, h2, h3⟩
  · exact h.2.2 _ List.mem_cons_self
  · refine h.2.2 (j, pm_tr aC b w) (List.mem_cons_of_mem _ (List.mem_filter.mpr ⟨pm_ll_mem h2, ?_⟩))
    rw [pm_cat]
    simp only [Bool.and_eq_true, Bool.not_eq_true', beq_eq_false_iff_ne, ne_eq, Bool.and_eq_false_iff]
    refine ⟨h1, ?_⟩
    by_cases e : j + 1 = i
    · exact Or.inr (fun q => h3 ⟨e, q⟩)
    · exact Or.inl e
theorem pm_loc.st2 {aC : Nat → ClassId} {b : Nat} {ls : Array Slot} {n i : Nat} {L : pm_L} {v : Value} (h : lv_has ls n ((i, pm_tr aC b v) :: (pm_ll aC b L).filter (fun q => !(q.1 == i) && (!(q.1 == i + 1) && !(q.1 + 1 == i && q.2.category == 2))))) : pm_loc aC b ls n (pm_st2 L i v) := by
  refine ⟨h.1, h.2.1, fun j w hj => ?_⟩
  rcases pm_get_st2 hj with ⟨rfl, rfl⟩ | ⟨h1, h0, h2, h3⟩
  · exact h.2.2 _ List.mem_cons_self
  · refine h.2.2 (j, pm_tr aC b w) (List.mem_cons_of_mem _ (List.mem_filter.mpr ⟨pm_ll_mem h2, ?_⟩))
    rw [pm_cat]
    simp only [Bool.and_eq_true, Bool.not_eq_true', beq_eq_false_iff_ne, ne_eq, Bool.and_eq_false_iff]
    refine ⟨h1, h0, ?_⟩
    by_cases e : j + 1 = i
    · exact Or.inr (fun q => h3 ⟨e, q⟩)
    · exact Or.inl e
theorem pm_args_mem (aC : Nat → ClassId) (b : Nat) : ∀ (vs : List Value) (o i : Nat) (v : Value), pm_get (pm_args vs) i = some v → (o + i, pm_tr aC b v) ∈ lv_args o (vs.map (pm_tr aC b))
  | [], o, i, v, h => by simp [pm_args, pm_get] at h
  | x :: xs, o, i, v, h => by
    unfold pm_args at h
    rw [List.map_cons]
    unfold lv_args
    by_cases hc : x.category = 2
    · rw [if_pos hc] at h
      rw [pm_cat, if_pos hc]
      match i, h with
      | 0, h => cases (Option.some.inj h : x = v); exact List.mem_cons_self
      | 1, h => simp [pm_get] at h
      | i + 2, h =>
        have := pm_args_mem aC b xs (o + 2) i v h
        rw [show o + (i + 2) = o + 2 + i by omega]
        exact List.mem_cons_of_mem _ this
    · rw [if_neg hc] at h
      rw [pm_cat, if_neg hc]
      match i, h with
      | 0, h => cases (Option.some.inj h : x = v); exact List.mem_cons_self
      | i + 1, h =>
        have := pm_args_mem aC b xs (o + 1) i v h
        rw [show o + (i + 1) = o + 1 + i by omega]
        exact List.mem_cons_of_mem _ this
theorem pm_sl_len (aC : Nat → ClassId) (b : Nat) : ∀ vs : List Value, (lg_sl (vs.map (pm_tr aC b))).length = (pm_args vs).length
  | [] => rfl
  | x :: xs => by
    have ih := pm_sl_len aC b xs
    unfold lg_sl at ih
    unfold lg_sl pm_args
    rw [List.map_cons, List.flatMap_cons, List.length_append, pm_cat, ih]
    by_cases hc : x.category = 2
    · simp [hc]; omega
    · simp [hc]; omega
theorem pm_l0_loc (aC : Nat → ClassId) (b : Nat) (vs : List Value) {n : Nat} (hn : (pm_args vs).length ≤ n) : pm_loc aC b ((lg_sl (vs.map (pm_tr aC b)) ++ List.replicate (n - (lg_sl (vs.map (pm_tr aC b))).length) Slot.unset).toArray) n (pm_l0 vs n) := by
  have h := lv_entry (vs.map (pm_tr aC b)) (n := n) (by rw [pm_sl_len]; exact hn)
  refine ⟨h.1, h.2.1, fun i v hi => ?_⟩
  have h2 : pm_get (pm_args vs) i = some v := by
    unfold pm_l0 pm_get at hi
    unfold pm_get
    by_cases hl : i < (pm_args vs).length
    · rw [List.getElem?_append_left hl] at hi
      exact hi
    · rw [List.getElem?_append_right (by omega), List.getElem?_replicate] at hi
      by_cases hq : i - (pm_args vs).length < n - (pm_args vs).length
      · rw [if_pos hq] at hi; cases hi
      · rw [if_neg hq] at hi; cases hi
  have h3 := pm_args_mem aC b vs 0 i v h2
  rw [Nat.zero_add] at h3
  exact h.2.2 _ h3
