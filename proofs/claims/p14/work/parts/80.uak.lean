/-! arrays of a kind that a closed set of methods never writes -/
section AKK
variable {fr lo k pc sz sl c : Nat} {L : pm_L} {S : List Value} {h h' : pm_H} {st' : pm_St}
def akp (c : Nat) (h h' : pm_H) : Prop := ∀ i e, h i = .inl (c, e) → h' i = .inl (c, e)
theorem akp_rf : akp c h h := fun _ _ e => e
theorem akp_tr {h2 : pm_H} (a : akp c h h') (b : akp c h' h2) : akp c h h2 := fun i e q => b i e (a i e q)
def ak_i (c : Nat) (i : Instr) : Bool := match i with
  | .castore => !(Nat.beq c 1)
  | .bastore => !(Nat.beq c 3)
  | .lastore => !(Nat.beq c 2)
  | .aastore | .newarray _ | .anewarray _ | .new _ => false
  | _ => true
theorem akp_up {a : Nat} {x : pm_E} (ha : ∀ e, h a ≠ .inl (c, e)) : akp c h (va_up h a x) := by
  intro i e q
  have : i ≠ a := fun z => ha e (by rw [← z]; exact q)
  simp [va_up, this, q]
theorem ak_ty {ty : FieldType} {a kd n : Nat} {f : Nat → Int32} (hc : (pm_ty PT)[c]? ≠ some ty) (e : pm_iar PT ty h sz a = some (kd, n, f)) : ∀ e, h a ≠ .inl (c, e) := by
  intro q hq
  unfold pm_iar at e
  split at e
  · rw [hq] at e
    split at e
    · rename_i kd' n' f' eh
      cases eh
      split at e
      · rename_i ht
        exact hc ht
      · cases e
    · cases e
  · cases e
theorem ak_tyL {a kd n : Nat} {f : Nat → Int64} (hc : (pm_ty PT)[c]? ≠ some .long) (e : pm_lar PT h sz a = some (kd, n, f)) : ∀ e, h a ≠ .inl (c, e) := by
  intro q hq
  unfold pm_lar at e
  split at e
  · rw [hq] at e
    split at e
    · rename_i kd' n' f' eh
      cases eh
      split at e
      · rename_i ht
        exact hc ht
      · cases e
    · cases e
  · cases e
theorem ak_iS {ty : FieldType} {nr : Int32 → Int32} (hc : (pm_ty PT)[c]? ≠ some ty) (hh : pm_iS PT ty nr pc L S h sz sl = some st') : akp c h st'.2.2.2.1 := by
  unfold pm_iS at hh
  split at hh
  · split at hh
    · rename_i e
      split at hh
      · cases hh
        exact akp_up (ak_ty hc e)
      · cases hh
    · cases hh
  · cases hh
set_option maxHeartbeats 4000000 in
theorem ak_simple {i : Instr} (h0 : c ≠ 0 ∧ c < 5) (hi : ak_i c i = true) (hh : pm_simple PT fr lo k i pc L S h sz sl = some st') : akp c h st'.2.2.2.1 := by
  have hint : (pm_ty PT)[c]? ≠ some .int := by
    obtain ⟨z1, z2⟩ := h0
    match c, z1, z2 with
    | 0, z1, _ => exact absurd rfl z1
    | 1, _, _ => decide
    | 2, _, _ => decide
    | 3, _, _ => decide
    | 4, _, _ => decide
    | n + 5, _, z2 => exact absurd z2 (by omega)
  have lib : ∀ sp j, pm_libW PT sp fr lo k j pc L S h sz sl = some st' → akp c h st'.2.2.2.1 := by
    intro sp j hh
    unfold pm_libW at hh
    split at hh
    · split at hh
      · unfold pm_lib at hh
        split at hh
        · split at hh
          · cases hh; exact akp_rf
          · cases hh
        · split at hh
          · cases hh; exact akp_rf
          · cases hh
        · split at hh
          · cases hh; exact akp_rf
          · cases hh
        · split at hh
          · rename_i e1 e2
            split at hh
            · cases hh; exact akp_up (ak_ty hint e2)
            · cases hh
          · cases hh
        · cases hh
      · cases hh
    · cases hh
  by_cases hq : (∃ j, i = .invokespecial j) ∨ ∃ j, i = .invokestatic j
  · rcases hq with ⟨j, rfl⟩ | ⟨j, rfl⟩
    · exact lib true j hh
    · exact lib false j hh
  · unfold pm_simple at hh
    split at hh
    all_goals (try (cases hi; done))
    all_goals (try (exact absurd (Or.inl ⟨_, rfl⟩) hq))
    all_goals (try (exact absurd (Or.inr ⟨_, rfl⟩) hq))
    all_goals (try (exact ak_iS hint hh))
    all_goals (try (refine ak_iS ?_ hh; intro z; unfold ak_i at hi; obtain ⟨z1, z2⟩ := h0; match c, z1, z2, hi, z with
      | 0, z1, _, _, _ => exact absurd rfl z1
      | 1, _, _, hi, z => first | (cases hi; done) | (exact absurd z (by decide))
      | 2, _, _, hi, z => first | (cases hi; done) | (exact absurd z (by decide))
      | 3, _, _, hi, z => first | (cases hi; done) | (exact absurd z (by decide))
      | 4, _, _, hi, z => first | (cases hi; done) | (exact absurd z (by decide))
      | n + 5, _, z2, _, _ => exact absurd z2 (by omega)))
    all_goals (try simp only [pm_bi, pm_bd, pm_bl, pm_bdL, pm_ui, pm_lo, pm_so, pm_sL, pm_jp, pm_br, pm_ia, pm_la, pm_qa, pm_al, pm_gf, pm_pf, pm_lS, pm_qS, pm_libV] at hh)
    all_goals (repeat' split at hh)
    all_goals (try (cases hh; done))
    all_goals cases hh
    all_goals first
      | exact akp_rf
      | (refine akp_up (fun e q => ?_); have := (pm_obj_inv ‹pm_obj h sz _ = some _›).2; rw [this] at q; cases q)
      | (refine akp_up (ak_tyL ?_ ‹_›); intro z; unfold ak_i at hi; obtain ⟨z1, z2⟩ := h0; match c, z1, z2, hi, z with
        | 0, z1, _, _, _ => exact absurd rfl z1
        | 1, _, _, hi, z => exact absurd z (by decide)
        | 2, _, _, hi, z => cases hi
        | 3, _, _, hi, z => exact absurd z (by decide)
        | 4, _, _, hi, z => exact absurd z (by decide)
        | n + 5, _, z2, _, _ => exact absurd z2 (by omega))
def ak_ok (c : Nat) (K : Nat → Bool) : Prop := ∀ k pc i len, K k = true → pm_ins PT k pc = some (i, len) → ak_i c i = true ∧ ∀ w t, pm_callee PT k i = some (w, t) → K t = true
theorem ak_run {K : Nat → Bool} (h0 : c ≠ 0 ∧ c < 5) (hK : ak_ok c K) : ∀ (n fr lo k : Nat) (st : pm_St) (r : pm_Rs), K k = true → pm_run PT n fr lo k st = some r → akp c st.2.2.2.1 r.2.1
  | 0, _, _, _, _, _, _, h => by cases h
  | n + 1, fr, lo, k, st, r, hk, h => by
    unfold pm_run at h
    split at h
    · rename_i r' e1
      cases h
      unfold pm_end at e1
      split at e1
      · cases e1
      · split at e1
        · split at e1
          · cases e1; exact akp_rf
          · cases e1
        · cases e1
    · split at h
      · rename_i st' e2
        have ih := ak_run h0 hK n fr lo k st' r hk h
        refine akp_tr ?_ ih
        unfold pm_step at e2
        split at e2
        · cases e2
        · rename_i i len ei
          obtain ⟨n1, n2⟩ := hK k _ i len hk ei
          split at e2
          · split at e2
            · rename_i w t ec
              split at e2
              · split at e2
                · rename_i rv h1 sz1 sl1 e3
                  cases e2
                  exact ak_run h0 hK n _ _ t (0, pm_l0 (st.2.2.1.take (pm_na PT t)).reverse (pm_max PT t), [], st.2.2.2.1, st.2.2.2.2.1, st.2.2.2.2.2) (rv, h1, sz1, sl1) (n2 w t ec) e3
                · cases e2
              · cases e2
            · exact ak_simple h0 n1 e2
          · cases e2
      · cases h
def ak_c (c : Nat) (K : Nat → Bool) (k : Nat) (i : Instr) : Bool := ak_i c i && (match pm_callee PT k i with
  | some (_, t) => K t
  | none => true)
def ak_b (c : Nat) (K : Nat → Bool) (k : Nat) : Bool := match pd_a2 k with
  | some e => e.2.all (fun q => q.all (fun x => ak_c c K k x.2.1))
  | none => true
theorem ak_of {K : Nat → Bool} {N : List Nat} (hN : ∀ k, K k = true → k ∈ N) (hb : N.all (ak_b c K) = true) : ak_ok c K := by
  intro k pc i len hk hi
  have hb := List.all_eq_true.mp hb k (hN k hk)
  have hi : pd_ins k pc = some (i, len) := hi
  unfold pd_ins at hi
  unfold ak_b at hb
  split at hi
  · rename_i e ee
    rw [ee] at hb
    dsimp only at hb
    unfold pm_ch at hi
    split at hi
    · rename_i q ec
      have h1 := List.all_eq_true.mp (List.all_eq_true.mp hb q (pm_nth_mem ec)) _ (pm_fd_mem hi)
      unfold ak_c at h1
      rw [Bool.and_eq_true] at h1
      obtain ⟨a1, a2⟩ := h1
      dsimp only at a1 a2
      refine ⟨a1, fun w t ht => ?_⟩
      rw [ht] at a2
      exact a2
    · cases hi
  · cases hi
end AKK
