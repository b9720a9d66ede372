/-! fields that a set of methods never writes: by their code alone -/
section SFF
variable {fr lo k pc sz sl : Nat} {L : pm_L} {S : List Value} {h : pm_H} {st' : pm_St} {P : Nat → Nat → Bool}
def sfF (P : Nat → Nat → Bool) : fr_F := (fun _ => false, P)
def sf_i (P : Nat → Nat → Bool) (k : Nat) (i : Instr) : Bool := match i with
  | .putfield j => (match pm_fld PT (pm_o PT k) j with
    | some (ci, f, _) => !(P ci f)
    | none => false)
  | .aastore | .newarray _ | .anewarray _ | .new _ => false
  | .invokespecial j => (match pm_mlk PT (pm_o PT k) j with
    | some (9, _) => false
    | _ => true)
  | _ => true
theorem sf_simple {i : Instr} (hw : sf_i P k i = true) (hh : pm_simple PT fr lo k i pc L S h sz sl = some st') : fm (sfF P) h st'.2.2.2.1 := by
  have none9 : ∀ j, (i = .invokestatic j ∨ i = .invokespecial j) → (∀ w x, pm_mlk PT (pm_o PT k) j = some (w, x) → w ≠ 9) → fm (sfF P) h st'.2.2.2.1 := by
    intro j hj hm
    have e := pm_simple_nw (T := PT) (k := k) (i := i) (by rcases hj with rfl | rfl <;> rfl) (fun j' w x hj' e => by
      have : j' = j := by
        rcases hj with rfl | rfl <;> rcases hj' with q | q <;> cases q <;> rfl
      subst this
      exact hm w x e) hh
    rw [e]
    exact fm_rf h
  cases i
  case putfield j =>
    dsimp only [pm_simple] at hh
    unfold pm_pf at hh
    split at hh
    · rename_i v a r
      split at hh
      · rename_i ci fs cj f t e1 e2
        split at hh
        · rename_i hc
          cases hh
          dsimp only [sf_i] at hw
          rw [e2] at hw
          dsimp only at hw
          have hci := hc.1
          subst hci
          exact fm_fld rfl (pm_obj_inv e1).2 (show P _ f = false by simpa using hw)
        · cases hh
      · cases hh
    · cases hh
  case iastore => exact pm_iS_fm (ty := .int) (nr := fun x => x) hh (fun x i p r e => rfl)
  case castore => exact pm_iS_fm (ty := .char) (nr := fun x => vp_nar .char x) hh (fun x i p r e => rfl)
  case bastore => exact pm_iS_fm (ty := .boolean) (nr := fun x => vp_nar .boolean x) hh (fun x i p r e => rfl)
  case lastore => exact pm_lS_fm hh (fun x i p r e => rfl)
  case invokespecial j =>
    refine none9 j (Or.inr rfl) (fun w x e q => ?_)
    subst q
    dsimp only [sf_i] at hw
    rw [e] at hw
    cases hw
  case invokestatic j =>
    cases em : pm_mlk PT (pm_o PT k) j with
    | none => exact none9 j (Or.inl rfl) (fun w x e => by rw [em] at e; cases e)
    | some wx =>
      obtain ⟨w, x⟩ := wx
      by_cases h9 : w = 9
      · subst h9
        have hh : pm_libW PT false fr lo k j pc L S h sz sl = some st' := hh
        unfold pm_libW at hh
        rw [em] at hh
        dsimp only at hh
        split at hh
        · unfold pm_lib at hh
          split at hh
          · exfalso; first | omega | (simp at *; done)
          · exfalso; first | omega | (simp at *; done)
          · exfalso; first | omega | (simp at *; done)
          · rename_i n dp a sp a0 r _
            split at hh
            · rename_i e1 e2
              split at hh
              · cases hh
                exact fm_arr rfl ⟨_, (pm_iar_inv e2).2.1⟩
              · cases hh
            · cases hh
          · cases hh
        · cases hh
      · exact none9 j (Or.inl rfl) (fun w' x' e => by rw [em] at e; cases e; exact h9)
  all_goals first
    | (cases hw; done)
    | (have e := pm_simple_nw (T := PT) (k := k) rfl (fun j w x hj _ => by rcases hj with q | q <;> cases q) hh
       rw [e]
       exact fm_rf h)
/-- K is closed, and nothing in it writes a field of P -/
def sf_ok (P : Nat → Nat → Bool) (K : Nat → Bool) : Prop := ∀ k pc i len, K k = true → pm_ins PT k pc = some (i, len) → sf_i P k i = true ∧ ∀ w t, pm_callee PT k i = some (w, t) → K t = true
theorem sf_run {K : Nat → Bool} (hK : sf_ok P K) : ∀ (n fr lo k : Nat) (st : pm_St) (r : pm_Rs), K k = true → pm_run PT n fr lo k st = some r → fm (sfF P) st.2.2.2.1 r.2.1
  | 0, _, _, _, _, _, _, h => by cases h
  | n + 1, fr, lo, k, st, r, hk, h => by
    unfold pm_run at h
    split at h
    · rename_i r' e1
      cases h
      unfold pm_end at e1
      split at e1
      · cases e1
      · split at e1
        · split at e1
          · cases e1; exact fm_rf _
          · cases e1
        · cases e1
    · split at h
      · rename_i st' e2
        have ih := sf_run hK n fr lo k st' r hk h
        refine fm_tr ?_ ih
        unfold pm_step at e2
        split at e2
        · cases e2
        · rename_i i len ei
          obtain ⟨n1, n2⟩ := hK k _ i len hk ei
          split at e2
          · split at e2
            · rename_i w t ec
              split at e2
              · split at e2
                · rename_i rv h1 sz1 sl1 e3
                  cases e2
                  exact sf_run hK n _ _ t (0, pm_l0 (st.2.2.1.take (pm_na PT t)).reverse (pm_max PT t), [], st.2.2.2.1, st.2.2.2.2.1, st.2.2.2.2.2) (rv, h1, sz1, sl1) (n2 w t ec) e3
                · cases e2
              · cases e2
            · exact sf_simple n1 e2
          · cases e2
      · cases h
theorem sf_wp {K : Nat → Bool} (hK : sf_ok P K) {st : pm_St} {Q : pm_Rs → Prop} (hk : K k = true) (q : pm_WP PT fr lo k st Q) : pm_WP PT fr lo k st (fun x => Q x ∧ fm (sfF P) st.2.2.2.1 x.2.1) := by
  obtain ⟨n, r, h1, h2⟩ := q
  exact ⟨n, r, h1, h2, sf_run hK n fr lo k st r hk h1⟩
def sf_c (P : Nat → Nat → Bool) (K : Nat → Bool) (k : Nat) (i : Instr) : Bool := sf_i P k i && (match pm_callee PT k i with
  | some (_, t) => K t
  | none => true)
def sf_b (P : Nat → Nat → Bool) (K : Nat → Bool) (k : Nat) : Bool := match pd_a2 k with
  | some e => e.2.all (fun c => c.all (fun x => sf_c P K k x.2.1))
  | none => true
theorem sf_of {K : Nat → Bool} {N : List Nat} (hN : ∀ k, K k = true → k ∈ N) (hb : N.all (sf_b P K) = true) : sf_ok P K := by
  intro k pc i len hk hi
  have hb := List.all_eq_true.mp hb k (hN k hk)
  have hi : pd_ins k pc = some (i, len) := hi
  unfold pd_ins at hi
  unfold sf_b at hb
  split at hi
  · rename_i e ee
    rw [ee] at hb
    dsimp only at hb
    unfold pm_ch at hi
    split at hi
    · rename_i c ec
      have h1 := List.all_eq_true.mp (List.all_eq_true.mp hb c (pm_nth_mem ec)) _ (pm_fd_mem hi)
      unfold sf_c at h1
      rw [Bool.and_eq_true] at h1
      obtain ⟨a1, a2⟩ := h1
      dsimp only at a1 a2
      refine ⟨a1, fun w t ht => ?_⟩
      rw [ht] at a2
      exact a2
    · cases hi
  · cases hi
/-- all but some: those are never called -/
def sf_X (X : List Nat) (k : Nat) : Bool := Nat.blt k 271 && !(X.any (fun x => Nat.beq x k))
theorem sf_X_in {X : List Nat} (k : Nat) (h : sf_X X k = true) : k ∈ (List.range 271).filter (fun k => !(X.any (fun x => Nat.beq x k))) := by
  unfold sf_X at h
  rw [Bool.and_eq_true] at h
  exact List.mem_filter.mpr ⟨List.mem_range.mpr (by have := Nat.le_of_ble_eq_true h.1; omega), h.2⟩
end SFF
