/-! the class's court, between, gift, row write nothing on their way -/
section XNW
def px_H (o : pm_Rs ⊕ pm_St) : pm_H := match o with
  | .inl r => r.2.1
  | .inr st => st.2.2.2.1
def nwx_ok (stop : Nat → Bool) (k : Nat) : Prop := ∀ pc i len, stop pc = false → pm_ins PT k pc = some (i, len) → nw_i i = true ∧ (∀ w t, pm_callee PT k i = some (w, t) → nw_K t = true) ∧ ∀ j w x, (i = .invokestatic j ∨ i = .invokespecial j) → pm_mlk PT (pm_o PT k) j = some (w, x) → w ≠ 9
theorem px_run_nw {stop : Nat → Bool} {k : Nat} (hK : nwx_ok stop k) : ∀ (n fr lo : Nat) (st : pm_St) (o : pm_Rs ⊕ pm_St), px_run PT stop n fr lo k st = some o → px_H o = st.2.2.2.1
  | 0, _, _, _, _, h => by cases h
  | n + 1, fr, lo, st, o, h => by
    unfold px_run at h
    cases hs : stop st.1 with
    | true =>
      rw [hs] at h
      cases h
      rfl
    | false =>
      rw [hs] at h
      dsimp only [cond] at h
      split at h
      · rename_i r' e1
        cases h
        unfold pm_end at e1
        split at e1
        · cases e1
        · split at e1
          · split at e1
            · cases e1; rfl
            · cases e1
          · cases e1
      · split at h
        · rename_i st' e2
          rw [px_run_nw hK n fr lo st' o h]
          unfold pm_step at e2
          split at e2
          · cases e2
          · rename_i i len ei
            obtain ⟨n1, n2, n3⟩ := hK _ i len hs ei
            split at e2
            · split at e2
              · rename_i w t ec
                split at e2
                · split at e2
                  · rename_i rv h1 sz1 sl1 e3
                    cases e2
                    have := pm_run_nw nw_class n _ _ t _ (rv, h1, sz1, sl1) (n2 w t ec) e3
                    exact congrArg (fun q : pm_H × Nat × Nat => q.1) this
                  · cases e2
                · cases e2
              · exact congrArg (fun q : pm_H × Nat × Nat => q.1) (pm_simple_nw n1 n3 e2)
            · cases e2
        · cases h
def nwx_b (stop : Nat → Bool) (k : Nat) : Bool := match pd_a2 k with
  | some e => e.2.all (fun c => c.all (fun x => stop x.1 || nw_c k x.2.1))
  | none => true
theorem nwx_of {stop : Nat → Bool} {k : Nat} (hb : nwx_b stop k = true) : nwx_ok stop k := by
  intro pc i len hs hi
  have hi : pd_ins k pc = some (i, len) := hi
  unfold pd_ins at hi
  unfold nwx_b at hb
  split at hi
  · rename_i e ee
    rw [ee] at hb
    dsimp only at hb
    unfold pm_ch at hi
    split at hi
    · rename_i c ec
      have h1 := List.all_eq_true.mp (List.all_eq_true.mp hb c (pm_nth_mem ec)) _ (pm_fd_mem hi)
      rw [hs, Bool.false_or] at h1
      unfold nw_c at h1
      rw [Bool.and_eq_true, Bool.and_eq_true] at h1
      obtain ⟨a1, a2, a3⟩ := h1
      dsimp only at a1 a2 a3
      refine ⟨a1, fun w t ht => ?_, fun j w y hj hm => ?_⟩
      · rw [ht] at a2
        exact a2
      · rcases hj with rfl | rfl
        · dsimp only at a3
          rw [hm] at a3
          dsimp only at a3
          intro h9
          subst h9
          cases a3
        · dsimp only at a3
          rw [hm] at a3
          dsimp only at a3
          intro h9
          subst h9
          cases a3
    · cases hi
  · cases hi
theorem nwx_91 : nwx_ok (tx_stop 91) 91 := nwx_of (by decide +kernel)
theorem nwx_92 : nwx_ok (tx_stop 92) 92 := nwx_of (by decide +kernel)
theorem nwx_93 : nwx_ok (tx_stop 93) 93 := nwx_of (by decide +kernel)
theorem nwx_128 : nwx_ok (tx_stop 128) 128 := nwx_of (by decide +kernel)
end XNW
