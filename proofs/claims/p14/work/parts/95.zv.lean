/-! a block of a method is passed: fields, locals, and cells that it can't write -/
section TBL
variable {fr lo k pc sz sl : Nat} {L : pm_L} {S : List Value} {h : pm_H} {st st' : pm_St} {A : Nat → Bool} {G : Nat → Nat → Bool} {P : Nat → Nat → Bool} {J : Nat → Bool}
def tbk_ok (C : Nat → Nat → List Bool) (G : Nat → Nat → Bool) (K : Nat → Bool) (k p1 p2 : Nat) : Prop := ∀ pc i len, p1 ≤ pc → pc < p2 → pm_ins PT k pc = some (i, len) → (pm_callee PT k i = none → tc i (C k pc) = true ∧ tnx (C k) pc len i (tf G k i (C k pc)) = true) ∧ ∀ w t, pm_callee PT k i = some (w, t) → K t = true ∧ tle ((C k pc).take (pm_na PT t)) [] = true ∧ tle (cond (pm_ret PT t).isSome [false] [] ++ (C k pc).drop (pm_na PT t)) (C k (pc + 3)) = true
theorem tblk_run {K : Nat → Bool} {C : Nat → Nat → List Bool} {p1 p2 : Nat} (hK : sf_ok P K) (hR : blk_ok P K J k p1 p2) (hT : tn_ok C G K) (hB : tbk_ok C G K k p1 p2) : ∀ (n fr lo : Nat) (st : pm_St) (r : pm_Rs), p1 ≤ st.1 → st.1 < p2 → st.2.2.2.2.1 ≤ 198 → nrL A st.2.1 → tS A (C k st.1) st.2.2.1 → nrH A G st.2.2.2.1 → pm_run PT n fr lo k st = some r → ∃ m L' S' h', pm_run PT m fr lo k (p2, L', S', h', st.2.2.2.2) = some r ∧ (lkp J st.2.1 L' ∧ fm (sfF P) st.2.2.2.1 h') ∧ (nrL A L' ∧ tS A (C k p2) S' ∧ nrH A G h') ∧ ∀ a, A a = true → h' a = st.2.2.2.1 a
  | 0, _, _, _, _, _, _, _, _, _, _, h => by cases h
  | n + 1, fr, lo, st, r, hp, hp2, hz, qL, qS, qH, h => by
    unfold pm_run at h
    split at h
    · rename_i r' e1
      exfalso
      unfold pm_end at e1
      split at e1
      · cases e1
      · rename_i i len ei
        obtain ⟨⟨-, hb⟩, -⟩ := hR _ i len hp hp2 ei
        split at e1
        · split at e1
          · rename_i rv er
            rcases pm_rets_no er with rfl | rfl | rfl
            · cases hb
            · cases hb
            · cases hb
          · cases e1
        · cases e1
    · split at h
      · rename_i st' e2
        have nx : ((p1 ≤ st'.1 ∧ st'.1 ≤ p2) ∧ lkp J st.2.1 st'.2.1 ∧ fm (sfF P) st.2.2.2.1 st'.2.2.2.1 ∧ st'.2.2.2.2 = st.2.2.2.2) ∧ (nrL A st'.2.1 ∧ tS A (C k st'.1) st'.2.2.1 ∧ nrH A G st'.2.2.2.1) ∧ ∀ a, A a = true → st'.2.2.2.1 a = st.2.2.2.1 a := by
          unfold pm_step at e2
          split at e2
          · cases e2
          · rename_i i len ei
            obtain ⟨⟨⟨n1, n2⟩, n3⟩, n4⟩ := hR _ i len hp hp2 ei
            obtain ⟨t1, t2⟩ := hB _ i len hp hp2 ei
            split at e2
            · rename_i hlen
              split at e2
              · rename_i w t ec
                obtain ⟨c1, c2, c3⟩ := t2 w t ec
                split at e2
                · split at e2
                  · rename_i rv h1 sz1 sl1 e3
                    cases e2
                    have hf := sf_run hK n _ _ t (0, pm_l0 (st.2.2.1.take (pm_na PT t)).reverse (pm_max PT t), [], st.2.2.2.1, st.2.2.2.2.1, st.2.2.2.2.2) (rv, h1, sz1, sl1) (n2 w t ec) e3
                    have hz := sz_run hK n _ _ t (0, pm_l0 (st.2.2.1.take (pm_na PT t)).reverse (pm_max PT t), [], st.2.2.2.1, st.2.2.2.2.1, st.2.2.2.2.2) (rv, h1, sz1, sl1) (n2 w t ec) e3
                    have qa := tS_nr (tS_le _ _ [] c2 (tS_take (pm_na PT t) _ _ qS))
                    obtain ⟨⟨a1, a2⟩, a3⟩ := tn_run hT hK n _ _ t (0, pm_l0 (st.2.2.1.take (pm_na PT t)).reverse (pm_max PT t), [], st.2.2.2.1, st.2.2.2.2.1, st.2.2.2.2.2) (rv, h1, sz1, sl1) c1 (by assumption) (nrL_l0 (fun v hv => qa v (List.mem_reverse.mp hv))) tS_e qH e3
                    have q3 : tS A (C k (st.1 + 3)) (rv.toList ++ st.2.2.1.drop (pm_na PT t)) := by
                      refine tS_le _ _ _ c3 ?_
                      have qd := tS_drop (pm_na PT t) _ _ qS
                      cases hr : pm_ret PT t with
                      | none =>
                        have e := vd_run hr e3
                        dsimp only at e
                        subst e
                        exact qd
                      | some ty =>
                        obtain ⟨v, e⟩ := vs_run hr e3
                        dsimp only at e
                        subst e
                        exact ⟨fun _ => a1 v rfl, qd⟩
                    refine ⟨⟨⟨?_, ?_⟩, lkp_rf, hf, hz⟩, ⟨qL, q3, a2⟩, a3⟩
                    · show p1 ≤ st.1 + 3
                      omega
                    · show st.1 + 3 ≤ p2
                      have h3 : len = 3 ∧ st.1 + len ≤ p2 := by
                        unfold pm_callee at ec
                        split at ec
                        all_goals first
                          | (cases ec; done)
                          | exact ⟨by simpa [pm_lenOk] using hlen, Nat.le_of_ble_eq_true n3⟩
                      omega
                  · cases e2
                · cases e2
              · rename_i ec
                obtain ⟨m1, m2⟩ := t1 ec
                obtain ⟨⟨a1, a2, a3⟩, a4⟩ := tn_simple hz m1 qL qS qH e2
                exact ⟨⟨bc_simple hp hlen n3 e2, lk_simple n4 e2, sf_simple n1 e2, sz_simple n1 e2⟩, ⟨a1, tS_le _ _ _ (tn_next hlen m2 e2) a2, a3⟩, a4⟩
            · cases e2
        obtain ⟨⟨⟨b1, b2⟩, b3, b4, b5⟩, ⟨d1, d2, d3⟩, d4⟩ := nx
        by_cases z : st'.1 = p2
        · obtain ⟨pc', L', S', h', s'⟩ := st'
          dsimp only at z b3 b4 b5 d1 d2 d3 d4 h
          subst z
          subst b5
          exact ⟨n, L', S', h', h, ⟨b3, b4⟩, ⟨d1, d2, d3⟩, d4⟩
        · obtain ⟨m, L', S', h', c1, ⟨c2, c3⟩, c4, c5⟩ := tblk_run hK hR hT hB n fr lo st' r b1 (by omega) (by rw [b5]; exact hz) d1 d2 d3 h
          rw [b5] at c1
          exact ⟨m, L', S', h', c1, ⟨lkp_tr b3 c2, fm_tr b4 c3⟩, c4, fun a ha => (c5 a ha).trans (d4 a ha)⟩
      · cases h
def tbk_b (C : Nat → Nat → List Bool) (G : Nat → Nat → Bool) (K : Nat → Bool) (k p1 p2 : Nat) : Bool := match pd_a2 k with
  | some e => e.2.all (fun c => c.all (fun x => (Nat.blt x.1 p1 || Nat.ble p2 x.1) || tn_c C G K k x))
  | none => true
theorem tbk_of {C : Nat → Nat → List Bool} {K : Nat → Bool} {p1 p2 : Nat} (hb : tbk_b C G K k p1 p2 = true) : tbk_ok C G K k p1 p2 := by
  intro pc i len hp hp2 hi
  have hi : pd_ins k pc = some (i, len) := hi
  unfold pd_ins at hi
  unfold tbk_b at hb
  split at hi
  · rename_i e ee
    rw [ee] at hb
    dsimp only at hb
    unfold pm_ch at hi
    split at hi
    · rename_i c ec
      have h1 := List.all_eq_true.mp (List.all_eq_true.mp hb c (pm_nth_mem ec)) _ (pm_fd_mem hi)
      have hn : (Nat.blt pc p1 || Nat.ble p2 pc) = false := by
        cases hx : Nat.blt pc p1 with
        | true => exact absurd (Nat.le_of_ble_eq_true hx) (by omega)
        | false =>
          cases hy : Nat.ble p2 pc with
          | true => exact absurd (Nat.le_of_ble_eq_true hy) (by omega)
          | false => rfl
      rw [hn, Bool.false_or] at h1
      unfold tn_c at h1
      dsimp only at h1
      refine ⟨fun hn => ?_, fun w t ht => ?_⟩
      · rw [hn] at h1
        dsimp only at h1
        rw [Bool.and_eq_true] at h1
        exact h1
      · rw [ht] at h1
        dsimp only at h1
        rw [Bool.and_eq_true, Bool.and_eq_true] at h1
        exact h1
    · cases hi
  · cases hi
end TBL
