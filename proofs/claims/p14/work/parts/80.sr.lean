/-! a run from a place on: the same, of one method's later places alone -/
section SFR
variable {fr lo k pc sz sl p1 : Nat} {L : pm_L} {S : List Value} {h : pm_H} {st st' : pm_St} {P : Nat → Nat → Bool}
def sc_o (p1 pc : Nat) (off : Int) : Bool := decide ((p1 : Int) ≤ (pc : Int) + off)
/-- it leads to no place ahead of p1 -/
def sc_i (p1 pc : Nat) (i : Instr) : Bool := match i with
  | .ifCond _ off => sc_o p1 pc off
  | .if_icmp _ off => sc_o p1 pc off
  | .goto off => sc_o p1 pc off
  | .tableswitch _ _ _ _ => false
  | .lookupswitch _ _ => false
  | _ => true
theorem sc_tgt {off : Int} {t : Nat} (ho : sc_o p1 pc off = true) (e : pm_tgt pc off = some t) : p1 ≤ t := by
  have ho := of_decide_eq_true ho
  unfold pm_tgt at e
  split at e
  · cases e
    omega
  · cases e
theorem sc_jp {off : Int} (ho : sc_o p1 pc off = true) (hh : pm_jp pc off L S h sz sl = some st') : p1 ≤ st'.1 := by
  unfold pm_jp at hh
  split at hh
  · rename_i t e
    cases hh
    exact sc_tgt ho e
  · cases hh
theorem sc_br {off : Int} {b : Bool} (hp : p1 ≤ pc) (ho : sc_o p1 pc off = true) (hh : pm_br b pc off L S h sz sl = some st') : p1 ≤ st'.1 := by
  unfold pm_br at hh
  split at hh
  · rename_i t e
    have := sc_tgt ho e
    cases b <;> (cases hh; first | exact this | (show p1 ≤ pc + 3; omega))
  · cases hh
set_option maxHeartbeats 4000000 in
theorem sc_simple {i : Instr} (hp : p1 ≤ pc) (hi : sc_i p1 pc i = true) (hh : pm_simple PT fr lo k i pc L S h sz sl = some st') : p1 ≤ st'.1 := by
  have lib : ∀ sp j, pm_libW PT sp fr lo k j pc L S h sz sl = some st' → p1 ≤ st'.1 := by
    intro sp j hh
    unfold pm_libW at hh
    split at hh
    · split at hh
      · unfold pm_lib at hh
        repeat' split at hh
        all_goals first
          | (cases hh; done)
          | (cases hh; show p1 ≤ pc + 3; omega)
      · cases hh
    · cases hh
  by_cases hq : (∃ j, i = .invokespecial j) ∨ ∃ j, i = .invokestatic j
  · rcases hq with ⟨j, rfl⟩ | ⟨j, rfl⟩
    · exact lib true j hh
    · exact lib false j hh
  · unfold pm_simple at hh
    split at hh
    all_goals (try (cases hi; done))
    all_goals (try (exact absurd (Or.inl ⟨_, rfl⟩) hq))
    all_goals (try (exact absurd (Or.inr ⟨_, rfl⟩) hq))
    all_goals (try (split at hh <;> first | (cases hh; done) | (exact sc_br hp hi hh)))
    all_goals (try (exact sc_jp hi hh))
    all_goals (try simp only [pm_bi, pm_bd, pm_bl, pm_bdL, pm_ui, pm_lo, pm_so, pm_sL, pm_ia, pm_la, pm_qa, pm_al, pm_gf, pm_pf, pm_iS, pm_lS, pm_qS, pm_libV, pm_newI, pm_newL, pm_newQ, pm_newO] at hh)
    all_goals (repeat' split at hh)
    all_goals (first | (cases hh; done) | (cases hh; dsimp only; omega))
set_option maxHeartbeats 4000000 in
theorem sz_simple {i : Instr} (hi : sf_i P k i = true) (hh : pm_simple PT fr lo k i pc L S h sz sl = some st') : st'.2.2.2.2 = (sz, sl) := by
  have lib : ∀ sp j, pm_libW PT sp fr lo k j pc L S h sz sl = some st' → st'.2.2.2.2 = (sz, sl) := by
    intro sp j hh
    unfold pm_libW at hh
    split at hh
    · split at hh
      · unfold pm_lib at hh
        repeat' split at hh
        all_goals first
          | (cases hh; done)
          | (cases hh; rfl)
      · cases hh
    · cases hh
  by_cases hq : (∃ j, i = .invokespecial j) ∨ ∃ j, i = .invokestatic j
  · rcases hq with ⟨j, rfl⟩ | ⟨j, rfl⟩
    · exact lib true j hh
    · exact lib false j hh
  · unfold pm_simple at hh
    split at hh
    all_goals (try (cases hi; done))
    all_goals (try (exact absurd (Or.inl ⟨_, rfl⟩) hq))
    all_goals (try (exact absurd (Or.inr ⟨_, rfl⟩) hq))
    all_goals (try simp only [pm_bi, pm_bd, pm_bl, pm_bdL, pm_ui, pm_lo, pm_so, pm_sL, pm_jp, pm_br, pm_ia, pm_la, pm_qa, pm_al, pm_gf, pm_pf, pm_iS, pm_lS, pm_qS, pm_libV] at hh)
    all_goals (repeat' split at hh)
    all_goals (first | (cases hh; done) | (cases hh; rfl))
theorem sz_run {K : Nat → Bool} (hK : sf_ok P K) : ∀ (n fr lo k : Nat) (st : pm_St) (r : pm_Rs), K k = true → pm_run PT n fr lo k st = some r → r.2.2 = st.2.2.2.2
  | 0, _, _, _, _, _, _, h => by cases h
  | n + 1, fr, lo, k, st, r, hk, h => by
    unfold pm_run at h
    split at h
    · rename_i r' e1
      cases h
      unfold pm_end at e1
      split at e1
      · cases e1
      · split at e1
        · split at e1
          · cases e1; rfl
          · cases e1
        · cases e1
    · split at h
      · rename_i st' e2
        rw [sz_run hK n fr lo k st' r hk h]
        unfold pm_step at e2
        split at e2
        · cases e2
        · rename_i i len ei
          obtain ⟨n1, n2⟩ := hK k _ i len hk ei
          split at e2
          · split at e2
            · rename_i w t ec
              split at e2
              · split at e2
                · rename_i rv h1 sz1 sl1 e3
                  cases e2
                  exact sz_run hK n _ _ t (0, pm_l0 (st.2.2.1.take (pm_na PT t)).reverse (pm_max PT t), [], st.2.2.2.1, st.2.2.2.2.1, st.2.2.2.2.2) (rv, h1, sz1, sl1) (n2 w t ec) e3
                · cases e2
              · cases e2
            · exact sz_simple n1 e2
          · cases e2
      · cases h
theorem rn_i {i : Instr} {len n : Nat} {r : pm_Rs} (hi : pm_ins PT k pc = some (i, len)) (hl : pm_lenOk i len = true) (hc : pm_callee PT k i = none) (hs : pm_simple PT fr lo k i pc L S h sz sl = some st') (hh : pm_run PT n fr lo k (pc, L, S, h, sz, sl) = some r) : ∃ m, pm_run PT m fr lo k st' = some r := by
  have e : pm_step PT pm_go0 fr lo k (pc, L, S, h, sz, sl) = some st' := (ls_of hi hl hc).trans hs
  cases n with
  | zero => cases hh
  | succ n =>
    unfold pm_run at hh
    rw [pm_end_no e, pm_step_go (go' := fun fr lo t as h sz sl => pm_run PT n fr lo t (0, pm_l0 as (pm_max PT t), [], h, sz, sl)) (fun _ _ _ _ _ _ _ _ q => by cases q) e] at hh
    exact ⟨n, hh⟩
theorem rn_call {i : Instr} {len w t n : Nat} {r : pm_Rs} (hi : pm_ins PT k pc = some (i, len)) (hc : pm_callee PT k i = some (w, t)) (hh : pm_run PT n fr lo k (pc, L, S, h, sz, sl) = some r) : ∃ m fr' lo' r1, pm_run PT m fr' lo' t (0, pm_l0 (S.take (pm_na PT t)).reverse (pm_max PT t), [], h, sz, sl) = some r1 ∧ pm_run PT m fr lo k (pc + 3, L, r1.1.toList ++ S.drop (pm_na PT t), r1.2) = some r := by
  cases n with
  | zero => cases hh
  | succ n =>
    unfold pm_run at hh
    split at hh
    · rename_i r' e1
      exfalso
      unfold pm_end at e1
      dsimp only at e1
      rw [hi] at e1
      dsimp only at e1
      split at e1
      · split at e1
        · rename_i rv er
          rcases pm_rets_no er with rfl | rfl | rfl
          · cases hc
          · cases hc
          · cases hc
        · cases e1
      · cases e1
    · split at hh
      · rename_i st2 e2
        unfold pm_step at e2
        dsimp only at e2
        rw [hi] at e2
        dsimp only at e2
        split at e2
        · rw [hc] at e2
          dsimp only at e2
          split at e2
          · split at e2
            · rename_i rv h1 sz1 sl1 e3
              cases e2
              exact ⟨n, _, _, (rv, h1, sz1, sl1), e3, hh⟩
            · cases e2
          · cases e2
        · cases e2
      · cases hh
/-- from the place p1 on, the method k writes no field of P, and calls nothing outside of K -/
def sfr_ok (P : Nat → Nat → Bool) (K : Nat → Bool) (k p1 : Nat) : Prop := ∀ pc i len, p1 ≤ pc → pm_ins PT k pc = some (i, len) → (sf_i P k i = true ∧ ∀ w t, pm_callee PT k i = some (w, t) → K t = true) ∧ sc_i p1 pc i = true
theorem sfr_run {K : Nat → Bool} (hK : sf_ok P K) (hR : sfr_ok P K k p1) : ∀ (n fr lo : Nat) (st : pm_St) (r : pm_Rs), p1 ≤ st.1 → pm_run PT n fr lo k st = some r → fm (sfF P) st.2.2.2.1 r.2.1
  | 0, _, _, _, _, _, h => by cases h
  | n + 1, fr, lo, st, r, hp, h => by
    unfold pm_run at h
    split at h
    · rename_i r' e1
      cases h
      unfold pm_end at e1
      split at e1
      · cases e1
      · split at e1
        · split at e1
          · cases e1; exact fm_rf _
          · cases e1
        · cases e1
    · split at h
      · rename_i st' e2
        unfold pm_step at e2
        split at e2
        · cases e2
        · rename_i i len ei
          obtain ⟨⟨n1, n2⟩, n3⟩ := hR _ i len hp ei
          split at e2
          · split at e2
            · rename_i w t ec
              split at e2
              · split at e2
                · rename_i rv h1 sz1 sl1 e3
                  cases e2
                  exact fm_tr (sf_run hK n _ _ t (0, pm_l0 (st.2.2.1.take (pm_na PT t)).reverse (pm_max PT t), [], st.2.2.2.1, st.2.2.2.2.1, st.2.2.2.2.2) (rv, h1, sz1, sl1) (n2 w t ec) e3) (sfr_run hK hR n fr lo _ r (show p1 ≤ st.1 + 3 by omega) h)
                · cases e2
              · cases e2
            · exact fm_tr (sf_simple n1 e2) (sfr_run hK hR n fr lo st' r (sc_simple hp n3 e2) h)
          · cases e2
      · cases h
def sfr_b (P : Nat → Nat → Bool) (K : Nat → Bool) (k p1 : Nat) : Bool := match pd_a2 k with
  | some e => e.2.all (fun c => c.all (fun x => Nat.blt x.1 p1 || (sf_c P K k x.2.1 && sc_i p1 x.1 x.2.1)))
  | none => true
theorem sfr_of {K : Nat → Bool} (hb : sfr_b P K k p1 = true) : sfr_ok P K k p1 := by
  intro pc i len hp hi
  have hi : pd_ins k pc = some (i, len) := hi
  unfold pd_ins at hi
  unfold sfr_b at hb
  split at hi
  · rename_i e ee
    rw [ee] at hb
    dsimp only at hb
    unfold pm_ch at hi
    split at hi
    · rename_i c ec
      have h1 := List.all_eq_true.mp (List.all_eq_true.mp hb c (pm_nth_mem ec)) _ (pm_fd_mem hi)
      have hn : Nat.blt pc p1 = false := by
        cases hx : Nat.blt pc p1 with
        | false => rfl
        | true => exact absurd (Nat.le_of_ble_eq_true hx) (by omega)
      rw [hn, Bool.false_or] at h1
      unfold sf_c at h1
      rw [Bool.and_eq_true, Bool.and_eq_true] at h1
      obtain ⟨⟨a1, a2⟩, a3⟩ := h1
      dsimp only at a1 a2 a3
      refine ⟨⟨a1, fun w t ht => ?_⟩, a3⟩
      rw [ht] at a2
      exact a2
    · cases hi
  · cases hi
/-- what is told of every run -/
theorem wp_runs {Q Z : pm_Rs → Prop} (q : pm_WP PT fr lo k st Q) (z : ∀ n r, pm_run PT n fr lo k st = some r → Z r) : pm_WP PT fr lo k st (fun x => Q x ∧ Z x) := by
  obtain ⟨n, r, h1, h2⟩ := q
  exact ⟨n, r, h1, h2, z n r h1⟩
end SFR
