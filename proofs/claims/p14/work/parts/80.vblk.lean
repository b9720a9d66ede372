/-! a block of a method is passed: the fields of P and some locals are as they were -/
section BLK
variable {fr lo k pc sz sl : Nat} {L : pm_L} {S : List Value} {h : pm_H} {st st' : pm_St} {P : Nat → Nat → Bool} {J : Nat → Bool}
/-- the locals of J hold ints or references, and are the same in both -/
def lkp (J : Nat → Bool) (L L' : pm_L) : Prop := ∀ j v, J j = true → pm_get L j = some v → v.category = 1 → pm_get L' j = some v
theorem lkp_rf : lkp J L L := fun _ _ _ e _ => e
theorem lkp_tr {L' L2 : pm_L} (a : lkp J L L') (b : lkp J L' L2) : lkp J L L2 := fun j v hj e hc => b j v hj (a j v hj e hc) hc
def lk_i (J : Nat → Bool) (i : Instr) : Bool := match i with
  | .istore j => !(J j)
  | .istore_n j => !(J j.val)
  | .astore j => !(J j)
  | .astore_n j => !(J j.val)
  | .lstore j => !(J j) && !(J (j + 1))
  | .lstore_n j => !(J j.val) && !(J (j.val + 1))
  | .iinc j _ => !(J j)
  | _ => true
theorem lkp_set {i : Nat} {o : Option Value} (hi : J i = false) : lkp J L (L.set i o) := by
  intro j v hj e hc
  have : i ≠ j := fun z => by rw [z, hj] at hi; cases hi
  unfold pm_get at e ⊢
  rw [List.getElem?_set_ne this]
  exact e
theorem lkp_cut {i : Nat} : lkp J L (pm_cut L i) := by
  intro j v hj e hc
  unfold pm_cut
  split
  · exact e
  · rename_i i'
    split
    · rename_i hq
      by_cases z : i' = j
      · subst z
        exfalso
        unfold pm_cat2 at hq
        rw [e] at hq
        dsimp only at hq
        rw [hc] at hq
        cases hq
      · unfold pm_get at e ⊢
        rw [List.getElem?_set_ne z]
        exact e
    · exact e
theorem lkp_st1 {i : Nat} {v : Value} (hi : J i = false) : lkp J L (pm_st1 L i v) := lkp_tr lkp_cut (lkp_set hi)
theorem lkp_st2 {i : Nat} {v : Value} (hi : J i = false) (hi2 : J (i + 1) = false) : lkp J L (pm_st2 L i v) := lkp_tr lkp_cut (lkp_tr (lkp_set hi) (lkp_set hi2))
set_option maxHeartbeats 4000000 in
theorem lk_simple {i : Instr} (hi : lk_i J i = true) (hh : pm_simple PT fr lo k i pc L S h sz sl = some st') : lkp J L st'.2.1 := by
  have lib : ∀ sp j, pm_libW PT sp fr lo k j pc L S h sz sl = some st' → lkp J L st'.2.1 := by
    intro sp j hh
    unfold pm_libW at hh
    split at hh
    · split at hh
      · unfold pm_lib at hh
        repeat' split at hh
        all_goals first
          | (cases hh; done)
          | (cases hh; exact lkp_rf)
      · cases hh
    · cases hh
  by_cases hq : (∃ j, i = .invokespecial j) ∨ ∃ j, i = .invokestatic j
  · rcases hq with ⟨j, rfl⟩ | ⟨j, rfl⟩
    · exact lib true j hh
    · exact lib false j hh
  · unfold pm_simple at hh
    split at hh
    all_goals (try (exact absurd (Or.inl ⟨_, rfl⟩) hq))
    all_goals (try (exact absurd (Or.inr ⟨_, rfl⟩) hq))
    all_goals (try simp only [pm_bi, pm_bd, pm_bl, pm_bdL, pm_ui, pm_lo, pm_so, pm_sL, pm_jp, pm_br, pm_ia, pm_la, pm_qa, pm_al, pm_gf, pm_pf, pm_iS, pm_lS, pm_qS, pm_libV, pm_newI, pm_newL, pm_newQ, pm_newO, pm_nw] at hh)
    all_goals (repeat' split at hh)
    all_goals (try (cases hh; done))
    all_goals cases hh
    all_goals (try unfold lk_i at hi)
    all_goals (try dsimp only at hi)
    all_goals first
      | exact lkp_rf
      | exact lkp_st1 (by simpa using hi)
      | (rw [Bool.and_eq_true] at hi; exact lkp_st2 (by simpa using hi.1) (by simpa using hi.2))
/-- from a place of the block it leads to one of the block, or to its end p2 -/
def bc_o (p1 p2 pc : Nat) (off : Int) : Bool := decide ((p1 : Int) ≤ (pc : Int) + off ∧ (pc : Int) + off ≤ (p2 : Int))
def bc_i (p1 p2 pc len : Nat) (i : Instr) : Bool := match i with
  | .ifCond _ off => bc_o p1 p2 pc off && Nat.ble (pc + 3) p2
  | .if_icmp _ off => bc_o p1 p2 pc off && Nat.ble (pc + 3) p2
  | .goto off => bc_o p1 p2 pc off
  | .tableswitch _ _ _ _ | .lookupswitch _ _ | .return_ | .ireturn | .lreturn | .areturn | .athrow => false
  | _ => Nat.ble (pc + len) p2
theorem bc_tgt {p1 p2 : Nat} {off : Int} {t : Nat} (ho : bc_o p1 p2 pc off = true) (e : pm_tgt pc off = some t) : p1 ≤ t ∧ t ≤ p2 := by
  have ho := of_decide_eq_true ho
  unfold pm_tgt at e
  split at e
  · cases e
    omega
  · cases e
theorem bc_jp {p1 p2 : Nat} {off : Int} (ho : bc_o p1 p2 pc off = true) (hh : pm_jp pc off L S h sz sl = some st') : p1 ≤ st'.1 ∧ st'.1 ≤ p2 := by
  unfold pm_jp at hh
  split at hh
  · rename_i t e
    cases hh
    exact bc_tgt ho e
  · cases hh
theorem bc_br {p1 p2 : Nat} {off : Int} {b : Bool} (hp : p1 ≤ pc) (ho : (bc_o p1 p2 pc off && Nat.ble (pc + 3) p2) = true) (hh : pm_br b pc off L S h sz sl = some st') : p1 ≤ st'.1 ∧ st'.1 ≤ p2 := by
  rw [Bool.and_eq_true] at ho
  have h3 := Nat.le_of_ble_eq_true ho.2
  unfold pm_br at hh
  split at hh
  · rename_i t e
    have := bc_tgt ho.1 e
    cases b <;> (cases hh; first | exact this | (refine ⟨?_, h3⟩; show p1 ≤ pc + 3; omega))
  · cases hh
set_option maxHeartbeats 4000000 in
theorem bc_simple {p1 p2 len : Nat} {i : Instr} (hp : p1 ≤ pc) (hl : pm_lenOk i len = true) (hi : bc_i p1 p2 pc len i = true) (hh : pm_simple PT fr lo k i pc L S h sz sl = some st') : p1 ≤ st'.1 ∧ st'.1 ≤ p2 := by
  have lib : ∀ sp j, pm_libW PT sp fr lo k j pc L S h sz sl = some st' → st'.1 = pc + 3 := by
    intro sp j hh
    unfold pm_libW at hh
    split at hh
    · split at hh
      · unfold pm_lib at hh
        repeat' split at hh
        all_goals first
          | (cases hh; done)
          | (cases hh; rfl)
      · cases hh
    · cases hh
  by_cases hq : (∃ j, i = .invokespecial j) ∨ ∃ j, i = .invokestatic j
  · have e : st'.1 = pc + 3 ∧ len = 3 := by
      rcases hq with ⟨j, rfl⟩ | ⟨j, rfl⟩
      · exact ⟨lib true j hh, by simpa [pm_lenOk] using hl⟩
      · exact ⟨lib false j hh, by simpa [pm_lenOk] using hl⟩
    have hb : pc + len ≤ p2 := by
      rcases hq with ⟨j, rfl⟩ | ⟨j, rfl⟩ <;> exact Nat.le_of_ble_eq_true hi
    omega
  · unfold pm_simple at hh
    split at hh
    all_goals (try (cases hi; done))
    all_goals (try (exact absurd (Or.inl ⟨_, rfl⟩) hq))
    all_goals (try (exact absurd (Or.inr ⟨_, rfl⟩) hq))
    all_goals (try (split at hh <;> first | (cases hh; done) | (exact bc_br hp hi hh)))
    all_goals (try (exact bc_jp hi hh))
    all_goals (try (cases hh; done))
    all_goals (simp only [pm_lenOk, beq_iff_eq] at hl)
    all_goals (subst hl)
    all_goals (have hb := Nat.le_of_ble_eq_true hi)
    all_goals (try simp only [pm_bi, pm_bd, pm_bl, pm_bdL, pm_ui, pm_lo, pm_so, pm_sL, pm_ia, pm_la, pm_qa, pm_al, pm_gf, pm_pf, pm_iS, pm_lS, pm_qS, pm_libV, pm_newI, pm_newL, pm_newQ, pm_newO, pm_nw] at hh)
    all_goals (repeat' split at hh)
    all_goals (first | (cases hh; done) | (cases hh; dsimp only; omega))
/-- a block of the method k, from p1 to before p2: what it may do -/
def blk_ok (P : Nat → Nat → Bool) (K J : Nat → Bool) (k p1 p2 : Nat) : Prop := ∀ pc i len, p1 ≤ pc → pc < p2 → pm_ins PT k pc = some (i, len) → ((sf_i P k i = true ∧ ∀ w t, pm_callee PT k i = some (w, t) → K t = true) ∧ bc_i p1 p2 pc len i = true) ∧ lk_i J i = true
theorem blk_run {K : Nat → Bool} {p1 p2 : Nat} (hK : sf_ok P K) (hR : blk_ok P K J k p1 p2) : ∀ (n fr lo : Nat) (st : pm_St) (r : pm_Rs), p1 ≤ st.1 → st.1 < p2 → pm_run PT n fr lo k st = some r → ∃ m L' S' h', pm_run PT m fr lo k (p2, L', S', h', st.2.2.2.2) = some r ∧ lkp J st.2.1 L' ∧ fm (sfF P) st.2.2.2.1 h'
  | 0, _, _, _, _, _, _, h => by cases h
  | n + 1, fr, lo, st, r, hp, hp2, h => by
    unfold pm_run at h
    split at h
    · rename_i r' e1
      exfalso
      unfold pm_end at e1
      split at e1
      · cases e1
      · rename_i i len ei
        obtain ⟨⟨-, hb⟩, -⟩ := hR _ i len hp hp2 ei
        split at e1
        · split at e1
          · rename_i rv er
            rcases pm_rets_no er with rfl | rfl | rfl
            · cases hb
            · cases hb
            · cases hb
          · cases e1
        · cases e1
    · split at h
      · rename_i st' e2
        have nx : (p1 ≤ st'.1 ∧ st'.1 ≤ p2) ∧ lkp J st.2.1 st'.2.1 ∧ fm (sfF P) st.2.2.2.1 st'.2.2.2.1 ∧ st'.2.2.2.2 = st.2.2.2.2 := by
          unfold pm_step at e2
          split at e2
          · cases e2
          · rename_i i len ei
            obtain ⟨⟨⟨n1, n2⟩, n3⟩, n4⟩ := hR _ i len hp hp2 ei
            split at e2
            · rename_i hlen
              split at e2
              · rename_i w t ec
                split at e2
                · split at e2
                  · rename_i rv h1 sz1 sl1 e3
                    cases e2
                    have hf := sf_run hK n _ _ t (0, pm_l0 (st.2.2.1.take (pm_na PT t)).reverse (pm_max PT t), [], st.2.2.2.1, st.2.2.2.2.1, st.2.2.2.2.2) (rv, h1, sz1, sl1) (n2 w t ec) e3
                    have hz := sz_run hK n _ _ t (0, pm_l0 (st.2.2.1.take (pm_na PT t)).reverse (pm_max PT t), [], st.2.2.2.1, st.2.2.2.2.1, st.2.2.2.2.2) (rv, h1, sz1, sl1) (n2 w t ec) e3
                    refine ⟨⟨?_, ?_⟩, lkp_rf, hf, hz⟩
                    · show p1 ≤ st.1 + 3
                      omega
                    · show st.1 + 3 ≤ p2
                      have h3 : len = 3 ∧ st.1 + len ≤ p2 := by
                        unfold pm_callee at ec
                        split at ec
                        all_goals first
                          | (cases ec; done)
                          | exact ⟨by simpa [pm_lenOk] using hlen, Nat.le_of_ble_eq_true n3⟩
                      omega
                  · cases e2
                · cases e2
              · exact ⟨bc_simple hp hlen n3 e2, lk_simple n4 e2, sf_simple n1 e2, sz_simple n1 e2⟩
            · cases e2
        obtain ⟨⟨b1, b2⟩, b3, b4, b5⟩ := nx
        by_cases z : st'.1 = p2
        · obtain ⟨pc', L', S', h', s'⟩ := st'
          dsimp only at z b3 b4 b5 h
          subst z
          subst b5
          exact ⟨n, L', S', h', h, b3, b4⟩
        · obtain ⟨m, L', S', h', c1, c2, c3⟩ := blk_run hK hR n fr lo st' r b1 (by omega) h
          rw [b5] at c1
          exact ⟨m, L', S', h', c1, lkp_tr b3 c2, fm_tr b4 c3⟩
      · cases h
def blk_b (P : Nat → Nat → Bool) (K J : Nat → Bool) (k p1 p2 : Nat) : Bool := match pd_a2 k with
  | some e => e.2.all (fun c => c.all (fun x => (Nat.blt x.1 p1 || Nat.ble p2 x.1) || ((sf_c P K k x.2.1 && bc_i p1 p2 x.1 x.2.2 x.2.1) && lk_i J x.2.1)))
  | none => true
theorem blk_of {K : Nat → Bool} {p1 p2 : Nat} (hb : blk_b P K J k p1 p2 = true) : blk_ok P K J k p1 p2 := by
  intro pc i len hp hp2 hi
  have hi : pd_ins k pc = some (i, len) := hi
  unfold pd_ins at hi
  unfold blk_b at hb
  split at hi
  · rename_i e ee
    rw [ee] at hb
    dsimp only at hb
    unfold pm_ch at hi
    split at hi
    · rename_i c ec
      have h1 := List.all_eq_true.mp (List.all_eq_true.mp hb c (pm_nth_mem ec)) _ (pm_fd_mem hi)
      have hn : (Nat.blt pc p1 || Nat.ble p2 pc) = false := by
        cases hx : Nat.blt pc p1 with
        | true => exact absurd (Nat.le_of_ble_eq_true hx) (by omega)
        | false =>
          cases hy : Nat.ble p2 pc with
          | true => exact absurd (Nat.le_of_ble_eq_true hy) (by omega)
          | false => rfl
      rw [hn, Bool.false_or] at h1
      unfold sf_c at h1
      rw [Bool.and_eq_true, Bool.and_eq_true, Bool.and_eq_true] at h1
      obtain ⟨⟨⟨a1, a2⟩, a3⟩, a4⟩ := h1
      dsimp only at a1 a2 a3 a4
      refine ⟨⟨⟨a1, fun w t ht => ?_⟩, a3⟩, a4⟩
      rw [ht] at a2
      exact a2
    · cases hi
  · cases hi
end BLK
