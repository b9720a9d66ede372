section MH95zzytx0
/-! taints that may be passed to methods that write nothing -/
section TN2
variable {fr lo k pc sz sl : Nat} {L : pm_L} {S : List Value} {h : pm_H} {st' : pm_St} {A : Nat → Bool} {G : Nat → Nat → Bool} {t u : List Bool} {v : Value}
/-- what a method answers is no reference -/
theorem rv_nr : ∀ (n fr lo k : Nat) (st : pm_St) (r : pm_Rs), pm_run PT n fr lo k st = some r → ∀ v, r.1 = some v → nrv A v
  | 0, _, _, _, _, _, h => by cases h
  | n + 1, fr, lo, k, st, r, h => by
    unfold pm_run at h
    split at h
    · rename_i r' e1
      cases h
      unfold pm_end at e1
      split at e1
      · cases e1
      · split at e1
        · split at e1
          · rename_i rv er
            cases e1
            intro v ev
            dsimp only at ev
            subst ev
            unfold pm_rets at er
            repeat' split at er
            all_goals first
              | (cases er; done)
              | (cases er; first | exact nrv_i _ | exact nrv_l _)
          · cases e1
        · cases e1
    · split at h
      · rename_i st' e2
        exact rv_nr n fr lo k st' r h
      · cases h
/-- in the methods of K no cell of A is written: C tells the taints of each place -/
def t2_ok (C : Nat → Nat → List Bool) (G : Nat → Nat → Bool) (K : Nat → Bool) : Prop := ∀ k pc i len, K k = true → pm_ins PT k pc = some (i, len) → (pm_callee PT k i = none → tc i (C k pc) = true ∧ tnx (C k) pc len i (tf G k i (C k pc)) = true) ∧ ∀ w t, pm_callee PT k i = some (w, t) → K t = true ∧ (tle ((C k pc).take (pm_na PT t)) [] = true ∨ nw_K t = true) ∧ tle (cond (pm_ret PT t).isSome [false] [] ++ (C k pc).drop (pm_na PT t)) (C k (pc + 3)) = true
theorem t2_run {P : Nat → Nat → Bool} {K : Nat → Bool} {C : Nat → Nat → List Bool} (hK : t2_ok C G K) (hS : sf_ok P K) : ∀ (n fr lo k : Nat) (st : pm_St) (r : pm_Rs), K k = true → st.2.2.2.2.1 ≤ 198 → nrL A st.2.1 → tS A (C k st.1) st.2.2.1 → nrH A G st.2.2.2.1 → pm_run PT n fr lo k st = some r → ((∀ v, r.1 = some v → nrv A v) ∧ nrH A G r.2.1) ∧ ∀ a, A a = true → r.2.1 a = st.2.2.2.1 a
  | 0, _, _, _, _, _, _, _, _, _, _, h => by cases h
  | n + 1, fr, lo, k, st, r, hk, hB, qL, qS, qH, h => by
    unfold pm_run at h
    split at h
    · rename_i r' e1
      cases h
      unfold pm_end at e1
      split at e1
      · cases e1
      · split at e1
        · split at e1
          · rename_i rv er
            cases e1
            refine ⟨⟨fun v ev => ?_, qH⟩, fun _ _ => rfl⟩
            dsimp only at ev
            subst ev
            unfold pm_rets at er
            repeat' split at er
            all_goals first
              | (cases er; done)
              | (cases er; first | exact nrv_i _ | exact nrv_l _)
          · cases e1
        · cases e1
    · split at h
      · rename_i st' e2
        unfold pm_step at e2
        split at e2
        · cases e2
        · rename_i i len ei
          obtain ⟨n1, n2⟩ := hK k _ i len hk ei
          split at e2
          · rename_i hlen
            split at e2
            · rename_i w t ec
              obtain ⟨c1, c2, c3⟩ := n2 w t ec
              split at e2
              · split at e2
                · rename_i rv h1 sz1 sl1 e3
                  cases e2
                  have a1 : ∀ v, rv = some v → nrv A v := fun v ev => rv_nr n _ _ t _ (rv, h1, sz1, sl1) e3 v ev
                  have a23 : nrH A G h1 ∧ ∀ a, A a = true → h1 a = st.2.2.2.1 a := by
                    rcases c2 with c2 | c2
                    · have qa := tS_nr (tS_le _ _ [] c2 (tS_take (pm_na PT t) _ _ qS))
                      obtain ⟨⟨-, a2⟩, a3⟩ := t2_run hK hS n _ _ t (0, pm_l0 (st.2.2.1.take (pm_na PT t)).reverse (pm_max PT t), [], st.2.2.2.1, st.2.2.2.2.1, st.2.2.2.2.2) (rv, h1, sz1, sl1) c1 hB (nrL_l0 (fun v hv => qa v (List.mem_reverse.mp hv))) tS_e qH e3
                      exact ⟨a2, a3⟩
                    · have e4 := pm_run_nw nw_class n _ _ t (0, pm_l0 (st.2.2.1.take (pm_na PT t)).reverse (pm_max PT t), [], st.2.2.2.1, st.2.2.2.2.1, st.2.2.2.2.2) (rv, h1, sz1, sl1) c2 e3
                      have e5 : h1 = st.2.2.2.1 := congrArg (fun q : pm_H × Nat × Nat => q.1) e4
                      rw [e5]
                      exact ⟨qH, fun _ _ => rfl⟩
                  obtain ⟨a2, a3⟩ := a23
                  have hz := sz_run hS n _ _ t (0, pm_l0 (st.2.2.1.take (pm_na PT t)).reverse (pm_max PT t), [], st.2.2.2.1, st.2.2.2.2.1, st.2.2.2.2.2) (rv, h1, sz1, sl1) c1 e3
                  have hz1 : sz1 = st.2.2.2.2.1 := congrArg (fun q : Nat × Nat => q.1) hz
                  have q3 : tS A (C k (st.1 + 3)) (rv.toList ++ st.2.2.1.drop (pm_na PT t)) := by
                    refine tS_le _ _ _ c3 ?_
                    have qd := tS_drop (pm_na PT t) _ _ qS
                    cases hr : pm_ret PT t with
                    | none =>
                      have e := vd_run hr e3
                      dsimp only at e
                      subst e
                      exact qd
                    | some ty =>
                      obtain ⟨v, e⟩ := vs_run hr e3
                      dsimp only at e
                      subst e
                      exact ⟨fun _ => a1 v rfl, qd⟩
                  obtain ⟨b1, b3⟩ := t2_run hK hS n fr lo k (st.1 + 3, st.2.1, rv.toList ++ st.2.2.1.drop (pm_na PT t), h1, sz1, sl1) r hk (by show sz1 ≤ 198; omega) qL q3 a2 h
                  exact ⟨b1, fun a ha => (b3 a ha).trans (a3 a ha)⟩
                · cases e2
              · cases e2
            · rename_i ec
              obtain ⟨m1, m2⟩ := n1 ec
              obtain ⟨⟨a1, a2, a3⟩, a4⟩ := tn_simple hB m1 qL qS qH e2
              have hz := sz_simple ((hS k _ i len hk ei).1) e2
              have hz1 : st'.2.2.2.2.1 = st.2.2.2.2.1 := congrArg (fun q : Nat × Nat => q.1) hz
              obtain ⟨b1, b3⟩ := t2_run hK hS n fr lo k st' r hk (by omega) a1 (tS_le _ _ _ (tn_next hlen m2 e2) a2) a3 h
              exact ⟨b1, fun a ha => (b3 a ha).trans (a4 a ha)⟩
          · cases e2
      · cases h
def t2_c (C : Nat → Nat → List Bool) (G : Nat → Nat → Bool) (K : Nat → Bool) (k : Nat) (x : Nat × Instr × Nat) : Bool := match pm_callee PT k x.2.1 with
  | some (_, t) => K t && ((tle ((C k x.1).take (pm_na PT t)) [] || nw_K t) && tle (cond (pm_ret PT t).isSome [false] [] ++ (C k x.1).drop (pm_na PT t)) (C k (x.1 + 3)))
  | none => tc x.2.1 (C k x.1) && tnx (C k) x.1 x.2.2 x.2.1 (tf G k x.2.1 (C k x.1))
def t2_b (C : Nat → Nat → List Bool) (G : Nat → Nat → Bool) (K : Nat → Bool) (k : Nat) : Bool := match pd_a2 k with
  | some e => e.2.all (fun c => c.all (fun x => t2_c C G K k x))
  | none => true
/-- a call leaves the cells of As alone -/
theorem t2_keeps {As : List Nat} {P : Nat → Nat → Bool} {K : Nat → Bool} {C : Nat → Nat → List Bool} (hK : t2_ok C G K) (hS : sf_ok P K) (htb : (List.range 198).all (fun i => tn_tc As G (bB i)) = true) (hk : K k = true) (hh : ah_ok bB 198 [] h) {o mx n : Nat} (ho : tnA As o = false) (vs : List Int32) {R : pm_Rs} (hr : pm_run PT n fr lo k (0, pm_l0 (.ref o :: vs.map Value.int) mx, [], h, 198, sl) = some R) : ∀ a, tnA As a = true → R.2.1 a = h a := by
  refine (t2_run hK hS n fr lo k _ R hk (Nat.le_refl _) (nrL_l0 ?_) tS_e (tn_ty htb hh) hr).2
  refine nrS_cons.mpr ⟨fun p e => by cases e; exact ho, fun v hv => ?_⟩
  obtain ⟨x, -, rfl⟩ := List.mem_map.mp hv
  exact nrv_i x
end TN2
/-! one look at every instruction: what is called, which fields are read -/
section GQ
variable {G : Nat → Nat → Bool} {k pc len : Nat} {i : Instr}
def gqX : List Nat := [0, 6, 15, 22, 45, 52, 57, 72, 78, 82, 85, 91, 92, 93, 128, 161]
def gqC : List (List (List Nat)) := [[[], [2], [], [4], [5], [74, 75], [], [160], [160], [7], [7, 8], [], [13], [13, 160], [160], []], [[21, 73], [21], [16, 17], [21, 73], [], [], [], [], [23], [], [], [], [], [], [75], [160]], [[160], [31, 270], [32, 270], [160], [], [160], [37], [28, 68, 74, 159, 270], [76, 77, 159, 160], [74], [43], [41], [43], [], [47], [160]], [[49, 53, 54], [160], [51], [160], [], [], [], [53, 54], [53, 54], [], [59, 62], [60], [], [80], [60, 61, 62, 63, 64], []], [[60, 61, 65], [60, 61, 62, 66, 67], [60, 81], [], [67, 69, 70, 71], [], [], [], [], [], [], [], [74, 75], [74, 75], [], []], [[], [80], [], [29, 39, 84, 160], [76, 77, 84, 159], [], [79], [], [129, 132, 133], [130, 133], [58], [], [], [], [24, 160], [36, 157, 159]], [[18, 39, 40, 56, 75, 136, 160], [18, 36, 56, 140, 270], [18, 137, 138, 160], [18, 139, 160], [16, 17, 56, 80, 134, 135, 141, 270], [19], [23, 25, 39], [25, 39, 56], [24, 39, 56, 77, 159, 160], [24, 53, 54, 83], [25, 31, 55, 75, 270], [53, 54, 56, 146], [23, 46, 48], [23, 50], [24, 46, 150, 152], [23, 44, 56, 73, 158]], [[24, 41, 44, 55, 73], [7, 8, 23, 56], [10, 11, 55], [12, 14, 53, 54], [37, 53, 54, 147], [55, 148, 270], [1], [], [3, 56, 270], [3, 30, 55, 270], [56, 58, 149], [53, 56, 153], [38, 42, 56, 73, 145, 155, 156, 270], [73], [20, 73], [9, 33, 34, 35, 36]], [[], [26, 80, 81], [80, 131], [23, 27, 80, 81], [160], [20], [80, 81, 135], [], [23, 25], [24], [159, 160], [24, 160], [42], [80, 81, 140, 142, 143, 144], [39, 40, 136], [139, 160]], [[137, 138], [39, 40], [39], [37], [31], [39], [56, 151], [], [], [154], [], [], [], [], [], []], [[], [], [], [], [], [], [166], [], [163], [163], [168], [], [], [164], [], [171]], [[171], [], [], [163], [], [165], [163], [], [182], [163], [], [184, 185], [180, 181, 186, 187, 189, 190], [], [165], [181, 184, 185]], [[180, 181, 186, 190, 191], [], [181, 182, 183, 184, 193, 194, 195], [183, 193, 194, 195], [180, 186, 195], [], [196, 197], [165], [199], [165, 173, 200, 270], [175], [176], [172], [172], [162, 163, 168, 174, 202, 203, 204], [162, 163, 170, 171, 172]], [[162, 163, 165, 169, 173], [163, 170], [163, 177], [], [], [212], [], [], [], [164, 165, 168, 169, 173, 201, 215, 216], [173], [218], [163, 170, 215], [170], [167, 211, 213, 217], [163, 167, 177, 211, 212, 219, 270]], [[211, 213, 220], [211, 213, 221], [183, 184, 185], [217, 219, 220, 221], [165, 167, 180, 186, 211, 212, 226, 227, 270], [], [168, 169, 201], [167, 169, 201], [167, 170, 217, 229], [164, 171, 217, 229, 233], [167, 170, 233], [164, 167, 169, 175, 270], [167, 201], [], [167, 168, 237], [163, 168]], [[163, 166, 167, 168, 237], [174, 219], [167, 168, 229, 241, 269], [167, 170, 218, 229, 241], [167, 168, 204, 205], [164, 165, 167, 204, 205, 270], [164, 172, 246], [167, 172, 246], [171], [164, 167, 248], [164, 167, 202, 270], [163, 165], [], [164, 165, 173], [253], [164, 167, 254, 270]], [[164, 165, 167, 254, 270], [201], [167, 196, 197, 257], [165], [259], [163, 167, 260], [], [163, 165, 167, 171, 217, 219, 229, 262, 270], [163], [163], [165, 175, 176], [177, 204, 266], [163], [], []]]
def gqF : List (List (List (Nat × Nat))) := [[[], [(0, 0), (0, 2), (0, 3)], [], [(0, 1), (3, 1)], [(0, 0), (0, 2), (0, 3)], [(0, 1), (3, 5), (3, 6)], [], [(1, 1), (3, 0), (7, 2)], [(1, 1), (3, 0), (7, 2)], [(1, 1), (3, 0)], [(1, 1), (1, 2), (3, 0)], [(1, 2), (1, 3)], [(1, 0), (1, 1), (3, 0)], [(1, 0), (1, 1), (3, 0), (7, 2)], [(1, 0), (7, 2)], []], [[(2, 0), (2, 2)], [(2, 2)], [], [(2, 0), (2, 2)], [], [(2, 1)], [], [(3, 0)], [], [(3, 1)], [(3, 2), (3, 3)], [(3, 5), (3, 6), (3, 7)], [(3, 3)], [(3, 1), (7, 3)], [(3, 1)], [(3, 0), (7, 1)]], [[(3, 0), (7, 1)], [(3, 0)], [(3, 0)], [(3, 0), (3, 4)], [(3, 0), (7, 0)], [(3, 0), (7, 1)], [(3, 0)], [(3, 2), (3, 5), (3, 6), (3, 7), (3, 8), (7, 3), (7, 4)], [(7, 1), (7, 2), (7, 3), (7, 4)], [(3, 5)], [(3, 0), (7, 6)], [(3, 1), (3, 2), (3, 7), (7, 0), (7, 3), (7, 5)], [(7, 5)], [], [(3, 0), (4, 0), (4, 1)], [(3, 0), (3, 4), (4, 0), (4, 1)]], [[(4, 1)], [(3, 0), (3, 4), (4, 0), (4, 1)], [(3, 0), (4, 0), (4, 2)], [(3, 0), (3, 4), (4, 0), (4, 2)], [], [], [(5, 0), (5, 1)], [], [], [], [(6, 4), (6, 5), (8, 1)], [], [(6, 0), (6, 1)], [(6, 4), (6, 5)], [(6, 5)], []], [[(6, 5)], [(6, 5)], [(6, 4), (6, 5)], [], [(6, 0), (6, 1)], [(6, 2), (6, 3)], [(6, 2), (6, 3)], [], [], [(7, 0), (7, 1), (7, 2), (7, 3), (7, 4), (7, 5), (7, 6)], [(7, 5)], [(7, 4)], [], [], [], [(8, 0), (8, 1)]], [[(8, 0), (8, 1)], [], [], [(3, 1), (7, 1), (7, 2), (9, 1), (9, 2), (9, 3), (9, 7)], [(3, 1), (3, 6), (9, 0), (9, 1), (9, 2), (9, 3), (9, 4), (9, 5), (9, 6), (9, 7)], [], [(8, 1), (10, 0)], [(8, 1), (10, 0)], [(3, 0), (10, 0), (10, 2)], [(3, 1), (10, 0), (10, 2)], [(10, 0), (10, 8), (10, 9)], [], [], [], [(3, 4), (10, 2)], [(3, 0), (7, 0), (10, 2), (10, 3)]], [[(7, 1), (7, 3), (10, 1), (10, 2), (10, 3), (10, 5), (10, 8)], [(7, 5), (10, 1), (10, 2), (10, 3), (10, 5)], [(7, 1), (10, 3), (10, 5)], [(7, 2), (10, 3), (10, 5)], [(7, 5), (8, 1), (10, 0), (10, 1), (10, 3), (10, 5)], [(2, 2), (10, 3), (10, 5)], [(10, 2), (10, 3), (10, 8)], [(3, 0), (7, 3), (10, 1), (10, 2), (10, 3), (10, 8)], [(3, 1), (3, 6), (7, 1), (7, 2), (7, 3), (10, 1), (10, 2), (10, 3), (10, 8)], [(9, 0), (10, 1), (10, 2), (10, 8), (10, 12)], [(3, 0), (7, 3), (7, 4), (10, 1), (10, 2), (10, 3)], [(3, 1), (10, 1), (10, 2)], [(10, 1), (10, 2), (10, 10)], [(10, 2), (10, 10)], [(10, 2), (10, 10)], [(7, 0), (7, 5), (10, 1), (10, 2), (10, 3), (10, 4)]], [[(3, 1), (7, 3), (10, 1), (10, 2), (10, 3), (10, 4)], [(10, 1), (10, 2), (10, 3), (10, 11)], [(10, 1), (10, 3), (10, 11)], [(1, 0), (10, 1), (10, 3), (10, 11)], [(3, 0), (10, 1), (10, 2), (10, 3)], [(3, 0), (10, 1), (10, 2)], [(0, 0), (10, 13)], [(0, 0), (10, 13)], [(3, 1), (3, 6), (10, 1), (10, 2), (10, 3), (10, 13)], [(3, 0), (10, 1), (10, 2), (10, 3), (10, 13)], [(10, 0), (10, 1), (10, 8), (10, 9)], [(10, 1)], [(3, 0), (3, 1), (7, 5), (10, 1), (10, 2), (10, 3), (10, 4)], [(10, 3), (10, 6), (10, 7)], [(10, 3), (10, 5), (10, 6), (10, 7)], [(0, 0), (2, 2), (3, 0), (3, 1), (5, 1), (7, 5), (7, 6), (8, 1), (10, 0), (10, 1), (10, 2), (10, 3), (10, 5), (10, 11), (10, 13)]], [[], [(3, 0), (8, 1), (10, 0), (10, 2)], [(3, 1), (8, 1), (10, 0), (10, 2)], [(7, 3), (7, 4), (10, 0), (10, 2), (10, 3)], [(7, 0), (7, 1), (10, 3)], [(10, 5)], [(8, 1), (10, 0)], [], [(7, 3), (10, 2), (10, 3)], [(10, 2)], [(7, 1), (10, 3)], [(7, 2), (10, 2), (10, 3)], [(10, 2), (10, 3)], [(10, 0)], [(10, 2), (10, 3), (10, 8)], [(7, 2), (10, 3)]], [[], [(7, 3), (10, 2), (10, 4), (10, 8)], [(7, 3), (10, 2), (10, 3), (10, 8)], [(3, 0), (10, 2), (10, 3)], [(3, 0), (10, 2), (10, 3)], [(3, 1), (7, 3), (10, 2), (10, 3)], [(10, 1)], [], [], [], [], [], [], [], [], []], [[], [], [], [], [], [], [], [(11, 1), (11, 2)], [(11, 3)], [(11, 4)], [], [], [], [], [(11, 4)], []], [[], [(11, 3)], [(11, 14), (11, 15)], [(11, 15)], [(11, 15)], [(11, 14), (11, 16), (11, 17)], [(11, 14), (11, 16), (11, 17)], [(11, 14), (11, 16), (11, 17)], [(11, 14), (11, 16)], [(11, 14), (11, 16), (11, 17)], [(11, 16), (11, 17)], [(11, 3), (11, 19), (11, 20)], [(11, 3), (11, 6), (11, 7), (11, 12), (11, 19), (11, 20)], [(11, 11), (11, 12)], [(11, 5), (11, 20), (11, 27)], [(11, 3), (11, 4), (11, 16), (11, 19), (11, 20)]], [[(11, 4), (11, 8), (11, 9), (11, 10), (11, 12), (11, 19), (11, 20)], [(11, 22), (11, 24)], [(11, 18)], [], [], [(11, 21)], [(11, 22), (11, 24)], [], [(11, 21), (11, 23), (11, 25), (11, 26)], [(11, 6), (11, 7), (11, 8), (11, 9), (11, 10), (11, 26)], [(11, 3), (11, 12)], [(11, 3), (11, 12)], [(11, 3), (11, 12)], [(11, 3), (11, 12)], [(11, 6), (11, 7), (11, 12)], [(11, 11), (11, 12)]], [[(11, 8), (11, 9), (11, 10), (11, 12)], [(11, 11)], [(11, 3), (11, 12)], [(11, 12), (11, 27), (11, 28)], [(11, 27), (11, 28)], [], [(11, 12), (11, 27), (11, 28)], [], [], [(11, 29)], [(11, 8)], [(11, 3), (11, 4), (11, 6), (11, 10)], [(11, 12)], [(11, 12)], [(11, 12), (11, 29), (11, 30)], [(11, 12)]], [[], [], [(11, 31), (11, 32), (11, 33), (11, 34), (11, 35)], [(11, 12), (11, 31), (11, 32), (11, 33), (11, 34)], [(11, 12), (11, 16), (11, 17), (11, 35)], [(11, 12), (11, 13)], [(11, 12)], [(11, 3), (11, 12)], [(11, 4), (11, 9), (11, 12), (11, 13), (11, 29)], [(11, 4), (11, 9), (11, 12), (11, 13), (11, 36), (11, 37), (11, 38)], [(11, 37), (11, 38)], [(11, 3), (11, 12)], [(11, 4), (11, 12)], [(11, 3), (11, 11), (11, 39)], [(11, 3), (11, 11), (11, 39)], [(11, 3), (11, 11), (11, 40)]], [[(11, 39)], [(11, 13), (11, 41)], [(11, 13), (11, 41)], [(11, 4), (11, 12), (11, 13)], [], [(11, 3), (11, 42), (11, 43)], [(11, 3), (11, 12), (11, 44), (11, 45), (11, 46)], [(11, 3), (11, 12), (11, 44), (11, 45), (11, 46)], [(11, 3), (11, 12)], [(11, 3)], [(11, 3)], [(11, 47), (11, 48), (11, 49)], [(11, 47)], [(11, 8), (11, 9), (11, 12)], [(11, 4), (11, 47), (11, 48), (11, 49)], [(11, 4), (11, 9)]], [[(11, 3), (11, 4), (11, 12)], [(11, 4), (11, 12)], [(11, 21), (11, 22), (11, 23), (11, 24), (11, 50)], [], [], [], [(11, 51)], [(11, 3), (11, 4), (11, 13)], [(11, 5), (11, 12), (11, 52), (11, 53), (11, 54)], [(11, 5), (11, 12), (11, 52), (11, 53), (11, 54)], [(11, 3), (11, 11), (11, 12)], [(11, 1), (11, 3), (11, 4), (11, 12), (11, 15), (11, 27), (11, 47)], [(11, 1), (11, 2)], [], []]]
def gq_cs (k : Nat) : List Nat := match pm_nth gqC (k / 16) with
  | some c => (match pm_nth c (k % 16) with
    | some l => l
    | none => [])
  | none => []
def gq_fs (k : Nat) : List (Nat × Nat) := match pm_nth gqF (k / 16) with
  | some c => (match pm_nth c (k % 16) with
    | some l => l
    | none => [])
  | none => []
def gq_f (k : Nat) (i : Instr) : Bool := match i with
  | .getfield j => (match pm_fld PT (pm_o PT k) j with
    | some (ci, f, _) => (gq_fs k).any (fun p => Nat.beq p.1 ci && Nat.beq p.2 f)
    | none => true)
  | _ => true
def gq_c (k : Nat) (i : Instr) : Bool := sf_i nP0 k i && (gq_f k i && (match pm_callee PT k i with
  | some (_, t) => (gq_cs k).any (fun y => Nat.beq y t)
  | none => true))
def gq_b (k : Nat) : Bool := match pd_a2 k with
  | some e => e.2.all (fun c => c.all (fun x => gq_c k x.2.1))
  | none => true
theorem gq_gz (k : Nat) (q : gz_b k = true) (h : ((gz_cs k).all (fun t => (gq_cs k).any (fun y => Nat.beq y t)) && (gz_fs k).all (fun p => !(!((gq_fs k).any (fun z => Nat.beq z.1 p.1 && Nat.beq z.2 p.2))))) = true) : gq_b k = true := by
  obtain ⟨h1, h2⟩ := Bool.and_eq_true_iff.mp h
  refine gz_each (f := gq_c k) (fun i hi => ?_) q
  obtain ⟨a, b, -, d⟩ := gz_in hi
  have b2 := gz_nri (P2 := fun ci f => !((gq_fs k).any (fun z => Nat.beq z.1 ci && Nat.beq z.2 f))) (fun ci f e => gz_m (P := fun ci f => !((gq_fs k).any (fun z => Nat.beq z.1 ci && Nat.beq z.2 f))) h2 ci f e) b
  unfold gq_c
  refine Bool.and_eq_true_iff.mpr ⟨gz_sfi (fun ci f e => by cases e) a, Bool.and_eq_true_iff.mpr ⟨?_, gz_cal h1 d⟩⟩
  cases i
  case getfield j =>
    have b2 : (match pm_fld PT (pm_o PT k) j with | some (ci, f, _) => !(!((gq_fs k).any (fun z => Nat.beq z.1 ci && Nat.beq z.2 f))) | none => true) = true := b2
    show (match pm_fld PT (pm_o PT k) j with | some (ci, f, _) => (gq_fs k).any (fun p => Nat.beq p.1 ci && Nat.beq p.2 f) | none => true) = true
    cases e : pm_fld PT (pm_o PT k) j with
    | none => rfl
    | some z =>
      rw [e] at b2
      obtain ⟨ci, f, z⟩ := z
      have b2 : (!(!((gq_fs k).any (fun z => Nat.beq z.1 ci && Nat.beq z.2 f)))) = true := b2
      show (gq_fs k).any (fun p => Nat.beq p.1 ci && Nat.beq p.2 f) = true
      rw [Bool.not_not] at b2
      exact b2
  all_goals rfl
theorem gq_all : ((List.range 271).filter (fun k => !(gqX.any (fun x => Nat.beq x k)))).all gq_b = true := gz_lift (X := gqX) (g := fun k => (gz_cs k).all (fun t => (gq_cs k).any (fun y => Nat.beq y t)) && (gz_fs k).all (fun p => !(!((gq_fs k).any (fun z => Nat.beq z.1 p.1 && Nat.beq z.2 p.2))))) (by decide +kernel) gq_gz (by decide +kernel)
theorem gq_at (hk : k ∈ (List.range 271).filter (fun k => !(gqX.any (fun x => Nat.beq x k)))) (hi : pm_ins PT k pc = some (i, len)) : gq_c k i = true := by
  have hb := List.all_eq_true.mp gq_all k hk
  have hi : pd_ins k pc = some (i, len) := hi
  unfold pd_ins at hi
  unfold gq_b at hb
  split at hi
  · rename_i e ee
    rw [ee] at hb
    dsimp only at hb
    unfold pm_ch at hi
    split at hi
    · rename_i c ec
      exact List.all_eq_true.mp (List.all_eq_true.mp hb c (pm_nth_mem ec)) _ (pm_fd_mem hi)
    · cases hi
  · cases hi
theorem t2_at {C : Nat → Nat → List Bool} {K : Nat → Bool} (hb : t2_b C G K k = true) (hi : pm_ins PT k pc = some (i, len)) : t2_c C G K k (pc, i, len) = true := by
  have hi : pd_ins k pc = some (i, len) := hi
  unfold pd_ins at hi
  unfold t2_b at hb
  split at hi
  · rename_i e ee
    rw [ee] at hb
    dsimp only at hb
    unfold pm_ch at hi
    split at hi
    · rename_i c ec
      exact List.all_eq_true.mp (List.all_eq_true.mp hb c (pm_nth_mem ec)) _ (pm_fd_mem hi)
    · cases hi
  · cases hi
theorem tto_e {off : Int} : tto (fun _ => []) pc off [] = true := by
  unfold tto
  split <;> rfl
theorem gq_i (hs : sf_i nP0 k i = true) (hg : ∀ j, i = .getfield j → tg G k j = false) : tc i [] = true ∧ tnx (fun _ => []) pc len i (tf G k i []) = true := by
  cases i
  case getfield j =>
    refine ⟨rfl, ?_⟩
    show tle (tg G k j :: [].tail) [] = true
    rw [hg j rfl]
    rfl
  case ifCond c off =>
    refine ⟨rfl, ?_⟩
    show (tto (fun _ => []) pc off [] && true) = true
    rw [tto_e]
    rfl
  case if_icmp c off =>
    refine ⟨rfl, ?_⟩
    show (tto (fun _ => []) pc off [] && true) = true
    rw [tto_e]
    rfl
  case goto off => exact ⟨rfl, tto_e⟩
  all_goals first
    | exact ⟨rfl, rfl⟩
    | (cases hs; done)
def t3_b (C : List (Nat × List (Nat × List Bool))) (G : Nat → Nat → Bool) (K : Nat → Bool) (k : Nat) : Bool := match pm_fd C k with
  | some _ => t2_b (tk_at C) G K k
  | none => (gq_cs k).all K && (gq_fs k).all (fun p => !(G p.1 p.2))
theorem t3_of {C : List (Nat × List (Nat × List Bool))} {X : List Nat} (h0 : gqX.all (fun y => X.any (fun x => Nat.beq x y)) = true) (hb : ((List.range 271).filter (fun k => !(X.any (fun x => Nat.beq x k)))).all (t3_b C G (sf_X X)) = true) : t2_ok (tk_at C) G (sf_X X) ∧ sf_ok nP0 (sf_X X) := by
  have h1 : ∀ k pc i len, sf_X X k = true → pm_ins PT k pc = some (i, len) → gq_c k i = true := by
    intro k pc i len hk hi
    refine gq_at ?_ hi
    have hm := List.mem_filter.mp (sf_X_in k hk)
    refine List.mem_filter.mpr ⟨hm.1, ?_⟩
    cases e : gqX.any (fun x => Nat.beq x k) with
    | false => rfl
    | true =>
      obtain ⟨x, hx, ex⟩ := List.any_eq_true.mp e
      have e2 := List.all_eq_true.mp h0 x hx
      rw [Nat.eq_of_beq_eq_true ex] at e2
      have e3 := hm.2
      rw [e2] at e3
      cases e3
  have h2 : t2_ok (tk_at C) G (sf_X X) := by
    intro k pc i len hk hi
    have hb := List.all_eq_true.mp hb k (sf_X_in k hk)
    have g := h1 k pc i len hk hi
    unfold t3_b at hb
    cases e : pm_fd C k with
    | some m =>
      rw [e] at hb
      have h1 := t2_at hb hi
      unfold t2_c at h1
      dsimp only at h1
      refine ⟨fun hn => ?_, fun w t ht => ?_⟩
      · rw [hn] at h1
        dsimp only at h1
        rw [Bool.and_eq_true] at h1
        exact h1
      · rw [ht] at h1
        dsimp only at h1
        rw [Bool.and_eq_true, Bool.and_eq_true, Bool.or_eq_true] at h1
        exact h1
    | none =>
      rw [e] at hb
      dsimp only at hb
      rw [Bool.and_eq_true] at hb
      obtain ⟨b1, b2⟩ := hb
      unfold gq_c at g
      rw [Bool.and_eq_true, Bool.and_eq_true] at g
      obtain ⟨g1, g2, g3⟩ := g
      have eT : tk_at C k = fun _ => [] := by
        funext pc
        unfold tk_at
        rw [e]
      rw [eT]
      dsimp only
      refine ⟨fun _ => gq_i g1 (fun j ej => ?_), fun w t ht => ⟨?_, Or.inl (by rw [List.take_nil]; rfl), ?_⟩⟩
      · subst ej
        unfold gq_f at g2
        dsimp only at g2
        unfold tg
        split
        · rename_i ci f z ef
          rw [ef] at g2
          dsimp only at g2
          obtain ⟨p, hp, ep⟩ := List.any_eq_true.mp g2
          rw [Bool.and_eq_true] at ep
          have b3 := List.all_eq_true.mp b2 p hp
          rw [Nat.eq_of_beq_eq_true ep.1, Nat.eq_of_beq_eq_true ep.2] at b3
          cases eG : G ci f with
          | false => rfl
          | true =>
            rw [eG] at b3
            cases b3
        · rfl
      · rw [ht] at g3
        dsimp only at g3
        obtain ⟨y, hy, ey⟩ := List.any_eq_true.mp g3
        rw [← Nat.eq_of_beq_eq_true ey]
        exact List.all_eq_true.mp b1 y hy
      · rw [List.drop_nil]
        cases (pm_ret PT t).isSome <;> rfl
  refine ⟨h2, fun k pc i len hk hi => ⟨?_, fun w t ht => ((h2 k pc i len hk hi).2 w t ht).1⟩⟩
  have g := h1 k pc i len hk hi
  unfold gq_c at g
  rw [Bool.and_eq_true] at g
  exact g.1
end GQ
/-! who writes the cells of states, courts and gifts, rules, clues -/
section WHO
def wStC : List (Nat × List (Nat × List Bool)) := [(7, [(22, [true]), (23, [false, true]), (25, [false, false, true]), (28, [false, true])]), (8, [(22, [true]), (24, [false, true]), (25, [false, false, true]), (28, [false, true])]), (13, [(32, [true]), (34, [false, true]), (35, [false, false, true]), (38, [false, false, true]), (39, [false, false, false, true]), (40, [false, false, true]), (43, [false, true]), (89, [true]), (91, [false, true]), (93, [false, false, true]), (96, [false, true])]), (14, [(62, [true]), (63, [false, true]), (66, [false, true]), (68, [false, false, true]), (69, [false, true]), (71, [false, false, true]), (74, [false, true])]), (29, [(18, [true]), (20, [false, true])]), (31, [(18, [true]), (19, [false, true]), (21, [false, false, true]), (24, [false, true]), (34, [true]), (36, [false, true]), (37, [false, false, true]), (40, [false, true])]), (32, [(18, [true]), (19, [false, true]), (21, [false, false, true]), (24, [false, true]), (32, [true]), (34, [false, true]), (35, [false, false, true]), (38, [false, true])]), (36, [(17, [true]), (18, [false, true])]), (37, [(25, [true]), (27, [false, true]), (28, [false, false, true]), (31, [false, true])]), (39, [(56, [true]), (57, [false, true]), (69, [true]), (70, [false, true])]), (75, [(4, [true]), (5, [false, true])]), (83, [(93, [true]), (94, [false, true]), (95, [false, false, true]), (98, [false, true]), (106, [true]), (107, [false, true]), (108, [false, false, true]), (111, [false, true])]), (103, [(47, [true]), (48, [false, true])]), (104, [(21, [true]), (22, [false, true]), (23, [false, false, true]), (26, [false, true]), (35, [true]), (36, [false, true]), (37, [false, false, true]), (40, [false, true]), (75, [true]), (77, [false, true])]), (106, [(20, [true]), (21, [false, true]), (30, [true]), (31, [false, true])]), (136, [(31, [true]), (32, [false, true])]), (139, [(21, [true]), (22, [false, true]), (23, [false, false, true]), (26, [false, true])]), (146, [(7, [true]), (8, [false, true]), (17, [true]), (18, [false, true])]), (149, [(33, [true]), (34, [false, true])])]
def wStG (ci f : Nat) : Bool := (Nat.beq ci 7 && (Nat.beq f 0 || Nat.beq f 1 || Nat.beq f 2 || Nat.beq f 3 || Nat.beq f 4))
def wStX : List Nat := [0, 6, 15, 16, 18, 19, 22, 40, 42, 43, 44, 45, 52, 57, 72, 73, 78, 82, 85, 88, 89, 91, 92, 93, 95, 96, 97, 98, 99, 100, 101, 111, 112, 124, 125, 126, 128, 130, 131, 132, 138, 140, 141, 142, 143, 144, 145, 161]
def wStA : List Nat := [14, 15, 16, 17, 18, 20, 21, 22, 23, 24, 28, 29, 30, 31, 32, 34, 35, 36, 37, 38, 40, 41, 42, 43, 44, 46, 47, 48, 49, 50, 52, 53, 54, 55, 56, 58, 59, 60, 61, 62, 64, 65, 66, 67, 68, 70, 71, 72, 73, 74, 76, 77, 78, 79, 80, 82, 83, 84, 85, 86, 88, 89, 90, 91, 92, 94, 95, 96, 97, 98, 100, 101, 102, 103, 104, 106, 107, 108, 109, 110, 112, 113, 114, 115, 116, 118, 119, 120, 121, 122, 125, 126, 127, 128, 129, 131, 132, 133, 134, 135, 137, 138, 139, 140, 141]
theorem wSt_all : ((List.range 271).filter (fun k => !(wStX.any (fun x => Nat.beq x k)))).all (t3_b wStC wStG (sf_X wStX)) = true := by decide +kernel
theorem wSt_both : t2_ok (tk_at wStC) wStG (sf_X wStX) ∧ sf_ok nP0 (sf_X wStX) := t3_of (by decide +kernel) wSt_all
theorem wSt_sf : sf_ok nP0 (sf_X wStX) := wSt_both.2
theorem wSt_tn : t2_ok (tk_at wStC) wStG (sf_X wStX) := wSt_both.1
theorem wSt_tb : (List.range 198).all (fun i => tn_tc wStA wStG (bB i)) = true := by decide +kernel
def wReC : List (Nat × List (Nat × List Bool)) := [(5, [(35, [true]), (36, [false, true]), (55, [true]), (56, [false, true])]), (28, [(4, [true]), (5, [false, true]), (6, [false, false, true]), (7, [false, true]), (8, [false, false, true]), (9, [false, true])]), (39, [(9, [true]), (10, [false, true]), (24, [true]), (25, [false, true]), (39, [true]), (41, [false, true]), (52, [true]), (53, [false, true]), (56, [false, true]), (57, [false, false, true]), (58, [false, true]), (84, [true]), (85, [false, true])]), (41, [(4, [true]), (5, [false, true]), (14, [true]), (15, [false, true])]), (43, [(14, [true]), (15, [false, true]), (60, [true]), (62, [false, true]), (89, [true]), (91, [false, true])]), (84, [(180, [true]), (182, [false, true])]), (104, [(144, [true]), (146, [false, true]), (154, [true]), (156, [false, true])]), (120, [(43, [true]), (44, [false, true])])]
def wReG (ci f : Nat) : Bool := (Nat.beq ci 3 && (Nat.beq f 2 || Nat.beq f 3 || Nat.beq f 5 || Nat.beq f 6 || Nat.beq f 7))
def wReX : List Nat := [0, 6, 15, 22, 26, 27, 45, 52, 57, 72, 78, 82, 85, 88, 89, 91, 92, 93, 128, 129, 130, 131, 161]
def wReA : List Nat := [6, 7, 9, 10, 11]
theorem wRe_all : ((List.range 271).filter (fun k => !(wReX.any (fun x => Nat.beq x k)))).all (t3_b wReC wReG (sf_X wReX)) = true := by decide +kernel
theorem wRe_both : t2_ok (tk_at wReC) wReG (sf_X wReX) ∧ sf_ok nP0 (sf_X wReX) := t3_of (by decide +kernel) wRe_all
theorem wRe_sf : sf_ok nP0 (sf_X wReX) := wRe_both.2
theorem wRe_tn : t2_ok (tk_at wReC) wReG (sf_X wReX) := wRe_both.1
theorem wRe_tb : (List.range 198).all (fun i => tn_tc wReA wReG (bB i)) = true := by decide +kernel
def wRuC : List (Nat × List (Nat × List Bool)) := [(68, [(19, [true]), (20, [false, true]), (30, [true]), (31, [false, true]), (40, [true]), (41, [false, true]), (72, [true]), (73, [false, true]), (108, [true]), (109, [false, true])])]
def wRuG (ci f : Nat) : Bool := (Nat.beq ci 6 && (Nat.beq f 0))
def wRuX : List Nat := [0, 6, 15, 22, 45, 52, 57, 58, 59, 60, 62, 64, 65, 66, 72, 78, 82, 85, 90, 91, 92, 93, 122, 128, 161]
def wRuA : List Nat := [143, 146]
theorem wRu_all : ((List.range 271).filter (fun k => !(wRuX.any (fun x => Nat.beq x k)))).all (t3_b wRuC wRuG (sf_X wRuX)) = true := by decide +kernel
theorem wRu_both : t2_ok (tk_at wRuC) wRuG (sf_X wRuX) ∧ sf_ok nP0 (sf_X wRuX) := t3_of (by decide +kernel) wRu_all
theorem wRu_sf : sf_ok nP0 (sf_X wRuX) := wRu_both.2
theorem wRu_tn : t2_ok (tk_at wRuC) wRuG (sf_X wRuX) := wRu_both.1
theorem wRu_tb : (List.range 198).all (fun i => tn_tc wRuA wRuG (bB i)) = true := by decide +kernel
def wClC : List (Nat × List (Nat × List Bool)) := [(4, [(17, [true]), (18, [false, true]), (23, [true]), (24, [false, true])])]
def wClG (ci f : Nat) : Bool := (Nat.beq ci 0 && (Nat.beq f 2 || Nat.beq f 3))
def wClX : List Nat := [0, 1, 6, 15, 22, 45, 52, 57, 72, 78, 82, 85, 91, 92, 93, 118, 128, 161]
def wClA : List Nat := [160, 161]
theorem wCl_all : ((List.range 271).filter (fun k => !(wClX.any (fun x => Nat.beq x k)))).all (t3_b wClC wClG (sf_X wClX)) = true := by decide +kernel
theorem wCl_both : t2_ok (tk_at wClC) wClG (sf_X wClX) ∧ sf_ok nP0 (sf_X wClX) := t3_of (by decide +kernel) wCl_all
theorem wCl_sf : sf_ok nP0 (sf_X wClX) := wCl_both.2
theorem wCl_tn : t2_ok (tk_at wClC) wClG (sf_X wClX) := wCl_both.1
theorem wCl_tb : (List.range 198).all (fun i => tn_tc wClA wClG (bB i)) = true := by decide +kernel
def wMRC : List (Nat × List (Nat × List Bool)) := [(201, [(9, [true]), (10, [false, true]), (21, [true]), (22, [false, true]), (23, [false, false, true]), (24, [false, true]), (25, [false, false, true]), (28, [true, false, true]), (29, [false, true, false, true]), (30, [false, false, true]), (31, [false, true]), (42, [true]), (43, [false, true]), (54, [true]), (55, [false, true]), (57, [false, false, true]), (58, [false, false, false, true]), (59, [false, false, true]), (60, [false, true]), (86, [true]), (87, [false, true])]), (206, [(88, [true]), (89, [false, true]), (130, [true]), (131, [false, true]), (132, [false, false, true]), (133, [false, true]), (134, [false, false, true]), (135, [false, true]), (137, [false, false, true]), (138, [false, true])]), (208, [(68, [true]), (69, [false, true]), (75, [true]), (76, [false, true]), (82, [true]), (83, [false, true])]), (218, [(12, [true]), (13, [false, true]), (22, [true]), (23, [false, true])]), (219, [(23, [true]), (24, [false, true]), (75, [true]), (76, [false, true]), (99, [true]), (100, [false, true])]), (232, [(86, [true]), (88, [false, true]), (93, [true]), (94, [false, true])]), (233, [(45, [true]), (46, [false, true]), (49, [false, true]), (51, [false, false, true]), (52, [false, true])]), (253, [(32, [true]), (33, [false, true]), (48, [true]), (49, [false, true])]), (255, [(35, [true]), (36, [false, true])])]
def wMRG (ci f : Nat) : Bool := (Nat.beq ci 11 && (Nat.beq f 6 || Nat.beq f 7 || Nat.beq f 8 || Nat.beq f 9 || Nat.beq f 10))
def wMRX : List Nat := [0, 6, 15, 22, 45, 52, 57, 72, 78, 82, 85, 91, 92, 93, 128, 161, 188, 192]
def wMRA : List Nat := [164, 165, 166, 167, 168]
theorem wMR_all : ((List.range 271).filter (fun k => !(wMRX.any (fun x => Nat.beq x k)))).all (t3_b wMRC wMRG (sf_X wMRX)) = true := by decide +kernel
theorem wMR_both : t2_ok (tk_at wMRC) wMRG (sf_X wMRX) ∧ sf_ok nP0 (sf_X wMRX) := t3_of (by decide +kernel) wMR_all
theorem wMR_sf : sf_ok nP0 (sf_X wMRX) := wMR_both.2
theorem wMR_tn : t2_ok (tk_at wMRC) wMRG (sf_X wMRX) := wMR_both.1
theorem wMR_tb : (List.range 198).all (fun i => tn_tc wMRA wMRG (bB i)) = true := by decide +kernel
def wMNC : List (Nat × List (Nat × List Bool)) := [(202, [(17, [true]), (18, [false, true]), (19, [false, false, true])]), (203, [(17, [true]), (18, [false, true]), (19, [false, false, true])]), (204, [(17, [true]), (18, [false, true]), (19, [false, false, true])]), (205, [(17, [true]), (18, [false, true]), (19, [false, false, true])]), (206, [(95, [true]), (96, [false, true]), (103, [true]), (104, [false, true])]), (207, [(52, [true]), (53, [false, true]), (54, [false, false, true]), (69, [true]), (70, [false, true]), (71, [false, false, true])]), (208, [(89, [true]), (91, [false, true]), (92, [false, false, true]), (93, [false, true]), (99, [true]), (101, [false, true]), (102, [false, false, true]), (103, [false, true]), (109, [true]), (110, [false, true])]), (211, [(25, [true]), (26, [false, true])]), (229, [(17, [true]), (18, [false, true])]), (232, [(41, [true]), (43, [false, true]), (45, [false, false, true]), (46, [false, true])]), (233, [(139, [true]), (141, [false, true]), (143, [false, false, true]), (144, [false, true])]), (235, [(31, [true]), (33, [false, true]), (34, [false, false, true]), (35, [false, true]), (71, [true]), (73, [false, true]), (74, [false, false, true]), (75, [false, true]), (90, [true]), (92, [false, true]), (93, [false, false, true]), (94, [false, true]), (102, [true]), (103, [false, true]), (105, [false, false, true])]), (243, [(40, [true]), (42, [false, true]), (44, [false, false, true]), (45, [false, true]), (55, [true]), (57, [false, true])]), (246, [(26, [true]), (27, [false, true]), (28, [false, false, true]), (31, [false, false, true]), (32, [false, false, false, true]), (33, [false, false, true]), (115, [true]), (116, [false, true]), (118, [false, false, true])]), (247, [(89, [true]), (90, [false, true]), (93, [false, true]), (94, [false, false, true]), (95, [false, true]), (96, [false, false, true]), (99, [false, false, true]), (100, [false, false, false, true]), (101, [false, false, false, false, true]), (102, [false, false, false, true]), (103, [false, false, false, false, true]), (106, [false, false, false, false, true]), (107, [false, false, false, true]), (108, [false, false, true])]), (248, [(26, [true]), (27, [false, true]), (28, [false, false, true])]), (253, [(64, [true]), (66, [false, true]), (67, [false, false, true]), (68, [false, true]), (78, [true]), (79, [false, true])]), (256, [(65, [true]), (67, [false, true]), (69, [false, false, true]), (70, [false, true])]), (264, [(58, [true]), (59, [false, true])]), (266, [(35, [true]), (36, [false, true]), (38, [false, false, true]), (53, [true]), (54, [false, true]), (56, [false, false, true])]), (267, [(86, [true]), (88, [false, true]), (95, [true]), (103, [true]), (105, [false, true])])]
def wMNG (ci f : Nat) : Bool := (Nat.beq ci 11 && (Nat.beq f 12))
def wMNX : List Nat := [0, 6, 15, 22, 45, 52, 57, 72, 78, 82, 85, 91, 92, 93, 128, 161, 188, 189, 192, 210, 214, 220, 221, 222, 223, 224, 225, 227, 228, 230, 231, 236, 257, 258, 265]
def wMNA : List Nat := [170]
theorem wMN_all : ((List.range 271).filter (fun k => !(wMNX.any (fun x => Nat.beq x k)))).all (t3_b wMNC wMNG (sf_X wMNX)) = true := by decide +kernel
theorem wMN_both : t2_ok (tk_at wMNC) wMNG (sf_X wMNX) ∧ sf_ok nP0 (sf_X wMNX) := t3_of (by decide +kernel) wMN_all
theorem wMN_sf : sf_ok nP0 (sf_X wMNX) := wMN_both.2
theorem wMN_tn : t2_ok (tk_at wMNC) wMNG (sf_X wMNX) := wMN_both.1
theorem wMN_tb : (List.range 198).all (fun i => tn_tc wMNA wMNG (bB i)) = true := by decide +kernel
def wMCC : List (Nat × List (Nat × List Bool)) := [(200, [(16, [true]), (17, [false, true])])]
def wMCG (ci f : Nat) : Bool := (Nat.beq ci 11 && (Nat.beq f 21))
def wMCX : List Nat := [0, 6, 15, 22, 45, 52, 57, 72, 78, 82, 85, 91, 92, 93, 128, 161, 197, 198, 258]
def wMCA : List Nat := [174]
theorem wMC_all : ((List.range 271).filter (fun k => !(wMCX.any (fun x => Nat.beq x k)))).all (t3_b wMCC wMCG (sf_X wMCX)) = true := by decide +kernel
theorem wMC_both : t2_ok (tk_at wMCC) wMCG (sf_X wMCX) ∧ sf_ok nP0 (sf_X wMCX) := t3_of (by decide +kernel) wMC_all
theorem wMC_sf : sf_ok nP0 (sf_X wMCX) := wMC_both.2
theorem wMC_tn : t2_ok (tk_at wMCC) wMCG (sf_X wMCX) := wMC_both.1
theorem wMC_tb : (List.range 198).all (fun i => tn_tc wMCA wMCG (bB i)) = true := by decide +kernel
def wMPC : List (Nat × List (Nat × List Bool)) := [(214, [(41, [true]), (43, [false, true]), (44, [false, false, true]), (47, [false, false, true]), (48, [false, true]), (49, [false, false, true]), (50, [false, true])])]
def wMPG (ci f : Nat) : Bool := (Nat.beq ci 11 && (Nat.beq f 28))
def wMPX : List Nat := [0, 6, 15, 22, 45, 52, 57, 72, 78, 82, 85, 91, 92, 93, 128, 161, 211, 212, 213, 222, 223, 224, 225, 228]
def wMPA : List Nat := [178]
theorem wMP_all : ((List.range 271).filter (fun k => !(wMPX.any (fun x => Nat.beq x k)))).all (t3_b wMPC wMPG (sf_X wMPX)) = true := by decide +kernel
theorem wMP_both : t2_ok (tk_at wMPC) wMPG (sf_X wMPX) ∧ sf_ok nP0 (sf_X wMPX) := t3_of (by decide +kernel) wMP_all
theorem wMP_sf : sf_ok nP0 (sf_X wMPX) := wMP_both.2
theorem wMP_tn : t2_ok (tk_at wMPC) wMPG (sf_X wMPX) := wMP_both.1
theorem wMP_tb : (List.range 198).all (fun i => tn_tc wMPA wMPG (bB i)) = true := by decide +kernel
def wMKC : List (Nat × List (Nat × List Bool)) := [(265, [(58, [true]), (60, [false, true]), (61, [false, false, true]), (62, [false, true]), (63, [false, false, true]), (64, [false, true])])]
def wMKG (ci f : Nat) : Bool := (Nat.beq ci 11 && (Nat.beq f 54))
def wMKX : List Nat := [0, 6, 15, 22, 45, 52, 57, 72, 78, 82, 85, 91, 92, 93, 128, 161, 264]
def wMKA : List Nat := [196]
theorem wMK_all : ((List.range 271).filter (fun k => !(wMKX.any (fun x => Nat.beq x k)))).all (t3_b wMKC wMKG (sf_X wMKX)) = true := by decide +kernel
theorem wMK_both : t2_ok (tk_at wMKC) wMKG (sf_X wMKX) ∧ sf_ok nP0 (sf_X wMKX) := t3_of (by decide +kernel) wMK_all
theorem wMK_sf : sf_ok nP0 (sf_X wMKX) := wMK_both.2
theorem wMK_tn : t2_ok (tk_at wMKC) wMKG (sf_X wMKX) := wMK_both.1
theorem wMK_tb : (List.range 198).all (fun i => tn_tc wMKA wMKG (bB i)) = true := by decide +kernel
def wMLC : List (Nat × List (Nat × List Bool)) := [(254, [(36, [true]), (38, [false, true]), (43, [true]), (45, [false, true])])]
def wMLG (ci f : Nat) : Bool := (Nat.beq ci 11 && (Nat.beq f 48 || Nat.beq f 49))
def wMLX : List Nat := [0, 6, 15, 22, 45, 52, 57, 72, 78, 82, 85, 91, 92, 93, 128, 161, 251]
def wMLA : List Nat := [191, 192]
theorem wML_all : ((List.range 271).filter (fun k => !(wMLX.any (fun x => Nat.beq x k)))).all (t3_b wMLC wMLG (sf_X wMLX)) = true := by decide +kernel
theorem wML_both : t2_ok (tk_at wMLC) wMLG (sf_X wMLX) ∧ sf_ok nP0 (sf_X wMLX) := t3_of (by decide +kernel) wML_all
theorem wML_sf : sf_ok nP0 (sf_X wMLX) := wML_both.2
theorem wML_tn : t2_ok (tk_at wMLC) wMLG (sf_X wMLX) := wML_both.1
theorem wML_tb : (List.range 198).all (fun i => tn_tc wMLA wMLG (bB i)) = true := by decide +kernel
end WHO
end MH95zzytx0
section MH95zzytx1
/-! the relation of the whole states, and what keeps it -/
section SRD
variable {n fr lo sl kx km cc gc b : Nat} {q : QT} {h h' h1 h2 hx : pm_H} {r : Nat → Int32} {R : pm_Rs} {vs : List Int32} {v w : Int32}
def stB : List Nat := [13, 27, 33, 39, 45, 51, 57, 63, 69, 75, 81, 87, 93, 99, 105, 111, 117, 124, 130, 136]
def SB : List Nat := [6, 7, 9, 10, 11, 160, 161, 164, 165, 166, 167, 168, 170, 178, 191, 192, 196, 14, 15, 16, 17, 18, 28, 29, 30, 31, 32, 34, 35, 36, 37, 38, 40, 41, 42, 43, 44, 46, 47, 48, 49, 50, 52, 53, 54, 55, 56, 58, 59, 60, 61, 62, 64, 65, 66, 67, 68, 70, 71, 72, 73, 74, 76, 77, 78, 79, 80, 82, 83, 84, 85, 86, 88, 89, 90, 91, 92, 94, 95, 96, 97, 98, 100, 101, 102, 103, 104, 106, 107, 108, 109, 110, 112, 113, 114, 115, 116, 118, 119, 120, 121, 122, 125, 126, 127, 128, 129, 131, 132, 133, 134, 135, 137, 138, 139, 140, 141]
def SA : List Nat := SB ++ [143, 146, 174]
def SF2 : List (Nat × Nat) := [(0, 7), (5, 0), (5, 1), (25, 1), (25, 2), (159, 0), (162, 3), (162, 4), (162, 27), (162, 47), (13, 5), (13, 6), (27, 5), (27, 6), (33, 5), (33, 6), (39, 5), (39, 6), (45, 5), (45, 6), (51, 5), (51, 6), (57, 5), (57, 6), (63, 5), (63, 6), (69, 5), (69, 6), (75, 5), (75, 6), (81, 5), (81, 6), (87, 5), (87, 6), (93, 5), (93, 6), (99, 5), (99, 6), (105, 5), (105, 6), (111, 5), (111, 6), (117, 5), (117, 6), (124, 5), (124, 6), (130, 5), (130, 6), (136, 5), (136, 6)]
def SFs : List (Nat × Nat) := SF2 ++ [(142, 1), (145, 1), (162, 23)]
/-- the state object b of the class tells what the row r does -/
def RSb (cc gc b : Nat) (h : pm_H) (r : Nat → Int32) : Prop := RS cc gc (Ar h (b + 1)) (Ar h (b + 2)) (Ar h (b + 3)) (Ar h (b + 4)) (Ar h (b + 5)) (Fi h b 5) (Fi h b 6) r
/-- what can be undone -/
def PA (cc gc : Nat) (h : pm_H) : Prop := ∃ fi si : Nat, fi < 16 ∧ si ≤ 15 ∧ (Fi h 25 1 = nI fi ∧ Fi h 25 2 = nI si ∧ Fi h 162 27 = nI si) ∧ ∀ j, j < si → RSb cc gc (27 + 6 * ((fi + j) % 16)) h (fun k => Ar h 178 (96 * j + k)) ∧ RI cc gc (fun k => Ar h 178 (96 * j + k))
/-- what is kept -/
def KP (cc gc : Nat) (h : pm_H) : Prop := ∀ i, i < 3 → kbit (Fi h 0 7) (nI i) = true → RSb cc gc (124 + 6 * i) h (fun k => Ar h 196 (96 * i + k)) ∧ RI cc gc (fun k => Ar h 196 (96 * i + k))
/-- what was heard -/
def CLU (h : pm_H) : Prop := ∃ m : Nat, m ≤ 12 ∧ (Fi h 159 0 = nI m ∧ Fi h 162 47 = nI m) ∧ ∀ j, j < m → Ar h 160 j = Ar h 191 j ∧ Ar h 161 j = Ar h 192 j ∧ v2 (0, 0, 0) 0 0 (Ar h 160 j) (Ar h 161 j) = true
/-- all but THE RULE -/
def SRc (cc gc : Nat) (h : pm_H) : Prop := (RSb cc gc 13 h (Ar h 170) ∧ RI cc gc (Ar h 170)) ∧ RMm cc gc h h ∧ PA cc gc h ∧ KP cc gc h ∧ CLU h
/-- the rule that isn't ruling -/
def OT (q : QT) (h : pm_H) : Prop := ∃ fs, h 0 = .inr (10, fs) ∧ fs[9]? = some (.ref (287 - q.1))
def SRq (q : QT) (cc gc : Nat) (h : pm_H) : Prop := (VR q cc gc (Ar h (q.1 + 1)) (Ar h 174) ∧ OT q h) ∧ SRc cc gc h
def SR (h : pm_H) : Prop := ∃ q cc gc, HC q cc gc h ∧ SRq q cc gc h
def kpt (As : List Nat) (h h' : pm_H) : Prop := ∀ a, As.elem a = true → Ar h' a = Ar h a
def kpf (Fs : List (Nat × Nat)) (h h' : pm_H) : Prop := ∀ c g, Fs.elem (c, g) = true → Fi h' c g = Fi h c g
theorem kpt_tr {As : List Nat} (x : kpt As h h1) (y : kpt As h1 h2) : kpt As h h2 := fun a e => (y a e).trans (x a e)
theorem kpf_tr {Fs : List (Nat × Nat)} (x : kpf Fs h h1) (y : kpf Fs h1 h2) : kpf Fs h h2 := fun c g e => (y c g e).trans (x c g e)
theorem kpt_b (x : kpt SA h h') : kpt SB h h' := fun a e => x a (List.elem_iff.mpr (List.mem_append_left _ (List.elem_iff.mp e)))
theorem kpf_b (x : kpf SFs h h') : kpf SF2 h h' := fun c g e => x c g (List.elem_iff.mpr (List.mem_append_left _ (List.elem_iff.mp e)))
theorem sst_in : stB.all (fun b => SB.elem (b + 1) && (SB.elem (b + 2) && (SB.elem (b + 3) && (SB.elem (b + 4) && (SB.elem (b + 5) && (SF2.elem (b, 5) && SF2.elem (b, 6))))))) = true := by decide +kernel
theorem st_p : ∀ m, m < 16 → stB.elem (27 + 6 * m) = true := by decide +kernel
theorem st_k : ∀ m, m < 3 → stB.elem (124 + 6 * m) = true := by decide +kernel
theorem RSb_keep (hb : stB.elem b = true) (ka : kpt SB h h') (kf : kpf SF2 h h') (s : RSb cc gc b h r) : RSb cc gc b h' r := by
  have z := List.all_eq_true.mp sst_in b (List.elem_iff.mp hb)
  rw [Bool.and_eq_true, Bool.and_eq_true, Bool.and_eq_true, Bool.and_eq_true, Bool.and_eq_true, Bool.and_eq_true] at z
  obtain ⟨z1, z2, z3, z4, z5, z6, z7⟩ := z
  unfold RSb
  rw [ka _ z1, ka _ z2, ka _ z3, ka _ z4, ka _ z5, kf _ _ z6, kf _ _ z7]
  exact s
theorem SRc_keep (ka : kpt SB h h') (kf : kpf SF2 h h') (s : SRc cc gc h) : SRc cc gc h' := by
  obtain ⟨⟨s1, s2⟩, s3, ⟨fi, si, p1, p2, ⟨p3, p4, p5⟩, p6⟩, s6, ⟨m, m1, ⟨m2, m3⟩, m4⟩⟩ := s
  have e170 : Ar h' 170 = Ar h 170 := ka 170 rfl
  have e178 : Ar h' 178 = Ar h 178 := ka 178 rfl
  have e196 : Ar h' 196 = Ar h 196 := ka 196 rfl
  refine ⟨⟨?_, ?_⟩, ?_, ⟨fi, si, p1, p2, ⟨(kf 25 1 rfl).trans p3, (kf 25 2 rfl).trans p4, (kf 162 27 rfl).trans p5⟩, fun j hj => ?_⟩, fun i hi hk => ?_, ⟨m, m1, ⟨(kf 159 0 rfl).trans m2, (kf 162 47 rfl).trans m3⟩, fun j hj => ?_⟩⟩
  · rw [e170]
    exact RSb_keep rfl ka kf s1
  · rw [e170]
    exact s2
  · unfold RMm
    rw [ka 6 rfl, ka 7 rfl, ka 9 rfl, ka 10 rfl, ka 11 rfl, ka 164 rfl, ka 165 rfl, ka 166 rfl, ka 167 rfl, ka 168 rfl]
    exact s3
  · rw [e178]
    exact ⟨RSb_keep (st_p _ (Nat.mod_lt _ (by decide))) ka kf (p6 j hj).1, (p6 j hj).2⟩
  · rw [kf 0 7 rfl] at hk
    rw [e196]
    exact ⟨RSb_keep (st_k i hi) ka kf (s6 i hi hk).1, (s6 i hi hk).2⟩
  · rw [ka 160 rfl, ka 161 rfl, ka 191 rfl, ka 192 rfl]
    exact m4 j hj
/-- a reference that stands in a field of object 0 stands there still -/
def k0f (g : Nat) (h h' : pm_H) : Prop := ∀ fs p, h 0 = .inr (10, fs) → fs[g]? = some (.ref p) → ∃ fs', h' 0 = .inr (10, fs') ∧ fs'[g]? = some (.ref p)
theorem SRq_keep (hq : q.1 = 142 ∨ q.1 = 145) (ka : kpt SA h h') (kf : kpf SFs h h') (k9 : k0f 9 h h') (s : SRq q cc gc h) : SRq q cc gc h' := by
  obtain ⟨⟨s4, ⟨fs, o1, o2⟩⟩, s⟩ := s
  have e174 : Ar h' 174 = Ar h 174 := ka 174 rfl
  have eq1 : Ar h' (q.1 + 1) = Ar h (q.1 + 1) := by
    rcases hq with e | e
    · rw [e]
      exact ka 143 rfl
    · rw [e]
      exact ka 146 rfl
  refine ⟨⟨?_, k9 fs _ o1 o2⟩, SRc_keep (kpt_b ka) (kpf_b kf) s⟩
  rw [eq1, e174]
  exact s4
theorem HC_keep (hw : WT h') (kf : kpf SFs h h') (k8 : k0f 8 h h') (c : HC q cc gc h) : HC q cc gc h' := by
  obtain ⟨w, ⟨x0, x1⟩, ⟨m3, m4, m23, rs⟩, bb, ⟨fs, r1, r2⟩, r3⟩ := c
  refine ⟨hw, ⟨(kf 5 0 rfl).trans x0, (kf 5 1 rfl).trans x1⟩, ⟨(kf 162 3 rfl).trans m3, (kf 162 4 rfl).trans m4, (kf 162 23 rfl).trans m23, ?_⟩, bb, k8 fs q.1 r1 r2, r3⟩
  rcases r3 with e | e
  · rw [e] at rs ⊢
    exact (kf 142 1 rfl).trans rs
  · rw [e] at rs ⊢
    exact (kf 145 1 rfl).trans rs
/-! who writes the fields -/
def wFP (ci f : Nat) : Bool := (Nat.beq ci 0 && (Nat.beq f 0)) || (Nat.beq ci 2 && (Nat.beq f 1 || Nat.beq f 2)) || (Nat.beq ci 3 && (Nat.beq f 0 || Nat.beq f 1)) || (Nat.beq ci 6 && (Nat.beq f 1)) || (Nat.beq ci 7 && (Nat.beq f 5 || Nat.beq f 6)) || (Nat.beq ci 10 && (Nat.beq f 7 || Nat.beq f 8 || Nat.beq f 9)) || (Nat.beq ci 11 && (Nat.beq f 3 || Nat.beq f 4 || Nat.beq f 23 || Nat.beq f 27 || Nat.beq f 47))
def wFX : List Nat := [0, 1, 6, 15, 16, 17, 18, 19, 20, 22, 42, 43, 44, 45, 52, 57, 58, 59, 60, 62, 64, 65, 66, 72, 73, 78, 82, 85, 88, 89, 90, 91, 92, 93, 96, 97, 98, 99, 100, 101, 111, 112, 118, 119, 122, 124, 125, 126, 128, 133, 140, 141, 161, 188, 190, 192, 197, 198, 212, 213, 214, 222, 223, 224, 225, 228, 251, 252, 258, 265]
theorem wF_all : ((List.range 271).filter (fun k => !(wFX.any (fun x => Nat.beq x k)))).all (sf_b wFP (sf_X wFX)) = true := gz_lift (X := wFX) (g := gz_sg wFP (sf_X wFX)) (by decide +kernel) (fun k q h => gz_sf k q h) (by decide +kernel)
theorem wF_ok : sf_ok wFP (sf_X wFX) := sf_of sf_X_in wF_all
def fldK (p : Nat × Nat) : Bool := match bB p.1 with
  | .inr (ci, as) => Nat.blt ci 1000 && (wFP ci p.2 && Nat.blt p.1 198)
  | _ => false
theorem fld_all : SFs.all fldK = true := by decide +kernel
theorem fi_fm {F : fr_F} {c ci g : Nat} {fs : List Value} (f : fm F h h') (hF : F.2 ci g = true) (e : h c = .inr (ci, fs)) : Fi h' c g = Fi h c g := by
  obtain ⟨fs', e', -, hk⟩ := f.2 c ci fs e
  unfold Fi
  rw [e, e']
  dsimp only
  rw [hk g hF]
theorem kpf_fm (hh : ah_ok bB 198 [] h) (f : fm (sfF wFP) h h') : kpf SFs h h' := by
  intro c g e
  have z := List.all_eq_true.mp fld_all (c, g) (List.elem_iff.mp e)
  unfold fldK at z
  dsimp only at z
  cases hB : bB c with
  | inl x => rw [hB] at z; cases z
  | inr x =>
    obtain ⟨ci, as⟩ := x
    rw [hB] at z
    dsimp only at z
    rw [Bool.and_eq_true, Bool.and_eq_true] at z
    have h0 : ac_ok (h c) (bB c) := hh c (Nat.le_of_ble_eq_true z.2.2)
    rw [hB] at h0
    obtain ⟨fs, ef, -, -⟩ := aE_obj h0 (Nat.le_of_ble_eq_true z.1)
    exact fi_fm f z.2.1 ef
theorem k8_fm {g : Nat} (hg : wFP 10 g = true) (f : fm (sfF wFP) h h') : k0f g h h' := by
  intro fs p e e8
  obtain ⟨fs', e', -, hk⟩ := f.2 0 10 fs e
  exact ⟨fs', e', (hk g hg).trans e8⟩
/-! the arrays -/
theorem sx_all : SA.all (fun a => tnA wStA a || (tnA wReA a || (tnA wRuA a || (tnA wClA a || Nat.ble 162 a)))) = true := by decide +kernel
theorem sm_all : SA.all (fun a => tnA wMRA a || (tnA wMNA a || (tnA wMCA a || (tnA wMPA a || (tnA wMKA a || (tnA wMLA a || Nat.blt a 162)))))) = true := by decide +kernel
theorem sx_kpt (k1 : sf_X wStX kx = true) (k2 : sf_X wReX kx = true) (k3 : sf_X wRuX kx = true) (k4 : sf_X wClX kx = true) (hI : mInv h) (f1 : fm cxF h R.2.1) {mx m f l : Nat} (r1 : pm_run PT m f l kx (0, pm_l0 (.ref 0 :: vs.map Value.int) mx, [], h, 198, sl) = some R) : kpt SA h R.2.1 := by
  intro a e
  apply Ar_e
  have z := List.all_eq_true.mp sx_all a (List.elem_iff.mp e)
  rw [Bool.or_eq_true, Bool.or_eq_true, Bool.or_eq_true, Bool.or_eq_true] at z
  rcases z with z | z | z | z | z
  · exact t2_keeps wSt_tn wSt_sf wSt_tb k1 hI.1 (o := 0) rfl vs r1 a z
  · exact t2_keeps wRe_tn wRe_sf wRe_tb k2 hI.1 (o := 0) rfl vs r1 a z
  · exact t2_keeps wRu_tn wRu_sf wRu_tb k3 hI.1 (o := 0) rfl vs r1 a z
  · exact t2_keeps wCl_tn wCl_sf wCl_tb k4 hI.1 (o := 0) rfl vs r1 a z
  · exact f1.1 a z
theorem sm_kpt (k1 : sf_X wMRX km = true) (k2 : h2 170 = h1 170) (k3 : sf_X wMCX km = true) (k4 : sf_X wMPX km = true) (k5 : sf_X wMKX km = true) (k6 : sf_X wMLX km = true) (i1 : mInv h1) (lo1 : ∀ i, i < 162 → h2 i = h1 i) {mx m f l : Nat} {rv : Option Value} {s1 : Nat × Nat} (r2 : pm_run PT m f l km (0, pm_l0 (.ref 162 :: vs.map Value.int) mx, [], h1, 198, sl) = some (rv, h2, s1)) : kpt SA h1 h2 := by
  intro a e
  apply Ar_e
  have z := List.all_eq_true.mp sm_all a (List.elem_iff.mp e)
  rw [Bool.or_eq_true, Bool.or_eq_true, Bool.or_eq_true, Bool.or_eq_true, Bool.or_eq_true, Bool.or_eq_true] at z
  rcases z with z | z | z | z | z | z | z
  · exact t2_keeps wMR_tn wMR_sf wMR_tb k1 i1.1 (o := 162) rfl vs r2 a z
  · have : a = 170 := by
      obtain ⟨p, hp, e1⟩ := List.any_eq_true.mp z
      have e2 : p = 170 := List.mem_singleton.mp hp
      have e3 := Nat.eq_of_beq_eq_true e1
      omega
    subst this
    exact k2
  · exact t2_keeps wMC_tn wMC_sf wMC_tb k3 i1.1 (o := 162) rfl vs r2 a z
  · exact t2_keeps wMP_tn wMP_sf wMP_tb k4 i1.1 (o := 162) rfl vs r2 a z
  · exact t2_keeps wMK_tn wMK_sf wMK_tb k5 i1.1 (o := 162) rfl vs r2 a z
  · exact t2_keeps wML_tn wML_sf wML_tb k6 i1.1 (o := 162) rfl vs r2 a z
  · exact lo1 a (Nat.le_of_ble_eq_true z)
/-- the class's call keeps SR -/
theorem SR_x (k1 : sf_X wStX kx = true) (k2 : sf_X wReX kx = true) (k3 : sf_X wRuX kx = true) (k4 : sf_X wClX kx = true) (k5 : sf_X wFX kx = true) (hI : mInv h) (f1 : fm cxF h R.2.1) (i1 : mInv R.2.1) {mx m f l : Nat} (r1 : pm_run PT m f l kx (0, pm_l0 (.ref 0 :: vs.map Value.int) mx, [], h, 198, sl) = some R) (s : SR h) : SR R.2.1 := by
  obtain ⟨q, cc, gc, hc, s⟩ := s
  have ff := sf_run wF_ok _ _ _ kx _ R k5 r1
  have kf := kpf_fm hI.1 ff
  exact ⟨q, cc, gc, HC_keep (wt_of i1.1) kf (k8_fm rfl ff) hc, SRq_keep hc.qq (sx_kpt k1 k2 k3 k4 hI f1 r1) kf (k8_fm rfl ff) s⟩
/-- the reference's call keeps SR -/
theorem SR_m (k1 : sf_X wMRX km = true) (k2 : h2 170 = h1 170) (k3 : sf_X wMCX km = true) (k4 : sf_X wMPX km = true) (k5 : sf_X wMKX km = true) (k6 : sf_X wMLX km = true) (k7 : sf_X wFX km = true) (i1 : mInv h1) (i2 : mInv h2) (lo1 : ∀ i, i < 162 → h2 i = h1 i) {mx m f l : Nat} {rv : Option Value} {s1 : Nat × Nat} (r2 : pm_run PT m f l km (0, pm_l0 (.ref 162 :: vs.map Value.int) mx, [], h1, 198, sl) = some (rv, h2, s1)) (s : SR h1) : SR h2 := by
  obtain ⟨q, cc, gc, hc, s⟩ := s
  have ff : fm (sfF wFP) h1 h2 := sf_run wF_ok _ _ _ km _ (rv, h2, s1) k7 r2
  have kf := kpf_fm i1.1 ff
  exact ⟨q, cc, gc, HC_keep (wt_of i2.1) kf (k8_fm rfl ff) hc, SRq_keep hc.qq (sm_kpt k1 k2 k3 k4 k5 k6 i1 lo1 r2) kf (k8_fm rfl ff) s⟩
theorem now_keep (k : sf_X wMNX km = true) (i1 : mInv h1) {mx m f l : Nat} (r2 : pm_run PT m f l km (0, pm_l0 (.ref 162 :: vs.map Value.int) mx, [], h1, 198, sl) = some R) : R.2.1 170 = h1 170 := t2_keeps wMN_tn wMN_sf wMN_tb k i1.1 (o := 162) rfl vs r2 170 rfl
/-- a pair of calls that writes nothing of SR -/
theorem SR_pure (a1 : sf_X wStX kx = true) (a2 : sf_X wReX kx = true) (a3 : sf_X wRuX kx = true) (a4 : sf_X wClX kx = true) (a5 : sf_X wFX kx = true) (k1 : sf_X wMRX km = true) (k2 : sf_X wMNX km = true) (k3 : sf_X wMCX km = true) (k4 : sf_X wMPX km = true) (k5 : sf_X wMKX km = true) (k6 : sf_X wMLX km = true) (k7 : sf_X wFX km = true) (hI : mInv h) (pr : prun sl kx km vs h h1 h2 v w) (s : SR h) : SR h2 := by
  obtain ⟨⟨m, r1⟩, ⟨f1, i1⟩, ⟨m2, r2⟩, lo1, i2⟩ := pr
  exact SR_m k1 (now_keep k2 i1 r2) k3 k4 k5 k6 k7 i1 i2 lo1 r2 (SR_x a1 a2 a3 a4 a5 hI f1 i1 r1 s)
end SRD
/-! the calls that keep SR by their code alone -/
section SRP
variable {sl : Nat} {h h1 h2 : pm_H} {vs : List Int32} {v w : Int32}
theorem sr_sign (hI : mInv h) (pr : prun sl 86 178 vs h h1 h2 v w) (s : SR h) : SR h2 := SR_pure rfl rfl rfl rfl rfl rfl rfl rfl rfl rfl rfl rfl hI pr s
theorem sr_end (hI : mInv h) (pr : prun sl 87 179 vs h h1 h2 v w) (s : SR h) : SR h2 := SR_pure rfl rfl rfl rfl rfl rfl rfl rfl rfl rfl rfl rfl hI pr s
theorem sr_road (hI : mInv h) (pr : prun sl 94 209 vs h h1 h2 v w) (s : SR h) : SR h2 := SR_pure rfl rfl rfl rfl rfl rfl rfl rfl rfl rfl rfl rfl hI pr s
theorem sr_answer (hI : mInv h) (pr : prun sl 104 232 vs h h1 h2 v w) (s : SR h) : SR h2 := SR_pure rfl rfl rfl rfl rfl rfl rfl rfl rfl rfl rfl rfl hI pr s
theorem sr_wins (hI : mInv h) (pr : prun sl 105 234 vs h h1 h2 v w) (s : SR h) : SR h2 := SR_pure rfl rfl rfl rfl rfl rfl rfl rfl rfl rfl rfl rfl hI pr s
theorem sr_unseen (hI : mInv h) (pr : prun sl 106 235 vs h h1 h2 v w) (s : SR h) : SR h2 := SR_pure rfl rfl rfl rfl rfl rfl rfl rfl rfl rfl rfl rfl hI pr s
theorem sr_way (hI : mInv h) (pr : prun sl 108 238 vs h h1 h2 v w) (s : SR h) : SR h2 := SR_pure rfl rfl rfl rfl rfl rfl rfl rfl rfl rfl rfl rfl hI pr s
theorem sr_walks (hI : mInv h) (pr : prun sl 109 239 vs h h1 h2 v w) (s : SR h) : SR h2 := SR_pure rfl rfl rfl rfl rfl rfl rfl rfl rfl rfl rfl rfl hI pr s
theorem sr_alive (hI : mInv h) (pr : prun sl 110 240 vs h h1 h2 v w) (s : SR h) : SR h2 := SR_pure rfl rfl rfl rfl rfl rfl rfl rfl rfl rfl rfl rfl hI pr s
theorem sr_net (hI : mInv h) (pr : prun sl 113 244 vs h h1 h2 v w) (s : SR h) : SR h2 := SR_pure rfl rfl rfl rfl rfl rfl rfl rfl rfl rfl rfl rfl hI pr s
theorem sr_settle (hI : mInv h) (pr : prun sl 114 245 vs h h1 h2 v w) (s : SR h) : SR h2 := SR_pure rfl rfl rfl rfl rfl rfl rfl rfl rfl rfl rfl rfl hI pr s
theorem sr_ring (hI : mInv h) (pr : prun sl 115 247 vs h h1 h2 v w) (s : SR h) : SR h2 := SR_pure rfl rfl rfl rfl rfl rfl rfl rfl rfl rfl rfl rfl hI pr s
theorem sr_ranks (hI : mInv h) (pr : prun sl 116 249 vs h h1 h2 v w) (s : SR h) : SR h2 := SR_pure rfl rfl rfl rfl rfl rfl rfl rfl rfl rfl rfl rfl hI pr s
theorem sr_league (hI : mInv h) (pr : prun sl 117 250 vs h h1 h2 v w) (s : SR h) : SR h2 := SR_pure rfl rfl rfl rfl rfl rfl rfl rfl rfl rfl rfl rfl hI pr s
theorem sr_fits (hI : mInv h) (pr : prun sl 120 255 vs h h1 h2 v w) (s : SR h) : SR h2 := SR_pure rfl rfl rfl rfl rfl rfl rfl rfl rfl rfl rfl rfl hI pr s
theorem sr_ask (hI : mInv h) (pr : prun sl 121 256 vs h h1 h2 v w) (s : SR h) : SR h2 := SR_pure rfl rfl rfl rfl rfl rfl rfl rfl rfl rfl rfl rfl hI pr s
theorem sr_rests (hI : mInv h) (pr : prun sl 123 261 vs h h1 h2 v w) (s : SR h) : SR h2 := SR_pure rfl rfl rfl rfl rfl rfl rfl rfl rfl rfl rfl rfl hI pr s
theorem sr_count (hI : mInv h) (pr : prun sl 127 267 vs h h1 h2 v w) (s : SR h) : SR h2 := SR_pure rfl rfl rfl rfl rfl rfl rfl rfl rfl rfl rfl rfl hI pr s
end SRP
end MH95zzytx1
