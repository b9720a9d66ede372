/-! taints that may be passed to methods that write nothing -/
section TN2
variable {fr lo k pc sz sl : Nat} {L : pm_L} {S : List Value} {h : pm_H} {st' : pm_St} {A : Nat → Bool} {G : Nat → Nat → Bool} {t u : List Bool} {v : Value}
/-- what a method answers is no reference -/
theorem rv_nr : ∀ (n fr lo k : Nat) (st : pm_St) (r : pm_Rs), pm_run PT n fr lo k st = some r → ∀ v, r.1 = some v → nrv A v
  | 0, _, _, _, _, _, h => by cases h
  | n + 1, fr, lo, k, st, r, h => by
    unfold pm_run at h
    split at h
    · rename_i r' e1
      cases h
      unfold pm_end at e1
      split at e1
      · cases e1
      · split at e1
        · split at e1
          · rename_i rv er
            cases e1
            intro v ev
            dsimp only at ev
            subst ev
            unfold pm_rets at er
            repeat' split at er
            all_goals first
              | (cases er; done)
              | (cases er; first | exact nrv_i _ | exact nrv_l _)
          · cases e1
        · cases e1
    · split at h
      · rename_i st' e2
        exact rv_nr n fr lo k st' r h
      · cases h
/-- in the methods of K no cell of A is written: C tells the taints of each place -/
def t2_ok (C : Nat → Nat → List Bool) (G : Nat → Nat → Bool) (K : Nat → Bool) : Prop := ∀ k pc i len, K k = true → pm_ins PT k pc = some (i, len) → (pm_callee PT k i = none → tc i (C k pc) = true ∧ tnx (C k) pc len i (tf G k i (C k pc)) = true) ∧ ∀ w t, pm_callee PT k i = some (w, t) → K t = true ∧ (tle ((C k pc).take (pm_na PT t)) [] = true ∨ nw_K t = true) ∧ tle (cond (pm_ret PT t).isSome [false] [] ++ (C k pc).drop (pm_na PT t)) (C k (pc + 3)) = true
theorem t2_run {P : Nat → Nat → Bool} {K : Nat → Bool} {C : Nat → Nat → List Bool} (hK : t2_ok C G K) (hS : sf_ok P K) : ∀ (n fr lo k : Nat) (st : pm_St) (r : pm_Rs), K k = true → st.2.2.2.2.1 ≤ 198 → nrL A st.2.1 → tS A (C k st.1) st.2.2.1 → nrH A G st.2.2.2.1 → pm_run PT n fr lo k st = some r → ((∀ v, r.1 = some v → nrv A v) ∧ nrH A G r.2.1) ∧ ∀ a, A a = true → r.2.1 a = st.2.2.2.1 a
  | 0, _, _, _, _, _, _, _, _, _, _, h => by cases h
  | n + 1, fr, lo, k, st, r, hk, hB, qL, qS, qH, h => by
    unfold pm_run at h
    split at h
    · rename_i r' e1
      cases h
      unfold pm_end at e1
      split at e1
      · cases e1
      · split at e1
        · split at e1
          · rename_i rv er
            cases e1
            refine ⟨⟨fun v ev => ?_, qH⟩, fun _ _ => rfl⟩
            dsimp only at ev
            subst ev
            unfold pm_rets at er
            repeat' split at er
            all_goals first
              | (cases er; done)
              | (cases er; first | exact nrv_i _ | exact nrv_l _)
          · cases e1
        · cases e1
    · split at h
      · rename_i st' e2
        unfold pm_step at e2
        split at e2
        · cases e2
        · rename_i i len ei
          obtain ⟨n1, n2⟩ := hK k _ i len hk ei
          split at e2
          · rename_i hlen
            split at e2
            · rename_i w t ec
              obtain ⟨c1, c2, c3⟩ := n2 w t ec
              split at e2
              · split at e2
                · rename_i rv h1 sz1 sl1 e3
                  cases e2
                  have a1 : ∀ v, rv = some v → nrv A v := fun v ev => rv_nr n _ _ t _ (rv, h1, sz1, sl1) e3 v ev
                  have a23 : nrH A G h1 ∧ ∀ a, A a = true → h1 a = st.2.2.2.1 a := by
                    rcases c2 with c2 | c2
                    · have qa := tS_nr (tS_le _ _ [] c2 (tS_take (pm_na PT t) _ _ qS))
                      obtain ⟨⟨-, a2⟩, a3⟩ := t2_run hK hS n _ _ t (0, pm_l0 (st.2.2.1.take (pm_na PT t)).reverse (pm_max PT t), [], st.2.2.2.1, st.2.2.2.2.1, st.2.2.2.2.2) (rv, h1, sz1, sl1) c1 hB (nrL_l0 (fun v hv => qa v (List.mem_reverse.mp hv))) tS_e qH e3
                      exact ⟨a2, a3⟩
                    · have e4 := pm_run_nw nw_class n _ _ t (0, pm_l0 (st.2.2.1.take (pm_na PT t)).reverse (pm_max PT t), [], st.2.2.2.1, st.2.2.2.2.1, st.2.2.2.2.2) (rv, h1, sz1, sl1) c2 e3
                      have e5 : h1 = st.2.2.2.1 := congrArg (fun q : pm_H × Nat × Nat => q.1) e4
                      rw [e5]
                      exact ⟨qH, fun _ _ => rfl⟩
                  obtain ⟨a2, a3⟩ := a23
                  have hz := sz_run hS n _ _ t (0, pm_l0 (st.2.2.1.take (pm_na PT t)).reverse (pm_max PT t), [], st.2.2.2.1, st.2.2.2.2.1, st.2.2.2.2.2) (rv, h1, sz1, sl1) c1 e3
                  have hz1 : sz1 = st.2.2.2.2.1 := congrArg (fun q : Nat × Nat => q.1) hz
                  have q3 : tS A (C k (st.1 + 3)) (rv.toList ++ st.2.2.1.drop (pm_na PT t)) := by
                    refine tS_le _ _ _ c3 ?_
                    have qd := tS_drop (pm_na PT t) _ _ qS
                    cases hr : pm_ret PT t with
                    | none =>
                      have e := vd_run hr e3
                      dsimp only at e
                      subst e
                      exact qd
                    | some ty =>
                      obtain ⟨v, e⟩ := vs_run hr e3
                      dsimp only at e
                      subst e
                      exact ⟨fun _ => a1 v rfl, qd⟩
                  obtain ⟨b1, b3⟩ := t2_run hK hS n fr lo k (st.1 + 3, st.2.1, rv.toList ++ st.2.2.1.drop (pm_na PT t), h1, sz1, sl1) r hk (by show sz1 ≤ 198; omega) qL q3 a2 h
                  exact ⟨b1, fun a ha => (b3 a ha).trans (a3 a ha)⟩
                · cases e2
              · cases e2
            · rename_i ec
              obtain ⟨m1, m2⟩ := n1 ec
              obtain ⟨⟨a1, a2, a3⟩, a4⟩ := tn_simple hB m1 qL qS qH e2
              have hz := sz_simple ((hS k _ i len hk ei).1) e2
              have hz1 : st'.2.2.2.2.1 = st.2.2.2.2.1 := congrArg (fun q : Nat × Nat => q.1) hz
              obtain ⟨b1, b3⟩ := t2_run hK hS n fr lo k st' r hk (by omega) a1 (tS_le _ _ _ (tn_next hlen m2 e2) a2) a3 h
              exact ⟨b1, fun a ha => (b3 a ha).trans (a4 a ha)⟩
          · cases e2
      · cases h
def t2_c (C : Nat → Nat → List Bool) (G : Nat → Nat → Bool) (K : Nat → Bool) (k : Nat) (x : Nat × Instr × Nat) : Bool := match pm_callee PT k x.2.1 with
  | some (_, t) => K t && ((tle ((C k x.1).take (pm_na PT t)) [] || nw_K t) && tle (cond (pm_ret PT t).isSome [false] [] ++ (C k x.1).drop (pm_na PT t)) (C k (x.1 + 3)))
  | none => tc x.2.1 (C k x.1) && tnx (C k) x.1 x.2.2 x.2.1 (tf G k x.2.1 (C k x.1))
def t2_b (C : Nat → Nat → List Bool) (G : Nat → Nat → Bool) (K : Nat → Bool) (k : Nat) : Bool := match pd_a2 k with
  | some e => e.2.all (fun c => c.all (fun x => t2_c C G K k x))
  | none => true
theorem t2_of {C : Nat → Nat → List Bool} {K : Nat → Bool} {N : List Nat} (hN : ∀ k, K k = true → k ∈ N) (hb : N.all (t2_b C G K) = true) : t2_ok C G K := by
  intro k pc i len hk hi
  have hb := List.all_eq_true.mp hb k (hN k hk)
  have hi : pd_ins k pc = some (i, len) := hi
  unfold pd_ins at hi
  unfold t2_b at hb
  split at hi
  · rename_i e ee
    rw [ee] at hb
    dsimp only at hb
    unfold pm_ch at hi
    split at hi
    · rename_i c ec
      have h1 := List.all_eq_true.mp (List.all_eq_true.mp hb c (pm_nth_mem ec)) _ (pm_fd_mem hi)
      unfold t2_c at h1
      dsimp only at h1
      refine ⟨fun hn => ?_, fun w t ht => ?_⟩
      · rw [hn] at h1
        dsimp only at h1
        rw [Bool.and_eq_true] at h1
        exact h1
      · rw [ht] at h1
        dsimp only at h1
        rw [Bool.and_eq_true, Bool.and_eq_true, Bool.or_eq_true] at h1
        exact h1
    · cases hi
  · cases hi
/-- a call leaves the cells of As alone -/
theorem t2_keeps {As : List Nat} {P : Nat → Nat → Bool} {K : Nat → Bool} {C : Nat → Nat → List Bool} (hK : t2_ok C G K) (hS : sf_ok P K) (htb : (List.range 198).all (fun i => tn_tc As G (bB i)) = true) (hk : K k = true) (hh : ah_ok bB 198 [] h) {o mx n : Nat} (ho : tnA As o = false) (vs : List Int32) {R : pm_Rs} (hr : pm_run PT n fr lo k (0, pm_l0 (.ref o :: vs.map Value.int) mx, [], h, 198, sl) = some R) : ∀ a, tnA As a = true → R.2.1 a = h a := by
  refine (t2_run hK hS n fr lo k _ R hk (Nat.le_refl _) (nrL_l0 ?_) tS_e (tn_ty htb hh) hr).2
  refine nrS_cons.mpr ⟨fun p e => by cases e; exact ho, fun v hv => ?_⟩
  obtain ⟨x, -, rfl⟩ := List.mem_map.mp hv
  exact nrv_i x
end TN2
/-! who writes the cells of states, courts and gifts, rules, clues -/
section WHO
def wStC : List (Nat × List (Nat × List Bool)) := [(7, [(22, [true]), (23, [false, true]), (25, [false, false, true]), (28, [false, true])]), (8, [(22, [true]), (24, [false, true]), (25, [false, false, true]), (28, [false, true])]), (13, [(32, [true]), (34, [false, true]), (35, [false, false, true]), (38, [false, false, true]), (39, [false, false, false, true]), (40, [false, false, true]), (43, [false, true]), (89, [true]), (91, [false, true]), (93, [false, false, true]), (96, [false, true])]), (14, [(62, [true]), (63, [false, true]), (66, [false, true]), (68, [false, false, true]), (69, [false, true]), (71, [false, false, true]), (74, [false, true])]), (29, [(18, [true]), (20, [false, true])]), (31, [(18, [true]), (19, [false, true]), (21, [false, false, true]), (24, [false, true]), (34, [true]), (36, [false, true]), (37, [false, false, true]), (40, [false, true])]), (32, [(18, [true]), (19, [false, true]), (21, [false, false, true]), (24, [false, true]), (32, [true]), (34, [false, true]), (35, [false, false, true]), (38, [false, true])]), (36, [(17, [true]), (18, [false, true])]), (37, [(25, [true]), (27, [false, true]), (28, [false, false, true]), (31, [false, true])]), (39, [(56, [true]), (57, [false, true]), (69, [true]), (70, [false, true])]), (75, [(4, [true]), (5, [false, true])]), (83, [(93, [true]), (94, [false, true]), (95, [false, false, true]), (98, [false, true]), (106, [true]), (107, [false, true]), (108, [false, false, true]), (111, [false, true])]), (103, [(47, [true]), (48, [false, true])]), (104, [(21, [true]), (22, [false, true]), (23, [false, false, true]), (26, [false, true]), (35, [true]), (36, [false, true]), (37, [false, false, true]), (40, [false, true]), (75, [true]), (77, [false, true])]), (106, [(20, [true]), (21, [false, true]), (30, [true]), (31, [false, true])]), (136, [(31, [true]), (32, [false, true])]), (139, [(21, [true]), (22, [false, true]), (23, [false, false, true]), (26, [false, true])]), (146, [(7, [true]), (8, [false, true]), (17, [true]), (18, [false, true])]), (149, [(33, [true]), (34, [false, true])])]
def wStG (ci f : Nat) : Bool := (Nat.beq ci 7 && (Nat.beq f 0 || Nat.beq f 1 || Nat.beq f 2 || Nat.beq f 3 || Nat.beq f 4))
def wStX : List Nat := [0, 6, 15, 16, 18, 19, 22, 40, 42, 43, 44, 45, 52, 57, 72, 73, 78, 82, 85, 88, 89, 91, 92, 93, 95, 96, 97, 98, 99, 100, 101, 111, 112, 124, 125, 126, 128, 130, 131, 132, 138, 140, 141, 142, 143, 144, 145, 161]
def wStA : List Nat := [14, 15, 16, 17, 18, 20, 21, 22, 23, 24, 28, 29, 30, 31, 32, 34, 35, 36, 37, 38, 40, 41, 42, 43, 44, 46, 47, 48, 49, 50, 52, 53, 54, 55, 56, 58, 59, 60, 61, 62, 64, 65, 66, 67, 68, 70, 71, 72, 73, 74, 76, 77, 78, 79, 80, 82, 83, 84, 85, 86, 88, 89, 90, 91, 92, 94, 95, 96, 97, 98, 100, 101, 102, 103, 104, 106, 107, 108, 109, 110, 112, 113, 114, 115, 116, 118, 119, 120, 121, 122, 125, 126, 127, 128, 129, 131, 132, 133, 134, 135, 137, 138, 139, 140, 141]
theorem wSt_all : ((List.range 271).filter (fun k => !(wStX.any (fun x => Nat.beq x k)))).all (fun k => sf_b nP0 (sf_X wStX) k && t2_b (tk_at wStC) wStG (sf_X wStX) k) = true := by decide +kernel
theorem wSt_sf : sf_ok nP0 (sf_X wStX) := sf_of sf_X_in (List.all_eq_true.mpr (fun k hk => ((Bool.and_eq_true _ _).mp (List.all_eq_true.mp wSt_all k hk)).1))
theorem wSt_tn : t2_ok (tk_at wStC) wStG (sf_X wStX) := t2_of sf_X_in (List.all_eq_true.mpr (fun k hk => ((Bool.and_eq_true _ _).mp (List.all_eq_true.mp wSt_all k hk)).2))
theorem wSt_tb : (List.range 198).all (fun i => tn_tc wStA wStG (bB i)) = true := by decide +kernel
def wReC : List (Nat × List (Nat × List Bool)) := [(5, [(35, [true]), (36, [false, true]), (55, [true]), (56, [false, true])]), (28, [(4, [true]), (5, [false, true]), (6, [false, false, true]), (7, [false, true]), (8, [false, false, true]), (9, [false, true])]), (39, [(9, [true]), (10, [false, true]), (24, [true]), (25, [false, true]), (39, [true]), (41, [false, true]), (52, [true]), (53, [false, true]), (56, [false, true]), (57, [false, false, true]), (58, [false, true]), (84, [true]), (85, [false, true])]), (41, [(4, [true]), (5, [false, true]), (14, [true]), (15, [false, true])]), (43, [(14, [true]), (15, [false, true]), (60, [true]), (62, [false, true]), (89, [true]), (91, [false, true])]), (84, [(180, [true]), (182, [false, true])]), (104, [(144, [true]), (146, [false, true]), (154, [true]), (156, [false, true])]), (120, [(43, [true]), (44, [false, true])])]
def wReG (ci f : Nat) : Bool := (Nat.beq ci 3 && (Nat.beq f 2 || Nat.beq f 3 || Nat.beq f 5 || Nat.beq f 6 || Nat.beq f 7))
def wReX : List Nat := [0, 6, 15, 22, 26, 27, 45, 52, 57, 72, 78, 82, 85, 88, 89, 91, 92, 93, 128, 129, 130, 131, 161]
def wReA : List Nat := [6, 7, 9, 10, 11]
theorem wRe_all : ((List.range 271).filter (fun k => !(wReX.any (fun x => Nat.beq x k)))).all (fun k => sf_b nP0 (sf_X wReX) k && t2_b (tk_at wReC) wReG (sf_X wReX) k) = true := by decide +kernel
theorem wRe_sf : sf_ok nP0 (sf_X wReX) := sf_of sf_X_in (List.all_eq_true.mpr (fun k hk => ((Bool.and_eq_true _ _).mp (List.all_eq_true.mp wRe_all k hk)).1))
theorem wRe_tn : t2_ok (tk_at wReC) wReG (sf_X wReX) := t2_of sf_X_in (List.all_eq_true.mpr (fun k hk => ((Bool.and_eq_true _ _).mp (List.all_eq_true.mp wRe_all k hk)).2))
theorem wRe_tb : (List.range 198).all (fun i => tn_tc wReA wReG (bB i)) = true := by decide +kernel
def wRuC : List (Nat × List (Nat × List Bool)) := [(68, [(19, [true]), (20, [false, true]), (30, [true]), (31, [false, true]), (40, [true]), (41, [false, true]), (72, [true]), (73, [false, true]), (108, [true]), (109, [false, true])])]
def wRuG (ci f : Nat) : Bool := (Nat.beq ci 6 && (Nat.beq f 0))
def wRuX : List Nat := [0, 6, 15, 22, 45, 52, 57, 58, 59, 60, 62, 64, 65, 66, 72, 78, 82, 85, 90, 91, 92, 93, 122, 128, 161]
def wRuA : List Nat := [143, 146]
theorem wRu_all : ((List.range 271).filter (fun k => !(wRuX.any (fun x => Nat.beq x k)))).all (fun k => sf_b nP0 (sf_X wRuX) k && t2_b (tk_at wRuC) wRuG (sf_X wRuX) k) = true := by decide +kernel
theorem wRu_sf : sf_ok nP0 (sf_X wRuX) := sf_of sf_X_in (List.all_eq_true.mpr (fun k hk => ((Bool.and_eq_true _ _).mp (List.all_eq_true.mp wRu_all k hk)).1))
theorem wRu_tn : t2_ok (tk_at wRuC) wRuG (sf_X wRuX) := t2_of sf_X_in (List.all_eq_true.mpr (fun k hk => ((Bool.and_eq_true _ _).mp (List.all_eq_true.mp wRu_all k hk)).2))
theorem wRu_tb : (List.range 198).all (fun i => tn_tc wRuA wRuG (bB i)) = true := by decide +kernel
def wClC : List (Nat × List (Nat × List Bool)) := [(4, [(17, [true]), (18, [false, true]), (23, [true]), (24, [false, true])])]
def wClG (ci f : Nat) : Bool := (Nat.beq ci 0 && (Nat.beq f 2 || Nat.beq f 3))
def wClX : List Nat := [0, 1, 6, 15, 22, 45, 52, 57, 72, 78, 82, 85, 91, 92, 93, 118, 128, 161]
def wClA : List Nat := [160, 161]
theorem wCl_all : ((List.range 271).filter (fun k => !(wClX.any (fun x => Nat.beq x k)))).all (fun k => sf_b nP0 (sf_X wClX) k && t2_b (tk_at wClC) wClG (sf_X wClX) k) = true := by decide +kernel
theorem wCl_sf : sf_ok nP0 (sf_X wClX) := sf_of sf_X_in (List.all_eq_true.mpr (fun k hk => ((Bool.and_eq_true _ _).mp (List.all_eq_true.mp wCl_all k hk)).1))
theorem wCl_tn : t2_ok (tk_at wClC) wClG (sf_X wClX) := t2_of sf_X_in (List.all_eq_true.mpr (fun k hk => ((Bool.and_eq_true _ _).mp (List.all_eq_true.mp wCl_all k hk)).2))
theorem wCl_tb : (List.range 198).all (fun i => tn_tc wClA wClG (bB i)) = true := by decide +kernel
def wMRC : List (Nat × List (Nat × List Bool)) := [(201, [(9, [true]), (10, [false, true]), (21, [true]), (22, [false, true]), (23, [false, false, true]), (24, [false, true]), (25, [false, false, true]), (28, [true, false, true]), (29, [false, true, false, true]), (30, [false, false, true]), (31, [false, true]), (42, [true]), (43, [false, true]), (54, [true]), (55, [false, true]), (57, [false, false, true]), (58, [false, false, false, true]), (59, [false, false, true]), (60, [false, true]), (86, [true]), (87, [false, true])]), (206, [(88, [true]), (89, [false, true]), (130, [true]), (131, [false, true]), (132, [false, false, true]), (133, [false, true]), (134, [false, false, true]), (135, [false, true]), (137, [false, false, true]), (138, [false, true])]), (208, [(68, [true]), (69, [false, true]), (75, [true]), (76, [false, true]), (82, [true]), (83, [false, true])]), (218, [(12, [true]), (13, [false, true]), (22, [true]), (23, [false, true])]), (219, [(23, [true]), (24, [false, true]), (75, [true]), (76, [false, true]), (99, [true]), (100, [false, true])]), (232, [(86, [true]), (88, [false, true]), (93, [true]), (94, [false, true])]), (233, [(45, [true]), (46, [false, true]), (49, [false, true]), (51, [false, false, true]), (52, [false, true])]), (253, [(32, [true]), (33, [false, true]), (48, [true]), (49, [false, true])]), (255, [(35, [true]), (36, [false, true])])]
def wMRG (ci f : Nat) : Bool := (Nat.beq ci 11 && (Nat.beq f 6 || Nat.beq f 7 || Nat.beq f 8 || Nat.beq f 9 || Nat.beq f 10))
def wMRX : List Nat := [0, 6, 15, 22, 45, 52, 57, 72, 78, 82, 85, 91, 92, 93, 128, 161, 188, 192]
def wMRA : List Nat := [164, 165, 166, 167, 168]
theorem wMR_all : ((List.range 271).filter (fun k => !(wMRX.any (fun x => Nat.beq x k)))).all (fun k => sf_b nP0 (sf_X wMRX) k && t2_b (tk_at wMRC) wMRG (sf_X wMRX) k) = true := by decide +kernel
theorem wMR_sf : sf_ok nP0 (sf_X wMRX) := sf_of sf_X_in (List.all_eq_true.mpr (fun k hk => ((Bool.and_eq_true _ _).mp (List.all_eq_true.mp wMR_all k hk)).1))
theorem wMR_tn : t2_ok (tk_at wMRC) wMRG (sf_X wMRX) := t2_of sf_X_in (List.all_eq_true.mpr (fun k hk => ((Bool.and_eq_true _ _).mp (List.all_eq_true.mp wMR_all k hk)).2))
theorem wMR_tb : (List.range 198).all (fun i => tn_tc wMRA wMRG (bB i)) = true := by decide +kernel
def wMNC : List (Nat × List (Nat × List Bool)) := [(202, [(17, [true]), (18, [false, true]), (19, [false, false, true])]), (203, [(17, [true]), (18, [false, true]), (19, [false, false, true])]), (204, [(17, [true]), (18, [false, true]), (19, [false, false, true])]), (205, [(17, [true]), (18, [false, true]), (19, [false, false, true])]), (206, [(95, [true]), (96, [false, true]), (103, [true]), (104, [false, true])]), (207, [(52, [true]), (53, [false, true]), (54, [false, false, true]), (69, [true]), (70, [false, true]), (71, [false, false, true])]), (208, [(89, [true]), (91, [false, true]), (92, [false, false, true]), (93, [false, true]), (99, [true]), (101, [false, true]), (102, [false, false, true]), (103, [false, true]), (109, [true]), (110, [false, true])]), (211, [(25, [true]), (26, [false, true])]), (229, [(17, [true]), (18, [false, true])]), (232, [(41, [true]), (43, [false, true]), (45, [false, false, true]), (46, [false, true])]), (233, [(139, [true]), (141, [false, true]), (143, [false, false, true]), (144, [false, true])]), (235, [(31, [true]), (33, [false, true]), (34, [false, false, true]), (35, [false, true]), (71, [true]), (73, [false, true]), (74, [false, false, true]), (75, [false, true]), (90, [true]), (92, [false, true]), (93, [false, false, true]), (94, [false, true]), (102, [true]), (103, [false, true]), (105, [false, false, true])]), (243, [(40, [true]), (42, [false, true]), (44, [false, false, true]), (45, [false, true]), (55, [true]), (57, [false, true])]), (246, [(26, [true]), (27, [false, true]), (28, [false, false, true]), (31, [false, false, true]), (32, [false, false, false, true]), (33, [false, false, true]), (115, [true]), (116, [false, true]), (118, [false, false, true])]), (247, [(89, [true]), (90, [false, true]), (93, [false, true]), (94, [false, false, true]), (95, [false, true]), (96, [false, false, true]), (99, [false, false, true]), (100, [false, false, false, true]), (101, [false, false, false, false, true]), (102, [false, false, false, true]), (103, [false, false, false, false, true]), (106, [false, false, false, false, true]), (107, [false, false, false, true]), (108, [false, false, true])]), (248, [(26, [true]), (27, [false, true]), (28, [false, false, true])]), (253, [(64, [true]), (66, [false, true]), (67, [false, false, true]), (68, [false, true]), (78, [true]), (79, [false, true])]), (256, [(65, [true]), (67, [false, true]), (69, [false, false, true]), (70, [false, true])]), (264, [(58, [true]), (59, [false, true])]), (266, [(35, [true]), (36, [false, true]), (38, [false, false, true]), (53, [true]), (54, [false, true]), (56, [false, false, true])]), (267, [(86, [true]), (88, [false, true]), (95, [true]), (103, [true]), (105, [false, true])])]
def wMNG (ci f : Nat) : Bool := (Nat.beq ci 11 && (Nat.beq f 12))
def wMNX : List Nat := [0, 6, 15, 22, 45, 52, 57, 72, 78, 82, 85, 91, 92, 93, 128, 161, 188, 189, 192, 210, 214, 220, 221, 222, 223, 224, 225, 227, 228, 230, 231, 236, 257, 258, 265]
def wMNA : List Nat := [170]
theorem wMN_all : ((List.range 271).filter (fun k => !(wMNX.any (fun x => Nat.beq x k)))).all (fun k => sf_b nP0 (sf_X wMNX) k && t2_b (tk_at wMNC) wMNG (sf_X wMNX) k) = true := by decide +kernel
theorem wMN_sf : sf_ok nP0 (sf_X wMNX) := sf_of sf_X_in (List.all_eq_true.mpr (fun k hk => ((Bool.and_eq_true _ _).mp (List.all_eq_true.mp wMN_all k hk)).1))
theorem wMN_tn : t2_ok (tk_at wMNC) wMNG (sf_X wMNX) := t2_of sf_X_in (List.all_eq_true.mpr (fun k hk => ((Bool.and_eq_true _ _).mp (List.all_eq_true.mp wMN_all k hk)).2))
theorem wMN_tb : (List.range 198).all (fun i => tn_tc wMNA wMNG (bB i)) = true := by decide +kernel
def wMCC : List (Nat × List (Nat × List Bool)) := [(200, [(16, [true]), (17, [false, true])])]
def wMCG (ci f : Nat) : Bool := (Nat.beq ci 11 && (Nat.beq f 21))
def wMCX : List Nat := [0, 6, 15, 22, 45, 52, 57, 72, 78, 82, 85, 91, 92, 93, 128, 161, 197, 198, 258]
def wMCA : List Nat := [174]
theorem wMC_all : ((List.range 271).filter (fun k => !(wMCX.any (fun x => Nat.beq x k)))).all (fun k => sf_b nP0 (sf_X wMCX) k && t2_b (tk_at wMCC) wMCG (sf_X wMCX) k) = true := by decide +kernel
theorem wMC_sf : sf_ok nP0 (sf_X wMCX) := sf_of sf_X_in (List.all_eq_true.mpr (fun k hk => ((Bool.and_eq_true _ _).mp (List.all_eq_true.mp wMC_all k hk)).1))
theorem wMC_tn : t2_ok (tk_at wMCC) wMCG (sf_X wMCX) := t2_of sf_X_in (List.all_eq_true.mpr (fun k hk => ((Bool.and_eq_true _ _).mp (List.all_eq_true.mp wMC_all k hk)).2))
theorem wMC_tb : (List.range 198).all (fun i => tn_tc wMCA wMCG (bB i)) = true := by decide +kernel
def wMPC : List (Nat × List (Nat × List Bool)) := [(214, [(41, [true]), (43, [false, true]), (44, [false, false, true]), (47, [false, false, true]), (48, [false, true]), (49, [false, false, true]), (50, [false, true])])]
def wMPG (ci f : Nat) : Bool := (Nat.beq ci 11 && (Nat.beq f 28))
def wMPX : List Nat := [0, 6, 15, 22, 45, 52, 57, 72, 78, 82, 85, 91, 92, 93, 128, 161, 211, 212, 213, 222, 223, 224, 225, 228]
def wMPA : List Nat := [178]
theorem wMP_all : ((List.range 271).filter (fun k => !(wMPX.any (fun x => Nat.beq x k)))).all (fun k => sf_b nP0 (sf_X wMPX) k && t2_b (tk_at wMPC) wMPG (sf_X wMPX) k) = true := by decide +kernel
theorem wMP_sf : sf_ok nP0 (sf_X wMPX) := sf_of sf_X_in (List.all_eq_true.mpr (fun k hk => ((Bool.and_eq_true _ _).mp (List.all_eq_true.mp wMP_all k hk)).1))
theorem wMP_tn : t2_ok (tk_at wMPC) wMPG (sf_X wMPX) := t2_of sf_X_in (List.all_eq_true.mpr (fun k hk => ((Bool.and_eq_true _ _).mp (List.all_eq_true.mp wMP_all k hk)).2))
theorem wMP_tb : (List.range 198).all (fun i => tn_tc wMPA wMPG (bB i)) = true := by decide +kernel
def wMKC : List (Nat × List (Nat × List Bool)) := [(265, [(58, [true]), (60, [false, true]), (61, [false, false, true]), (62, [false, true]), (63, [false, false, true]), (64, [false, true])])]
def wMKG (ci f : Nat) : Bool := (Nat.beq ci 11 && (Nat.beq f 54))
def wMKX : List Nat := [0, 6, 15, 22, 45, 52, 57, 72, 78, 82, 85, 91, 92, 93, 128, 161, 264]
def wMKA : List Nat := [196]
theorem wMK_all : ((List.range 271).filter (fun k => !(wMKX.any (fun x => Nat.beq x k)))).all (fun k => sf_b nP0 (sf_X wMKX) k && t2_b (tk_at wMKC) wMKG (sf_X wMKX) k) = true := by decide +kernel
theorem wMK_sf : sf_ok nP0 (sf_X wMKX) := sf_of sf_X_in (List.all_eq_true.mpr (fun k hk => ((Bool.and_eq_true _ _).mp (List.all_eq_true.mp wMK_all k hk)).1))
theorem wMK_tn : t2_ok (tk_at wMKC) wMKG (sf_X wMKX) := t2_of sf_X_in (List.all_eq_true.mpr (fun k hk => ((Bool.and_eq_true _ _).mp (List.all_eq_true.mp wMK_all k hk)).2))
theorem wMK_tb : (List.range 198).all (fun i => tn_tc wMKA wMKG (bB i)) = true := by decide +kernel
def wMLC : List (Nat × List (Nat × List Bool)) := [(254, [(36, [true]), (38, [false, true]), (43, [true]), (45, [false, true])])]
def wMLG (ci f : Nat) : Bool := (Nat.beq ci 11 && (Nat.beq f 48 || Nat.beq f 49))
def wMLX : List Nat := [0, 6, 15, 22, 45, 52, 57, 72, 78, 82, 85, 91, 92, 93, 128, 161, 251]
def wMLA : List Nat := [191, 192]
theorem wML_all : ((List.range 271).filter (fun k => !(wMLX.any (fun x => Nat.beq x k)))).all (fun k => sf_b nP0 (sf_X wMLX) k && t2_b (tk_at wMLC) wMLG (sf_X wMLX) k) = true := by decide +kernel
theorem wML_sf : sf_ok nP0 (sf_X wMLX) := sf_of sf_X_in (List.all_eq_true.mpr (fun k hk => ((Bool.and_eq_true _ _).mp (List.all_eq_true.mp wML_all k hk)).1))
theorem wML_tn : t2_ok (tk_at wMLC) wMLG (sf_X wMLX) := t2_of sf_X_in (List.all_eq_true.mpr (fun k hk => ((Bool.and_eq_true _ _).mp (List.all_eq_true.mp wML_all k hk)).2))
theorem wML_tb : (List.range 198).all (fun i => tn_tc wMLA wMLG (bB i)) = true := by decide +kernel
end WHO
