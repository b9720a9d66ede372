/-! the law's four wrappers: they answer, whether the class's method returns or throws -/
section TWD
variable {p : Program} {l : Launch} {e : Env} {R : Room} {s : State} {m : MethodId} {args : Array Value} {below : List Frame} {meth : Method} {c : Code} {Q : State → Prop} {D : va_G} {aC : Nat → ClassId} {b g k sz sl : Nat}
theorem px_inl {T : pm_Tab} {stop : Nat → Bool} : ∀ (n fr lo k : Nat) (st : pm_St) (r : pm_Rs), px_run T stop n fr lo k st = some (.inl r) → pm_run T n fr lo k st = some r
  | 0, _, _, _, _, _, h => by cases h
  | n + 1, fr, lo, k, st, r, h => by
    unfold px_run at h
    unfold pm_run
    cases hs : stop st.1 with
    | true => rw [hs] at h; cases h
    | false =>
      rw [hs] at h
      dsimp only [cond] at h
      cases e1 : pm_end T k st with
      | some r' => rw [e1] at h; cases h; rfl
      | none =>
        rw [e1] at h
        dsimp only at h ⊢
        split at h
        · rename_i st' e2
          rw [e2]
          exact px_inl n fr lo k st' r h
        · cases h
/-- the call of x's method, told by the tables -/
theorem cd_x {w t mx j pc : Nat} {L : pm_L} {As rest : List Value} {h : pm_H} {fs : List Value} (hi : pm_ins PT w pc = some (.invokevirtual j, 3)) (hm : pm_mlk PT (pm_o PT w) j = some (0, t)) (hn : pm_na PT t = As.length + 1) (hmx : pm_max PT t = mx) (hsum : pm_sum rest ≤ 8) (ha : (pm_args (.ref 0 :: As)).length ≤ mx) (hci : pm_ci PT t = 10) (ho : h 0 = .inr (10, fs)) : pm_cd PT w (pc, L, As.reverse ++ .ref 0 :: rest, h, 198, sl) = some (t, .ref 0 :: As, rest) := by
  have hS : As.reverse ++ Value.ref 0 :: rest = (Value.ref 0 :: As).reverse ++ rest := by simp
  have hn' : pm_na PT t = (Value.ref 0 :: As).length := by simp [hn]
  rw [hS]
  generalize hA : (Value.ref 0 :: As) = A1 at hn' ha ⊢
  have htk : (A1.reverse ++ rest).take A1.length = A1.reverse := by rw [← List.length_reverse, List.take_left']; rfl
  have hdr : (A1.reverse ++ rest).drop A1.length = rest := by rw [← List.length_reverse, List.drop_left']; rfl
  unfold pm_cd
  dsimp only
  rw [hi]
  dsimp only
  have hcal : pm_callee PT w (.invokevirtual j) = some (0, t) := by
    unfold pm_callee
    dsimp only
    rw [hm]
    rfl
  rw [if_pos (show pm_lenOk (Instr.invokevirtual j) 3 = true from rfl), hcal]
  dsimp only
  rw [hn', htk, hdr, List.reverse_reverse, hmx]
  refine if_pos ⟨?_, ?_, hsum, ha⟩
  · rw [List.length_append, List.length_reverse]
    omega
  · rw [← hA]
    unfold pm_rcv
    rw [if_neg (by omega)]
    dsimp only [pm_obj]
    rw [if_pos (by decide), ho]
    dsimp only
    rw [hci]
    rfl
/-- behind a wrapper: the reference's cells are as they were -/
def twX (h h1 : pm_H) : Prop := (∀ i, i ≠ 197 → h1 i = h i) ∧ ah_ok bB 198 [] h1
def tw_Qd (D : va_G) (aC : Nat → ClassId) (b : Nat) (h : pm_H) : Array Value → State → Outcome → State → Prop := fun _ st o t => (∃ v : Int32, o = .returned (some (.int v))) ∧ (∃ h1, twX h h1 ∧ va_P D (pm_cl PT) (pm_w aC b h1 198) t.heap) ∧ va_F (fun q => b ≤ q) st t
theorem ty_197 {h : pm_H} (hh : ah_ok bB 198 [] h) : ∃ R : Nat → Int64, h 197 = .inl (2, 1, .inr (.inl R)) := by
  have h0 : ac_ok (h 197) (bB 197) := hh 197 (by decide)
  have hb : bB 197 = .inl (2, 1, al_top) := rfl
  rw [hb] at h0
  cases e : h 197 with
  | inr q => rw [e] at h0; obtain ⟨ci, fs⟩ := q; exact h0.elim
  | inl q =>
    rw [e] at h0
    obtain ⟨kd, m, f | f | f | f | f⟩ := q
    · have := (h0.2.2 0 (by rw [h0.2.1]; decide)).1
      cases this
    · obtain ⟨rfl, rfl, q⟩ := h0
      exact ⟨f, rfl⟩
    · exact h0.elim
    · exact h0.elim
    · have q := h0.2.2 0 (by rw [h0.2.1]; decide)
      cases e3 : f 0 with
      | none => rw [e3] at q; cases q
      | some p => rw [e3] at q; cases q.1
theorem tw_set {h h1 : pm_H} {R : Nat → Int64} (hf : h1 = h) (hh : ah_ok bB 198 [] h1) : twX h (lset h1 197 1 R) := by
  refine ⟨fun i h2' => (lset_nei h2').trans (congrFun hf i), fun i hi => ?_⟩
  by_cases z : i = 197
  · subst z
    show ac_ok (lset h1 197 1 R 197) (.inl (2, 1, al_top))
    rw [lset_self]
    exact ⟨rfl, rfl, fun j _ => al_top_ok _⟩
  · rw [lset_nei z]
    exact hh i hi
/-- the answer written down, 0 returned -/
theorem tw_store {w pc pg : Nat} {L : pm_L} {h h1 : pm_H} {v : Int64} (hC : pm_C PT PG PN D aC b w p s m args meth c) (hs0 : s.heap.size = b + 198 + g) (hf : h1 = h) (hh : ah_ok bB 198 [] h1) (i1 : pm_ins PT w pc = some (.lastore, 1)) {og : Int} (i2 : pm_ins PT w (pc + 1) = some (.goto og, 3)) (eg : ∀ h' : pm_H, pm_simple PT R.frames R.locals w (.goto og) (pc + 1) L [] h' 198 sl = some (pg, L, [], h', 198, sl))
    (kk : ∀ h2, twX h h2 → pm_V p l e R s m args below meth c Q PT D aC b w 198 sl (pg, L, [], h2, 198, sl)) : pm_V p l e R s m args below meth c Q PT D aC b w 198 sl (pc, L, [.long v, .int 0, .ref 197], h1, 198, sl) := by
  obtain ⟨R0, eR⟩ := ty_197 hh
  refine pv_i hC hs0 (h' := lset h1 197 1 (vp_updL R0 0 v)) (L' := L) (S' := []) (pc' := pc + 1) i1 rfl rfl ?_ ?_
  · show pm_lS PT pc L [.long v, .int 0, .ref 197] h1 198 sl = _
    unfold pm_lS
    dsimp only
    have e : pm_lar PT h1 198 197 = some (2, 1, R0) := by
      unfold pm_lar
      rw [if_pos (by decide), eR]
      exact if_pos rfl
    rw [e]
    rfl
  · exact pv_i hC hs0 i2 rfl rfl (eg _) (kk _ (tw_set hf hh))
set_option maxHeartbeats 1000000 in
theorem tw_court {l : Launch} (htr : l.stackTraces = false) {D : va_G} {aC : Nat → ClassId} {b g sl : Nat} {h : pm_H} {fs : List Value} (a1 a2 : Int32) (hH : ah_ok bB 198 [] h) (ho : h 0 = .inr (10, fs)) : Met l (pm_y PT 1001) (tw_ws 1001 [(0, 10, 13, 13)]) (pm_rm 2047 83976 1 6) (tx_Pc D aC b g [.ref 0, .int a1, .int a2, .ref 197] h 198) (tw_Qd D aC b h) 1 6 (fun q => b ≤ q) := by
  refine va_MetW (cc := pm_code PT 1001) (maxL := pm_max PT 1001) (ret := some .int) (hh := [(0, 10, 13, 13)]) (by decide) rfl ?_
  intro p e s m args below meth c s₁ B hml hv
  obtain ⟨rfl, hsz, hP, hK, hX⟩ := hv
  have hts := atoms_spec (ws := tw_ws 1001 [(0, 10, 13, 13)]) B.pre
  have hC : pm_C PT PG PN D aC b 1001 p s m ([Value.ref 0, Value.int a1, Value.int a2, Value.ref 197].map (pm_tr aC b)).toArray meth c := ⟨B.exec, B.bytes, hml, findClass_of_methodNamed B.named, fun w hw => hts w (List.mem_cons_of_mem _ hw), hK, fun q => absurd q (by decide)⟩
  have htab : c.exceptionTable.toList = [⟨0, 10, 13, 13⟩] := vx_table (x := pm_y PT 1001) B (hts _ List.mem_cons_self)
  obtain ⟨n, o, hr, ho2⟩ := sx_con (sl := sl) (As := [.ref 0, .int a1, .int a2]) cxKt_ok (fun z hz => by rcases List.mem_cons.mp hz with rfl | hz; exact rfl; cases List.mem_singleton.mp hz; exact rfl) th_court ⟨⟨rfl, List.mem_singleton_self _⟩, ai_top_ok _, ai_top_ok _, trivial⟩ hH
  have key : pm_V p l e (headSpec (tw_ws 1001 [(0, 10, 13, 13)]) (pm_rm 2047 83976 1 6)).room s m ([Value.ref 0, Value.int a1, Value.int a2, Value.ref 197].map (pm_tr aC b)).toArray below meth c (MQ below (tw_Qd D aC b h) ([Value.ref 0, Value.int a1, Value.int a2, Value.ref 197].map (pm_tr aC b)).toArray s 1 6 (fun q => b ≤ q)) PT D aC b 1001 198 sl (0, pm_l0 [.ref 0, .int a1, .int a2, .ref 197] 5, [], h, 198, sl) := by
    refine pv_i hC hsz rfl rfl rfl rfl ?_
    refine pv_i hC hsz rfl rfl rfl rfl ?_
    refine pv_i hC hsz rfl rfl rfl rfl ?_
    refine pv_i hC hsz rfl rfl rfl rfl ?_
    refine pv_i hC hsz rfl rfl rfl rfl ?_
    cases o with
    | inr st1 =>
      have hrun : pw_X PT (tx_stop 91) 2046 83954 91 (0, pm_l0 (.ref 0 :: [.int a1, .int a2]) (pm_max PT 91), [], h, 198, sl) (fun _ => False) (fun st => pm_sum st.2.2.1 ≤ 8 ∧ st.2.2.2.2 = (198, sl) ∧ twX h st.2.2.2.1) := ⟨n, .inr st1, hr, ho2.1, by rw [ho2.2.1]; decide, ho2.2.2.1, fun i _ => congrFun (px_run_nw nwx_91 n _ _ _ _ hr) i, ho2.2.2.2.2⟩
      refine tw_call (w := 1001) (t := 91) (n := 2) (pc := 5) (hpc := 13) (x := ⟨0, 10, 13, 13⟩) (vs := [.int a1, .int a2]) (rest := [.int 0, .ref 197]) (fr' := 2046) (lo' := 83954) htr hC rfl hX hsz htab rfl rfl rfl rfl rfl (Nat.le_refl _) (Nat.le_refl _) (by decide) (by decide) rfl rfl rfl rfl rfl rfl ho (by decide) (Nat.le_of_ble_eq_true rfl) (Nat.le_of_ble_eq_true rfl) (by first | exact Or.inl rfl | exact Or.inr rfl) hrun ?_
      intro q9 h1 H1 locs1 ls hXQ hP1 hS1 hl1
      refine lv_astore hC.1 hC.2.1 (i := 4) (PT_ok.1 1001 13 _ _ rfl) hl1.has (by decide) rfl (fun ls' hl' => ?_)
      refine lv_iconst hC.1 hC.2.1 (n := 1) (v := 1) (PT_ok.1 1001 15 _ _ rfl) rfl ?_
      exact W.iret hC.1 hC.2.1 B.returns (fun t ht hW => ⟨⟨1, rfl⟩, ⟨h1, hXQ, by rw [ht]; exact hP1⟩, hS1.F ht⟩) hS1.2.2 (PT_ok.1 1001 16 _ _ rfl) B.notSynchronized
    | inl r =>
      obtain ⟨⟨a, ha, hv⟩, hsr, hfr, hhr⟩ := ho2
      obtain ⟨rv, h1, s1⟩ := r
      dsimp only at hv hsr hfr hhr
      cases hsr
      cases List.mem_singleton.mp ha
      have hrv : ∃ v : Int32, rv = some (.int v) := (ao_i hv).imp (fun _ q => q.1)
      obtain ⟨v, rfl⟩ := hrv
      refine pv_call PT_ok hC rfl rfl hsz (t := 91) (mx := 3) (As := [.ref 0, .int a1, .int a2]) (rest := [.int 0, .ref 197]) (cd_x (As := [.int a1, .int a2]) rfl rfl rfl rfl (Nat.le_of_ble_eq_true rfl) (Nat.le_of_ble_eq_true rfl) rfl ho) rfl (Nat.le_of_ble_eq_true rfl) (Nat.le_of_ble_eq_true rfl) (Nat.le_refl _) (Nat.le_refl _) ⟨n, _, px_inl _ _ _ _ _ _ hr, Or.inr rfl, Nat.le_add_right _ _, Nat.le_add_right _ _, ?_⟩
      show pm_V _ _ _ _ _ _ _ _ _ _ _ _ _ _ _ 1001 198 sl (8, pm_l0 [.ref 0, .int a1, .int a2, .ref 197] 5, [.int v, .int 0, .ref 197], h1, 198, sl)
      refine pv_i hC hsz rfl rfl rfl rfl ?_
      refine tw_store (v := v.toInt64) hC hsz (px_run_nw nwx_91 n _ _ _ _ hr) hhr rfl rfl (fun _ => rfl) (fun h2 hX2 => ?_)
      refine pv_i hC hsz rfl rfl rfl rfl ?_
      intro H1 locs1 ls hP1 hS1 hl1
      dsimp only at hP1 hl1 ⊢
      refine W.widen (k := 1) (n := 6) (by omega) (by omega) ?_
      show W _ _ _ _ _ _ _ _ _ _ _ _ _ _ _ (F0 m 18 ls [.int 0])
      exact W.iret hC.1 hC.2.1 B.returns (fun t ht hW => ⟨⟨0, rfl⟩, ⟨h2, hX2, by rw [ht]; exact hP1⟩, hS1.F ht⟩) hS1.2.2 (PT_ok.1 1001 18 _ _ rfl) B.notSynchronized
  have hW := key s.heap [] _ hP va_S.rf (pm_l0_loc aC b [.ref 0, .int a1, .int a2, .ref 197] (n := 5) (Nat.le_of_ble_eq_true rfl))
  rw [lg_entry_eq]
  dsimp only at hW
  rw [Nat.sub_self, Nat.sub_self] at hW
  exact hW
set_option maxHeartbeats 1000000 in
theorem tw_between {l : Launch} (htr : l.stackTraces = false) {D : va_G} {aC : Nat → ClassId} {b g sl : Nat} {h : pm_H} {fs : List Value} (a1 a2 a3 : Int32) (hH : ah_ok bB 198 [] h) (ho : h 0 = .inr (10, fs)) : Met l (pm_y PT 1002) (tw_ws 1002 [(0, 12, 15, 13)]) (pm_rm 2047 83975 1 6) (tx_Pc D aC b g [.ref 0, .int a1, .int a2, .int a3, .ref 197] h 198) (tw_Qd D aC b h) 1 6 (fun q => b ≤ q) := by
  refine va_MetW (cc := pm_code PT 1002) (maxL := pm_max PT 1002) (ret := some .int) (hh := [(0, 12, 15, 13)]) (by decide) rfl ?_
  intro p e s m args below meth c s₁ B hml hv
  obtain ⟨rfl, hsz, hP, hK, hX⟩ := hv
  have hts := atoms_spec (ws := tw_ws 1002 [(0, 12, 15, 13)]) B.pre
  have hC : pm_C PT PG PN D aC b 1002 p s m ([Value.ref 0, Value.int a1, Value.int a2, Value.int a3, Value.ref 197].map (pm_tr aC b)).toArray meth c := ⟨B.exec, B.bytes, hml, findClass_of_methodNamed B.named, fun w hw => hts w (List.mem_cons_of_mem _ hw), hK, fun q => absurd q (by decide)⟩
  have htab : c.exceptionTable.toList = [⟨0, 12, 15, 13⟩] := vx_table (x := pm_y PT 1002) B (hts _ List.mem_cons_self)
  obtain ⟨n, o, hr, ho2⟩ := sx_con (sl := sl) (As := [.ref 0, .int a1, .int a2, .int a3]) cxKt_ok (fun z hz => by rcases List.mem_cons.mp hz with rfl | hz; exact rfl; cases List.mem_singleton.mp hz; exact rfl) th_between ⟨⟨rfl, List.mem_singleton_self _⟩, ai_top_ok _, ai_top_ok _, ai_top_ok _, trivial⟩ hH
  have key : pm_V p l e (headSpec (tw_ws 1002 [(0, 12, 15, 13)]) (pm_rm 2047 83975 1 6)).room s m ([Value.ref 0, Value.int a1, Value.int a2, Value.int a3, Value.ref 197].map (pm_tr aC b)).toArray below meth c (MQ below (tw_Qd D aC b h) ([Value.ref 0, Value.int a1, Value.int a2, Value.int a3, Value.ref 197].map (pm_tr aC b)).toArray s 1 6 (fun q => b ≤ q)) PT D aC b 1002 198 sl (0, pm_l0 [.ref 0, .int a1, .int a2, .int a3, .ref 197] 6, [], h, 198, sl) := by
    refine pv_i hC hsz rfl rfl rfl rfl ?_
    refine pv_i hC hsz rfl rfl rfl rfl ?_
    refine pv_i hC hsz rfl rfl rfl rfl ?_
    refine pv_i hC hsz rfl rfl rfl rfl ?_
    refine pv_i hC hsz rfl rfl rfl rfl ?_
    refine pv_i hC hsz rfl rfl rfl rfl ?_
    cases o with
    | inr st1 =>
      have hrun : pw_X PT (tx_stop 92) 2046 83951 92 (0, pm_l0 (.ref 0 :: [.int a1, .int a2, .int a3]) (pm_max PT 92), [], h, 198, sl) (fun _ => False) (fun st => pm_sum st.2.2.1 ≤ 8 ∧ st.2.2.2.2 = (198, sl) ∧ twX h st.2.2.2.1) := ⟨n, .inr st1, hr, ho2.1, by rw [ho2.2.1]; decide, ho2.2.2.1, fun i _ => congrFun (px_run_nw nwx_92 n _ _ _ _ hr) i, ho2.2.2.2.2⟩
      refine tw_call (w := 1002) (t := 92) (n := 3) (pc := 7) (hpc := 15) (x := ⟨0, 12, 15, 13⟩) (vs := [.int a1, .int a2, .int a3]) (rest := [.int 0, .ref 197]) (fr' := 2046) (lo' := 83951) htr hC rfl hX hsz htab rfl rfl rfl rfl rfl (Nat.le_refl _) (Nat.le_refl _) (by decide) (by decide) rfl rfl rfl rfl rfl rfl ho (by decide) (Nat.le_of_ble_eq_true rfl) (Nat.le_of_ble_eq_true rfl) (by first | exact Or.inl rfl | exact Or.inr rfl) hrun ?_
      intro q9 h1 H1 locs1 ls hXQ hP1 hS1 hl1
      refine lv_astore hC.1 hC.2.1 (i := 5) (PT_ok.1 1002 15 _ _ rfl) hl1.has (by decide) rfl (fun ls' hl' => ?_)
      refine lv_iconst hC.1 hC.2.1 (n := 1) (v := 1) (PT_ok.1 1002 17 _ _ rfl) rfl ?_
      exact W.iret hC.1 hC.2.1 B.returns (fun t ht hW => ⟨⟨1, rfl⟩, ⟨h1, hXQ, by rw [ht]; exact hP1⟩, hS1.F ht⟩) hS1.2.2 (PT_ok.1 1002 18 _ _ rfl) B.notSynchronized
    | inl r =>
      obtain ⟨⟨a, ha, hv⟩, hsr, hfr, hhr⟩ := ho2
      obtain ⟨rv, h1, s1⟩ := r
      dsimp only at hv hsr hfr hhr
      cases hsr
      cases List.mem_singleton.mp ha
      have hrv : ∃ v : Int32, rv = some (.int v) := (ao_i hv).imp (fun _ q => q.1)
      obtain ⟨v, rfl⟩ := hrv
      refine pv_call PT_ok hC rfl rfl hsz (t := 92) (mx := 5) (As := [.ref 0, .int a1, .int a2, .int a3]) (rest := [.int 0, .ref 197]) (cd_x (As := [.int a1, .int a2, .int a3]) rfl rfl rfl rfl (Nat.le_of_ble_eq_true rfl) (Nat.le_of_ble_eq_true rfl) rfl ho) rfl (Nat.le_of_ble_eq_true rfl) (Nat.le_of_ble_eq_true rfl) (Nat.le_refl _) (Nat.le_refl _) ⟨n, _, px_inl _ _ _ _ _ _ hr, Or.inr rfl, Nat.le_add_right _ _, Nat.le_add_right _ _, ?_⟩
      show pm_V _ _ _ _ _ _ _ _ _ _ _ _ _ _ _ 1002 198 sl (10, pm_l0 [.ref 0, .int a1, .int a2, .int a3, .ref 197] 6, [.int v, .int 0, .ref 197], h1, 198, sl)
      refine pv_i hC hsz rfl rfl rfl rfl ?_
      refine tw_store (v := v.toInt64) hC hsz (px_run_nw nwx_92 n _ _ _ _ hr) hhr rfl rfl (fun _ => rfl) (fun h2 hX2 => ?_)
      refine pv_i hC hsz rfl rfl rfl rfl ?_
      intro H1 locs1 ls hP1 hS1 hl1
      dsimp only at hP1 hl1 ⊢
      refine W.widen (k := 1) (n := 6) (by omega) (by omega) ?_
      show W _ _ _ _ _ _ _ _ _ _ _ _ _ _ _ (F0 m 20 ls [.int 0])
      exact W.iret hC.1 hC.2.1 B.returns (fun t ht hW => ⟨⟨0, rfl⟩, ⟨h2, hX2, by rw [ht]; exact hP1⟩, hS1.F ht⟩) hS1.2.2 (PT_ok.1 1002 20 _ _ rfl) B.notSynchronized
  have hW := key s.heap [] _ hP va_S.rf (pm_l0_loc aC b [.ref 0, .int a1, .int a2, .int a3, .ref 197] (n := 6) (Nat.le_of_ble_eq_true rfl))
  rw [lg_entry_eq]
  dsimp only at hW
  rw [Nat.sub_self, Nat.sub_self] at hW
  exact hW
set_option maxHeartbeats 1000000 in
theorem tw_gift {l : Launch} (htr : l.stackTraces = false) {D : va_G} {aC : Nat → ClassId} {b g sl : Nat} {h : pm_H} {fs : List Value} (a1 a2 : Int32) (hH : ah_ok bB 198 [] h) (ho : h 0 = .inr (10, fs)) : Met l (pm_y PT 1003) (tw_ws 1003 [(0, 10, 13, 13)]) (pm_rm 2047 83976 1 6) (tx_Pc D aC b g [.ref 0, .int a1, .int a2, .ref 197] h 198) (tw_Qd D aC b h) 1 6 (fun q => b ≤ q) := by
  refine va_MetW (cc := pm_code PT 1003) (maxL := pm_max PT 1003) (ret := some .int) (hh := [(0, 10, 13, 13)]) (by decide) rfl ?_
  intro p e s m args below meth c s₁ B hml hv
  obtain ⟨rfl, hsz, hP, hK, hX⟩ := hv
  have hts := atoms_spec (ws := tw_ws 1003 [(0, 10, 13, 13)]) B.pre
  have hC : pm_C PT PG PN D aC b 1003 p s m ([Value.ref 0, Value.int a1, Value.int a2, Value.ref 197].map (pm_tr aC b)).toArray meth c := ⟨B.exec, B.bytes, hml, findClass_of_methodNamed B.named, fun w hw => hts w (List.mem_cons_of_mem _ hw), hK, fun q => absurd q (by decide)⟩
  have htab : c.exceptionTable.toList = [⟨0, 10, 13, 13⟩] := vx_table (x := pm_y PT 1003) B (hts _ List.mem_cons_self)
  obtain ⟨n, o, hr, ho2⟩ := sx_con (sl := sl) (As := [.ref 0, .int a1, .int a2]) cxKt_ok (fun z hz => by rcases List.mem_cons.mp hz with rfl | hz; exact rfl; cases List.mem_singleton.mp hz; exact rfl) th_gift ⟨⟨rfl, List.mem_singleton_self _⟩, ai_top_ok _, ai_top_ok _, trivial⟩ hH
  have key : pm_V p l e (headSpec (tw_ws 1003 [(0, 10, 13, 13)]) (pm_rm 2047 83976 1 6)).room s m ([Value.ref 0, Value.int a1, Value.int a2, Value.ref 197].map (pm_tr aC b)).toArray below meth c (MQ below (tw_Qd D aC b h) ([Value.ref 0, Value.int a1, Value.int a2, Value.ref 197].map (pm_tr aC b)).toArray s 1 6 (fun q => b ≤ q)) PT D aC b 1003 198 sl (0, pm_l0 [.ref 0, .int a1, .int a2, .ref 197] 5, [], h, 198, sl) := by
    refine pv_i hC hsz rfl rfl rfl rfl ?_
    refine pv_i hC hsz rfl rfl rfl rfl ?_
    refine pv_i hC hsz rfl rfl rfl rfl ?_
    refine pv_i hC hsz rfl rfl rfl rfl ?_
    refine pv_i hC hsz rfl rfl rfl rfl ?_
    cases o with
    | inr st1 =>
      have hrun : pw_X PT (tx_stop 93) 2046 83954 93 (0, pm_l0 (.ref 0 :: [.int a1, .int a2]) (pm_max PT 93), [], h, 198, sl) (fun _ => False) (fun st => pm_sum st.2.2.1 ≤ 8 ∧ st.2.2.2.2 = (198, sl) ∧ twX h st.2.2.2.1) := ⟨n, .inr st1, hr, ho2.1, by rw [ho2.2.1]; decide, ho2.2.2.1, fun i _ => congrFun (px_run_nw nwx_93 n _ _ _ _ hr) i, ho2.2.2.2.2⟩
      refine tw_call (w := 1003) (t := 93) (n := 2) (pc := 5) (hpc := 13) (x := ⟨0, 10, 13, 13⟩) (vs := [.int a1, .int a2]) (rest := [.int 0, .ref 197]) (fr' := 2046) (lo' := 83954) htr hC rfl hX hsz htab rfl rfl rfl rfl rfl (Nat.le_refl _) (Nat.le_refl _) (by decide) (by decide) rfl rfl rfl rfl rfl rfl ho (by decide) (Nat.le_of_ble_eq_true rfl) (Nat.le_of_ble_eq_true rfl) (by first | exact Or.inl rfl | exact Or.inr rfl) hrun ?_
      intro q9 h1 H1 locs1 ls hXQ hP1 hS1 hl1
      refine lv_astore hC.1 hC.2.1 (i := 4) (PT_ok.1 1003 13 _ _ rfl) hl1.has (by decide) rfl (fun ls' hl' => ?_)
      refine lv_iconst hC.1 hC.2.1 (n := 1) (v := 1) (PT_ok.1 1003 15 _ _ rfl) rfl ?_
      exact W.iret hC.1 hC.2.1 B.returns (fun t ht hW => ⟨⟨1, rfl⟩, ⟨h1, hXQ, by rw [ht]; exact hP1⟩, hS1.F ht⟩) hS1.2.2 (PT_ok.1 1003 16 _ _ rfl) B.notSynchronized
    | inl r =>
      obtain ⟨⟨a, ha, hv⟩, hsr, hfr, hhr⟩ := ho2
      obtain ⟨rv, h1, s1⟩ := r
      dsimp only at hv hsr hfr hhr
      cases hsr
      cases List.mem_singleton.mp ha
      have hrv : ∃ v : Int32, rv = some (.int v) := (ao_i hv).imp (fun _ q => q.1)
      obtain ⟨v, rfl⟩ := hrv
      refine pv_call PT_ok hC rfl rfl hsz (t := 93) (mx := 3) (As := [.ref 0, .int a1, .int a2]) (rest := [.int 0, .ref 197]) (cd_x (As := [.int a1, .int a2]) rfl rfl rfl rfl (Nat.le_of_ble_eq_true rfl) (Nat.le_of_ble_eq_true rfl) rfl ho) rfl (Nat.le_of_ble_eq_true rfl) (Nat.le_of_ble_eq_true rfl) (Nat.le_refl _) (Nat.le_refl _) ⟨n, _, px_inl _ _ _ _ _ _ hr, Or.inr rfl, Nat.le_add_right _ _, Nat.le_add_right _ _, ?_⟩
      show pm_V _ _ _ _ _ _ _ _ _ _ _ _ _ _ _ 1003 198 sl (8, pm_l0 [.ref 0, .int a1, .int a2, .ref 197] 5, [.int v, .int 0, .ref 197], h1, 198, sl)
      refine pv_i hC hsz rfl rfl rfl rfl ?_
      refine tw_store (v := v.toInt64) hC hsz (px_run_nw nwx_93 n _ _ _ _ hr) hhr rfl rfl (fun _ => rfl) (fun h2 hX2 => ?_)
      refine pv_i hC hsz rfl rfl rfl rfl ?_
      intro H1 locs1 ls hP1 hS1 hl1
      dsimp only at hP1 hl1 ⊢
      refine W.widen (k := 1) (n := 6) (by omega) (by omega) ?_
      show W _ _ _ _ _ _ _ _ _ _ _ _ _ _ _ (F0 m 18 ls [.int 0])
      exact W.iret hC.1 hC.2.1 B.returns (fun t ht hW => ⟨⟨0, rfl⟩, ⟨h2, hX2, by rw [ht]; exact hP1⟩, hS1.F ht⟩) hS1.2.2 (PT_ok.1 1003 18 _ _ rfl) B.notSynchronized
  have hW := key s.heap [] _ hP va_S.rf (pm_l0_loc aC b [.ref 0, .int a1, .int a2, .ref 197] (n := 5) (Nat.le_of_ble_eq_true rfl))
  rw [lg_entry_eq]
  dsimp only at hW
  rw [Nat.sub_self, Nat.sub_self] at hW
  exact hW
set_option maxHeartbeats 1000000 in
theorem tw_row {l : Launch} (htr : l.stackTraces = false) {D : va_G} {aC : Nat → ClassId} {b g sl : Nat} {h : pm_H} {fs : List Value} (a1 : Int32) (hH : ah_ok bB 198 [] h) (ho : h 0 = .inr (10, fs)) : Met l (pm_y PT 1004) (tw_ws 1004 [(0, 8, 11, 13)]) (pm_rm 2047 83977 1 6) (tx_Pc D aC b g [.ref 0, .int a1, .ref 197] h 198) (tw_Qd D aC b h) 1 6 (fun q => b ≤ q) := by
  refine va_MetW (cc := pm_code PT 1004) (maxL := pm_max PT 1004) (ret := some .int) (hh := [(0, 8, 11, 13)]) (by decide) rfl ?_
  intro p e s m args below meth c s₁ B hml hv
  obtain ⟨rfl, hsz, hP, hK, hX⟩ := hv
  have hts := atoms_spec (ws := tw_ws 1004 [(0, 8, 11, 13)]) B.pre
  have hC : pm_C PT PG PN D aC b 1004 p s m ([Value.ref 0, Value.int a1, Value.ref 197].map (pm_tr aC b)).toArray meth c := ⟨B.exec, B.bytes, hml, findClass_of_methodNamed B.named, fun w hw => hts w (List.mem_cons_of_mem _ hw), hK, fun q => absurd q (by decide)⟩
  have htab : c.exceptionTable.toList = [⟨0, 8, 11, 13⟩] := vx_table (x := pm_y PT 1004) B (hts _ List.mem_cons_self)
  obtain ⟨n, o, hr, ho2⟩ := sx_con (sl := sl) (As := [.ref 0, .int a1]) cxKt_ok (fun z hz => by cases List.mem_singleton.mp hz; exact rfl) th_row ⟨⟨rfl, List.mem_singleton_self _⟩, ai_top_ok _, trivial⟩ hH
  have key : pm_V p l e (headSpec (tw_ws 1004 [(0, 8, 11, 13)]) (pm_rm 2047 83977 1 6)).room s m ([Value.ref 0, Value.int a1, Value.ref 197].map (pm_tr aC b)).toArray below meth c (MQ below (tw_Qd D aC b h) ([Value.ref 0, Value.int a1, Value.ref 197].map (pm_tr aC b)).toArray s 1 6 (fun q => b ≤ q)) PT D aC b 1004 198 sl (0, pm_l0 [.ref 0, .int a1, .ref 197] 4, [], h, 198, sl) := by
    refine pv_i hC hsz rfl rfl rfl rfl ?_
    refine pv_i hC hsz rfl rfl rfl rfl ?_
    refine pv_i hC hsz rfl rfl rfl rfl ?_
    refine pv_i hC hsz rfl rfl rfl rfl ?_
    cases o with
    | inr st1 =>
      have hrun : pw_X PT (tx_stop 128) 2046 83956 128 (0, pm_l0 (.ref 0 :: [.int a1]) (pm_max PT 128), [], h, 198, sl) (fun _ => False) (fun st => pm_sum st.2.2.1 ≤ 8 ∧ st.2.2.2.2 = (198, sl) ∧ twX h st.2.2.2.1) := ⟨n, .inr st1, hr, ho2.1, by rw [ho2.2.1]; decide, ho2.2.2.1, fun i _ => congrFun (px_run_nw nwx_128 n _ _ _ _ hr) i, ho2.2.2.2.2⟩
      refine tw_call (w := 1004) (t := 128) (n := 1) (pc := 4) (hpc := 11) (x := ⟨0, 8, 11, 13⟩) (vs := [.int a1]) (rest := [.int 0, .ref 197]) (fr' := 2046) (lo' := 83956) htr hC rfl hX hsz htab rfl rfl rfl rfl rfl (Nat.le_refl _) (Nat.le_refl _) (by decide) (by decide) rfl rfl rfl rfl rfl rfl ho (by decide) (Nat.le_of_ble_eq_true rfl) (Nat.le_of_ble_eq_true rfl) (by first | exact Or.inl rfl | exact Or.inr rfl) hrun ?_
      intro q9 h1 H1 locs1 ls hXQ hP1 hS1 hl1
      refine lv_astore_n hC.1 hC.2.1 (k := 3) (i := 3) (PT_ok.1 1004 11 _ _ rfl) rfl hl1.has (by decide) rfl (fun ls' hl' => ?_)
      refine lv_iconst hC.1 hC.2.1 (n := 1) (v := 1) (PT_ok.1 1004 12 _ _ rfl) rfl ?_
      exact W.iret hC.1 hC.2.1 B.returns (fun t ht hW => ⟨⟨1, rfl⟩, ⟨h1, hXQ, by rw [ht]; exact hP1⟩, hS1.F ht⟩) hS1.2.2 (PT_ok.1 1004 13 _ _ rfl) B.notSynchronized
    | inl r =>
      obtain ⟨⟨a, ha, hv⟩, hsr, hfr, hhr⟩ := ho2
      obtain ⟨rv, h1, s1⟩ := r
      dsimp only at hv hsr hfr hhr
      cases hsr
      cases List.mem_singleton.mp ha
      have hrv : ∃ v : Int64, rv = some (.long v) := ao_l hv
      obtain ⟨v, rfl⟩ := hrv
      refine pv_call PT_ok hC rfl rfl hsz (t := 128) (mx := 2) (As := [.ref 0, .int a1]) (rest := [.int 0, .ref 197]) (cd_x (As := [.int a1]) rfl rfl rfl rfl (Nat.le_of_ble_eq_true rfl) (Nat.le_of_ble_eq_true rfl) rfl ho) rfl (Nat.le_of_ble_eq_true rfl) (Nat.le_of_ble_eq_true rfl) (Nat.le_refl _) (Nat.le_refl _) ⟨n, _, px_inl _ _ _ _ _ _ hr, Or.inr rfl, Nat.le_add_right _ _, Nat.le_add_right _ _, ?_⟩
      show pm_V _ _ _ _ _ _ _ _ _ _ _ _ _ _ _ 1004 198 sl (7, pm_l0 [.ref 0, .int a1, .ref 197] 4, [.long v, .int 0, .ref 197], h1, 198, sl)
      refine tw_store (v := v) hC hsz (px_run_nw nwx_128 n _ _ _ _ hr) hhr rfl rfl (fun _ => rfl) (fun h2 hX2 => ?_)
      refine pv_i hC hsz rfl rfl rfl rfl ?_
      intro H1 locs1 ls hP1 hS1 hl1
      dsimp only at hP1 hl1 ⊢
      refine W.widen (k := 1) (n := 6) (by omega) (by omega) ?_
      show W _ _ _ _ _ _ _ _ _ _ _ _ _ _ _ (F0 m 15 ls [.int 0])
      exact W.iret hC.1 hC.2.1 B.returns (fun t ht hW => ⟨⟨0, rfl⟩, ⟨h2, hX2, by rw [ht]; exact hP1⟩, hS1.F ht⟩) hS1.2.2 (PT_ok.1 1004 15 _ _ rfl) B.notSynchronized
  have hW := key s.heap [] _ hP va_S.rf (pm_l0_loc aC b [.ref 0, .int a1, .ref 197] (n := 4) (Nat.le_of_ble_eq_true rfl))
  rw [lg_entry_eq]
  dsimp only at hW
  rw [Nat.sub_self, Nat.sub_self] at hW
  exact hW
end TWD
