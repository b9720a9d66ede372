/-! the law's four wrappers on the fresh heap: the class throws, the wrapper answers 1 -/
section TWF
def fx_thr (n fr lo t : Nat) (bx : List av) : Bool := match ax_run rs_kn PT fz_B 198 fz_n fz_m (tx_stop t) n fr lo t [(0, aa_l0 ((2, 0, 1) :: bx) (pm_max PT t), [], [])] [] [] with
  | some ([], Z) => Z.all (fun s => Nat.ble (aa_sum s.2.2.1) 8 && (match s.2.2.2 with
    | [] => true
    | _ => false))
  | _ => false
theorem fx_ok {n fr lo t sl : Nat} {bx : List av} {vs : List Value} {h : pm_H} (e : fx_thr n fr lo t bx = true) (q : as_ok vs bx) (hH : ah_ok fz_B 198 [] h) : pw_X PT (tx_stop t) fr lo t (0, pm_l0 (.ref 0 :: vs) (pm_max PT t), [], h, 198, sl) (fun _ => False) (fun st => pm_sum st.2.2.1 ≤ 8 ∧ st.2.2.2.2 = (198, sl) ∧ ah_ok fz_B 198 [] st.2.2.2.1) := by
  unfold fx_thr at e
  split at e
  · rename_i Z eR
    have r0 : av_ok (.ref 0) (2, 0, 1) := ⟨rfl, by decide⟩
    have q0 : as_ok (.ref 0 :: vs) ((2, 0, 1) :: bx) := ⟨r0, q⟩
    refine pw_mono ((ax_run_ok rs_kn_ok n fr lo t _ [] [] [] Z eR).2.2 (0, pm_l0 (.ref 0 :: vs) (pm_max PT t), [], h, 198, sl) ⟨_, List.mem_singleton_self _, rfl, al_l0 q0 _, trivial, hH, rfl, rfl⟩) ?_ ?_
    · rintro x ⟨r, hr, _⟩
      cases hr
    · rintro st ⟨s, hs, h1, hL, hS, hH1, h5, h6⟩
      have hz := List.all_eq_true.mp e s hs
      rw [Bool.and_eq_true] at hz
      refine ⟨by rw [as_sum hS]; exact Nat.le_of_ble_eq_true hz.1, Prod.ext h5 h6, ?_⟩
      have hz2 := hz.2
      split at hz2
      · rename_i eo
        rw [eo] at hH1
        exact hH1
      · cases hz2
  · cases e
/-- the reference's side -/
theorem fy_ok {n km sl : Nat} {bx : List av} {vs : List Value} {h : pm_H} (hty : pm_ret PT km = some .int ∨ pm_ret PT km = some .boolean) (e : fz_thr n km bx = true) (q : as_ok vs bx) (hH : ah_ok fz_B 198 [] h) : pm_WP PT 2047 (84000 - (19 + pm_max PT km)) km (0, pm_l0 (.ref 162 :: vs) (pm_max PT km), [], h, 198, sl) (fun x => (∃ v, x.1 = some (.int v)) ∧ x.2.2 = (198, sl) ∧ pm_WP PT 2047 (84000 - (19 + pm_max PT 162)) 162 (0, pm_l0 [.ref 162] (pm_max PT 162), [], x.2) (fun y => y.1 = some (.int 1) ∧ y.2.2 = (198, sl))) := by
  unfold fz_thr at e
  split at e
  · rename_i R eR
    have r1 : av_ok (.ref 162) (2, 162, 1) := ⟨rfl, by decide⟩
    refine wp_mono (wp_int hty (fz_go_ok (As := .ref 162 :: vs) eR ⟨r1, q⟩ hH)) ?_
    rintro ⟨rv, h1, sz1, sl1⟩ ⟨⟨r, hr, q1, q2, q3, q4⟩, v, hv⟩
    have er := List.all_eq_true.mp e r hr
    rw [Bool.and_eq_true] at er
    dsimp only at q1 q2 q3 q4 hv
    subst q3 q4
    refine ⟨⟨v, hv⟩, rfl, ?_⟩
    have er2 := er.2
    split at er2
    · rename_i R2 eR2
      refine wp_mono (fz_go_ok (As := [.ref 162]) eR2 ⟨r1, trivial⟩ q2) ?_
      rintro ⟨rv2, h2, sz2, sl2⟩ ⟨r2, hr2, p1, p2, p3, p4⟩
      have e2 : r2.1 = some (0, 1, 1) := of_decide_eq_true (List.all_eq_true.mp er2 r2 hr2)
      rw [e2] at p1
      dsimp only at p1 p3 p4
      subst p3 p4
      cases rv2 with
      | none => exact p1.elim
      | some w =>
        obtain ⟨x, rfl, x1, x2⟩ := av_int (a := (0, 1, 1)) rfl p1
        have hx : x = 1 := Int32.toInt_inj.1 (by rw [show (1 : Int32).toInt = 1 by decide]; dsimp only at x1 x2; omega)
        rw [hx]
        exact ⟨rfl, rfl⟩
    · cases er2
  · cases e
theorem fx_court : bt_chk (fx_thr 300 2046 83954 91) [(1, -1), (0, 0), (0, 0)] [bx_T 2] = true := by decide +kernel
set_option maxHeartbeats 1000000 in
theorem tw_court {l : Launch} (htr : l.stackTraces = false) {D : va_G} {aC : Nat → ClassId} {b g sl : Nat} {h : pm_H} {fs : List Value} (a1 a2 : Int32) (hH : ah_ok fz_B 198 [] h) (ho : h 0 = .inr (10, fs)) : Met l (pm_y PT 1001) (tw_ws 1001 [(0, 10, 13, 13)]) (pm_rm 2047 83976 1 6) (tx_Pc D aC b g [.ref 0, .int a1, .int a2, .ref 197] h 198) (tw_Qc D aC b 198 (fun h1 => ah_ok fz_B 198 [] h1)) 1 6 (fun q => b ≤ q) := by
  refine va_MetW (cc := pm_code PT 1001) (maxL := pm_max PT 1001) (ret := some .int) (hh := [(0, 10, 13, 13)]) (by decide) rfl ?_
  intro p e s m args below meth c s₁ B hml hv
  obtain ⟨rfl, hsz, hP, hK, hX⟩ := hv
  have hts := atoms_spec (ws := tw_ws 1001 [(0, 10, 13, 13)]) B.pre
  have hC : pm_C PT PG PN D aC 1001 p s m ([Value.ref 0, Value.int a1, Value.int a2, Value.ref 197].map (pm_tr b)).toArray meth c := ⟨B.exec, B.bytes, hml, findClass_of_methodNamed B.named, fun w hw => hts w (List.mem_cons_of_mem _ hw), hK, fun q => absurd q (by decide)⟩
  have htab : c.exceptionTable.toList = [⟨0, 10, 13, 13⟩] := vx_table (x := pm_y PT 1001) B (hts _ List.mem_cons_self)
  have hrun := bt_ok (fun bx vs h1 h2 => fx_ok (sl := sl) h1 h2 hH) _ _ [.int a1, .int a2] fx_court ⟨_, List.mem_singleton_self _, bx_T_ok [a1, a2]⟩
  have key : pm_V p l e (headSpec (tw_ws 1001 [(0, 10, 13, 13)]) (pm_rm 2047 83976 1 6)).room s m ([Value.ref 0, Value.int a1, Value.int a2, Value.ref 197].map (pm_tr b)).toArray below meth c (MQ below (tw_Qc D aC b 198 (fun h1 => ah_ok fz_B 198 [] h1)) ([Value.ref 0, Value.int a1, Value.int a2, Value.ref 197].map (pm_tr b)).toArray s 1 6 (fun q => b ≤ q)) PT D aC b 1001 198 sl (0, pm_l0 [.ref 0, .int a1, .int a2, .ref 197] 5, [], h, 198, sl) := by
    refine pv_i hC hsz rfl rfl rfl rfl ?_
    refine pv_i hC hsz rfl rfl rfl rfl ?_
    refine pv_i hC hsz rfl rfl rfl rfl ?_
    refine pv_i hC hsz rfl rfl rfl rfl ?_
    refine pv_i hC hsz rfl rfl rfl rfl ?_
    refine tw_call (w := 1001) (t := 91) (n := 2) (pc := 5) (hpc := 13) (x := ⟨0, 10, 13, 13⟩) (vs := [.int a1, .int a2]) (rest := [.int 0, .ref 197]) (fr' := 2046) (lo' := 83954) htr hC rfl hX hsz htab rfl rfl rfl rfl rfl (Nat.le_refl _) (Nat.le_refl _) (by decide) (by decide) rfl rfl rfl rfl rfl rfl ho (by decide) (Nat.le_of_ble_eq_true rfl) (Nat.le_of_ble_eq_true rfl) (by first | exact Or.inl rfl | exact Or.inr rfl) hrun ?_
    intro q9 h1 H1 locs1 ls hXQ hP1 hS1 hl1
    refine lv_astore hC.1 hC.2.1 (i := 4) (PT_ok.1 1001 13 _ _ rfl) hl1.has (by decide) rfl (fun ls' hl' => ?_)
    refine lv_iconst hC.1 hC.2.1 (n := 1) (v := 1) (PT_ok.1 1001 15 _ _ rfl) rfl ?_
    exact W.iret hC.1 hC.2.1 B.returns (fun t ht hW => ⟨rfl, ⟨h1, hXQ, by rw [ht]; exact hP1⟩, hS1.F ht⟩) hS1.2.2 (PT_ok.1 1001 16 _ _ rfl) B.notSynchronized
  have hW := key s.heap [] _ hP va_S.rf (pm_l0_loc b [.ref 0, .int a1, .int a2, .ref 197] (n := 5) (Nat.le_of_ble_eq_true rfl))
  rw [lg_entry_eq]
  dsimp only at hW
  rw [Nat.sub_self, Nat.sub_self] at hW
  exact hW
theorem fx_between : bt_chk (fx_thr 300 2046 83951 92) [(1, -1), (0, 0), (0, 0)] [bx_T 3] = true := by decide +kernel
set_option maxHeartbeats 1000000 in
theorem tw_between {l : Launch} (htr : l.stackTraces = false) {D : va_G} {aC : Nat → ClassId} {b g sl : Nat} {h : pm_H} {fs : List Value} (a1 a2 a3 : Int32) (hH : ah_ok fz_B 198 [] h) (ho : h 0 = .inr (10, fs)) : Met l (pm_y PT 1002) (tw_ws 1002 [(0, 12, 15, 13)]) (pm_rm 2047 83975 1 6) (tx_Pc D aC b g [.ref 0, .int a1, .int a2, .int a3, .ref 197] h 198) (tw_Qc D aC b 198 (fun h1 => ah_ok fz_B 198 [] h1)) 1 6 (fun q => b ≤ q) := by
  refine va_MetW (cc := pm_code PT 1002) (maxL := pm_max PT 1002) (ret := some .int) (hh := [(0, 12, 15, 13)]) (by decide) rfl ?_
  intro p e s m args below meth c s₁ B hml hv
  obtain ⟨rfl, hsz, hP, hK, hX⟩ := hv
  have hts := atoms_spec (ws := tw_ws 1002 [(0, 12, 15, 13)]) B.pre
  have hC : pm_C PT PG PN D aC 1002 p s m ([Value.ref 0, Value.int a1, Value.int a2, Value.int a3, Value.ref 197].map (pm_tr b)).toArray meth c := ⟨B.exec, B.bytes, hml, findClass_of_methodNamed B.named, fun w hw => hts w (List.mem_cons_of_mem _ hw), hK, fun q => absurd q (by decide)⟩
  have htab : c.exceptionTable.toList = [⟨0, 12, 15, 13⟩] := vx_table (x := pm_y PT 1002) B (hts _ List.mem_cons_self)
  have hrun := bt_ok (fun bx vs h1 h2 => fx_ok (sl := sl) h1 h2 hH) _ _ [.int a1, .int a2, .int a3] fx_between ⟨_, List.mem_singleton_self _, bx_T_ok [a1, a2, a3]⟩
  have key : pm_V p l e (headSpec (tw_ws 1002 [(0, 12, 15, 13)]) (pm_rm 2047 83975 1 6)).room s m ([Value.ref 0, Value.int a1, Value.int a2, Value.int a3, Value.ref 197].map (pm_tr b)).toArray below meth c (MQ below (tw_Qc D aC b 198 (fun h1 => ah_ok fz_B 198 [] h1)) ([Value.ref 0, Value.int a1, Value.int a2, Value.int a3, Value.ref 197].map (pm_tr b)).toArray s 1 6 (fun q => b ≤ q)) PT D aC b 1002 198 sl (0, pm_l0 [.ref 0, .int a1, .int a2, .int a3, .ref 197] 6, [], h, 198, sl) := by
    refine pv_i hC hsz rfl rfl rfl rfl ?_
    refine pv_i hC hsz rfl rfl rfl rfl ?_
    refine pv_i hC hsz rfl rfl rfl rfl ?_
    refine pv_i hC hsz rfl rfl rfl rfl ?_
    refine pv_i hC hsz rfl rfl rfl rfl ?_
    refine pv_i hC hsz rfl rfl rfl rfl ?_
    refine tw_call (w := 1002) (t := 92) (n := 3) (pc := 7) (hpc := 15) (x := ⟨0, 12, 15, 13⟩) (vs := [.int a1, .int a2, .int a3]) (rest := [.int 0, .ref 197]) (fr' := 2046) (lo' := 83951) htr hC rfl hX hsz htab rfl rfl rfl rfl rfl (Nat.le_refl _) (Nat.le_refl _) (by decide) (by decide) rfl rfl rfl rfl rfl rfl ho (by decide) (Nat.le_of_ble_eq_true rfl) (Nat.le_of_ble_eq_true rfl) (by first | exact Or.inl rfl | exact Or.inr rfl) hrun ?_
    intro q9 h1 H1 locs1 ls hXQ hP1 hS1 hl1
    refine lv_astore hC.1 hC.2.1 (i := 5) (PT_ok.1 1002 15 _ _ rfl) hl1.has (by decide) rfl (fun ls' hl' => ?_)
    refine lv_iconst hC.1 hC.2.1 (n := 1) (v := 1) (PT_ok.1 1002 17 _ _ rfl) rfl ?_
    exact W.iret hC.1 hC.2.1 B.returns (fun t ht hW => ⟨rfl, ⟨h1, hXQ, by rw [ht]; exact hP1⟩, hS1.F ht⟩) hS1.2.2 (PT_ok.1 1002 18 _ _ rfl) B.notSynchronized
  have hW := key s.heap [] _ hP va_S.rf (pm_l0_loc b [.ref 0, .int a1, .int a2, .int a3, .ref 197] (n := 6) (Nat.le_of_ble_eq_true rfl))
  rw [lg_entry_eq]
  dsimp only at hW
  rw [Nat.sub_self, Nat.sub_self] at hW
  exact hW
theorem fx_gift : bt_chk (fx_thr 300 2046 83954 93) [(1, -1), (0, 0), (0, 0)] [bx_T 2] = true := by decide +kernel
set_option maxHeartbeats 1000000 in
theorem tw_gift {l : Launch} (htr : l.stackTraces = false) {D : va_G} {aC : Nat → ClassId} {b g sl : Nat} {h : pm_H} {fs : List Value} (a1 a2 : Int32) (hH : ah_ok fz_B 198 [] h) (ho : h 0 = .inr (10, fs)) : Met l (pm_y PT 1003) (tw_ws 1003 [(0, 10, 13, 13)]) (pm_rm 2047 83976 1 6) (tx_Pc D aC b g [.ref 0, .int a1, .int a2, .ref 197] h 198) (tw_Qc D aC b 198 (fun h1 => ah_ok fz_B 198 [] h1)) 1 6 (fun q => b ≤ q) := by
  refine va_MetW (cc := pm_code PT 1003) (maxL := pm_max PT 1003) (ret := some .int) (hh := [(0, 10, 13, 13)]) (by decide) rfl ?_
  intro p e s m args below meth c s₁ B hml hv
  obtain ⟨rfl, hsz, hP, hK, hX⟩ := hv
  have hts := atoms_spec (ws := tw_ws 1003 [(0, 10, 13, 13)]) B.pre
  have hC : pm_C PT PG PN D aC 1003 p s m ([Value.ref 0, Value.int a1, Value.int a2, Value.ref 197].map (pm_tr b)).toArray meth c := ⟨B.exec, B.bytes, hml, findClass_of_methodNamed B.named, fun w hw => hts w (List.mem_cons_of_mem _ hw), hK, fun q => absurd q (by decide)⟩
  have htab : c.exceptionTable.toList = [⟨0, 10, 13, 13⟩] := vx_table (x := pm_y PT 1003) B (hts _ List.mem_cons_self)
  have hrun := bt_ok (fun bx vs h1 h2 => fx_ok (sl := sl) h1 h2 hH) _ _ [.int a1, .int a2] fx_gift ⟨_, List.mem_singleton_self _, bx_T_ok [a1, a2]⟩
  have key : pm_V p l e (headSpec (tw_ws 1003 [(0, 10, 13, 13)]) (pm_rm 2047 83976 1 6)).room s m ([Value.ref 0, Value.int a1, Value.int a2, Value.ref 197].map (pm_tr b)).toArray below meth c (MQ below (tw_Qc D aC b 198 (fun h1 => ah_ok fz_B 198 [] h1)) ([Value.ref 0, Value.int a1, Value.int a2, Value.ref 197].map (pm_tr b)).toArray s 1 6 (fun q => b ≤ q)) PT D aC b 1003 198 sl (0, pm_l0 [.ref 0, .int a1, .int a2, .ref 197] 5, [], h, 198, sl) := by
    refine pv_i hC hsz rfl rfl rfl rfl ?_
    refine pv_i hC hsz rfl rfl rfl rfl ?_
    refine pv_i hC hsz rfl rfl rfl rfl ?_
    refine pv_i hC hsz rfl rfl rfl rfl ?_
    refine pv_i hC hsz rfl rfl rfl rfl ?_
    refine tw_call (w := 1003) (t := 93) (n := 2) (pc := 5) (hpc := 13) (x := ⟨0, 10, 13, 13⟩) (vs := [.int a1, .int a2]) (rest := [.int 0, .ref 197]) (fr' := 2046) (lo' := 83954) htr hC rfl hX hsz htab rfl rfl rfl rfl rfl (Nat.le_refl _) (Nat.le_refl _) (by decide) (by decide) rfl rfl rfl rfl rfl rfl ho (by decide) (Nat.le_of_ble_eq_true rfl) (Nat.le_of_ble_eq_true rfl) (by first | exact Or.inl rfl | exact Or.inr rfl) hrun ?_
    intro q9 h1 H1 locs1 ls hXQ hP1 hS1 hl1
    refine lv_astore hC.1 hC.2.1 (i := 4) (PT_ok.1 1003 13 _ _ rfl) hl1.has (by decide) rfl (fun ls' hl' => ?_)
    refine lv_iconst hC.1 hC.2.1 (n := 1) (v := 1) (PT_ok.1 1003 15 _ _ rfl) rfl ?_
    exact W.iret hC.1 hC.2.1 B.returns (fun t ht hW => ⟨rfl, ⟨h1, hXQ, by rw [ht]; exact hP1⟩, hS1.F ht⟩) hS1.2.2 (PT_ok.1 1003 16 _ _ rfl) B.notSynchronized
  have hW := key s.heap [] _ hP va_S.rf (pm_l0_loc b [.ref 0, .int a1, .int a2, .ref 197] (n := 5) (Nat.le_of_ble_eq_true rfl))
  rw [lg_entry_eq]
  dsimp only at hW
  rw [Nat.sub_self, Nat.sub_self] at hW
  exact hW
theorem fx_row : bt_chk (fx_thr 300 2046 83956 128) [(1, -1), (0, 0), (0, 0)] [bx_T 1] = true := by decide +kernel
set_option maxHeartbeats 1000000 in
theorem tw_row {l : Launch} (htr : l.stackTraces = false) {D : va_G} {aC : Nat → ClassId} {b g sl : Nat} {h : pm_H} {fs : List Value} (a1 : Int32) (hH : ah_ok fz_B 198 [] h) (ho : h 0 = .inr (10, fs)) : Met l (pm_y PT 1004) (tw_ws 1004 [(0, 8, 11, 13)]) (pm_rm 2047 83977 1 6) (tx_Pc D aC b g [.ref 0, .int a1, .ref 197] h 198) (tw_Qc D aC b 198 (fun h1 => ah_ok fz_B 198 [] h1)) 1 6 (fun q => b ≤ q) := by
  refine va_MetW (cc := pm_code PT 1004) (maxL := pm_max PT 1004) (ret := some .int) (hh := [(0, 8, 11, 13)]) (by decide) rfl ?_
  intro p e s m args below meth c s₁ B hml hv
  obtain ⟨rfl, hsz, hP, hK, hX⟩ := hv
  have hts := atoms_spec (ws := tw_ws 1004 [(0, 8, 11, 13)]) B.pre
  have hC : pm_C PT PG PN D aC 1004 p s m ([Value.ref 0, Value.int a1, Value.ref 197].map (pm_tr b)).toArray meth c := ⟨B.exec, B.bytes, hml, findClass_of_methodNamed B.named, fun w hw => hts w (List.mem_cons_of_mem _ hw), hK, fun q => absurd q (by decide)⟩
  have htab : c.exceptionTable.toList = [⟨0, 8, 11, 13⟩] := vx_table (x := pm_y PT 1004) B (hts _ List.mem_cons_self)
  have hrun := bt_ok (fun bx vs h1 h2 => fx_ok (sl := sl) h1 h2 hH) _ _ [.int a1] fx_row ⟨_, List.mem_singleton_self _, bx_T_ok [a1]⟩
  have key : pm_V p l e (headSpec (tw_ws 1004 [(0, 8, 11, 13)]) (pm_rm 2047 83977 1 6)).room s m ([Value.ref 0, Value.int a1, Value.ref 197].map (pm_tr b)).toArray below meth c (MQ below (tw_Qc D aC b 198 (fun h1 => ah_ok fz_B 198 [] h1)) ([Value.ref 0, Value.int a1, Value.ref 197].map (pm_tr b)).toArray s 1 6 (fun q => b ≤ q)) PT D aC b 1004 198 sl (0, pm_l0 [.ref 0, .int a1, .ref 197] 4, [], h, 198, sl) := by
    refine pv_i hC hsz rfl rfl rfl rfl ?_
    refine pv_i hC hsz rfl rfl rfl rfl ?_
    refine pv_i hC hsz rfl rfl rfl rfl ?_
    refine pv_i hC hsz rfl rfl rfl rfl ?_
    refine tw_call (w := 1004) (t := 128) (n := 1) (pc := 4) (hpc := 11) (x := ⟨0, 8, 11, 13⟩) (vs := [.int a1]) (rest := [.int 0, .ref 197]) (fr' := 2046) (lo' := 83956) htr hC rfl hX hsz htab rfl rfl rfl rfl rfl (Nat.le_refl _) (Nat.le_refl _) (by decide) (by decide) rfl rfl rfl rfl rfl rfl ho (by decide) (Nat.le_of_ble_eq_true rfl) (Nat.le_of_ble_eq_true rfl) (by first | exact Or.inl rfl | exact Or.inr rfl) hrun ?_
    intro q9 h1 H1 locs1 ls hXQ hP1 hS1 hl1
    refine lv_astore_n hC.1 hC.2.1 (k := 3) (i := 3) (PT_ok.1 1004 11 _ _ rfl) rfl hl1.has (by decide) rfl (fun ls' hl' => ?_)
    refine lv_iconst hC.1 hC.2.1 (n := 1) (v := 1) (PT_ok.1 1004 12 _ _ rfl) rfl ?_
    exact W.iret hC.1 hC.2.1 B.returns (fun t ht hW => ⟨rfl, ⟨h1, hXQ, by rw [ht]; exact hP1⟩, hS1.F ht⟩) hS1.2.2 (PT_ok.1 1004 13 _ _ rfl) B.notSynchronized
  have hW := key s.heap [] _ hP va_S.rf (pm_l0_loc b [.ref 0, .int a1, .ref 197] (n := 4) (Nat.le_of_ble_eq_true rfl))
  rw [lg_entry_eq]
  dsimp only at hW
  rw [Nat.sub_self, Nat.sub_self] at hW
  exact hW
end TWF
