/-! ONE CALL ON A FRESH OBJECT: the law's round -/
section P1R
variable {p : Program} {l : Launch} {e : Env} {R : Room} {s : State} {m : MethodId} {below : List Frame} {meth : Method} {c : Code} {D : va_G} {aC : Nat → ClassId} {b g sl bS Ln C S : Nat} {xs : Nat → Int32} {L : pm_L} {h : pm_H}
theorem pm_run_tyL {T : pm_Tab} : ∀ (n fr lo k : Nat) (st : pm_St) (r : pm_Rs), pm_ret T k = some .long → pm_run T n fr lo k st = some r → ∃ v, r.1 = some (.long v)
  | 0, _, _, _, _, _, _, h => by cases h
  | n + 1, fr, lo, k, st, r, hr, h => by
    unfold pm_run at h
    split at h
    · rename_i r' e1
      cases h
      unfold pm_end at e1
      split at e1
      · cases e1
      · split at e1
        · split at e1
          · rename_i rv e2
            cases e1
            unfold pm_rets at e2
            split at e2
            · rw [hr] at e2; cases e2
            · rw [hr] at e2; cases e2
            · split at e2
              · cases e2; exact ⟨_, rfl⟩
              · cases e2
            · cases e2
          · cases e1
        · cases e1
    · split at h
      · exact pm_run_tyL n fr lo k _ r hr h
      · cases h
theorem fyL_ok {n km sl : Nat} {bx : List av} {vs : List Value} {h : pm_H} (hty : pm_ret PT km = some .long) (e : fz_thr n km bx = true) (q : as_ok vs bx) (hH : ah_ok fz_B 198 [] h) : pm_WP PT 2047 (84000 - (19 + pm_max PT km)) km (0, pm_l0 (.ref 162 :: vs) (pm_max PT km), [], h, 198, sl) (fun x => (∃ v, x.1 = some (.long v)) ∧ x.2.2 = (198, sl) ∧ pm_WP PT 2047 (84000 - (19 + pm_max PT 162)) 162 (0, pm_l0 [.ref 162] (pm_max PT 162), [], x.2) (fun y => y.1 = some (.int 1) ∧ y.2.2 = (198, sl))) := by
  unfold fz_thr at e
  split at e
  · rename_i R eR
    have r1 : av_ok (.ref 162) (2, 162, 1) := ⟨rfl, by decide⟩
    obtain ⟨n1, r', hrun, r, hr, q1, q2, q3, q4⟩ := fz_go_ok (sl := sl) (As := .ref 162 :: vs) eR ⟨r1, q⟩ hH
    obtain ⟨v, hv⟩ := pm_run_tyL _ _ _ _ _ _ hty hrun
    refine ⟨n1, r', hrun, ?_⟩
    obtain ⟨rv, h1, sz1, sl1⟩ := r'
    have er := List.all_eq_true.mp e r hr
    rw [Bool.and_eq_true] at er
    dsimp only at q1 q2 q3 q4 hv
    subst q3 q4
    refine ⟨⟨v, hv⟩, rfl, ?_⟩
    have er2 := er.2
    split at er2
    · rename_i R2 eR2
      refine wp_mono (fz_go_ok (As := [.ref 162]) eR2 ⟨r1, trivial⟩ q2) ?_
      rintro ⟨rv2, h2, sz2, sl2⟩ ⟨r2, hr2, p1, p2, p3, p4⟩
      have e2 : r2.1 = some (0, 1, 1) := of_decide_eq_true (List.all_eq_true.mp er2 r2 hr2)
      rw [e2] at p1
      dsimp only at p1 p3 p4
      subst p3 p4
      cases rv2 with
      | none => exact p1.elim
      | some w =>
        obtain ⟨x, rfl, x1, x2⟩ := av_int (a := (0, 1, 1)) rfl p1
        have hx : x = 1 := Int32.toInt_inj.1 (by rw [show (1 : Int32).toInt = 1 by decide]; dsimp only at x1 x2; omega)
        rw [hx]
        exact ⟨rfl, rfl⟩
    · cases er2
  · cases e
theorem fz_use {kx km sl pe : Nat} {vs : List Value} {h : pm_H} {P : pm_St → Prop} {L : pm_L} (hs : fz_same kx km sl h vs) (kk : ∀ h', P (pe, L, [], h', 198, sl)) : pm_WP PT 2047 (84000 - (19 + pm_max PT kx)) kx (0, pm_l0 (.ref 0 :: vs) (pm_max PT kx), [], h, 198, sl) (fun x => x.2.2 = (198, sl) ∧ ∃ v, x.1 = some v ∧ pm_WP PT 2047 (84000 - (19 + pm_max PT km)) km (0, pm_l0 (.ref 162 :: vs) (pm_max PT km), [], x.2) (fun y => y.1 = some v ∧ y.2.2 = (198, sl) ∧ P (pe, L, [], y.2))) := by
  obtain ⟨n, ⟨rv, h1, sz1, sl1⟩, hr, v, hv, n2, ⟨rv2, h2, sz2, sl2⟩, hr2, hq1, hq2⟩ := hs
  have m1 := pm_mono _ _ _ _ _ _ hr
  have m2 := pm_mono _ _ _ _ _ _ hr2
  dsimp only at m1 m2 hq1 hq2 hv
  cases hq2
  have e1 : sz1 = 198 := by omega
  have e2 : sl1 = sl := by omega
  subst e1 e2
  exact ⟨n, _, hr, rfl, v, hv, n2, _, hr2, hq1, rfl, kk h2⟩
theorem fz_o1 (hH : ah_ok fz_B 198 [] h) : ∃ f, h 0 = .inr (10, f) := by
  have h0 := hH 0 (by decide)
  obtain ⟨fs, ef, -, -⟩ := aE_obj (show ac_ok (h 0) (.inr (10, _)) from h0) (by decide)
  exact ⟨fs, ef⟩
theorem fz_o2 (hH : ah_ok fz_B 198 [] h) : ∃ f, h 162 = .inr (11, f) := by
  have h0 := hH 162 (by decide)
  obtain ⟨fs, ef, -, -⟩ := aE_obj (show ac_ok (h 162) (.inr (11, _)) from h0) (by decide)
  exact ⟨fs, ef⟩
/-- the walk's readings and calls at a state that the law knows -/
theorem lw_cl {Q : State → Prop} (E : lw_Env D aC b bS Ln xs p s m meth c) (hs0 : s.heap.size = b + 198 + g) (hfr : R.frames = 2048) (hlo : R.locals = 84000) (hLn : Ln ≤ 5) : lc_Cl 198 sl bS Ln xs (pm_V p l e R s m #[Value.ref bS] below meth c Q PT D aC b 1000 198 sl) := by
  have h1 := E.2.2.2.1
  exact lc_of E.1 hfr hlo hs0 E.2.2.1 (by omega) (by omega) (by omega)
theorem p1_fin (E : lw_Env D aC b bS Ln xs p s m meth c) (hret : meth.sig.returnType = ret) (hlk : meth.locks = false) (hs0 : s.heap.size = b + 198 + g) (hfr : R.frames = 2048) (hlo : R.locals = 84000) (hLn : Ln ≤ 5) : pm_V p l e R s m #[Value.ref bS] below meth c (lw_Zb b C S below s) PT D aC b 1000 198 sl (1560, L, [], h, 198, sl) := by
  refine lc_i (lw_cl E hs0 hfr hlo hLn) rfl rfl rfl rfl ?_
  intro H locs ls hP hS hl
  dsimp only
  rw [Nat.sub_self, Nat.sub_self]
  exact lw_retb E.1.1 E.1.2.1 hret hlk (pc := 1561) (PT_ok.1 1000 1561 _ _ rfl) hS.2.2 (Nat.zero_le _) (Nat.zero_le _)
theorem p1_tail (E : lw_Env D aC b bS Ln xs p s m meth c) (hret : meth.sig.returnType = ret) (hlk : meth.locks = false) (hs0 : s.heap.size = b + 198 + g) (hfr : R.frames = 2048) (hlo : R.locals = 84000) (hLn : Ln ≤ 5) (hL : lc_L bS 0 L) : pm_V p l e R s m #[Value.ref bS] below meth c (lw_Zb b C S below s) PT D aC b 1000 198 sl (1554, L, [], h, 198, sl) := by
  have H := lw_cl (l := l) (e := e) (below := below) (Q := lw_Zb b C S below s) (sl := sl) E hs0 hfr hlo hLn
  refine lc_tail H hL (fun L' hL' => ?_)
  exact lc_head H hL' (by omega) (by omega) (fun q => by omega) (fun _ => p1_fin E hret hlk hs0 hfr hlo hLn)
theorem twd_court : ∀ z ∈ ([Cond.methodLink "GiftsOfCourtsLaw" 53 (pm_y PT 1001), Cond.static (pm_y PT 1001), Cond.initialized "GiftsOfCourtsLaw", Cond.codeWith (pm_y PT 1001) (pm_code PT 1001) (pm_max PT 1001) (some .int) [(0, 10, 13, 13)]] : List Cond), z ∈ PG := by decide +kernel
theorem p1_court (htr : l.stackTraces = false) (E : lw_Env D aC b bS Ln xs p s m meth c) (hret : meth.sig.returnType = ret) (hlk : meth.locks = false) (hs0 : s.heap.size = b + 198 + g) (hfr : R.frames = 2048) (hlo : R.locals = 84000) (hRc : 1 ≤ R.cells) (hRs : 6 ≤ R.slots) (hC : 1 ≤ C) (hS : 6 ≤ S) (hLn : Ln ≤ 5) (h5 : 5 ≤ Ln) (hL : lc_L bS 0 L) (hH : ah_ok fz_B 198 [] h) : pm_V p l e R s m #[Value.ref bS] below meth c (lw_Zb b C S below s) PT D aC b 1000 198 sl (313, L, [], h, 198, sl) := by
  have H := lw_cl (l := l) (e := e) (below := below) (Q := lw_Zb b C S below s) (sl := sl) E hs0 hfr hlo hLn
  obtain ⟨f1, o1⟩ := fz_o1 hH
  refine lc_al_ok H (a := 1) (by decide +kernel) hL.2.1 rfl ?_
  refine lc_args_ok H hL.1 hL.2.2.2.2.1 2 1 _ _ (by decide +kernel) (by omega) ?_
  refine lc_al_ok H (a := 3) (by decide +kernel) hL.2.2.2.1 rfl ?_
  refine lw_wrap (pc := 327) (w := 1001) (jw := 53) (lo1 := 83976) (n := 4) (hh := [(0, 10, 13, 13)]) (As := [.ref 0, .int (xs (0 + 1)), .int (xs (0 + 2)), .ref 197]) (XQ := fun h1 => ah_ok fz_B 198 [] h1) E hs0 hfr hlo hRc hRs hC hS rfl rfl twd_court (by decide +kernel) rfl (Nat.le_of_ble_eq_true rfl) (tw_court (sl := sl) htr (xs (0 + 1)) (xs (0 + 2)) hH o1) (fun s' g' h1 E' hs' hXQ => ?_)
  obtain ⟨f2, o2⟩ := fz_o2 hXQ
  have hm := bt_ok (fun bx vs q1 q2 => fy_ok (sl := sl) (Or.inl rfl) q1 q2 hXQ) _ _ [.int (xs (0 + 1)), .int (xs (0 + 2))] th_court ⟨_, List.mem_singleton_self _, bx_T_ok [xs (0 + 1), xs (0 + 2)]⟩
  exact lc_aft_ok (lw_cl (R := { frames := R.frames, cells := R.cells - 1, slots := R.slots - 6, locals := R.locals }) (l := l) (e := e) (below := below) (Q := lw_Zb b (C - 1) (S - 6) below s') E' hs' hfr hlo hLn) (q := 330) (n := 2) (km := 207) (lng := false) (z := 378) (pe := 1554) (by decide +kernel) hL (by omega) (by decide) o2 hm (fun L' h' hL' => p1_tail (R := { frames := R.frames, cells := R.cells - 1, slots := R.slots - 6, locals := R.locals }) E' hret hlk hs' hfr hlo hLn hL')
theorem twd_between : ∀ z ∈ ([Cond.methodLink "GiftsOfCourtsLaw" 62 (pm_y PT 1002), Cond.static (pm_y PT 1002), Cond.initialized "GiftsOfCourtsLaw", Cond.codeWith (pm_y PT 1002) (pm_code PT 1002) (pm_max PT 1002) (some .int) [(0, 12, 15, 13)]] : List Cond), z ∈ PG := by decide +kernel
theorem p1_between (htr : l.stackTraces = false) (E : lw_Env D aC b bS Ln xs p s m meth c) (hret : meth.sig.returnType = ret) (hlk : meth.locks = false) (hs0 : s.heap.size = b + 198 + g) (hfr : R.frames = 2048) (hlo : R.locals = 84000) (hRc : 1 ≤ R.cells) (hRs : 6 ≤ R.slots) (hC : 1 ≤ C) (hS : 6 ≤ S) (hLn : Ln ≤ 5) (h5 : 5 ≤ Ln) (hL : lc_L bS 0 L) (hH : ah_ok fz_B 198 [] h) : pm_V p l e R s m #[Value.ref bS] below meth c (lw_Zb b C S below s) PT D aC b 1000 198 sl (381, L, [], h, 198, sl) := by
  have H := lw_cl (l := l) (e := e) (below := below) (Q := lw_Zb b C S below s) (sl := sl) E hs0 hfr hlo hLn
  obtain ⟨f1, o1⟩ := fz_o1 hH
  refine lc_al_ok H (a := 1) (by decide +kernel) hL.2.1 rfl ?_
  refine lc_args_ok H hL.1 hL.2.2.2.2.1 3 1 _ _ (by decide +kernel) (by omega) ?_
  refine lc_al_ok H (a := 3) (by decide +kernel) hL.2.2.2.1 rfl ?_
  refine lw_wrap (pc := 401) (w := 1002) (jw := 62) (lo1 := 83975) (n := 5) (hh := [(0, 12, 15, 13)]) (As := [.ref 0, .int (xs (0 + 1)), .int (xs (0 + 2)), .int (xs (0 + 3)), .ref 197]) (XQ := fun h1 => ah_ok fz_B 198 [] h1) E hs0 hfr hlo hRc hRs hC hS rfl rfl twd_between (by decide +kernel) rfl (Nat.le_of_ble_eq_true rfl) (tw_between (sl := sl) htr (xs (0 + 1)) (xs (0 + 2)) (xs (0 + 3)) hH o1) (fun s' g' h1 E' hs' hXQ => ?_)
  obtain ⟨f2, o2⟩ := fz_o2 hXQ
  have hm := bt_ok (fun bx vs q1 q2 => fy_ok (sl := sl) (Or.inl rfl) q1 q2 hXQ) _ _ [.int (xs (0 + 1)), .int (xs (0 + 2)), .int (xs (0 + 3))] th_between ⟨_, List.mem_singleton_self _, bx_T_ok [xs (0 + 1), xs (0 + 2), xs (0 + 3)]⟩
  exact lc_aft_ok (lw_cl (R := { frames := R.frames, cells := R.cells - 1, slots := R.slots - 6, locals := R.locals }) (l := l) (e := e) (below := below) (Q := lw_Zb b (C - 1) (S - 6) below s') E' hs' hfr hlo hLn) (q := 404) (n := 3) (km := 208) (lng := false) (z := 458) (pe := 1554) (by decide +kernel) hL (by omega) (by decide) o2 hm (fun L' h' hL' => p1_tail (R := { frames := R.frames, cells := R.cells - 1, slots := R.slots - 6, locals := R.locals }) E' hret hlk hs' hfr hlo hLn hL')
theorem twd_gift : ∀ z ∈ ([Cond.methodLink "GiftsOfCourtsLaw" 66 (pm_y PT 1003), Cond.static (pm_y PT 1003), Cond.initialized "GiftsOfCourtsLaw", Cond.codeWith (pm_y PT 1003) (pm_code PT 1003) (pm_max PT 1003) (some .int) [(0, 10, 13, 13)]] : List Cond), z ∈ PG := by decide +kernel
theorem p1_gift (htr : l.stackTraces = false) (E : lw_Env D aC b bS Ln xs p s m meth c) (hret : meth.sig.returnType = ret) (hlk : meth.locks = false) (hs0 : s.heap.size = b + 198 + g) (hfr : R.frames = 2048) (hlo : R.locals = 84000) (hRc : 1 ≤ R.cells) (hRs : 6 ≤ R.slots) (hC : 1 ≤ C) (hS : 6 ≤ S) (hLn : Ln ≤ 5) (h5 : 5 ≤ Ln) (hL : lc_L bS 0 L) (hH : ah_ok fz_B 198 [] h) : pm_V p l e R s m #[Value.ref bS] below meth c (lw_Zb b C S below s) PT D aC b 1000 198 sl (461, L, [], h, 198, sl) := by
  have H := lw_cl (l := l) (e := e) (below := below) (Q := lw_Zb b C S below s) (sl := sl) E hs0 hfr hlo hLn
  obtain ⟨f1, o1⟩ := fz_o1 hH
  refine lc_al_ok H (a := 1) (by decide +kernel) hL.2.1 rfl ?_
  refine lc_args_ok H hL.1 hL.2.2.2.2.1 2 1 _ _ (by decide +kernel) (by omega) ?_
  refine lc_al_ok H (a := 3) (by decide +kernel) hL.2.2.2.1 rfl ?_
  refine lw_wrap (pc := 475) (w := 1003) (jw := 66) (lo1 := 83976) (n := 4) (hh := [(0, 10, 13, 13)]) (As := [.ref 0, .int (xs (0 + 1)), .int (xs (0 + 2)), .ref 197]) (XQ := fun h1 => ah_ok fz_B 198 [] h1) E hs0 hfr hlo hRc hRs hC hS rfl rfl twd_gift (by decide +kernel) rfl (Nat.le_of_ble_eq_true rfl) (tw_gift (sl := sl) htr (xs (0 + 1)) (xs (0 + 2)) hH o1) (fun s' g' h1 E' hs' hXQ => ?_)
  obtain ⟨f2, o2⟩ := fz_o2 hXQ
  have hm := bt_ok (fun bx vs q1 q2 => fy_ok (sl := sl) (Or.inl rfl) q1 q2 hXQ) _ _ [.int (xs (0 + 1)), .int (xs (0 + 2))] th_gift ⟨_, List.mem_singleton_self _, bx_T_ok [xs (0 + 1), xs (0 + 2)]⟩
  exact lc_aft_ok (lw_cl (R := { frames := R.frames, cells := R.cells - 1, slots := R.slots - 6, locals := R.locals }) (l := l) (e := e) (below := below) (Q := lw_Zb b (C - 1) (S - 6) below s') E' hs' hfr hlo hLn) (q := 478) (n := 2) (km := 209) (lng := false) (z := 526) (pe := 1554) (by decide +kernel) hL (by omega) (by decide) o2 hm (fun L' h' hL' => p1_tail (R := { frames := R.frames, cells := R.cells - 1, slots := R.slots - 6, locals := R.locals }) E' hret hlk hs' hfr hlo hLn hL')
theorem twd_row : ∀ z ∈ ([Cond.methodLink "GiftsOfCourtsLaw" 206 (pm_y PT 1004), Cond.static (pm_y PT 1004), Cond.initialized "GiftsOfCourtsLaw", Cond.codeWith (pm_y PT 1004) (pm_code PT 1004) (pm_max PT 1004) (some .int) [(0, 8, 11, 13)]] : List Cond), z ∈ PG := by decide +kernel
theorem p1_row (htr : l.stackTraces = false) (E : lw_Env D aC b bS Ln xs p s m meth c) (hret : meth.sig.returnType = ret) (hlk : meth.locks = false) (hs0 : s.heap.size = b + 198 + g) (hfr : R.frames = 2048) (hlo : R.locals = 84000) (hRc : 1 ≤ R.cells) (hRs : 6 ≤ R.slots) (hC : 1 ≤ C) (hS : 6 ≤ S) (hLn : Ln ≤ 5) (h5 : 5 ≤ Ln) (hL : lc_L bS 0 L) (hH : ah_ok fz_B 198 [] h) : pm_V p l e R s m #[Value.ref bS] below meth c (lw_Zb b C S below s) PT D aC b 1000 198 sl (1499, L, [], h, 198, sl) := by
  have H := lw_cl (l := l) (e := e) (below := below) (Q := lw_Zb b C S below s) (sl := sl) E hs0 hfr hlo hLn
  obtain ⟨f1, o1⟩ := fz_o1 hH
  refine lc_al_ok H (a := 1) (by decide +kernel) hL.2.1 rfl ?_
  refine lc_args_ok H hL.1 hL.2.2.2.2.1 1 1 _ _ (by decide +kernel) (by omega) ?_
  refine lc_al_ok H (a := 3) (by decide +kernel) hL.2.2.2.1 rfl ?_
  refine lw_wrap (pc := 1507) (w := 1004) (jw := 206) (lo1 := 83977) (n := 3) (hh := [(0, 8, 11, 13)]) (As := [.ref 0, .int (xs (0 + 1)), .ref 197]) (XQ := fun h1 => ah_ok fz_B 198 [] h1) E hs0 hfr hlo hRc hRs hC hS rfl rfl twd_row (by decide +kernel) rfl (Nat.le_of_ble_eq_true rfl) (tw_row (sl := sl) htr (xs (0 + 1)) hH o1) (fun s' g' h1 E' hs' hXQ => ?_)
  obtain ⟨f2, o2⟩ := fz_o2 hXQ
  have hm := bt_ok (fun bx vs q1 q2 => fyL_ok (sl := sl) rfl q1 q2 hXQ) _ _ [.int (xs (0 + 1))] th_row ⟨_, List.mem_singleton_self _, bx_T_ok [xs (0 + 1)]⟩
  exact lc_aft_ok (lw_cl (R := { frames := R.frames, cells := R.cells - 1, slots := R.slots - 6, locals := R.locals }) (l := l) (e := e) (below := below) (Q := lw_Zb b (C - 1) (S - 6) below s') E' hs' hfr hlo hLn) (q := 1510) (n := 1) (km := 269) (lng := true) (z := 1551) (pe := 1554) (by decide +kernel) hL (by omega) (by decide) o2 hm (fun L' h' hL' => p1_tail (R := { frames := R.frames, cells := R.cells - 1, slots := R.slots - 6, locals := R.locals }) E' hret hlk hs' hfr hlo hLn hL')
set_option maxHeartbeats 1000000 in
theorem p1_loop (htr : l.stackTraces = false) (E : lw_Env D aC b bS Ln xs p s m meth c) (hret : meth.sig.returnType = ret) (hlk : meth.locks = false) (hs0 : s.heap.size = b + 198 + g) (hfr : R.frames = 2048) (hlo : R.locals = 84000) (hRc : 1 ≤ R.cells) (hRs : 6 ≤ R.slots) (hC : 1 ≤ C) (hS : 6 ≤ S) (hLn : Ln ≤ 5) (hL : lc_L bS 0 L) (hH : ah_ok fz_B 198 [] h) : pm_V p l e R s m #[Value.ref bS] below meth c (lw_Zb b C S below s) PT D aC b 1000 198 sl (23, L, [], h, 198, sl) := by
  have H := lw_cl (l := l) (e := e) (below := below) (Q := lw_Zb b C S below s) (sl := sl) E hs0 hfr hlo hLn
  obtain ⟨f1, o1⟩ := fz_o1 hH
  obtain ⟨f2, o2⟩ := fz_o2 hH
  refine lc_head H hL (by omega) (by omega) (fun h5 => ?_) (fun _ => p1_fin E hret hlk hs0 hfr hlo hLn)
  have tail : ∀ h' : pm_H, pm_V p l e R s m #[Value.ref bS] below meth c (lw_Zb b C S below s) PT D aC b 1000 198 sl (1554, L, [], h', 198, sl) := fun h' => p1_tail E hret hlk hs0 hfr hlo hLn hL
  have two : ∀ (o pc n kx km : Nat), o < 43 → lc_T[o]? = some pc → lc_two pc n kx km 1554 = true → 1 + n ≤ 5 → fz_same kx km sl h ((lc_vals xs 0 n 1).map Value.int) → pm_V p l e R s m #[Value.ref bS] below meth c (lw_Zb b C S below s) PT D aC b 1000 198 sl (39, L, [.int (nI o)], h, 198, sl) := fun o pc n kx km ho ht hc hn hs => lc_switch H ho ht (lc_two_ok H hc hL (by omega) (by decide) o1 o2 (fz_use hs tail))
  refine lc_enter H hL (by omega) (fun o ho => ?_)
  by_cases ho43 : 43 ≤ o
  · exact lc_default H ho43 (by omega) (tail h)
  match o, ho43 with
  | 0, _ => exact two 0 224 1 86 179 (by decide) rfl (by decide +kernel) (by decide) (fz_op op_sign hH _ (lc_vals_len xs 0 1 1))
  | 1, _ => exact two 1 249 1 87 180 (by decide) rfl (by decide +kernel) (by decide) (fz_op op_end hH _ (lc_vals_len xs 0 1 1))
  | 2, _ => exact two 2 274 0 88 189 (by decide) rfl (by decide +kernel) (by decide) (fz_op op_courts hH _ (lc_vals_len xs 0 0 1))
  | 3, _ => exact two 3 287 0 89 193 (by decide) rfl (by decide +kernel) (by decide) (fz_op op_gifts hH _ (lc_vals_len xs 0 0 1))
  | 4, _ => exact two 4 300 0 90 199 (by decide) rfl (by decide +kernel) (by decide) (fz_op op_rule hH _ (lc_vals_len xs 0 0 1))
  | 5, _ => exact lc_switch H (by decide) (t := 313) rfl (p1_court htr E hret hlk hs0 hfr hlo hRc hRs hC hS hLn (by omega) hL hH)
  | 6, _ => exact lc_switch H (by decide) (t := 381) rfl (p1_between htr E hret hlk hs0 hfr hlo hRc hRs hC hS hLn (by omega) hL hH)
  | 7, _ => exact lc_switch H (by decide) (t := 461) rfl (p1_gift htr E hret hlk hs0 hfr hlo hRc hRs hC hS hLn (by omega) hL hH)
  | 8, _ => exact two 8 529 3 94 210 (by decide) rfl (by decide +kernel) (by decide) (fz_op op_road hH _ (lc_vals_len xs 0 3 1))
  | 9, _ => exact two 9 578 4 95 211 (by decide) rfl (by decide +kernel) (by decide) (fz_op op_sheet hH _ (lc_vals_len xs 0 4 1))
  | 10, _ => exact two 10 639 2 96 223 (by decide) rfl (by decide +kernel) (by decide) (fz_op op_send hH _ (lc_vals_len xs 0 2 1))
  | 11, _ => exact two 11 676 1 97 224 (by decide) rfl (by decide +kernel) (by decide) (fz_op op_months hH _ (lc_vals_len xs 0 1 1))
  | 12, _ => exact two 12 701 3 98 225 (by decide) rfl (by decide +kernel) (by decide) (fz_op op_envoy hH _ (lc_vals_len xs 0 3 1))
  | 13, _ => exact two 13 750 2 99 226 (by decide) rfl (by decide +kernel) (by decide) (fz_op op_forgive hH _ (lc_vals_len xs 0 2 1))
  | 14, _ => exact two 14 787 0 100 229 (by decide) rfl (by decide +kernel) (by decide) (fz_op op_year hH _ (lc_vals_len xs 0 0 1))
  | 15, _ => exact two 15 800 0 101 215 (by decide) rfl (by decide +kernel) (by decide) (fz_op op_undo hH _ (lc_vals_len xs 0 0 1))
  | 16, _ => exact two 16 813 2 102 231 (by decide) rfl (by decide +kernel) (by decide) (fz_op op_value hH _ (lc_vals_len xs 0 2 1))
  | 17, _ => exact two 17 850 1 103 232 (by decide) rfl (by decide +kernel) (by decide) (fz_op op_where hH _ (lc_vals_len xs 0 1 1))
  | 18, _ => exact two 18 875 2 104 233 (by decide) rfl (by decide +kernel) (by decide) (fz_op op_answer hH _ (lc_vals_len xs 0 2 1))
  | 19, _ => exact two 19 912 2 105 235 (by decide) rfl (by decide +kernel) (by decide) (fz_op op_wins hH _ (lc_vals_len xs 0 2 1))
  | 20, _ => exact two 20 949 1 106 236 (by decide) rfl (by decide +kernel) (by decide) (fz_op op_unseen hH _ (lc_vals_len xs 0 1 1))
  | 21, _ => exact two 21 974 0 107 237 (by decide) rfl (by decide +kernel) (by decide) (fz_op op_swaps hH _ (lc_vals_len xs 0 0 1))
  | 22, _ => exact two 22 987 2 108 239 (by decide) rfl (by decide +kernel) (by decide) (fz_op op_way hH _ (lc_vals_len xs 0 2 1))
  | 23, _ => exact two 23 1024 4 109 240 (by decide) rfl (by decide +kernel) (by decide) (fz_op op_walks hH _ (lc_vals_len xs 0 4 1))
  | 24, _ => exact two 24 1085 3 110 241 (by decide) rfl (by decide +kernel) (by decide) (fz_op op_alive hH _ (lc_vals_len xs 0 3 1))
  | 25, _ => exact two 25 1134 1 111 243 (by decide) rfl (by decide +kernel) (by decide) (fz_op op_feeds hH _ (lc_vals_len xs 0 1 1))
  | 26, _ => exact two 26 1159 2 112 244 (by decide) rfl (by decide +kernel) (by decide) (fz_op op_starves hH _ (lc_vals_len xs 0 2 1))
  | 27, _ => exact two 27 1196 1 113 245 (by decide) rfl (by decide +kernel) (by decide) (fz_op op_net hH _ (lc_vals_len xs 0 1 1))
  | 28, _ => exact two 28 1221 0 114 246 (by decide) rfl (by decide +kernel) (by decide) (fz_op op_settle hH _ (lc_vals_len xs 0 0 1))
  | 29, _ => exact two 29 1234 0 115 248 (by decide) rfl (by decide +kernel) (by decide) (fz_op op_ring hH _ (lc_vals_len xs 0 0 1))
  | 30, _ => exact two 30 1247 0 116 250 (by decide) rfl (by decide +kernel) (by decide) (fz_op op_ranks hH _ (lc_vals_len xs 0 0 1))
  | 31, _ => exact two 31 1260 0 117 251 (by decide) rfl (by decide +kernel) (by decide) (fz_op op_league hH _ (lc_vals_len xs 0 0 1))
  | 32, _ => exact two 32 1273 2 118 252 (by decide) rfl (by decide +kernel) (by decide) (fz_op op_heard hH _ (lc_vals_len xs 0 2 1))
  | 33, _ => exact two 33 1310 0 119 253 (by decide) rfl (by decide +kernel) (by decide) (fz_op op_forget hH _ (lc_vals_len xs 0 0 1))
  | 34, _ => exact two 34 1323 0 120 256 (by decide) rfl (by decide +kernel) (by decide) (fz_op op_fits hH _ (lc_vals_len xs 0 0 1))
  | 35, _ => exact two 35 1336 0 121 257 (by decide) rfl (by decide +kernel) (by decide) (fz_op op_ask hH _ (lc_vals_len xs 0 0 1))
  | 36, _ => exact two 36 1349 0 122 259 (by decide) rfl (by decide +kernel) (by decide) (fz_op op_law hH _ (lc_vals_len xs 0 0 1))
  | 37, _ => exact two 37 1362 1 123 262 (by decide) rfl (by decide +kernel) (by decide) (op_rests hH (xs (0 + 1)))
  | 38, _ => exact two 38 1387 2 124 264 (by decide) rfl (by decide +kernel) (by decide) (fz_op op_years hH _ (lc_vals_len xs 0 2 1))
  | 39, _ => exact two 39 1424 1 125 265 (by decide) rfl (by decide +kernel) (by decide) (fz_op op_keep hH _ (lc_vals_len xs 0 1 1))
  | 40, _ => exact two 40 1449 1 126 266 (by decide) rfl (by decide +kernel) (by decide) (fz_op op_again hH _ (lc_vals_len xs 0 1 1))
  | 41, _ => exact two 41 1474 1 127 268 (by decide) rfl (by decide +kernel) (by decide) (fz_op op_count hH _ (lc_vals_len xs 0 1 1))
  | 42, _ => exact lc_switch H (by decide) (t := 1499) rfl (p1_row htr E hret hlk hs0 hfr hlo hRc hRs hC hS hLn (by omega) hL hH)
  | o + 43, hq => exact absurd (by omega) hq
end P1R
