/-! turns with a wrapper: the walk goes on at a later state -/
section WTN
variable {p : Program} {l : Launch} {e : Env} {R : Room} {s : State} {m : MethodId} {below : List Frame} {meth : Method} {c : Code} {D : va_G} {aC : Nat → ClassId} {b g sl bS Ln i C S : Nat} {xs : Nat → Int32} {L : pm_L} {h : pm_H}
theorem lw_cl {Q : State → Prop} (E : lw_Env D aC b bS Ln xs p s m meth c) (hs0 : s.heap.size = b + 198 + g) (hfr : R.frames = 2048) (hlo : R.locals = 84000) (hLn : Ln < 2 ^ 30) : lc_Cl 198 sl bS Ln xs (pm_V p l e R s m #[Value.ref (aC (1000 + bS))] below meth c Q PT D aC b 1000 198 sl) := by
  have h1 := E.2.2.2.1
  exact lc_of E.1 hfr hlo hs0 E.2.2.1 (Nat.lt_of_lt_of_le h1 (by omega)) (Nat.not_le_of_lt h1) (by omega)
theorem twd_court : ∀ z ∈ ([Cond.methodLink "GiftsOfCourtsLaw" 53 (pm_y PT 1001), Cond.static (pm_y PT 1001), Cond.initialized "GiftsOfCourtsLaw", Cond.codeWith (pm_y PT 1001) (pm_code PT 1001) (pm_max PT 1001) (some .int) [(0, 10, 13, 13)]] : List Cond), z ∈ PG := by decide +kernel
theorem wt_court (htr : l.stackTraces = false) (E : lw_Env D aC b bS Ln xs p s m meth c) (hs0 : s.heap.size = b + 198 + g) (hfr : R.frames = 2048) (hlo : R.locals = 84000) (hRc : 1 ≤ R.cells) (hRs : 6 ≤ R.slots) (hC : 1 ≤ C) (hS : 6 ≤ S) (hLn : Ln < 2 ^ 30) (h5 : i + 5 ≤ Ln) (hL : lc_L bS i L) (hI : LI8 h)
    (kk : ∀ (s' : State) (g' : Nat) (h2 : pm_H) (L' : pm_L), lw_Env D aC b bS Ln xs p s' m meth c → s'.heap.size = b + 198 + g' → LI8 h2 → lc_L bS i L' → pm_V p l e { frames := R.frames, locals := R.locals, cells := R.cells - 1, slots := R.slots - 6 } s' m #[Value.ref (aC (1000 + bS))] below meth c (lw_Zb b (C - 1) (S - 6) below s') PT D aC b 1000 198 sl (1443, L', [], h2, 198, sl)) : pm_V p l e R s m #[Value.ref (aC (1000 + bS))] below meth c (lw_Zb b C S below s) PT D aC b 1000 198 sl (313, L, [], h, 198, sl) := by
  have H := lw_cl (l := l) (e := e) (below := below) (Q := lw_Zb b C S below s) (sl := sl) E hs0 hfr hlo hLn
  obtain ⟨f1, o1⟩ := ty_0 hI.1.1
  refine lc_al_ok H (a := 1) (by decide +kernel) hL.2.1 rfl ?_
  refine lc_args_ok H hL.1 hL.2.2.2.2.1 2 1 _ _ (by decide +kernel) (by omega) ?_
  refine lc_al_ok H (a := 3) (by decide +kernel) hL.2.2.2.1 rfl ?_
  refine lw_wrap (pc := 327) (w := 1001) (jw := 53) (lo1 := 83976) (n := 4) (hh := [(0, 10, 13, 13)]) (As := [.ref 0, .int (xs (i + 1)), .int (xs (i + 2)), .ref 197]) E rfl hs0 hfr hlo hRc hRs hC hS rfl rfl twd_court (by decide +kernel) rfl (Nat.le_of_ble_eq_true rfl) (tw_court (sl := sl) htr (xs (i + 1)) (xs (i + 2)) hI.1.1 o1) (fun s' g' h1 E' hs' hX v => ?_)
  have hI1 := twX_LI8 hI hX
  obtain ⟨f2, o2⟩ := ty_162 hI1.1.1
  refine lc_aft_ok (lw_cl (R := { frames := R.frames, cells := R.cells - 1, slots := R.slots - 6, locals := R.locals }) (l := l) (e := e) (below := below) (Q := lw_Zb b (C - 1) (S - 6) below s') E' hs' hfr hlo hLn) (q := 330) (n := 2) (km := 206) (lng := false) (pe := 1443) (by decide +kernel) hL (by omega) (by decide) o2 (wp_mono (wp_runs (Z := fun r => (∀ i, i < 162 → r.2.1 i = h1 i) → mInv r.2.1 → REL8 h1 → REL8 r.2.1) (hm_court hI1.1 _ _ (Nat.le_of_ble_eq_true rfl) (Nat.le_of_ble_eq_true rfl)) (fun m r hh => rel8_w rfl rfl rfl rfl rfl rfl rfl rfl rfl rfl rfl rfl rfl hI1.1 [xs (i + 1), xs (i + 2)] hh)) (fun x q => ?_))
  obtain ⟨rv, h2, s2⟩ := x
  obtain ⟨⟨p1, p2, p3, p4⟩, p5⟩ := q
  dsimp only at p2 p3 p4 p5
  cases p2
  exact ⟨p1, rfl, fun L' hL' => kk s' g' h2 L' E' hs' ⟨p4, p5 p3 p4 hI1.2⟩ hL'⟩
theorem twd_between : ∀ z ∈ ([Cond.methodLink "GiftsOfCourtsLaw" 59 (pm_y PT 1002), Cond.static (pm_y PT 1002), Cond.initialized "GiftsOfCourtsLaw", Cond.codeWith (pm_y PT 1002) (pm_code PT 1002) (pm_max PT 1002) (some .int) [(0, 12, 15, 13)]] : List Cond), z ∈ PG := by decide +kernel
theorem wt_between (htr : l.stackTraces = false) (E : lw_Env D aC b bS Ln xs p s m meth c) (hs0 : s.heap.size = b + 198 + g) (hfr : R.frames = 2048) (hlo : R.locals = 84000) (hRc : 1 ≤ R.cells) (hRs : 6 ≤ R.slots) (hC : 1 ≤ C) (hS : 6 ≤ S) (hLn : Ln < 2 ^ 30) (h5 : i + 5 ≤ Ln) (hL : lc_L bS i L) (hI : LI8 h)
    (kk : ∀ (s' : State) (g' : Nat) (h2 : pm_H) (L' : pm_L), lw_Env D aC b bS Ln xs p s' m meth c → s'.heap.size = b + 198 + g' → LI8 h2 → lc_L bS i L' → pm_V p l e { frames := R.frames, locals := R.locals, cells := R.cells - 1, slots := R.slots - 6 } s' m #[Value.ref (aC (1000 + bS))] below meth c (lw_Zb b (C - 1) (S - 6) below s') PT D aC b 1000 198 sl (1443, L', [], h2, 198, sl)) : pm_V p l e R s m #[Value.ref (aC (1000 + bS))] below meth c (lw_Zb b C S below s) PT D aC b 1000 198 sl (353, L, [], h, 198, sl) := by
  have H := lw_cl (l := l) (e := e) (below := below) (Q := lw_Zb b C S below s) (sl := sl) E hs0 hfr hlo hLn
  obtain ⟨f1, o1⟩ := ty_0 hI.1.1
  refine lc_al_ok H (a := 1) (by decide +kernel) hL.2.1 rfl ?_
  refine lc_args_ok H hL.1 hL.2.2.2.2.1 3 1 _ _ (by decide +kernel) (by omega) ?_
  refine lc_al_ok H (a := 3) (by decide +kernel) hL.2.2.2.1 rfl ?_
  refine lw_wrap (pc := 373) (w := 1002) (jw := 59) (lo1 := 83975) (n := 5) (hh := [(0, 12, 15, 13)]) (As := [.ref 0, .int (xs (i + 1)), .int (xs (i + 2)), .int (xs (i + 3)), .ref 197]) E rfl hs0 hfr hlo hRc hRs hC hS rfl rfl twd_between (by decide +kernel) rfl (Nat.le_of_ble_eq_true rfl) (tw_between (sl := sl) htr (xs (i + 1)) (xs (i + 2)) (xs (i + 3)) hI.1.1 o1) (fun s' g' h1 E' hs' hX v => ?_)
  have hI1 := twX_LI8 hI hX
  obtain ⟨f2, o2⟩ := ty_162 hI1.1.1
  refine lc_aft_ok (lw_cl (R := { frames := R.frames, cells := R.cells - 1, slots := R.slots - 6, locals := R.locals }) (l := l) (e := e) (below := below) (Q := lw_Zb b (C - 1) (S - 6) below s') E' hs' hfr hlo hLn) (q := 376) (n := 3) (km := 207) (lng := false) (pe := 1443) (by decide +kernel) hL (by omega) (by decide) o2 (wp_mono (wp_runs (Z := fun r => (∀ i, i < 162 → r.2.1 i = h1 i) → mInv r.2.1 → REL8 h1 → REL8 r.2.1) (hm_between hI1.1 _ _ _ (Nat.le_of_ble_eq_true rfl) (Nat.le_of_ble_eq_true rfl)) (fun m r hh => rel8_w rfl rfl rfl rfl rfl rfl rfl rfl rfl rfl rfl rfl rfl hI1.1 [xs (i + 1), xs (i + 2), xs (i + 3)] hh)) (fun x q => ?_))
  obtain ⟨rv, h2, s2⟩ := x
  obtain ⟨⟨p1, p2, p3, p4⟩, p5⟩ := q
  dsimp only at p2 p3 p4 p5
  cases p2
  exact ⟨p1, rfl, fun L' hL' => kk s' g' h2 L' E' hs' ⟨p4, p5 p3 p4 hI1.2⟩ hL'⟩
theorem twd_gift : ∀ z ∈ ([Cond.methodLink "GiftsOfCourtsLaw" 63 (pm_y PT 1003), Cond.static (pm_y PT 1003), Cond.initialized "GiftsOfCourtsLaw", Cond.codeWith (pm_y PT 1003) (pm_code PT 1003) (pm_max PT 1003) (some .int) [(0, 10, 13, 13)]] : List Cond), z ∈ PG := by decide +kernel
theorem wt_gift (htr : l.stackTraces = false) (E : lw_Env D aC b bS Ln xs p s m meth c) (hs0 : s.heap.size = b + 198 + g) (hfr : R.frames = 2048) (hlo : R.locals = 84000) (hRc : 1 ≤ R.cells) (hRs : 6 ≤ R.slots) (hC : 1 ≤ C) (hS : 6 ≤ S) (hLn : Ln < 2 ^ 30) (h5 : i + 5 ≤ Ln) (hL : lc_L bS i L) (hI : LI8 h)
    (kk : ∀ (s' : State) (g' : Nat) (h2 : pm_H) (L' : pm_L), lw_Env D aC b bS Ln xs p s' m meth c → s'.heap.size = b + 198 + g' → LI8 h2 → lc_L bS i L' → pm_V p l e { frames := R.frames, locals := R.locals, cells := R.cells - 1, slots := R.slots - 6 } s' m #[Value.ref (aC (1000 + bS))] below meth c (lw_Zb b (C - 1) (S - 6) below s') PT D aC b 1000 198 sl (1443, L', [], h2, 198, sl)) : pm_V p l e R s m #[Value.ref (aC (1000 + bS))] below meth c (lw_Zb b C S below s) PT D aC b 1000 198 sl (405, L, [], h, 198, sl) := by
  have H := lw_cl (l := l) (e := e) (below := below) (Q := lw_Zb b C S below s) (sl := sl) E hs0 hfr hlo hLn
  obtain ⟨f1, o1⟩ := ty_0 hI.1.1
  refine lc_al_ok H (a := 1) (by decide +kernel) hL.2.1 rfl ?_
  refine lc_args_ok H hL.1 hL.2.2.2.2.1 2 1 _ _ (by decide +kernel) (by omega) ?_
  refine lc_al_ok H (a := 3) (by decide +kernel) hL.2.2.2.1 rfl ?_
  refine lw_wrap (pc := 419) (w := 1003) (jw := 63) (lo1 := 83976) (n := 4) (hh := [(0, 10, 13, 13)]) (As := [.ref 0, .int (xs (i + 1)), .int (xs (i + 2)), .ref 197]) E rfl hs0 hfr hlo hRc hRs hC hS rfl rfl twd_gift (by decide +kernel) rfl (Nat.le_of_ble_eq_true rfl) (tw_gift (sl := sl) htr (xs (i + 1)) (xs (i + 2)) hI.1.1 o1) (fun s' g' h1 E' hs' hX v => ?_)
  have hI1 := twX_LI8 hI hX
  obtain ⟨f2, o2⟩ := ty_162 hI1.1.1
  refine lc_aft_ok (lw_cl (R := { frames := R.frames, cells := R.cells - 1, slots := R.slots - 6, locals := R.locals }) (l := l) (e := e) (below := below) (Q := lw_Zb b (C - 1) (S - 6) below s') E' hs' hfr hlo hLn) (q := 422) (n := 2) (km := 208) (lng := false) (pe := 1443) (by decide +kernel) hL (by omega) (by decide) o2 (wp_mono (wp_runs (Z := fun r => (∀ i, i < 162 → r.2.1 i = h1 i) → mInv r.2.1 → REL8 h1 → REL8 r.2.1) (hm_gift hI1.1 _ _ (Nat.le_of_ble_eq_true rfl) (Nat.le_of_ble_eq_true rfl)) (fun m r hh => rel8_w rfl rfl rfl rfl rfl rfl rfl rfl rfl rfl rfl rfl rfl hI1.1 [xs (i + 1), xs (i + 2)] hh)) (fun x q => ?_))
  obtain ⟨rv, h2, s2⟩ := x
  obtain ⟨⟨p1, p2, p3, p4⟩, p5⟩ := q
  dsimp only at p2 p3 p4 p5
  cases p2
  exact ⟨p1, rfl, fun L' hL' => kk s' g' h2 L' E' hs' ⟨p4, p5 p3 p4 hI1.2⟩ hL'⟩
theorem twd_row : ∀ z ∈ ([Cond.methodLink "GiftsOfCourtsLaw" 203 (pm_y PT 1004), Cond.static (pm_y PT 1004), Cond.initialized "GiftsOfCourtsLaw", Cond.codeWith (pm_y PT 1004) (pm_code PT 1004) (pm_max PT 1004) (some .int) [(0, 8, 11, 13)]] : List Cond), z ∈ PG := by decide +kernel
theorem wt_row (htr : l.stackTraces = false) (E : lw_Env D aC b bS Ln xs p s m meth c) (hs0 : s.heap.size = b + 198 + g) (hfr : R.frames = 2048) (hlo : R.locals = 84000) (hRc : 1 ≤ R.cells) (hRs : 6 ≤ R.slots) (hC : 1 ≤ C) (hS : 6 ≤ S) (hLn : Ln < 2 ^ 30) (h5 : i + 5 ≤ Ln) (hL : lc_L bS i L) (hI : LI8 h)
    (kk : ∀ (s' : State) (g' : Nat) (h2 : pm_H) (L' : pm_L), lw_Env D aC b bS Ln xs p s' m meth c → s'.heap.size = b + 198 + g' → LI8 h2 → lc_L bS i L' → pm_V p l e { frames := R.frames, locals := R.locals, cells := R.cells - 1, slots := R.slots - 6 } s' m #[Value.ref (aC (1000 + bS))] below meth c (lw_Zb b (C - 1) (S - 6) below s') PT D aC b 1000 198 sl (1443, L', [], h2, 198, sl)) : pm_V p l e R s m #[Value.ref (aC (1000 + bS))] below meth c (lw_Zb b C S below s) PT D aC b 1000 198 sl (1415, L, [], h, 198, sl) := by
  have H := lw_cl (l := l) (e := e) (below := below) (Q := lw_Zb b C S below s) (sl := sl) E hs0 hfr hlo hLn
  obtain ⟨f1, o1⟩ := ty_0 hI.1.1
  refine lc_al_ok H (a := 1) (by decide +kernel) hL.2.1 rfl ?_
  refine lc_args_ok H hL.1 hL.2.2.2.2.1 1 1 _ _ (by decide +kernel) (by omega) ?_
  refine lc_al_ok H (a := 3) (by decide +kernel) hL.2.2.2.1 rfl ?_
  refine lw_wrap (pc := 1423) (w := 1004) (jw := 203) (lo1 := 83977) (n := 3) (hh := [(0, 8, 11, 13)]) (As := [.ref 0, .int (xs (i + 1)), .ref 197]) E rfl hs0 hfr hlo hRc hRs hC hS rfl rfl twd_row (by decide +kernel) rfl (Nat.le_of_ble_eq_true rfl) (tw_row (sl := sl) htr (xs (i + 1)) hI.1.1 o1) (fun s' g' h1 E' hs' hX v => ?_)
  have hI1 := twX_LI8 hI hX
  obtain ⟨f2, o2⟩ := ty_162 hI1.1.1
  refine lc_aft_ok (lw_cl (R := { frames := R.frames, cells := R.cells - 1, slots := R.slots - 6, locals := R.locals }) (l := l) (e := e) (below := below) (Q := lw_Zb b (C - 1) (S - 6) below s') E' hs' hfr hlo hLn) (q := 1426) (n := 1) (km := 268) (lng := true) (pe := 1443) (by decide +kernel) hL (by omega) (by decide) o2 (wp_mono (wp_runs (Z := fun r => (∀ i, i < 162 → r.2.1 i = h1 i) → mInv r.2.1 → REL8 h1 → REL8 r.2.1) (hm_row hI1.1 _ (Nat.le_of_ble_eq_true rfl) (Nat.le_of_ble_eq_true rfl)) (fun m r hh => rel8_w rfl rfl rfl rfl rfl rfl rfl rfl rfl rfl rfl rfl rfl hI1.1 [xs (i + 1)] hh)) (fun x q => ?_))
  obtain ⟨rv, h2, s2⟩ := x
  obtain ⟨⟨p1, p2, p3, p4⟩, p5⟩ := q
  dsimp only at p2 p3 p4 p5
  cases p2
  exact ⟨p1, rfl, fun L' hL' => kk s' g' h2 L' E' hs' ⟨p4, p5 p3 p4 hI1.2⟩ hL'⟩
end WTN
