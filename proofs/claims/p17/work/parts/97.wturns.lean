section MH97wturnsx0
/-! turns with a wrapper: the walk goes on at a later state -/
section WTN
variable {p : Program} {l : Launch} {e : Env} {R : Room} {s : State} {m : MethodId} {below : List Frame} {meth : Method} {c : Code} {D : va_G} {aC : Nat → ClassId} {b g sl bS Ln i C S : Nat} {xs : Nat → Int32} {L : pm_L} {h : pm_H}
theorem lw_cl {Q : State → Prop} (E : lw_Env D aC b bS Ln xs p s m meth c) (hs0 : s.heap.size = b + 198 + g) (hfr : R.frames = 2048) (hlo : R.locals = 84000) (hLn : Ln < 2 ^ 30) : lc_Cl 198 sl bS Ln xs (pm_V p l e R s m #[Value.ref (aC (1000 + bS))] below meth c Q PT D aC b 1000 198 sl) := by
  have h1 := E.2.2.2.1
  exact lc_of E.1 hfr hlo hs0 E.2.2.1 (Nat.lt_of_lt_of_le h1 (by omega)) (Nat.not_le_of_lt h1) (by omega)
theorem twd_court : ∀ z ∈ ([Cond.methodLink "GiftsOfCourtsLaw" 53 (pm_y PT 1001), Cond.static (pm_y PT 1001), Cond.initialized "GiftsOfCourtsLaw", Cond.codeWith (pm_y PT 1001) (pm_code PT 1001) (pm_max PT 1001) (some .int) [(0, 10, 13, 13)]] : List Cond), z ∈ PG := by decide +kernel
theorem wt_court (htr : l.stackTraces = false) (E : lw_Env D aC b bS Ln xs p s m meth c) (hs0 : s.heap.size = b + 198 + g) (hfr : R.frames = 2048) (hlo : R.locals = 84000) (hRc : 1 ≤ R.cells) (hRs : 6 ≤ R.slots) (hC : 1 ≤ C) (hS : 6 ≤ S) (hLn : Ln < 2 ^ 30) (h5 : i + 5 ≤ Ln) (hL : lc_L bS i L) (hI : LI8 h)
    (kk : ∀ (s' : State) (g' : Nat) (h2 : pm_H) (L' : pm_L), lw_Env D aC b bS Ln xs p s' m meth c → s'.heap.size = b + 198 + g' → LI8 h2 → lc_L bS i L' → pm_V p l e { frames := R.frames, locals := R.locals, cells := R.cells - 1, slots := R.slots - 6 } s' m #[Value.ref (aC (1000 + bS))] below meth c (lw_Zb b (C - 1) (S - 6) below s') PT D aC b 1000 198 sl (1443, L', [], h2, 198, sl)) : pm_V p l e R s m #[Value.ref (aC (1000 + bS))] below meth c (lw_Zb b C S below s) PT D aC b 1000 198 sl (313, L, [], h, 198, sl) := by
  have H := lw_cl (l := l) (e := e) (below := below) (Q := lw_Zb b C S below s) (sl := sl) E hs0 hfr hlo hLn
  obtain ⟨f1, o1⟩ := ty_0 hI.1.1
  refine lc_al_ok H (a := 1) (by decide +kernel) hL.2.1 rfl ?_
  refine lc_args_ok H hL.1 hL.2.2.2.2.1 2 1 _ _ (by decide +kernel) (by omega) ?_
  refine lc_al_ok H (a := 3) (by decide +kernel) hL.2.2.2.1 rfl ?_
  refine lw_wrap (pc := 327) (w := 1001) (jw := 53) (lo1 := 83976) (n := 4) (hh := [(0, 10, 13, 13)]) (As := [.ref 0, .int (xs (i + 1)), .int (xs (i + 2)), .ref 197]) E rfl hs0 hfr hlo hRc hRs hC hS rfl rfl twd_court (by decide +kernel) rfl (Nat.le_of_ble_eq_true rfl) (tw_court (sl := sl) htr (xs (i + 1)) (xs (i + 2)) hI.1.1 o1) (fun s' g' h1 E' hs' hX v => ?_)
  have hI1 := twX_LI8 hI hX
  obtain ⟨f2, o2⟩ := ty_162 hI1.1.1
  refine lc_aft_ok (lw_cl (R := { frames := R.frames, cells := R.cells - 1, slots := R.slots - 6, locals := R.locals }) (l := l) (e := e) (below := below) (Q := lw_Zb b (C - 1) (S - 6) below s') E' hs' hfr hlo hLn) (q := 330) (n := 2) (km := 206) (lng := false) (pe := 1443) (by decide +kernel) hL (by omega) (by decide) o2 (wp_mono (wp_runs (Z := fun r => (∀ i, i < 162 → r.2.1 i = h1 i) → mInv r.2.1 → REL8 h1 → REL8 r.2.1) (hm_court hI1.1 _ _ (Nat.le_of_ble_eq_true rfl) (Nat.le_of_ble_eq_true rfl)) (fun m r hh => rel8_w rfl rfl rfl rfl rfl rfl rfl rfl rfl rfl rfl rfl rfl hI1.1 [xs (i + 1), xs (i + 2)] hh)) (fun x q => ?_))
  obtain ⟨rv, h2, s2⟩ := x
  obtain ⟨⟨p1, p2, p3, p4⟩, p5⟩ := q
  dsimp only at p2 p3 p4 p5
  cases p2
  exact ⟨p1, rfl, fun L' hL' => kk s' g' h2 L' E' hs' ⟨p4, p5 p3 p4 hI1.2⟩ hL'⟩
theorem twd_between : ∀ z ∈ ([Cond.methodLink "GiftsOfCourtsLaw" 59 (pm_y PT 1002), Cond.static (pm_y PT 1002), Cond.initialized "GiftsOfCourtsLaw", Cond.codeWith (pm_y PT 1002) (pm_code PT 1002) (pm_max PT 1002) (some .int) [(0, 12, 15, 13)]] : List Cond), z ∈ PG := by decide +kernel
theorem wt_between (htr : l.stackTraces = false) (E : lw_Env D aC b bS Ln xs p s m meth c) (hs0 : s.heap.size = b + 198 + g) (hfr : R.frames = 2048) (hlo : R.locals = 84000) (hRc : 1 ≤ R.cells) (hRs : 6 ≤ R.slots) (hC : 1 ≤ C) (hS : 6 ≤ S) (hLn : Ln < 2 ^ 30) (h5 : i + 5 ≤ Ln) (hL : lc_L bS i L) (hI : LI8 h)
    (kk : ∀ (s' : State) (g' : Nat) (h2 : pm_H) (L' : pm_L), lw_Env D aC b bS Ln xs p s' m meth c → s'.heap.size = b + 198 + g' → LI8 h2 → lc_L bS i L' → pm_V p l e { frames := R.frames, locals := R.locals, cells := R.cells - 1, slots := R.slots - 6 } s' m #[Value.ref (aC (1000 + bS))] below meth c (lw_Zb b (C - 1) (S - 6) below s') PT D aC b 1000 198 sl (1443, L', [], h2, 198, sl)) : pm_V p l e R s m #[Value.ref (aC (1000 + bS))] below meth c (lw_Zb b C S below s) PT D aC b 1000 198 sl (353, L, [], h, 198, sl) := by
  have H := lw_cl (l := l) (e := e) (below := below) (Q := lw_Zb b C S below s) (sl := sl) E hs0 hfr hlo hLn
  obtain ⟨f1, o1⟩ := ty_0 hI.1.1
  refine lc_al_ok H (a := 1) (by decide +kernel) hL.2.1 rfl ?_
  refine lc_args_ok H hL.1 hL.2.2.2.2.1 3 1 _ _ (by decide +kernel) (by omega) ?_
  refine lc_al_ok H (a := 3) (by decide +kernel) hL.2.2.2.1 rfl ?_
  refine lw_wrap (pc := 373) (w := 1002) (jw := 59) (lo1 := 83975) (n := 5) (hh := [(0, 12, 15, 13)]) (As := [.ref 0, .int (xs (i + 1)), .int (xs (i + 2)), .int (xs (i + 3)), .ref 197]) E rfl hs0 hfr hlo hRc hRs hC hS rfl rfl twd_between (by decide +kernel) rfl (Nat.le_of_ble_eq_true rfl) (tw_between (sl := sl) htr (xs (i + 1)) (xs (i + 2)) (xs (i + 3)) hI.1.1 o1) (fun s' g' h1 E' hs' hX v => ?_)
  have hI1 := twX_LI8 hI hX
  obtain ⟨f2, o2⟩ := ty_162 hI1.1.1
  refine lc_aft_ok (lw_cl (R := { frames := R.frames, cells := R.cells - 1, slots := R.slots - 6, locals := R.locals }) (l := l) (e := e) (below := below) (Q := lw_Zb b (C - 1) (S - 6) below s') E' hs' hfr hlo hLn) (q := 376) (n := 3) (km := 207) (lng := false) (pe := 1443) (by decide +kernel) hL (by omega) (by decide) o2 (wp_mono (wp_runs (Z := fun r => (∀ i, i < 162 → r.2.1 i = h1 i) → mInv r.2.1 → REL8 h1 → REL8 r.2.1) (hm_between hI1.1 _ _ _ (Nat.le_of_ble_eq_true rfl) (Nat.le_of_ble_eq_true rfl)) (fun m r hh => rel8_w rfl rfl rfl rfl rfl rfl rfl rfl rfl rfl rfl rfl rfl hI1.1 [xs (i + 1), xs (i + 2), xs (i + 3)] hh)) (fun x q => ?_))
  obtain ⟨rv, h2, s2⟩ := x
  obtain ⟨⟨p1, p2, p3, p4⟩, p5⟩ := q
  dsimp only at p2 p3 p4 p5
  cases p2
  exact ⟨p1, rfl, fun L' hL' => kk s' g' h2 L' E' hs' ⟨p4, p5 p3 p4 hI1.2⟩ hL'⟩
theorem twd_gift : ∀ z ∈ ([Cond.methodLink "GiftsOfCourtsLaw" 63 (pm_y PT 1003), Cond.static (pm_y PT 1003), Cond.initialized "GiftsOfCourtsLaw", Cond.codeWith (pm_y PT 1003) (pm_code PT 1003) (pm_max PT 1003) (some .int) [(0, 10, 13, 13)]] : List Cond), z ∈ PG := by decide +kernel
theorem wt_gift (htr : l.stackTraces = false) (E : lw_Env D aC b bS Ln xs p s m meth c) (hs0 : s.heap.size = b + 198 + g) (hfr : R.frames = 2048) (hlo : R.locals = 84000) (hRc : 1 ≤ R.cells) (hRs : 6 ≤ R.slots) (hC : 1 ≤ C) (hS : 6 ≤ S) (hLn : Ln < 2 ^ 30) (h5 : i + 5 ≤ Ln) (hL : lc_L bS i L) (hI : LI8 h)
    (kk : ∀ (s' : State) (g' : Nat) (h2 : pm_H) (L' : pm_L), lw_Env D aC b bS Ln xs p s' m meth c → s'.heap.size = b + 198 + g' → LI8 h2 → lc_L bS i L' → pm_V p l e { frames := R.frames, locals := R.locals, cells := R.cells - 1, slots := R.slots - 6 } s' m #[Value.ref (aC (1000 + bS))] below meth c (lw_Zb b (C - 1) (S - 6) below s') PT D aC b 1000 198 sl (1443, L', [], h2, 198, sl)) : pm_V p l e R s m #[Value.ref (aC (1000 + bS))] below meth c (lw_Zb b C S below s) PT D aC b 1000 198 sl (405, L, [], h, 198, sl) := by
  have H := lw_cl (l := l) (e := e) (below := below) (Q := lw_Zb b C S below s) (sl := sl) E hs0 hfr hlo hLn
  obtain ⟨f1, o1⟩ := ty_0 hI.1.1
  refine lc_al_ok H (a := 1) (by decide +kernel) hL.2.1 rfl ?_
  refine lc_args_ok H hL.1 hL.2.2.2.2.1 2 1 _ _ (by decide +kernel) (by omega) ?_
  refine lc_al_ok H (a := 3) (by decide +kernel) hL.2.2.2.1 rfl ?_
  refine lw_wrap (pc := 419) (w := 1003) (jw := 63) (lo1 := 83976) (n := 4) (hh := [(0, 10, 13, 13)]) (As := [.ref 0, .int (xs (i + 1)), .int (xs (i + 2)), .ref 197]) E rfl hs0 hfr hlo hRc hRs hC hS rfl rfl twd_gift (by decide +kernel) rfl (Nat.le_of_ble_eq_true rfl) (tw_gift (sl := sl) htr (xs (i + 1)) (xs (i + 2)) hI.1.1 o1) (fun s' g' h1 E' hs' hX v => ?_)
  have hI1 := twX_LI8 hI hX
  obtain ⟨f2, o2⟩ := ty_162 hI1.1.1
  refine lc_aft_ok (lw_cl (R := { frames := R.frames, cells := R.cells - 1, slots := R.slots - 6, locals := R.locals }) (l := l) (e := e) (below := below) (Q := lw_Zb b (C - 1) (S - 6) below s') E' hs' hfr hlo hLn) (q := 422) (n := 2) (km := 208) (lng := false) (pe := 1443) (by decide +kernel) hL (by omega) (by decide) o2 (wp_mono (wp_runs (Z := fun r => (∀ i, i < 162 → r.2.1 i = h1 i) → mInv r.2.1 → REL8 h1 → REL8 r.2.1) (hm_gift hI1.1 _ _ (Nat.le_of_ble_eq_true rfl) (Nat.le_of_ble_eq_true rfl)) (fun m r hh => rel8_w rfl rfl rfl rfl rfl rfl rfl rfl rfl rfl rfl rfl rfl hI1.1 [xs (i + 1), xs (i + 2)] hh)) (fun x q => ?_))
  obtain ⟨rv, h2, s2⟩ := x
  obtain ⟨⟨p1, p2, p3, p4⟩, p5⟩ := q
  dsimp only at p2 p3 p4 p5
  cases p2
  exact ⟨p1, rfl, fun L' hL' => kk s' g' h2 L' E' hs' ⟨p4, p5 p3 p4 hI1.2⟩ hL'⟩
theorem twd_row : ∀ z ∈ ([Cond.methodLink "GiftsOfCourtsLaw" 203 (pm_y PT 1004), Cond.static (pm_y PT 1004), Cond.initialized "GiftsOfCourtsLaw", Cond.codeWith (pm_y PT 1004) (pm_code PT 1004) (pm_max PT 1004) (some .int) [(0, 8, 11, 13)]] : List Cond), z ∈ PG := by decide +kernel
theorem wt_row (htr : l.stackTraces = false) (E : lw_Env D aC b bS Ln xs p s m meth c) (hs0 : s.heap.size = b + 198 + g) (hfr : R.frames = 2048) (hlo : R.locals = 84000) (hRc : 1 ≤ R.cells) (hRs : 6 ≤ R.slots) (hC : 1 ≤ C) (hS : 6 ≤ S) (hLn : Ln < 2 ^ 30) (h5 : i + 5 ≤ Ln) (hL : lc_L bS i L) (hI : LI8 h)
    (kk : ∀ (s' : State) (g' : Nat) (h2 : pm_H) (L' : pm_L), lw_Env D aC b bS Ln xs p s' m meth c → s'.heap.size = b + 198 + g' → LI8 h2 → lc_L bS i L' → pm_V p l e { frames := R.frames, locals := R.locals, cells := R.cells - 1, slots := R.slots - 6 } s' m #[Value.ref (aC (1000 + bS))] below meth c (lw_Zb b (C - 1) (S - 6) below s') PT D aC b 1000 198 sl (1443, L', [], h2, 198, sl)) : pm_V p l e R s m #[Value.ref (aC (1000 + bS))] below meth c (lw_Zb b C S below s) PT D aC b 1000 198 sl (1415, L, [], h, 198, sl) := by
  have H := lw_cl (l := l) (e := e) (below := below) (Q := lw_Zb b C S below s) (sl := sl) E hs0 hfr hlo hLn
  obtain ⟨f1, o1⟩ := ty_0 hI.1.1
  refine lc_al_ok H (a := 1) (by decide +kernel) hL.2.1 rfl ?_
  refine lc_args_ok H hL.1 hL.2.2.2.2.1 1 1 _ _ (by decide +kernel) (by omega) ?_
  refine lc_al_ok H (a := 3) (by decide +kernel) hL.2.2.2.1 rfl ?_
  refine lw_wrap (pc := 1423) (w := 1004) (jw := 203) (lo1 := 83977) (n := 3) (hh := [(0, 8, 11, 13)]) (As := [.ref 0, .int (xs (i + 1)), .ref 197]) E rfl hs0 hfr hlo hRc hRs hC hS rfl rfl twd_row (by decide +kernel) rfl (Nat.le_of_ble_eq_true rfl) (tw_row (sl := sl) htr (xs (i + 1)) hI.1.1 o1) (fun s' g' h1 E' hs' hX v => ?_)
  have hI1 := twX_LI8 hI hX
  obtain ⟨f2, o2⟩ := ty_162 hI1.1.1
  refine lc_aft_ok (lw_cl (R := { frames := R.frames, cells := R.cells - 1, slots := R.slots - 6, locals := R.locals }) (l := l) (e := e) (below := below) (Q := lw_Zb b (C - 1) (S - 6) below s') E' hs' hfr hlo hLn) (q := 1426) (n := 1) (km := 268) (lng := true) (pe := 1443) (by decide +kernel) hL (by omega) (by decide) o2 (wp_mono (wp_runs (Z := fun r => (∀ i, i < 162 → r.2.1 i = h1 i) → mInv r.2.1 → REL8 h1 → REL8 r.2.1) (hm_row hI1.1 _ (Nat.le_of_ble_eq_true rfl) (Nat.le_of_ble_eq_true rfl)) (fun m r hh => rel8_w rfl rfl rfl rfl rfl rfl rfl rfl rfl rfl rfl rfl rfl hI1.1 [xs (i + 1)] hh)) (fun x q => ?_))
  obtain ⟨rv, h2, s2⟩ := x
  obtain ⟨⟨p1, p2, p3, p4⟩, p5⟩ := q
  dsimp only at p2 p3 p4 p5
  cases p2
  exact ⟨p1, rfl, fun L' hL' => kk s' g' h2 L' E' hs' ⟨p4, p5 p3 p4 hI1.2⟩ hL'⟩
end WTN
end MH97wturnsx0
section MH97wturnsx1
/-! the law's loop -/
section LPP
variable {p : Program} {l : Launch} {e : Env} {m : MethodId} {below : List Frame} {meth : Method} {c : Code} {D : va_G} {aC : Nat → ClassId} {b sl bS Ln : Nat} {xs : Nat → Int32}
/-- the one turn that compares -/
def rsTurn (sl bS Ln : Nat) (xs : Nat → Int32) : Prop := ∀ (P : pm_St → Prop) (i : Nat) (L : pm_L) (h : pm_H), lc_Cl 198 sl bS Ln xs P → lc_L bS i L → i + 5 ≤ Ln → LI8 h → (∀ h2, LI8 h2 → P (1443, L, [], h2, 198, sl)) → P (716, L, [], h, 198, sl)
theorem lw_fin {s : State} {R : Room} {g C S : Nat} {L : pm_L} {h : pm_H} (E : lw_Env D aC b bS Ln xs p s m meth c) (hret : meth.sig.returnType = ret) (hlk : meth.locks = false) (hs0 : s.heap.size = b + 198 + g) (hfr : R.frames = 2048) (hlo : R.locals = 84000) (hLn : Ln < 2 ^ 30) : pm_V p l e R s m #[Value.ref (aC (1000 + bS))] below meth c (lw_Zb b C S below s) PT D aC b 1000 198 sl (1449, L, [], h, 198, sl) := by
  refine lc_i (lw_cl E hs0 hfr hlo hLn) rfl rfl rfl rfl ?_
  intro H locs ls hP hS hl
  dsimp only
  rw [Nat.sub_self, Nat.sub_self]
  exact lw_retb E.1.1 E.1.2.1 hret hlk (pc := 1450) (PT_ok.1 1000 1450 _ _ rfl) hS.2.2 (Nat.zero_le _) (Nat.zero_le _)
theorem lw_loop (htr : l.stackTraces = false) (hret : meth.sig.returnType = ret) (hlk : meth.locks = false) (hLn : Ln < 2 ^ 29) (hrs : rsTurn sl bS Ln xs) : ∀ (k i : Nat) (s : State) (R : Room) (g C S : Nat) (L : pm_L) (h : pm_H), Ln < i + 5 * (k + 1) → i < 2 ^ 30 → lw_Env D aC b bS Ln xs p s m meth c → s.heap.size = b + 198 + g → R.frames = 2048 → R.locals = 84000 → k ≤ R.cells → 6 * k ≤ R.slots → k ≤ C → 6 * k ≤ S → lc_L bS i L → LI8 h → pm_V p l e R s m #[Value.ref (aC (1000 + bS))] below meth c (lw_Zb b C S below s) PT D aC b 1000 198 sl (23, L, [], h, 198, sl) := by
  intro k
  induction k with
  | zero =>
    intro i s R g C S L h hk hi E hs0 hfr hlo h1 h2 h3 h4 hL hI
    exact lc_head (lw_cl E hs0 hfr hlo (by omega)) hL hi (by omega) (fun q => by omega) (fun _ => lw_fin E hret hlk hs0 hfr hlo (by omega))
  | succ k ih =>
    intro i s R g C S L h hk hi E hs0 hfr hlo h1 h2 h3 h4 hL hI
    have H := lw_cl (l := l) (e := e) (below := below) (Q := lw_Zb b C S below s) (sl := sl) (R := R) E hs0 hfr hlo (by omega)
    have tl : ∀ h2, LI8 h2 → i + 5 ≤ Ln → pm_V p l e R s m #[Value.ref (aC (1000 + bS))] below meth c (lw_Zb b C S below s) PT D aC b 1000 198 sl (1443, L, [], h2, 198, sl) := fun h2 hI2 q => lc_tail H hL (fun L' hL' => ih (i + 5) s R g C S L' h2 (by omega) (by omega) E hs0 hfr hlo (by omega) (by omega) (by omega) (by omega) hL' hI2)
    have tw : i + 5 ≤ Ln → ∀ (s' : State) (g' : Nat) (h2 : pm_H) (L' : pm_L), lw_Env D aC b bS Ln xs p s' m meth c → s'.heap.size = b + 198 + g' → LI8 h2 → lc_L bS i L' → pm_V p l e { frames := R.frames, locals := R.locals, cells := R.cells - 1, slots := R.slots - 6 } s' m #[Value.ref (aC (1000 + bS))] below meth c (lw_Zb b (C - 1) (S - 6) below s') PT D aC b 1000 198 sl (1443, L', [], h2, 198, sl) := fun q s' g' h2 L' E' hs' hI2 hL' => lc_tail (lw_cl (R := { frames := R.frames, locals := R.locals, cells := R.cells - 1, slots := R.slots - 6 }) E' hs' hfr hlo (by omega)) hL' (fun L2 hL2 => ih (i + 5) s' _ g' (C - 1) (S - 6) L2 h2 (by omega) (by omega) E' hs' hfr hlo (by dsimp only; omega) (by dsimp only; omega) (by omega) (by omega) hL2 hI2)
    refine lc_head H hL hi (by omega) (fun q => lc_enter H hL q (fun o ho => ?_)) (fun _ => lw_fin E hret hlk hs0 hfr hlo (by omega))
    by_cases z : 43 ≤ o
    · exact lc_default H z (by omega) (tl h hI q)
    have hz : o = 0 ∨ o = 1 ∨ o = 2 ∨ o = 3 ∨ o = 4 ∨ o = 5 ∨ o = 6 ∨ o = 7 ∨ o = 8 ∨ o = 9 ∨ o = 10 ∨ o = 11 ∨ o = 12 ∨ o = 13 ∨ o = 14 ∨ o = 15 ∨ o = 16 ∨ o = 17 ∨ o = 18 ∨ o = 19 ∨ o = 20 ∨ o = 21 ∨ o = 22 ∨ o = 23 ∨ o = 24 ∨ o = 25 ∨ o = 26 ∨ o = 27 ∨ o = 28 ∨ o = 29 ∨ o = 30 ∨ o = 31 ∨ o = 32 ∨ o = 33 ∨ o = 34 ∨ o = 35 ∨ o = 36 ∨ o = 37 ∨ o = 38 ∨ o = 39 ∨ o = 40 ∨ o = 41 ∨ o = 42 := by omega
    rcases hz with rfl | rfl | rfl | rfl | rfl | rfl | rfl | rfl | rfl | rfl | rfl | rfl | rfl | rfl | rfl | rfl | rfl | rfl | rfl | rfl | rfl | rfl | rfl | rfl | rfl | rfl | rfl | rfl | rfl | rfl | rfl | rfl | rfl | rfl | rfl | rfl | rfl | rfl | rfl | rfl | rfl | rfl | rfl
    · exact lc_switch H (by decide) rfl (rd_sign H hL q hI (fun h2 hI2 => tl h2 hI2 q))
    · exact lc_switch H (by decide) rfl (rd_end H hL q hI (fun h2 hI2 => tl h2 hI2 q))
    · exact lc_switch H (by decide) rfl (rd_courts H hL q hI (fun h2 hI2 => tl h2 hI2 q))
    · exact lc_switch H (by decide) rfl (rd_gifts H hL q hI (fun h2 hI2 => tl h2 hI2 q))
    · exact lc_switch H (by decide) rfl (rd_rule H hL q hI (fun h2 hI2 => tl h2 hI2 q))
    · exact lc_switch H (by decide) rfl (wt_court htr E hs0 hfr hlo (by omega) (by omega) (by omega) (by omega) (by omega) q hL hI (tw q))
    · exact lc_switch H (by decide) rfl (wt_between htr E hs0 hfr hlo (by omega) (by omega) (by omega) (by omega) (by omega) q hL hI (tw q))
    · exact lc_switch H (by decide) rfl (wt_gift htr E hs0 hfr hlo (by omega) (by omega) (by omega) (by omega) (by omega) q hL hI (tw q))
    · exact lc_switch H (by decide) rfl (rd_road H hL q hI (fun h2 hI2 => tl h2 hI2 q))
    · exact lc_switch H (by decide) rfl (rd_sheet H hL q hI (fun h2 hI2 => tl h2 hI2 q))
    · exact lc_switch H (by decide) rfl (rd_send H hL q hI (fun h2 hI2 => tl h2 hI2 q))
    · exact lc_switch H (by decide) rfl (rd_months H hL q hI (fun h2 hI2 => tl h2 hI2 q))
    · exact lc_switch H (by decide) rfl (rd_envoy H hL q hI (fun h2 hI2 => tl h2 hI2 q))
    · exact lc_switch H (by decide) rfl (rd_forgive H hL q hI (fun h2 hI2 => tl h2 hI2 q))
    · exact lc_switch H (by decide) rfl (rd_year H hL q hI (fun h2 hI2 => tl h2 hI2 q))
    · exact lc_switch H (by decide) rfl (hrs _ i L h H hL q hI (fun h2 hI2 => tl h2 hI2 q))
    · exact lc_switch H (by decide) rfl (rd_value H hL q hI (fun h2 hI2 => tl h2 hI2 q))
    · exact lc_switch H (by decide) rfl (rd_where H hL q hI (fun h2 hI2 => tl h2 hI2 q))
    · exact lc_switch H (by decide) rfl (rd_answer H hL q hI (fun h2 hI2 => tl h2 hI2 q))
    · exact lc_switch H (by decide) rfl (rd_wins H hL q hI (fun h2 hI2 => tl h2 hI2 q))
    · exact lc_switch H (by decide) rfl (rd_unseen H hL q hI (fun h2 hI2 => tl h2 hI2 q))
    · exact lc_switch H (by decide) rfl (rd_swaps H hL q hI (fun h2 hI2 => tl h2 hI2 q))
    · exact lc_switch H (by decide) rfl (rd_way H hL q hI (fun h2 hI2 => tl h2 hI2 q))
    · exact lc_switch H (by decide) rfl (rd_walks H hL q hI (fun h2 hI2 => tl h2 hI2 q))
    · exact lc_switch H (by decide) rfl (rd_alive H hL q hI (fun h2 hI2 => tl h2 hI2 q))
    · exact lc_switch H (by decide) rfl (rd_feeds H hL q hI (fun h2 hI2 => tl h2 hI2 q))
    · exact lc_switch H (by decide) rfl (rd_starves H hL q hI (fun h2 hI2 => tl h2 hI2 q))
    · exact lc_switch H (by decide) rfl (rd_net H hL q hI (fun h2 hI2 => tl h2 hI2 q))
    · exact lc_switch H (by decide) rfl (rd_settle H hL q hI (fun h2 hI2 => tl h2 hI2 q))
    · exact lc_switch H (by decide) rfl (rd_ring H hL q hI (fun h2 hI2 => tl h2 hI2 q))
    · exact lc_switch H (by decide) rfl (rd_ranks H hL q hI (fun h2 hI2 => tl h2 hI2 q))
    · exact lc_switch H (by decide) rfl (rd_league H hL q hI (fun h2 hI2 => tl h2 hI2 q))
    · exact lc_switch H (by decide) rfl (rd_heard H hL q hI (fun h2 hI2 => tl h2 hI2 q))
    · exact lc_switch H (by decide) rfl (rd_forget H hL q hI (fun h2 hI2 => tl h2 hI2 q))
    · exact lc_switch H (by decide) rfl (rd_fits H hL q hI (fun h2 hI2 => tl h2 hI2 q))
    · exact lc_switch H (by decide) rfl (rd_ask H hL q hI (fun h2 hI2 => tl h2 hI2 q))
    · exact lc_switch H (by decide) rfl (rd_law H hL q hI (fun h2 hI2 => tl h2 hI2 q))
    · exact lc_switch H (by decide) rfl (rd_rests H hL q hI (fun h2 hI2 => tl h2 hI2 q))
    · exact lc_switch H (by decide) rfl (rd_years H hL q hI (fun h2 hI2 => tl h2 hI2 q))
    · exact lc_switch H (by decide) rfl (rd_keep H hL q hI (fun h2 hI2 => tl h2 hI2 q))
    · exact lc_switch H (by decide) rfl (rd_again H hL q hI (fun h2 hI2 => tl h2 hI2 q))
    · exact lc_switch H (by decide) rfl (rd_count H hL q hI (fun h2 hI2 => tl h2 hI2 q))
    · exact lc_switch H (by decide) rfl (wt_row htr E hs0 hfr hlo (by omega) (by omega) (by omega) (by omega) (by omega) q hL hI (tw q))
end LPP
end MH97wturnsx1
