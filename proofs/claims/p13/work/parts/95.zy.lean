/-! the relation with the roads -/
section RLO
variable {sl n fr lo kx km k : Nat} {h h1 h2 : pm_H} {R : pm_Rs} {vs : List Int32} {v w x y z : Int32}
def RO (h : pm_H) : Prop := ∃ (f g : Nat → Int32) (cc : Nat), cc ≤ 6 ∧ mF h 3 (.int (nI cc)) ∧ h 8 = .inl (0, 36, .inl f) ∧ h 169 = .inl (0, 36, .inl g) ∧ (∀ j, j < 36 → f j = g j) ∧ ∀ a b, a < 6 → b < 6 → (cc ≤ a ∨ cc ≤ b) → g (6 * a + b) = 0
theorem RO_eq (q : ∀ i, i ≠ 197 → h1 i = h i) (r : RO h) : RO h1 := by
  obtain ⟨f, g, cc, hc, ⟨fs, m1, m2⟩, e8, e9, hj, hz⟩ := r
  exact ⟨f, g, cc, hc, ⟨fs, (q 162 (by decide)).trans m1, m2⟩, (q 8 (by decide)).trans e8, (q 169 (by decide)).trans e9, hj, hz⟩
theorem ro_x (tx : roK kx = true) (hI : mInv h) {mx m f l : Nat} (r1 : pm_run PT m f l kx (0, pm_l0 (.ref 0 :: vs.map Value.int) mx, [], h, 198, sl) = some R) (f1 : fm cxF h R.2.1) (r : RO h) : RO R.2.1 := by
  obtain ⟨f, g, cc, hc, m3, e8, e9, hj, hz⟩ := r
  have kk := tn_keeps ro_tn ro_sf ro_tb tx hI.1 (o := 0) rfl vs r1
  exact ⟨f, g, cc, hc, mF_hi f1 m3, (kk 8 rfl).trans e8, (f1.1 169 rfl).trans e9, hj, hz⟩
theorem ro_m (tm : roK km = true) (cm : sCK km = true) (i1 : mInv h1) {mx m f l : Nat} (r2 : pm_run PT m f l km (0, pm_l0 (.ref 162 :: vs.map Value.int) mx, [], h1, 198, sl) = some R) (lo : ∀ i, i < 162 → R.2.1 i = h1 i) (r : RO h1) : RO R.2.1 := by
  obtain ⟨f, g, cc, hc, m3, e8, e9, hj, hz⟩ := r
  have kk := tn_keeps ro_tn ro_sf ro_tb tm i1.1 (o := 162) rfl vs r2
  exact ⟨f, g, cc, hc, m3_runs cm m3 r2, (lo 8 (by decide)).trans e8, (kk 169 rfl).trans e9, hj, hz⟩
theorem ro_R (tx : roK kx = true) (tm : roK km = true) (cm : sCK km = true) (hI : mInv h) (pr : prun sl kx km vs h h1 h2 v w) (r : RO h) : RO h2 := by
  obtain ⟨⟨m, r1⟩, ⟨f1, i1⟩, ⟨m2, r2⟩, lo, i2⟩ := pr
  exact ro_m tm cm i1 r2 lo (ro_x tx hI r1 f1 r)
theorem ro_courts (pr : prun sl 88 188 [] h h1 h2 v w) (hI : LI5 h) (r : RO h) : RO h2 := by
  obtain ⟨f, g, cc, hc, m3, e8, e9, hj, hz⟩ := r
  obtain ⟨hv, N, hN, m3', hA⟩ := co_cnt hc pr hI m3
  obtain ⟨⟨m, r1⟩, ⟨f1, i1⟩, ⟨m2, r2⟩, lo, i2⟩ := pr
  have kk := tn_keeps ro_tn ro_sf ro_tb (show roK 88 = true from rfl) hI.1.1 (o := 0) rfl [] r1
  obtain ⟨g1, e1, e2⟩ := cr_188 i1 (mF_hi f1 m3) ((f1.1 169 rfl).trans e9) hz (A := w) (N := N) rfl (hA.elim (fun e => Or.inl ⟨e, hN⟩) (fun e => Or.inr e.1)) r2
  exact ⟨f, g1, cc + N, hN, m3', (lo 8 (by decide)).trans ((kk 8 rfl).trans e8), e1, fun j hj' => (hj j hj').trans (e2 j hj').symm, fun a b ha hb q => (e2 (6 * a + b) (by omega)).trans (hz a b ha hb (by omega))⟩
theorem ty_or (hh : ah_ok bB 198 [] h) {a ci g p : Nat} {as : List av} {fs : List Value} (ha : a < 198) (hb : bB a = .inr (ci, as)) (hc : ci < 1000) (hg : as[g]? = some (2, (p : Int), 1)) (hi : av_ids (2, (p : Int), 1) = [p]) (e : h a = .inr (ci, fs)) : fs[g]? = some (.ref p) := by
  have h0 : ac_ok (h a) (bB a) := hh a ha
  rw [hb] at h0
  obtain ⟨fs', ef, hl, hv⟩ := aE_obj h0 hc
  rw [e] at ef
  cases ef
  have hlf : g < fs.length := by rw [hl]; exact (List.getElem?_eq_some_iff.mp hg).1
  have ev : fs[g]? = some fs[g] := List.getElem?_eq_getElem hlf
  have hv := hv g _ _ ev hg
  have hr : fs[g] = .ref p := by
    cases e : fs[g] with
    | ref q =>
      rw [e] at hv
      have := hv.2
      rw [hi] at this
      rw [List.mem_singleton.mp this]
    | null => rw [e] at hv; exact absurd (show (2 : Nat) = 3 from hv) (by decide)
    | _ => rw [e] at hv; first | exact hv.elim | (cases hv.1)
  rw [ev, hr]
theorem nI_ij {a b : Nat} (ha : a < 100) (hb : b < 100) (e : nI a = nI b) : a = b := by
  have e := congrArg Int32.toInt e
  rw [nI_toInt (by omega), nI_toInt (by omega)] at e
  omega
theorem rdU_eq {f g : Nat → Int32} {a b : Nat} (hj : ∀ j, j < 36 → f j = g j) : ∀ j, j < 36 → rdU f a b z j = rdU g a b z j := by
  intro j hj'
  unfold rdU upd
  by_cases z1 : j = 6 * b + a
  · rw [if_pos z1, if_pos z1]
  · rw [if_neg z1, if_neg z1]
    by_cases z2 : j = 6 * a + b
    · rw [if_pos z2, if_pos z2]
    · rw [if_neg z2, if_neg z2]
      exact hj j hj'
theorem rdU_ne {f : Nat → Int32} {a b j : Nat} (n1 : j ≠ 6 * a + b) (n2 : j ≠ 6 * b + a) : rdU f a b z j = f j := by
  unfold rdU upd
  rw [if_neg n2, if_neg n1]
theorem road_both (pr : prun sl 94 209 [x, y, z] h h1 h2 v w) (hI : LI5 h) (r : RO h) : v = w ∧ RO h2 := by
  obtain ⟨f, g, cc, hc, m3, e8, e9, hj, hz⟩ := r
  obtain ⟨⟨m, r1⟩, ⟨f1, i1⟩, ⟨m2, r2⟩, lo, i2⟩ := pr
  obtain ⟨hI0, ⟨n0, cc0, f0, g0, hn, hc0, ⟨x1, ⟨rs, d5, d50⟩⟩, ⟨y1, y2, y3⟩, hjj⟩, -⟩ := hI
  have ecc := mF_ij (by omega) (by omega) y3 m3
  subst ecc
  obtain ⟨fs, a1, -, a3⟩ := ty_x2 hI0.1
  have d54 : rs[4]? = some (.ref 8) := ty_or hI0.1 (a := 5) (g := 4) (p := 8) (by decide) rfl (by decide) rfl rfl d5
  have qx := xrd_run hc a1 a3 d5 d50 d54 e8 r1
  obtain ⟨w0, hw⟩ := ty_m0 i1.1
  have g3 := mF_hi f1 m3
  have g9 := (f1.1 169 rfl).trans e9
  have qm := mr_run hc hw g3 (ty_ref i1.1 (g := 11) (p := 169) rfl) g9 r2
  have m3' := m3_runs (show sCK 209 = true from rfl) g3 r2
  dsimp only at m3'
  rcases qx with ⟨b1, q1⟩ | ⟨a, b, ha, hb, ea, eb, b1, q1⟩
  · rcases qm with ⟨b2, q2⟩ | ⟨a', b', ha', hb', ea', eb', b2, q2⟩
    · have ev : v = Int32.ofInt (-1) := Value.int.inj (Option.some.inj (congrArg (fun q => q.1) q1))
      have ew : w = Int32.ofInt (-1) := Value.int.inj (Option.some.inj (congrArg (fun q => q.1) q2))
      have e1 : h1 = h := congrArg (fun q => q.2.1) q1
      have e2 : h2 = mset h1 0 (.int 0) := congrArg (fun q => q.2.1) q2
      refine ⟨ev.trans ew.symm, f, g, cc0, hc, m3', (lo 8 (by decide)).trans (by rw [e1]; exact e8), ?_, hj, hz⟩
      rw [e2, mset_ne (by decide)]
      exact g9
    · rw [b1] at b2
      cases b2
  · rcases qm with ⟨b2, q2⟩ | ⟨a', b', ha', hb', ea', eb', b2, q2⟩
    · rw [b1] at b2
      cases b2
    · have ea2 : a' = a := nI_ij (by omega) (by omega) (ea'.symm.trans ea)
      have eb2 : b' = b := nI_ij (by omega) (by omega) (eb'.symm.trans eb)
      subst ea2
      subst eb2
      have ev : v = f (6 * a' + b') := Value.int.inj (Option.some.inj (congrArg (fun q => q.1) q1))
      have ew : w = g (6 * a' + b') := Value.int.inj (Option.some.inj (congrArg (fun q => q.1) q2))
      have e1 : h1 = aset h 8 36 (rdU f a' b' z) := congrArg (fun q => q.2.1) q1
      have e2 : h2 = aset (mset h1 0 (.int 0)) 169 36 (rdU g a' b' z) := congrArg (fun q => q.2.1) q2
      refine ⟨by rw [ev, ew]; exact hj _ (by omega), rdU f a' b' z, rdU g a' b' z, cc0, hc, m3', (lo 8 (by decide)).trans (by rw [e1]; exact asR_self), by rw [e2]; exact asR_self, rdU_eq hj, fun p q hp hq hpq => ?_⟩
      rw [rdU_ne (by omega) (by omega)]
      exact hz p q hp hq hpq
end RLO
/-! the relation of p10 and every call -/
section RLU
variable {sl kx km : Nat} {h h1 h2 : pm_H} {R : pm_Rs} {vs : List Int32} {v w x y z : Int32}
def REL (h : pm_H) : Prop := REL6 h ∧ RO h
def LI (h : pm_H) : Prop := mInv h ∧ REL h
theorem LI_6 (hI : LI h) : LI6 h := ⟨hI.1, hI.2.1⟩
theorem LI_56 (hI : LI h) : LI5 h := LI_5 (LI_6 hI)
theorem twX_LI (hI : LI h) (q : twX h h1) : LI h1 := by
  have h6 := twX_LI6 (LI_6 hI) q
  exact ⟨h6.1, h6.2, RO_eq q.1 hI.2.2⟩
theorem rel_w (sm : sMK km = true) (gm : sGK km = true) (tm : sKK km = true) (nm : nKK km = true) (om : roK km = true) (cm : sCK km = true) (i1 : mInv h1) (vs : List Int32) {mx m f l : Nat} (r2 : pm_run PT m f l km (0, pm_l0 (.ref 162 :: vs.map Value.int) mx, [], h1, 198, sl) = some R) (lo : ∀ i, i < 162 → R.2.1 i = h1 i) (r : REL h1) : REL R.2.1 := ⟨rel_w6 sm gm tm nm i1 vs r2 lo r.1, ro_m om cm i1 r2 lo r.2⟩
theorem rel_R (sx : sQK kx = true) (sm : sMK km = true) (gx : sGK kx = true) (gm : sGK km = true) (tx : sKK kx = true) (tm : sKK km = true) (nm : nKK km = true) (ox : roK kx = true) (om : roK km = true) (cm : sCK km = true) (pr : prun sl kx km vs h h1 h2 v w) (hI : LI h) : REL h2 := ⟨rel_R6 sx sm gx gm tx tm nm pr (LI_6 hI), ro_R ox om cm hI.1 pr hI.2.2⟩
theorem rel_sign (pr : prun sl 86 178 [x] h h1 h2 v w) (hI : LI h) : REL h2 := ⟨rel_sign6 pr (LI_6 hI), ro_R rfl rfl rfl hI.1 pr hI.2.2⟩
theorem rel_end (pr : prun sl 87 179 [x] h h1 h2 v w) (hI : LI h) : REL h2 := ⟨rel_end6 pr (LI_6 hI), ro_R rfl rfl rfl hI.1 pr hI.2.2⟩
theorem rel_courts (pr : prun sl 88 188 [] h h1 h2 v w) (hI : LI h) : REL h2 := ⟨rel_courts6 pr (LI_6 hI), ro_courts pr (LI_56 hI) hI.2.2⟩
theorem rel_gifts (pr : prun sl 89 192 [] h h1 h2 v w) (hI : LI h) : REL h2 := ⟨rel_gifts6 pr (LI_6 hI), ro_R rfl rfl rfl hI.1 pr hI.2.2⟩
theorem rel_rule (pr : prun sl 90 198 [] h h1 h2 v w) (hI : LI h) : REL h2 := ⟨rel_rule6 pr (LI_6 hI), ro_R rfl rfl rfl hI.1 pr hI.2.2⟩
theorem rel_year (pr : prun sl 100 228 [] h h1 h2 v w) (hI : LI h) : REL h2 := ⟨rel_year6 pr (LI_6 hI), ro_R rfl rfl rfl hI.1 pr hI.2.2⟩
theorem rel_law (pr : prun sl 122 258 [] h h1 h2 v w) (hI : LI h) : REL h2 := ⟨rel_law6 pr (LI_6 hI), ro_R rfl rfl rfl hI.1 pr hI.2.2⟩
theorem rel_keep (pr : prun sl 125 264 [x] h h1 h2 v w) (hI : LI h) : REL h2 := ⟨rel_keep6 pr (LI_6 hI), ro_R rfl rfl rfl hI.1 pr hI.2.2⟩
theorem rel_again (pr : prun sl 126 265 [x] h h1 h2 v w) (hI : LI h) : v = w ∧ REL h2 := ⟨(rel_again6 pr (LI_6 hI)).1, (rel_again6 pr (LI_6 hI)).2, ro_R rfl rfl rfl hI.1 pr hI.2.2⟩
theorem rel_road (pr : prun sl 94 209 [x, y, z] h h1 h2 v w) (hI : LI h) : v = w ∧ REL h2 := ⟨(road_both pr (LI_56 hI) hI.2.2).1, rel_R6 rfl rfl rfl rfl rfl rfl rfl pr (LI_6 hI), (road_both pr (LI_56 hI) hI.2.2).2⟩
end RLU
