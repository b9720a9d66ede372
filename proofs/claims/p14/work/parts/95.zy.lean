section MG95zyx0
/-! the relation with the roads -/
section RLO
variable {sl n fr lo kx km k : Nat} {h h1 h2 : pm_H} {R : pm_Rs} {vs : List Int32} {v w x y z : Int32}
def RO (h : pm_H) : Prop := ∃ (f g : Nat → Int32) (cc : Nat), cc ≤ 6 ∧ mF h 3 (.int (nI cc)) ∧ h 8 = .inl (0, 36, .inl f) ∧ h 169 = .inl (0, 36, .inl g) ∧ (∀ j, j < 36 → f j = g j) ∧ ∀ a b, a < 6 → b < 6 → (cc ≤ a ∨ cc ≤ b) → g (6 * a + b) = 0
theorem RO_eq (q : ∀ i, i ≠ 197 → h1 i = h i) (r : RO h) : RO h1 := by
  obtain ⟨f, g, cc, hc, ⟨fs, m1, m2⟩, e8, e9, hj, hz⟩ := r
  exact ⟨f, g, cc, hc, ⟨fs, (q 162 (by decide)).trans m1, m2⟩, (q 8 (by decide)).trans e8, (q 169 (by decide)).trans e9, hj, hz⟩
theorem ro_x (tx : roK kx = true) (hI : mInv h) {mx m f l : Nat} (r1 : pm_run PT m f l kx (0, pm_l0 (.ref 0 :: vs.map Value.int) mx, [], h, 198, sl) = some R) (f1 : fm cxF h R.2.1) (r : RO h) : RO R.2.1 := by
  obtain ⟨f, g, cc, hc, m3, e8, e9, hj, hz⟩ := r
  have kk := tn_keeps ro_tn ro_sf ro_tb tx hI.1 (o := 0) rfl vs r1
  exact ⟨f, g, cc, hc, mF_hi f1 m3, (kk 8 rfl).trans e8, (f1.1 169 rfl).trans e9, hj, hz⟩
theorem ro_m (tm : roK km = true) (cm : sCK km = true) (i1 : mInv h1) {mx m f l : Nat} (r2 : pm_run PT m f l km (0, pm_l0 (.ref 162 :: vs.map Value.int) mx, [], h1, 198, sl) = some R) (lo : ∀ i, i < 162 → R.2.1 i = h1 i) (r : RO h1) : RO R.2.1 := by
  obtain ⟨f, g, cc, hc, m3, e8, e9, hj, hz⟩ := r
  have kk := tn_keeps ro_tn ro_sf ro_tb tm i1.1 (o := 162) rfl vs r2
  exact ⟨f, g, cc, hc, m3_runs cm m3 r2, (lo 8 (by decide)).trans e8, (kk 169 rfl).trans e9, hj, hz⟩
theorem ro_R (tx : roK kx = true) (tm : roK km = true) (cm : sCK km = true) (hI : mInv h) (pr : prun sl kx km vs h h1 h2 v w) (r : RO h) : RO h2 := by
  obtain ⟨⟨m, r1⟩, ⟨f1, i1⟩, ⟨m2, r2⟩, lo, i2⟩ := pr
  exact ro_m tm cm i1 r2 lo (ro_x tx hI r1 f1 r)
theorem ro_courts (pr : prun sl 88 188 [] h h1 h2 v w) (hI : LI5 h) (r : RO h) : RO h2 := by
  obtain ⟨f, g, cc, hc, m3, e8, e9, hj, hz⟩ := r
  obtain ⟨hv, N, hN, m3', hA⟩ := co_cnt hc pr hI m3
  obtain ⟨⟨m, r1⟩, ⟨f1, i1⟩, ⟨m2, r2⟩, lo, i2⟩ := pr
  have kk := tn_keeps ro_tn ro_sf ro_tb (show roK 88 = true from rfl) hI.1.1 (o := 0) rfl [] r1
  obtain ⟨g1, e1, e2⟩ := cr_188 i1 (mF_hi f1 m3) ((f1.1 169 rfl).trans e9) hz (A := w) (N := N) rfl (hA.elim (fun e => Or.inl ⟨e, hN⟩) (fun e => Or.inr e.1)) r2
  exact ⟨f, g1, cc + N, hN, m3', (lo 8 (by decide)).trans ((kk 8 rfl).trans e8), e1, fun j hj' => (hj j hj').trans (e2 j hj').symm, fun a b ha hb q => (e2 (6 * a + b) (by omega)).trans (hz a b ha hb (by omega))⟩
theorem ty_or (hh : ah_ok bB 198 [] h) {a ci g p : Nat} {as : List av} {fs : List Value} (ha : a < 198) (hb : bB a = .inr (ci, as)) (hc : ci < 1000) (hg : as[g]? = some (2, (p : Int), 1)) (hi : av_ids (2, (p : Int), 1) = [p]) (e : h a = .inr (ci, fs)) : fs[g]? = some (.ref p) := by
  have h0 : ac_ok (h a) (bB a) := hh a ha
  rw [hb] at h0
  obtain ⟨fs', ef, hl, hv⟩ := aE_obj h0 hc
  rw [e] at ef
  cases ef
  have hlf : g < fs.length := by rw [hl]; exact (List.getElem?_eq_some_iff.mp hg).1
  have ev : fs[g]? = some fs[g] := List.getElem?_eq_getElem hlf
  have hv := hv g _ _ ev hg
  have hr : fs[g] = .ref p := by
    cases e : fs[g] with
    | ref q =>
      rw [e] at hv
      have := hv.2
      rw [hi] at this
      rw [List.mem_singleton.mp this]
    | null => rw [e] at hv; exact absurd (show (2 : Nat) = 3 from hv) (by decide)
    | _ => rw [e] at hv; first | exact hv.elim | (cases hv.1)
  rw [ev, hr]
theorem nI_ij {a b : Nat} (ha : a < 100) (hb : b < 100) (e : nI a = nI b) : a = b := by
  have e := congrArg Int32.toInt e
  rw [nI_toInt (by omega), nI_toInt (by omega)] at e
  omega
theorem rdU_eq {f g : Nat → Int32} {a b : Nat} (hj : ∀ j, j < 36 → f j = g j) : ∀ j, j < 36 → rdU f a b z j = rdU g a b z j := by
  intro j hj'
  unfold rdU upd
  by_cases z1 : j = 6 * b + a
  · rw [if_pos z1, if_pos z1]
  · rw [if_neg z1, if_neg z1]
    by_cases z2 : j = 6 * a + b
    · rw [if_pos z2, if_pos z2]
    · rw [if_neg z2, if_neg z2]
      exact hj j hj'
theorem rdU_ne {f : Nat → Int32} {a b j : Nat} (n1 : j ≠ 6 * a + b) (n2 : j ≠ 6 * b + a) : rdU f a b z j = f j := by
  unfold rdU upd
  rw [if_neg n2, if_neg n1]
theorem road_both (pr : prun sl 94 209 [x, y, z] h h1 h2 v w) (hI : LI5 h) (r : RO h) : v = w ∧ RO h2 := by
  obtain ⟨f, g, cc, hc, m3, e8, e9, hj, hz⟩ := r
  obtain ⟨⟨m, r1⟩, ⟨f1, i1⟩, ⟨m2, r2⟩, lo, i2⟩ := pr
  obtain ⟨hI0, ⟨n0, cc0, f0, g0, hn, hc0, ⟨x1, ⟨rs, d5, d50⟩⟩, ⟨y1, y2, y3⟩, hjj⟩, -⟩ := hI
  have ecc := mF_ij (by omega) (by omega) y3 m3
  subst ecc
  obtain ⟨fs, a1, -, a3⟩ := ty_x2 hI0.1
  have d54 : rs[4]? = some (.ref 8) := ty_or hI0.1 (a := 5) (g := 4) (p := 8) (by decide) rfl (by decide) rfl rfl d5
  have qx := xrd_run hc a1 a3 d5 d50 d54 e8 r1
  obtain ⟨w0, hw⟩ := ty_m0 i1.1
  have g3 := mF_hi f1 m3
  have g9 := (f1.1 169 rfl).trans e9
  have qm := mr_run hc hw g3 (ty_ref i1.1 (g := 11) (p := 169) rfl) g9 r2
  have m3' := m3_runs (show sCK 209 = true from rfl) g3 r2
  dsimp only at m3'
  rcases qx with ⟨b1, q1⟩ | ⟨a, b, ha, hb, ea, eb, b1, q1⟩
  · rcases qm with ⟨b2, q2⟩ | ⟨a', b', ha', hb', ea', eb', b2, q2⟩
    · have ev : v = Int32.ofInt (-1) := Value.int.inj (Option.some.inj (congrArg (fun q => q.1) q1))
      have ew : w = Int32.ofInt (-1) := Value.int.inj (Option.some.inj (congrArg (fun q => q.1) q2))
      have e1 : h1 = h := congrArg (fun q => q.2.1) q1
      have e2 : h2 = mset h1 0 (.int 0) := congrArg (fun q => q.2.1) q2
      refine ⟨ev.trans ew.symm, f, g, cc0, hc, m3', (lo 8 (by decide)).trans (by rw [e1]; exact e8), ?_, hj, hz⟩
      rw [e2, mset_ne (by decide)]
      exact g9
    · rw [b1] at b2
      cases b2
  · rcases qm with ⟨b2, q2⟩ | ⟨a', b', ha', hb', ea', eb', b2, q2⟩
    · rw [b1] at b2
      cases b2
    · have ea2 : a' = a := nI_ij (by omega) (by omega) (ea'.symm.trans ea)
      have eb2 : b' = b := nI_ij (by omega) (by omega) (eb'.symm.trans eb)
      subst ea2
      subst eb2
      have ev : v = f (6 * a' + b') := Value.int.inj (Option.some.inj (congrArg (fun q => q.1) q1))
      have ew : w = g (6 * a' + b') := Value.int.inj (Option.some.inj (congrArg (fun q => q.1) q2))
      have e1 : h1 = aset h 8 36 (rdU f a' b' z) := congrArg (fun q => q.2.1) q1
      have e2 : h2 = aset (mset h1 0 (.int 0)) 169 36 (rdU g a' b' z) := congrArg (fun q => q.2.1) q2
      refine ⟨by rw [ev, ew]; exact hj _ (by omega), rdU f a' b' z, rdU g a' b' z, cc0, hc, m3', (lo 8 (by decide)).trans (by rw [e1]; exact asR_self), by rw [e2]; exact asR_self, rdU_eq hj, fun p q hp hq hpq => ?_⟩
      rw [rdU_ne (by omega) (by omega)]
      exact hz p q hp hq hpq
end RLO
/-! the relation of p10 and every call -/
section RLU
variable {sl kx km : Nat} {h h1 h2 : pm_H} {R : pm_Rs} {vs : List Int32} {v w x y z : Int32}
def REL (h : pm_H) : Prop := REL6 h ∧ RO h
def LI (h : pm_H) : Prop := mInv h ∧ REL h
theorem LI_6 (hI : LI h) : LI6 h := ⟨hI.1, hI.2.1⟩
theorem LI_56 (hI : LI h) : LI5 h := LI_5 (LI_6 hI)
theorem twX_LI (hI : LI h) (q : twX h h1) : LI h1 := by
  have h6 := twX_LI6 (LI_6 hI) q
  exact ⟨h6.1, h6.2, RO_eq q.1 hI.2.2⟩
theorem rel_w (sm : sMK km = true) (gm : sGK km = true) (tm : sKK km = true) (nm : nKK km = true) (om : roK km = true) (cm : sCK km = true) (i1 : mInv h1) (vs : List Int32) {mx m f l : Nat} (r2 : pm_run PT m f l km (0, pm_l0 (.ref 162 :: vs.map Value.int) mx, [], h1, 198, sl) = some R) (lo : ∀ i, i < 162 → R.2.1 i = h1 i) (r : REL h1) : REL R.2.1 := ⟨rel_w6 sm gm tm nm i1 vs r2 lo r.1, ro_m om cm i1 r2 lo r.2⟩
theorem rel_R (sx : sQK kx = true) (sm : sMK km = true) (gx : sGK kx = true) (gm : sGK km = true) (tx : sKK kx = true) (tm : sKK km = true) (nm : nKK km = true) (ox : roK kx = true) (om : roK km = true) (cm : sCK km = true) (pr : prun sl kx km vs h h1 h2 v w) (hI : LI h) : REL h2 := ⟨rel_R6 sx sm gx gm tx tm nm pr (LI_6 hI), ro_R ox om cm hI.1 pr hI.2.2⟩
theorem rel_sign (pr : prun sl 86 178 [x] h h1 h2 v w) (hI : LI h) : REL h2 := ⟨rel_sign6 pr (LI_6 hI), ro_R rfl rfl rfl hI.1 pr hI.2.2⟩
theorem rel_end (pr : prun sl 87 179 [x] h h1 h2 v w) (hI : LI h) : REL h2 := ⟨rel_end6 pr (LI_6 hI), ro_R rfl rfl rfl hI.1 pr hI.2.2⟩
theorem rel_courts (pr : prun sl 88 188 [] h h1 h2 v w) (hI : LI h) : REL h2 := ⟨rel_courts6 pr (LI_6 hI), ro_courts pr (LI_56 hI) hI.2.2⟩
theorem rel_gifts (pr : prun sl 89 192 [] h h1 h2 v w) (hI : LI h) : REL h2 := ⟨rel_gifts6 pr (LI_6 hI), ro_R rfl rfl rfl hI.1 pr hI.2.2⟩
theorem rel_rule (pr : prun sl 90 198 [] h h1 h2 v w) (hI : LI h) : REL h2 := ⟨rel_rule6 pr (LI_6 hI), ro_R rfl rfl rfl hI.1 pr hI.2.2⟩
theorem rel_year (pr : prun sl 100 228 [] h h1 h2 v w) (hI : LI h) : REL h2 := ⟨rel_year6 pr (LI_6 hI), ro_R rfl rfl rfl hI.1 pr hI.2.2⟩
theorem rel_law (pr : prun sl 122 258 [] h h1 h2 v w) (hI : LI h) : REL h2 := ⟨rel_law6 pr (LI_6 hI), ro_R rfl rfl rfl hI.1 pr hI.2.2⟩
theorem rel_keep (pr : prun sl 125 264 [x] h h1 h2 v w) (hI : LI h) : REL h2 := ⟨rel_keep6 pr (LI_6 hI), ro_R rfl rfl rfl hI.1 pr hI.2.2⟩
theorem rel_again (pr : prun sl 126 265 [x] h h1 h2 v w) (hI : LI h) : v = w ∧ REL h2 := ⟨(rel_again6 pr (LI_6 hI)).1, (rel_again6 pr (LI_6 hI)).2, ro_R rfl rfl rfl hI.1 pr hI.2.2⟩
theorem rel_road (pr : prun sl 94 209 [x, y, z] h h1 h2 v w) (hI : LI h) : v = w ∧ REL h2 := ⟨(road_both pr (LI_56 hI) hI.2.2).1, rel_R6 rfl rfl rfl rfl rfl rfl rfl pr (LI_6 hI), (road_both pr (LI_56 hI) hI.2.2).2⟩
end RLU
end MG95zyx0
section MG95zyx1
/-! a pure reader of rules: how far it comes, and whether it is one -/
section ZRD
variable {f : Nat → Int32} {t : Nat}
def zmi (f : Nat → Int32) (t : Nat) : Nat → Nat → Nat
  | 0, p => p
  | k + 1, p => cond (decide (p < t ∧ f p = nI 45)) (zmi f t k (p + 1)) p
def znb (f : Nat → Int32) (t : Nat) : Nat → Nat → Nat
  | 0, p => p
  | k + 1, p => cond (dg f p t) (znb f t k (p + 1)) p
def zlet (x : Int32) : Bool := decide (x = nI 119 ∨ x = nI 107 ∨ x = nI 114 ∨ x = nI 115 ∨ x = nI 104 ∨ x = nI 101 ∨ x = nI 100)
def zlev (o : Nat) (x : Int32) : Bool := cond (Nat.beq o 0) (decide (x = nI 60 ∨ x = nI 61 ∨ x = nI 62)) (cond (Nat.beq o 1) (decide (x = nI 43 ∨ x = nI 45)) (decide (x = nI 42 ∨ x = nI 47)))
def zlp (st : Nat → Bool × Nat) (f : Nat → Int32) (t o : Nat) : Nat → Nat → Bool × Nat
  | 0, p => (true, p)
  | k + 1, p => cond (decide (p < t) && zlev o (f p)) (cond (st (p + 1)).1 (zlp st f t o k (st (p + 1)).2) (false, (st (p + 1)).2)) (true, p)
def zth (st : Nat → Bool × Nat) (f : Nat → Int32) (t ns q : Nat) : Bool × Nat := cond (dg f q t) (true, znb f t 3 q) (cond (decide (q < t) && zlet (f q)) (true, q + 1) (cond (decide (q < t ∧ f q = nI 40) && decide (ns < 4)) (cond ((st (q + 1)).1 && decide ((st (q + 1)).2 < t ∧ f (st (q + 1)).2 = nI 41)) (true, (st (q + 1)).2 + 1) (false, (st (q + 1)).2)) (false, q)))
def pz (f : Nat → Int32) (t : Nat) : Nat → Nat → Nat → Nat → Bool × Nat
  | 0, _, _, p => (false, p)
  | m + 1, o, ns, p => cond (Nat.ble 3 o) (zth (pz f t m 0 (ns + 1)) f t ns (zmi f t 40 p)) (cond (pz f t m (o + 1) ns p).1 (zlp (pz f t m (o + 1) ns) f t o (cond (Nat.beq o 0) 1 40) (pz f t m (o + 1) ns p).2) (false, (pz f t m (o + 1) ns p).2))
theorem zmi_le : ∀ (k p : Nat), p ≤ t → zmi f t k p ≤ t
  | 0, _, h => h
  | k + 1, p, h => by
    show cond (decide (p < t ∧ f p = nI 45)) (zmi f t k (p + 1)) p ≤ t
    by_cases z : p < t ∧ f p = nI 45
    · rw [decide_eq_true z]
      exact zmi_le k (p + 1) (by omega)
    · rw [decide_eq_false z]
      exact h
theorem znb_le : ∀ (k p : Nat), p ≤ t → znb f t k p ≤ t
  | 0, _, h => h
  | k + 1, p, h => by
    show cond (dg f p t) (znb f t k (p + 1)) p ≤ t
    cases z : dg f p t with
    | true => exact znb_le k (p + 1) (dg_lt z)
    | false => exact h
theorem zlp_le {st : Nat → Bool × Nat} {o : Nat} (hs : ∀ q, q ≤ t → (st q).2 ≤ t) : ∀ (k p : Nat), p ≤ t → (zlp st f t o k p).2 ≤ t
  | 0, _, h => h
  | k + 1, p, h => by
    show (cond (decide (p < t) && zlev o (f p)) (cond (st (p + 1)).1 (zlp st f t o k (st (p + 1)).2) (false, (st (p + 1)).2)) (true, p)).2 ≤ t
    by_cases z : p < t
    · cases zlev o (f p) with
      | true =>
        rw [decide_eq_true z]
        have h2 := hs (p + 1) (by omega)
        cases zs : (st (p + 1)).1 with
        | true => exact zlp_le hs k _ h2
        | false => exact h2
      | false =>
        rw [Bool.and_false]
        exact h
    · rw [decide_eq_false z]
      exact h
theorem zth_le {st : Nat → Bool × Nat} {ns q : Nat} (hs : ∀ q, q ≤ t → (st q).2 ≤ t) (hq : q ≤ t) : (zth st f t ns q).2 ≤ t := by
  unfold zth
  cases dg f q t with
  | true => exact znb_le 3 q hq
  | false =>
    by_cases z : q < t
    · rw [decide_eq_true z]
      cases zlet (f q) with
      | true => exact z
      | false =>
        cases decide (q < t ∧ f q = nI 40) && decide (ns < 4) with
        | true =>
          have h2 := hs (q + 1) (by omega)
          cases (st (q + 1)).1 with
          | true =>
            by_cases y : (st (q + 1)).2 < t ∧ f (st (q + 1)).2 = nI 41
            · rw [decide_eq_true y]
              exact y.1
            · rw [decide_eq_false y]
              exact h2
          | false => exact h2
        | false => exact hq
    · rw [decide_eq_false z, decide_eq_false (fun y => z y.1)]
      exact hq
theorem pz_le : ∀ (m o ns p : Nat), p ≤ t → (pz f t m o ns p).2 ≤ t
  | 0, _, _, _, h => h
  | m + 1, o, ns, p, h => by
    show (cond (Nat.ble 3 o) (zth (pz f t m 0 (ns + 1)) f t ns (zmi f t 40 p)) (cond (pz f t m (o + 1) ns p).1 (zlp (pz f t m (o + 1) ns) f t o (cond (Nat.beq o 0) 1 40) (pz f t m (o + 1) ns p).2) (false, (pz f t m (o + 1) ns p).2))).2 ≤ t
    cases Nat.ble 3 o with
    | true => exact zth_le (fun q hq => pz_le m 0 (ns + 1) q hq) (zmi_le 40 p h)
    | false =>
      have h2 := pz_le m (o + 1) ns p h
      cases (pz f t m (o + 1) ns p).1 with
      | true => exact zlp_le (fun q hq => pz_le m (o + 1) ns q hq) _ _ h2
      | false => exact h2
end ZRD
/-! the class's reader: signs, steps -/
section ZRX
variable {n fr lo sl n0 cc o p : Nat} {h : pm_H} {R : pm_Rs} {f : Nat → Int32} {x v : Int32}
def rX (h : pm_H) (o p : Nat) : Prop := ∃ rs, h o = .inr (6, rs) ∧ rs[4]? = some (.ref 1) ∧ rs[5]? = some (.int (nI p))
def qX (h : pm_H) (o p n0 cc : Nat) (f : Nat → Int32) : Prop := rX h o p ∧ pX h n0 cc f
def oOk (o : Nat) : Prop := o < 198 ∧ o ≠ 0 ∧ o ≠ 1 ∧ o ≠ 2 ∧ o ≠ 5
theorem qX_mk {p' : Nat} {rs : List Value} {w : Value} (ho : oOk o) (e : h o = .inr (6, rs)) (e2 : rs[4]? = some (.ref 1)) (e3 : rs[5]? = some w) (px : pX h n0 cc f) : qX (va_up h o (.inr (6, rs.set 5 (.int (nI p'))))) o p' n0 cc f := by
  obtain ⟨⟨fs, a1, a2⟩, ⟨gs, b1, b2⟩, c1, ss, d1, d2⟩ := px
  have ne : ∀ a, a ≠ o → va_up h o (.inr (6, rs.set 5 (.int (nI p')))) a = h a := fun a z => by simp [va_up, z]
  refine ⟨⟨rs.set 5 (.int (nI p')), by simp [va_up], ?_, ?_⟩, ⟨fs, (ne 0 (Ne.symm ho.2.1)).trans a1, a2⟩, ⟨gs, (ne 1 (Ne.symm ho.2.2.1)).trans b1, b2⟩, (ne 2 (Ne.symm ho.2.2.2.1)).trans c1, ss, (ne 5 (Ne.symm ho.2.2.2.2)).trans d1, d2⟩
  · rw [List.getElem?_set_ne (by decide)]
    exact e2
  · rw [List.getElem?_set_self (List.getElem?_eq_some_iff.mp e3).1]
theorem qX_at {p' : Nat} {rs : List Value} (ho : oOk o) (e : h o = .inr (6, rs)) (q : qX h o p n0 cc f) : qX (va_up h o (.inr (6, rs.set 5 (.int (nI p'))))) o p' n0 cc f := by
  obtain ⟨⟨rs', e1, e2, e3⟩, px⟩ := q
  rw [e] at e1
  cases e1
  exact qX_mk ho e e2 e3 px
def z6P (ci g : Nat) : Bool := (Nat.beq ci 6 && (Nat.beq g 4 || Nat.beq g 5)) || ((Nat.beq ci 10 && (Nat.beq g 0 || Nat.beq g 2)) || ((Nat.beq ci 8 && Nat.ble g 1) || (Nat.beq ci 3 && Nat.beq g 0)))
def z6K (k : Nat) : Bool := Nat.beq k 60
theorem z6_ok : sf_ok z6P z6K := sf_of (N := [60]) (fun k h => by rw [Nat.eq_of_beq_eq_true h]; decide) (by decide +kernel)
theorem z6_ak : ak_ok 1 z6K := ak_of (N := [60]) (fun k h => by rw [Nat.eq_of_beq_eq_true h]; decide) (by decide +kernel)
theorem qX_fm {h' : pm_H} (a : fm (sfF z6P) h h') (b : akp 1 h h') (q : qX h o p n0 cc f) : qX h' o p n0 cc f := by
  obtain ⟨⟨rs, e1, e2, e3⟩, ⟨fs, a1, a2, a3⟩, ⟨gs, b1, b2, b3⟩, c1, ss, d1, d2⟩ := q
  obtain ⟨rs', r1, -, r2⟩ := a.2 o 6 rs e1
  obtain ⟨fs', f1, -, f2⟩ := a.2 0 10 fs a1
  obtain ⟨gs', g1, -, g2⟩ := a.2 1 8 gs b1
  obtain ⟨ss', s1, -, s2⟩ := a.2 5 3 ss d1
  exact ⟨⟨rs', r1, (r2 4 rfl).trans e2, (r2 5 rfl).trans e3⟩, ⟨fs', f1, (f2 0 rfl).trans a2, (f2 2 rfl).trans a3⟩, ⟨gs', g1, (g2 0 rfl).trans b2, (g2 1 rfl).trans b3⟩, b 2 _ c1, ss', s1, (s2 0 rfl).trans d2⟩
/-- a step is told -/
theorem em_run (q : qX h o p n0 cc f) (hh : pm_run PT n fr lo 60 (0, pm_l0 [.ref o, .int v] 2, [], h, 198, sl) = some R) : R.1 = none ∧ qX R.2.1 o p n0 cc f ∧ R.2.2 = (198, sl) := by
  have a := sf_run z6_ok _ _ _ 60 _ R rfl hh
  have b := ak_run (by decide) z6_ak _ _ _ 60 _ R rfl hh
  have c := sz_run z6_ok _ _ _ 60 _ R rfl hh
  exact ⟨vd_run rfl hh, qX_fm a b q, c⟩
theorem ns_run (ho : oOk o) (hn : n0 ≤ 80) (hp : p < 1000) (q : qX h o p n0 cc f) (hh : pm_run PT n fr lo 61 (0, pm_l0 [.ref o] 1, [], h, 198, sl) = some R) : R = (some (.int (sgA f n0 p 40)), h, 198, sl) := by
  obtain ⟨⟨rs, e0, e4, e5⟩, px⟩ := q
  obtain ⟨n, hh⟩ := rn_i rfl rfl rfl rfl hh
  obtain ⟨n, hh⟩ := rn_gfo (g := 4) rfl rfl ho.1 e0 e4 hh
  obtain ⟨n, hh⟩ := rn_i rfl rfl rfl rfl hh
  obtain ⟨n, hh⟩ := rn_gfo (g := 5) rfl rfl ho.1 e0 e5 hh
  obtain ⟨n, hh⟩ := rn_i rfl rfl rfl rfl hh
  have hh : pm_run PT n fr lo 61 (10, [some (.ref o)], [.int (nI 40), .int (nI p), .ref 1], h, 198, sl) = some R := hh
  obtain ⟨n, fr', lo', r1, hr1, hh⟩ := rn_call (w := 0) (t := 80) rfl rfl hh
  have er := sgA_run hn (by decide) hp px hr1
  subst er
  exact (rn_ret rfl (Or.inl rfl) hh).2
theorem rn_tsw {k pc len tt : Nat} {L : pm_L} {S : List Value} {d lw hg : Int} {offs : Array Int} (hi : pm_ins PT k pc = some (.tableswitch d lw hg offs, len)) (ht : pm_tgt pc d = some tt) (z : x.toInt < lw ∨ hg < x.toInt) (hh : pm_run PT n fr lo k (pc, L, .int x :: S, h, 198, sl) = some R) : ∃ m, pm_run PT m fr lo k (tt, L, S, h, 198, sl) = some R := by
  refine rn_i hi rfl rfl ?_ hh
  show (if x.toInt < lw ∨ hg < x.toInt then pm_jp pc d L S h 198 sl else _) = _
  rw [if_pos z]
  unfold pm_jp
  rw [ht]
def lvV (x : Int32) : Int32 := if 42 ≤ x.toInt ∧ x.toInt ≤ 62 then (if x = nI 42 ∨ x = nI 47 then 2 else if x = nI 43 ∨ x = nI 45 then 1 else if x = nI 60 ∨ x = nI 61 ∨ x = nI 62 then 0 else Int32.ofInt (-1)) else Int32.ofInt (-1)
def ltV (x : Int32) : Int32 := if 100 ≤ x.toInt ∧ x.toInt ≤ 119 then (if x = nI 119 then 0 else if x = nI 107 then 1 else if x = nI 114 then 2 else if x = nI 115 then 3 else if x = nI 104 then 4 else if x = nI 101 then 5 else if x = nI 100 then 6 else Int32.ofInt (-1)) else Int32.ofInt (-1)
theorem lvx_run (hh : pm_run PT n fr lo 63 (0, pm_l0 [.int x] 1, [], h, 198, sl) = some R) : R = (some (.int (lvV x)), h, 198, sl) := by
  obtain ⟨n, hh⟩ := rn_i rfl rfl rfl rfl hh
  by_cases z : x.toInt < 42 ∨ 62 < x.toInt
  · have ev : lvV x = Int32.ofInt (-1) := by
      unfold lvV
      rw [if_neg (by omega)]
    obtain ⟨n, hh⟩ := rn_tsw (tt := 106) rfl rfl z hh
    obtain ⟨n, hh⟩ := rn_i rfl rfl rfl rfl hh
    rw [ev]
    exact (rn_ret rfl (Or.inl rfl) hh).2
  · have hx : ∃ j, 42 ≤ j ∧ j ≤ 62 ∧ x = nI j := by
      obtain ⟨j, e, -, ej⟩ := hI_of (show 0 ≤ x.toInt by omega)
      exact ⟨j, by omega, by omega, e⟩
    obtain ⟨j, j1, j2, rfl⟩ := hx
    have hj : j = 42 ∨ j = 43 ∨ j = 44 ∨ j = 45 ∨ j = 46 ∨ j = 47 ∨ j = 48 ∨ j = 49 ∨ j = 50 ∨ j = 51 ∨ j = 52 ∨ j = 53 ∨ j = 54 ∨ j = 55 ∨ j = 56 ∨ j = 57 ∨ j = 58 ∨ j = 59 ∨ j = 60 ∨ j = 61 ∨ j = 62 := by omega
    rcases hj with rfl | rfl | rfl | rfl | rfl | rfl | rfl | rfl | rfl | rfl | rfl | rfl | rfl | rfl | rfl | rfl | rfl | rfl | rfl | rfl | rfl
    all_goals
      obtain ⟨n, hh⟩ := rn_i rfl rfl rfl rfl hh
      obtain ⟨n, hh⟩ := rn_i rfl rfl rfl rfl hh
      exact (rn_ret rfl (Or.inl rfl) hh).2
theorem ltx_run (hh : pm_run PT n fr lo 67 (0, pm_l0 [.int x] 1, [], h, 198, sl) = some R) : R = (some (.int (ltV x)), h, 198, sl) := by
  obtain ⟨n, hh⟩ := rn_i rfl rfl rfl rfl hh
  by_cases z : x.toInt < 100 ∨ 119 < x.toInt
  · have ev : ltV x = Int32.ofInt (-1) := by
      unfold ltV
      rw [if_neg (by omega)]
    obtain ⟨n, hh⟩ := rn_tsw (tt := 111) rfl rfl z hh
    obtain ⟨n, hh⟩ := rn_i rfl rfl rfl rfl hh
    rw [ev]
    exact (rn_ret rfl (Or.inl rfl) hh).2
  · have hx : ∃ j, 100 ≤ j ∧ j ≤ 119 ∧ x = nI j := by
      obtain ⟨j, e, -, ej⟩ := hI_of (show 0 ≤ x.toInt by omega)
      exact ⟨j, by omega, by omega, e⟩
    obtain ⟨j, j1, j2, rfl⟩ := hx
    have hj : j = 100 ∨ j = 101 ∨ j = 102 ∨ j = 103 ∨ j = 104 ∨ j = 105 ∨ j = 106 ∨ j = 107 ∨ j = 108 ∨ j = 109 ∨ j = 110 ∨ j = 111 ∨ j = 112 ∨ j = 113 ∨ j = 114 ∨ j = 115 ∨ j = 116 ∨ j = 117 ∨ j = 118 ∨ j = 119 := by omega
    rcases hj with rfl | rfl | rfl | rfl | rfl | rfl | rfl | rfl | rfl | rfl | rfl | rfl | rfl | rfl | rfl | rfl | rfl | rfl | rfl | rfl
    all_goals
      obtain ⟨n, hh⟩ := rn_i rfl rfl rfl rfl hh
      obtain ⟨n, hh⟩ := rn_i rfl rfl rfl rfl hh
      exact (rn_ret rfl (Or.inl rfl) hh).2
theorem m1_ne {c : Nat} (hc : c < 1000) : ¬ Int32.ofInt (-1) = nI c := fun e => by
  have e := congrArg Int32.toInt e
  rw [nI_toInt (by omega), show (Int32.ofInt (-1)).toInt = -1 by decide] at e
  omega
theorem sg_is {c : Nat} (hc : c < 1000) : (sgA f n0 p 40 = nI c) ↔ (p < min n0 40 ∧ f p = nI c) := by
  unfold sgA
  by_cases z : p < min n0 40
  · rw [decide_eq_true z]
    exact ⟨fun e => ⟨z, e⟩, fun e => e.2⟩
  · rw [decide_eq_false z]
    exact ⟨fun e => absurd e (m1_ne hc), fun e => absurd e.1 z⟩
theorem sg_ne {c : Nat} (hc : c < 1000) : pm_cmp .ne (sgA f n0 p 40) (nI c) = !decide (p < min n0 40 ∧ f p = nI c) := by
  simp only [pm_cmp]
  by_cases z : p < min n0 40 ∧ f p = nI c
  · rw [decide_eq_true z, decide_eq_false (fun q => q ((sg_is hc).mpr z))]
    rfl
  · rw [decide_eq_false z, decide_eq_true (show ¬ sgA f n0 p 40 = nI c from fun q => z ((sg_is hc).mp q))]
    rfl
theorem sg_eq {c : Nat} (hc : c < 1000) : pm_cmp .eq (sgA f n0 p 40) (nI c) = decide (p < min n0 40 ∧ f p = nI c) := by
  simp only [pm_cmp]
  by_cases z : p < min n0 40 ∧ f p = nI c
  · rw [decide_eq_true z, decide_eq_true ((sg_is hc).mpr z)]
  · rw [decide_eq_false z, decide_eq_false (fun q => z ((sg_is hc).mp q))]
/-- a digit stands there -/
theorem sg_dg (z : dg f p (min n0 40) = true) : pm_cmp .lt (sgA f n0 p 40) (nI 48) = false ∧ pm_cmp .gt (sgA f n0 p 40) (nI 57) = false := by
  have hl := dg_lt z
  obtain ⟨-, h1, h2⟩ := dg_iv z
  unfold sgA
  rw [decide_eq_true hl]
  constructor
  · exact decide_eq_false (fun q => by rw [Int32.lt_iff_toInt_lt] at q; rw [show (nI 48).toInt = 48 by decide] at q; have q : (f p).toInt < 48 := q; omega)
  · exact decide_eq_false (fun q => by rw [Int32.lt_iff_toInt_lt] at q; rw [show (nI 57).toInt = 57 by decide] at q; have q : 57 < (f p).toInt := q; omega)
theorem sg_nd (z : dg f p (min n0 40) = false) (y : pm_cmp .lt (sgA f n0 p 40) (nI 48) = false) : pm_cmp .gt (sgA f n0 p 40) (nI 57) = true := by
  unfold sgA at y ⊢
  by_cases a : p < min n0 40
  · rw [decide_eq_true a] at y ⊢
    have y : pm_cmp .lt (f p) (nI 48) = false := y
    show pm_cmp .gt (f p) (nI 57) = true
    cases q : pm_cmp .gt (f p) (nI 57) with
    | true => rfl
    | false =>
      have := dg_in y q
      unfold dg at z
      rw [decide_eq_true a, this] at z
      cases z
  · rw [decide_eq_false a] at y
    have y : pm_cmp .lt (Int32.ofInt (-1)) (nI 48) = false := y
    exact absurd y (by decide)
theorem sg_lt {x : Int32} (z : zlet x = false) : pm_cmp .lt (ltV x) 0 = true := by
  have z := of_decide_eq_false z
  have e : ltV x = Int32.ofInt (-1) := by
    unfold ltV
    by_cases a : 100 ≤ x.toInt ∧ x.toInt ≤ 119
    · rw [if_pos a, if_neg (fun q => z (Or.inl q)), if_neg (fun q => z (Or.inr (Or.inl q))), if_neg (fun q => z (Or.inr (Or.inr (Or.inl q)))), if_neg (fun q => z (Or.inr (Or.inr (Or.inr (Or.inl q))))), if_neg (fun q => z (Or.inr (Or.inr (Or.inr (Or.inr (Or.inl q)))))), if_neg (fun q => z (Or.inr (Or.inr (Or.inr (Or.inr (Or.inr (Or.inl q))))))), if_neg (fun q => z (Or.inr (Or.inr (Or.inr (Or.inr (Or.inr (Or.inr q)))))))]
    · rw [if_neg a]
  rw [e]
  decide
theorem sg_lt1 {x : Int32} (z : zlet x = true) : pm_cmp .lt (ltV x) 0 = false := by
  have z := of_decide_eq_true z
  rcases z with rfl | rfl | rfl | rfl | rfl | rfl | rfl <;> decide +kernel
theorem zlet_m1 : zlet (Int32.ofInt (-1)) = false := by decide +kernel
/-- is it a letter -/
theorem sg_let : pm_cmp .lt (ltV (sgA f n0 p 40)) 0 = !(decide (p < min n0 40) && zlet (f p)) := by
  unfold sgA
  by_cases a : p < min n0 40
  · rw [decide_eq_true a]
    show pm_cmp .lt (ltV (f p)) 0 = !(true && zlet (f p))
    cases z : zlet (f p) with
    | true => rw [sg_lt1 z]; rfl
    | false => rw [sg_lt z]; rfl
  · rw [decide_eq_false a]
    show pm_cmp .lt (ltV (Int32.ofInt (-1))) 0 = !(false && zlet (f p))
    rw [sg_lt zlet_m1]
    rfl
theorem zl_in {o : Nat} {x : Int32} (ho : o < 3) (z : zlev o x = true) : lvV x = nI o := by
  have hj : o = 0 ∨ o = 1 ∨ o = 2 := by omega
  rcases hj with rfl | rfl | rfl
  · have z : x = nI 60 ∨ x = nI 61 ∨ x = nI 62 := of_decide_eq_true z
    rcases z with rfl | rfl | rfl <;> decide +kernel
  · have z : x = nI 43 ∨ x = nI 45 := of_decide_eq_true z
    rcases z with rfl | rfl <;> decide +kernel
  · have z : x = nI 42 ∨ x = nI 47 := of_decide_eq_true z
    rcases z with rfl | rfl <;> decide +kernel
theorem zl_out {o : Nat} {x : Int32} (ho : o < 3) (z : zlev o x = false) : ¬ lvV x = nI o := by
  have n2 : ¬ (2 : Int32) = nI 0 ∧ ¬ (2 : Int32) = nI 1 ∧ ¬ (1 : Int32) = nI 0 ∧ ¬ (1 : Int32) = nI 2 ∧ ¬ (0 : Int32) = nI 1 ∧ ¬ (0 : Int32) = nI 2 := by decide +kernel
  have m0 := m1_ne (c := 0) (by decide)
  have m1 := m1_ne (c := 1) (by decide)
  have m2 := m1_ne (c := 2) (by decide)
  unfold lvV
  have hj : o = 0 ∨ o = 1 ∨ o = 2 := by omega
  by_cases a : 42 ≤ x.toInt ∧ x.toInt ≤ 62
  · rw [if_pos a]
    by_cases a2 : x = nI 42 ∨ x = nI 47
    · rw [if_pos a2]
      rcases hj with rfl | rfl | rfl
      · exact n2.1
      · exact n2.2.1
      · exact absurd a2 (of_decide_eq_false z)
    · rw [if_neg a2]
      by_cases a1 : x = nI 43 ∨ x = nI 45
      · rw [if_pos a1]
        rcases hj with rfl | rfl | rfl
        · exact n2.2.2.1
        · exact absurd a1 (of_decide_eq_false z)
        · exact n2.2.2.2.1
      · rw [if_neg a1]
        by_cases a0 : x = nI 60 ∨ x = nI 61 ∨ x = nI 62
        · rw [if_pos a0]
          rcases hj with rfl | rfl | rfl
          · exact absurd a0 (of_decide_eq_false z)
          · exact n2.2.2.2.2.1
          · exact n2.2.2.2.2.2
        · rw [if_neg a0]
          rcases hj with rfl | rfl | rfl
          · exact m0
          · exact m1
          · exact m2
  · rw [if_neg a]
    rcases hj with rfl | rfl | rfl
    · exact m0
    · exact m1
    · exact m2
theorem zlev_m1 {o : Nat} (ho : o < 3) : zlev o (Int32.ofInt (-1)) = false := by
  have hj : o = 0 ∨ o = 1 ∨ o = 2 := by omega
  rcases hj with rfl | rfl | rfl <;> decide +kernel
theorem sg_lev {o : Nat} (ho : o < 3) : pm_cmp .ne (lvV (sgA f n0 p 40)) (nI o) = !(decide (p < min n0 40) && zlev o (f p)) := by
  simp only [pm_cmp]
  unfold sgA
  by_cases a : p < min n0 40
  · rw [decide_eq_true a]
    show decide (¬ lvV (f p) = nI o) = !(true && zlev o (f p))
    cases z : zlev o (f p) with
    | true => rw [decide_eq_false (fun q => q (zl_in ho z))]; rfl
    | false => rw [decide_eq_true (zl_out ho z)]; rfl
  · rw [decide_eq_false a]
    show decide (¬ lvV (Int32.ofInt (-1)) = nI o) = !(false && zlev o (f p))
    rw [decide_eq_true (zl_out ho (zlev_m1 ho))]
    rfl
end ZRX
end MG95zyx1
section MG95zyx2
/-! the pure reader: more room does nothing -/
section ZRE
variable {f : Nat → Int32} {t : Nat}
theorem zmi_fix : ∀ (k p : Nat), t ≤ p + k → zmi f t (k + 1) p = zmi f t k p
  | 0, p, h => by
    show cond (decide (p < t ∧ f p = nI 45)) (zmi f t 0 (p + 1)) p = p
    rw [decide_eq_false (fun q => by omega)]
    rfl
  | k + 1, p, h => by
    show cond (decide (p < t ∧ f p = nI 45)) (zmi f t (k + 1) (p + 1)) p = cond (decide (p < t ∧ f p = nI 45)) (zmi f t k (p + 1)) p
    rw [zmi_fix k (p + 1) (by omega)]
theorem zmi_ge : ∀ (k p : Nat), p ≤ zmi f t k p
  | 0, _ => Nat.le_refl _
  | k + 1, p => by
    show p ≤ cond (decide (p < t ∧ f p = nI 45)) (zmi f t k (p + 1)) p
    have := zmi_ge k (p + 1)
    cases decide (p < t ∧ f p = nI 45) with
    | true => exact Nat.le_trans (by omega) this
    | false => exact Nat.le_refl _
theorem znb_ge : ∀ (k p : Nat), p ≤ znb f t k p
  | 0, _ => Nat.le_refl _
  | k + 1, p => by
    show p ≤ cond (dg f p t) (znb f t k (p + 1)) p
    have := znb_ge k (p + 1)
    cases dg f p t with
    | true => exact Nat.le_trans (by omega) this
    | false => exact Nat.le_refl _
theorem zlp_ge {st : Nat → Bool × Nat} {o : Nat} (hs : ∀ q, q ≤ (st q).2) : ∀ (k p : Nat), p ≤ (zlp st f t o k p).2
  | 0, _ => Nat.le_refl _
  | k + 1, p => by
    show p ≤ (cond (decide (p < t) && zlev o (f p)) (cond (st (p + 1)).1 (zlp st f t o k (st (p + 1)).2) (false, (st (p + 1)).2)) (true, p)).2
    have h1 := hs (p + 1)
    cases decide (p < t) && zlev o (f p) with
    | false => exact Nat.le_refl _
    | true =>
      cases (st (p + 1)).1 with
      | false =>
        show p ≤ (st (p + 1)).2
        omega
      | true =>
        have h2 := zlp_ge (o := o) hs k (st (p + 1)).2
        show p ≤ (zlp st f t o k (st (p + 1)).2).2
        omega
theorem zth_ge {st : Nat → Bool × Nat} {ns q : Nat} (hs : ∀ q, q ≤ (st q).2) : q ≤ (zth st f t ns q).2 := by
  unfold zth
  have h1 := hs (q + 1)
  cases dg f q t with
  | true => exact znb_ge 3 q
  | false =>
    cases decide (q < t) && zlet (f q) with
    | true => exact Nat.le_succ q
    | false =>
      cases decide (q < t ∧ f q = nI 40) && decide (ns < 4) with
      | false => exact Nat.le_refl _
      | true =>
        cases (st (q + 1)).1 && decide ((st (q + 1)).2 < t ∧ f (st (q + 1)).2 = nI 41) with
        | true =>
          show q ≤ (st (q + 1)).2 + 1
          omega
        | false =>
          show q ≤ (st (q + 1)).2
          omega
theorem pz_ge : ∀ (m o ns p : Nat), p ≤ (pz f t m o ns p).2
  | 0, _, _, _ => Nat.le_refl _
  | m + 1, o, ns, p => by
    show p ≤ (cond (Nat.ble 3 o) (zth (pz f t m 0 (ns + 1)) f t ns (zmi f t 40 p)) (cond (pz f t m (o + 1) ns p).1 (zlp (pz f t m (o + 1) ns) f t o (cond (Nat.beq o 0) 1 40) (pz f t m (o + 1) ns p).2) (false, (pz f t m (o + 1) ns p).2))).2
    have h1 := pz_ge m (o + 1) ns p
    cases Nat.ble 3 o with
    | true => exact Nat.le_trans (zmi_ge 40 p) (zth_ge (fun q => pz_ge m 0 (ns + 1) q))
    | false =>
      cases (pz f t m (o + 1) ns p).1 with
      | true => exact Nat.le_trans h1 (zlp_ge (fun q => pz_ge m (o + 1) ns q) _ _)
      | false => exact h1
theorem nbr_z {tp : Nat → Int32} : ∀ (k a : Nat) (v : Int32), (nbr tp t k a v).1 = znb tp t k a
  | 0, _, _ => rfl
  | k + 1, a, v => by
    show (cond (dg tp a t) (nbr tp t k (a + 1) (10 * v + tp a - 48)) (a, v)).1 = cond (dg tp a t) (znb tp t k (a + 1)) a
    cases dg tp a t with
    | true => exact nbr_z k (a + 1) _
    | false => rfl
end ZRE
/-! the reference's reader: steps -/
section ZRM
variable {n fr lo sl p t ns : Nat} {h : pm_H} {R : pm_Rs} {tp : Nat → Int32} {v : Int32} {v18 : Value}
theorem nI_pr1 (n : Nat) : nI (n + 1) - Int32.ofInt 1 = nI n := by
  rw [show nI (n + 1) = nI n + Int32.ofInt 1 from Int32.ofNat_add n 1]
  exact Int32.add_sub_cancel _ _
def qM (h : pm_H) (p t : Nat) (tp : Nat → Int32) : Prop := (mF h 16 (.int (nI p)) ∧ mF h 17 (.int (nI t)) ∧ mF h 14 (.ref 172) ∧ h 172 = .inl (0, 80, .inl tp)) ∧ mF h 22 (.ref 175) ∧ ∃ c : Int32, mF h 24 (.int c)
theorem qM_16 {p' : Nat} (q : qM h p t tp) : qM (mset h 16 (.int (nI p'))) p' t tp := by
  obtain ⟨⟨a1, a2, a3, a4⟩, a5, c, a6⟩ := q
  exact ⟨⟨mF_self a1, mF_ne (by decide) a2, mF_ne (by decide) a3, mset_arr (by decide) a4⟩, mF_ne (by decide) a5, c, mF_ne (by decide) a6⟩
theorem qM_18 {w : Value} (q : qM h p t tp) : qM (mset h 18 w) p t tp := by
  obtain ⟨⟨a1, a2, a3, a4⟩, a5, c, a6⟩ := q
  exact ⟨⟨mF_ne (by decide) a1, mF_ne (by decide) a2, mF_ne (by decide) a3, mset_arr (by decide) a4⟩, mF_ne (by decide) a5, c, mF_ne (by decide) a6⟩
theorem cod_run (q : qM h p t tp) (hh : pm_run PT n fr lo 193 (0, pm_l0 [.ref 162, .int v] 2, [], h, 198, sl) = some R) : R.1 = none ∧ qM R.2.1 p t tp ∧ (∀ w, mF h 18 w → mF R.2.1 18 w) ∧ R.2.2 = (198, sl) := by
  obtain ⟨⟨a1, a2, a3, a4⟩, a5, c, a6⟩ := q
  obtain ⟨n, hh⟩ := rn_i rfl rfl rfl rfl hh
  obtain ⟨n, hh⟩ := rn_gfm rfl rfl a5 hh
  obtain ⟨n, hh⟩ := rn_i rfl rfl rfl rfl hh
  obtain ⟨n, hh⟩ := rn_gfm rfl rfl a6 hh
  obtain ⟨n, hh⟩ := rn_i rfl rfl rfl rfl hh
  have hh : pm_run PT n fr lo 193 (9, [some (.ref 162), some (.int v)], [.int v, .int c, .ref 175], h, 198, sl) = some R := hh
  obtain ⟨n, kd, q, f1, hh⟩ := rn_isx rfl hh
  have b1 := up_mF (a := 175) (e := .inl (kd, q, .inl f1)) (by decide) a1
  have b2 := up_mF (a := 175) (e := .inl (kd, q, .inl f1)) (by decide) a2
  have b3 := up_mF (a := 175) (e := .inl (kd, q, .inl f1)) (by decide) a3
  have b4 : va_up h 175 (.inl (kd, q, .inl f1)) 172 = .inl (0, 80, .inl tp) := (up_ne (by decide)).trans a4
  have b5 := up_mF (a := 175) (e := .inl (kd, q, .inl f1)) (by decide) a5
  have b6 := up_mF (a := 175) (e := .inl (kd, q, .inl f1)) (by decide) a6
  have b8 : ∀ w, mF h 18 w → mF (va_up h 175 (.inl (kd, q, .inl f1))) 18 w := fun w hw => up_mF (by decide) hw
  generalize va_up h 175 (.inl (kd, q, .inl f1)) = h1 at hh b1 b2 b3 b4 b5 b6 b8
  have hh : pm_run PT n fr lo 193 (10, [some (.ref 162), some (.int v)], [], h1, 198, sl) = some R := hh
  obtain ⟨n, hh⟩ := rn_i rfl rfl rfl rfl hh
  obtain ⟨n, hh⟩ := rn_i rfl rfl rfl rfl hh
  obtain ⟨n, hh⟩ := rn_gfm rfl rfl b6 hh
  obtain ⟨n, hh⟩ := rn_i rfl rfl rfl rfl hh
  obtain ⟨n, hh⟩ := rn_i rfl rfl rfl rfl hh
  have hh : pm_run PT n fr lo 193 (17, [some (.ref 162), some (.int v)], [.int (c + 1), .ref 162], h1, 198, sl) = some R := hh
  obtain ⟨n, hh⟩ := rn_pfm (w := .int c) rfl rfl rfl (by decide) b6 hh
  have e := rn_vret rfl rfl hh
  rw [e]
  exact ⟨rfl, ⟨⟨mF_ne (by decide) b1, mF_ne (by decide) b2, mF_ne (by decide) b3, mset_arr (by decide) b4⟩, mF_ne (by decide) b5, _, mF_self b6⟩, fun w hw => mF_ne (by decide) (b8 w hw), rfl⟩
theorem tk_run {c : Nat} (ht : t ≤ 40) (hp : p ≤ t) (q : qM h p t tp) (hh : pm_run PT n fr lo 181 (0, pm_l0 [.ref 162, .int (nI c)] 3, [], h, 198, sl) = some R) : R = (some (.int (cond (decide (p < t ∧ tp p = nI c)) 1 0)), mset h 16 (.int (nI (p + cond (decide (p < t ∧ tp p = nI c)) 1 0))), 198, sl) := by
  have e := rn_dt (F := 10) (Lo := 1000) (hd_takes (fr := 10) (lo := 1000) (sl := sl) q.1.1 q.1.2.1 q.1.2.2.1 q.1.2.2.2 (by omega) (by omega) (by omega) (by omega) (nI c)) hh
  exact e
theorem ig_run (ht : t ≤ 40) (hp : p ≤ t) (q : qM h p t tp) (hh : pm_run PT n fr lo 182 (0, pm_l0 [.ref 162] 1, [], h, 198, sl) = some R) : R = (some (.int (cond (dg tp p t) 1 0)), h, 198, sl) := by
  have e := rn_dt (F := 10) (Lo := 1000) (hd_isDigit (fr := 10) (lo := 1000) (sl := sl) q.1.1 q.1.2.1 q.1.2.2.1 q.1.2.2.2 (by omega) (by omega) (by omega) (by omega)) hh
  exact e
theorem to_run {i : Nat} (hi : i < 5) (ht : t ≤ 40) (hp : p ≤ t) (q : qM h p t tp) (hh : pm_run PT n fr lo 183 (0, pm_l0 [.ref 162, .retAddr i] 3, [], h, 198, sl) = some R) : R = tkr h p sl (tko i tp p t (st_tx i).length 0) := by
  have e := rn_dt (F := 10) (Lo := 1000) (hd_takesOf (fr := 10) (lo := 1000) (sl := sl) q.1.1 q.1.2.1 q.1.2.2.1 q.1.2.2.2 (by omega) (by omega) (by omega) (by omega) hi) hh
  exact e
theorem tk_let (hl : p < t) : (tko 0 tp p t 7 0).isSome = zlet (tp p) := by
  have c0 : (st_tx 0).getD 0 0 = nI 119 := by decide +kernel
  have c1 : (st_tx 0).getD 1 0 = nI 107 := by decide +kernel
  have c2 : (st_tx 0).getD 2 0 = nI 114 := by decide +kernel
  have c3 : (st_tx 0).getD 3 0 = nI 115 := by decide +kernel
  have c4 : (st_tx 0).getD 4 0 = nI 104 := by decide +kernel
  have c5 : (st_tx 0).getD 5 0 = nI 101 := by decide +kernel
  have c6 : (st_tx 0).getD 6 0 = nI 100 := by decide +kernel
  show (cond (decide (p < t) && decide ((st_tx 0).getD 0 0 = tp p)) (some 0) (cond (decide (p < t) && decide ((st_tx 0).getD 1 0 = tp p)) (some 1) (cond (decide (p < t) && decide ((st_tx 0).getD 2 0 = tp p)) (some 2) (cond (decide (p < t) && decide ((st_tx 0).getD 3 0 = tp p)) (some 3) (cond (decide (p < t) && decide ((st_tx 0).getD 4 0 = tp p)) (some 4) (cond (decide (p < t) && decide ((st_tx 0).getD 5 0 = tp p)) (some 5) (cond (decide (p < t) && decide ((st_tx 0).getD 6 0 = tp p)) (some 6) none))))))).isSome = zlet (tp p)
  rw [decide_eq_true hl, c0, c1, c2, c3, c4, c5, c6]
  by_cases e0 : nI 119 = tp p
  · rw [decide_eq_true e0, show zlet (tp p) = true from decide_eq_true (Or.inl e0.symm)]
    rfl
  · rw [decide_eq_false e0]
    by_cases e1 : nI 107 = tp p
    · rw [decide_eq_true e1, show zlet (tp p) = true from decide_eq_true (Or.inr (Or.inl e1.symm))]
      rfl
    · rw [decide_eq_false e1]
      by_cases e2 : nI 114 = tp p
      · rw [decide_eq_true e2, show zlet (tp p) = true from decide_eq_true (Or.inr (Or.inr (Or.inl e2.symm)))]
        rfl
      · rw [decide_eq_false e2]
        by_cases e3 : nI 115 = tp p
        · rw [decide_eq_true e3, show zlet (tp p) = true from decide_eq_true (Or.inr (Or.inr (Or.inr (Or.inl e3.symm))))]
          rfl
        · rw [decide_eq_false e3]
          by_cases e4 : nI 104 = tp p
          · rw [decide_eq_true e4, show zlet (tp p) = true from decide_eq_true (Or.inr (Or.inr (Or.inr (Or.inr (Or.inl e4.symm)))))]
            rfl
          · rw [decide_eq_false e4]
            by_cases e5 : nI 101 = tp p
            · rw [decide_eq_true e5, show zlet (tp p) = true from decide_eq_true (Or.inr (Or.inr (Or.inr (Or.inr (Or.inr (Or.inl e5.symm))))))]
              rfl
            · rw [decide_eq_false e5]
              by_cases e6 : nI 100 = tp p
              · rw [decide_eq_true e6, show zlet (tp p) = true from decide_eq_true (Or.inr (Or.inr (Or.inr (Or.inr (Or.inr (Or.inr (e6.symm)))))))]
                rfl
              · rw [decide_eq_false e6]
                rw [show zlet (tp p) = false from decide_eq_false (fun q => by
                  rcases q with q | q | q | q | q | q | q
                  · exact e0 q.symm
                  · exact e1 q.symm
                  · exact e2 q.symm
                  · exact e3 q.symm
                  · exact e4 q.symm
                  · exact e5 q.symm
                  · exact e6 q.symm
                  )]
                rfl
theorem tk_l0 (hl : p < t) : (tko 1 tp p t 3 0).isSome = zlev 0 (tp p) := by
  have c0 : (st_tx 1).getD 0 0 = nI 60 := by decide +kernel
  have c1 : (st_tx 1).getD 1 0 = nI 62 := by decide +kernel
  have c2 : (st_tx 1).getD 2 0 = nI 61 := by decide +kernel
  show (cond (decide (p < t) && decide ((st_tx 1).getD 0 0 = tp p)) (some 0) (cond (decide (p < t) && decide ((st_tx 1).getD 1 0 = tp p)) (some 1) (cond (decide (p < t) && decide ((st_tx 1).getD 2 0 = tp p)) (some 2) none))).isSome = zlev 0 (tp p)
  rw [decide_eq_true hl, c0, c1, c2]
  by_cases e0 : nI 60 = tp p
  · rw [decide_eq_true e0, show zlev 0 (tp p) = true from decide_eq_true (Or.inl e0.symm)]
    rfl
  · rw [decide_eq_false e0]
    by_cases e1 : nI 62 = tp p
    · rw [decide_eq_true e1, show zlev 0 (tp p) = true from decide_eq_true (Or.inr (Or.inr (e1.symm)))]
      rfl
    · rw [decide_eq_false e1]
      by_cases e2 : nI 61 = tp p
      · rw [decide_eq_true e2, show zlev 0 (tp p) = true from decide_eq_true (Or.inr (Or.inl e2.symm))]
        rfl
      · rw [decide_eq_false e2]
        rw [show zlev 0 (tp p) = false from decide_eq_false (fun q => by
          rcases q with q | q | q
          · exact e0 q.symm
          · exact e2 q.symm
          · exact e1 q.symm
          )]
        rfl
theorem tk_l1 (hl : p < t) : (tko 2 tp p t 2 0).isSome = zlev 1 (tp p) := by
  have c0 : (st_tx 2).getD 0 0 = nI 43 := by decide +kernel
  have c1 : (st_tx 2).getD 1 0 = nI 45 := by decide +kernel
  show (cond (decide (p < t) && decide ((st_tx 2).getD 0 0 = tp p)) (some 0) (cond (decide (p < t) && decide ((st_tx 2).getD 1 0 = tp p)) (some 1) none)).isSome = zlev 1 (tp p)
  rw [decide_eq_true hl, c0, c1]
  by_cases e0 : nI 43 = tp p
  · rw [decide_eq_true e0, show zlev 1 (tp p) = true from decide_eq_true (Or.inl e0.symm)]
    rfl
  · rw [decide_eq_false e0]
    by_cases e1 : nI 45 = tp p
    · rw [decide_eq_true e1, show zlev 1 (tp p) = true from decide_eq_true (Or.inr (e1.symm))]
      rfl
    · rw [decide_eq_false e1]
      rw [show zlev 1 (tp p) = false from decide_eq_false (fun q => by
        rcases q with q | q
        · exact e0 q.symm
        · exact e1 q.symm
        )]
      rfl
theorem tk_l2 (hl : p < t) : (tko 3 tp p t 2 0).isSome = zlev 2 (tp p) := by
  have c0 : (st_tx 3).getD 0 0 = nI 42 := by decide +kernel
  have c1 : (st_tx 3).getD 1 0 = nI 47 := by decide +kernel
  show (cond (decide (p < t) && decide ((st_tx 3).getD 0 0 = tp p)) (some 0) (cond (decide (p < t) && decide ((st_tx 3).getD 1 0 = tp p)) (some 1) none)).isSome = zlev 2 (tp p)
  rw [decide_eq_true hl, c0, c1]
  by_cases e0 : nI 42 = tp p
  · rw [decide_eq_true e0, show zlev 2 (tp p) = true from decide_eq_true (Or.inl e0.symm)]
    rfl
  · rw [decide_eq_false e0]
    by_cases e1 : nI 47 = tp p
    · rw [decide_eq_true e1, show zlev 2 (tp p) = true from decide_eq_true (Or.inr (e1.symm))]
      rfl
    · rw [decide_eq_false e1]
      rw [show zlev 2 (tp p) = false from decide_eq_false (fun q => by
        rcases q with q | q
        · exact e0 q.symm
        · exact e1 q.symm
        )]
      rfl
theorem tk_no {i n : Nat} (hl : ¬ p < t) : (tko i tp p t n 0).isSome = false := by
  rw [tko_end hl]
  rfl
end ZRM
end MG95zyx2
section MG95zyx3
/-! the pure reader looks at the text alone -/
section ZRC
variable {f g : Nat → Int32} {t : Nat}
theorem dg_cg (hf : ∀ j, j < t → f j = g j) (p : Nat) : dg f p t = dg g p t := by
  unfold dg
  by_cases z : p < t
  · rw [hf p z]
  · rw [decide_eq_false z, Bool.false_and, Bool.false_and]
theorem eq_cg (hf : ∀ j, j < t → f j = g j) (p : Nat) (c : Int32) : decide (p < t ∧ f p = c) = decide (p < t ∧ g p = c) := by
  by_cases z : p < t
  · rw [hf p z]
  · rw [decide_eq_false (fun q => z q.1), decide_eq_false (fun q => z q.1)]
theorem an_cg {b : Int32 → Bool} (hf : ∀ j, j < t → f j = g j) (p : Nat) : (decide (p < t) && b (f p)) = (decide (p < t) && b (g p)) := by
  by_cases z : p < t
  · rw [hf p z]
  · rw [decide_eq_false z, Bool.false_and, Bool.false_and]
theorem zmi_cg (hf : ∀ j, j < t → f j = g j) : ∀ (k p : Nat), zmi f t k p = zmi g t k p
  | 0, _ => rfl
  | k + 1, p => by
    show cond (decide (p < t ∧ f p = nI 45)) (zmi f t k (p + 1)) p = cond (decide (p < t ∧ g p = nI 45)) (zmi g t k (p + 1)) p
    rw [eq_cg hf, zmi_cg hf k]
theorem znb_cg (hf : ∀ j, j < t → f j = g j) : ∀ (k p : Nat), znb f t k p = znb g t k p
  | 0, _ => rfl
  | k + 1, p => by
    show cond (dg f p t) (znb f t k (p + 1)) p = cond (dg g p t) (znb g t k (p + 1)) p
    rw [dg_cg hf, znb_cg hf k]
theorem zlp_cg {st : Nat → Bool × Nat} {o : Nat} (hf : ∀ j, j < t → f j = g j) : ∀ (k p : Nat), zlp st f t o k p = zlp st g t o k p
  | 0, _ => rfl
  | k + 1, p => by
    show cond (decide (p < t) && zlev o (f p)) (cond (st (p + 1)).1 (zlp st f t o k (st (p + 1)).2) (false, (st (p + 1)).2)) (true, p) = cond (decide (p < t) && zlev o (g p)) (cond (st (p + 1)).1 (zlp st g t o k (st (p + 1)).2) (false, (st (p + 1)).2)) (true, p)
    rw [an_cg (b := zlev o) hf, zlp_cg hf k]
theorem zth_cg {st : Nat → Bool × Nat} {ns : Nat} (hf : ∀ j, j < t → f j = g j) (q : Nat) : zth st f t ns q = zth st g t ns q := by
  unfold zth
  rw [dg_cg hf, znb_cg hf, an_cg (b := zlet) hf, eq_cg hf q, eq_cg hf (st (q + 1)).2]
theorem pz_cg (hf : ∀ j, j < t → f j = g j) : ∀ (m o ns : Nat), pz f t m o ns = pz g t m o ns
  | 0, _, _ => rfl
  | m + 1, o, ns => by
    funext p
    show cond (Nat.ble 3 o) (zth (pz f t m 0 (ns + 1)) f t ns (zmi f t 40 p)) (cond (pz f t m (o + 1) ns p).1 (zlp (pz f t m (o + 1) ns) f t o (cond (Nat.beq o 0) 1 40) (pz f t m (o + 1) ns p).2) (false, (pz f t m (o + 1) ns p).2)) = cond (Nat.ble 3 o) (zth (pz g t m 0 (ns + 1)) g t ns (zmi g t 40 p)) (cond (pz g t m (o + 1) ns p).1 (zlp (pz g t m (o + 1) ns) g t o (cond (Nat.beq o 0) 1 40) (pz g t m (o + 1) ns p).2) (false, (pz g t m (o + 1) ns p).2))
    rw [pz_cg hf m 0 (ns + 1), pz_cg hf m (o + 1) ns, zth_cg hf, zmi_cg hf, zlp_cg hf]
end ZRC
/-! rule of both sides -/
section ZRR
variable {n fr lo sl n0 cc o : Nat} {h h1 h2 : pm_H} {R : pm_Rs} {f tp : Nat → Int32} {v w : Int32}
/-- where the class's reader finds a fault -/
def zF (f : Nat → Int32) (n0 : Nat) : Int32 := if n0 = 0 then Int32.ofInt (-1) else cond ((pz f (min n0 40) 20 0 0 0).1 && decide ((pz f (min n0 40) 20 0 0 0).2 = n0)) (Int32.ofInt (-1)) (nI (pz f (min n0 40) 20 0 0 0).2)
def zA (f : Nat → Int32) (n0 : Nat) : Int32 := if n0 = 0 then Int32.ofInt 0 else cond ((pz f (min n0 40) 20 0 0 0).1 && decide ((pz f (min n0 40) 20 0 0 0).2 = n0)) (Int32.ofInt 0) (Int32.ofInt (-1) - nI (pz f (min n0 40) 20 0 0 0).2)
theorem qX_sz {p : Nat} {w : Value} {rs : List Value} (ho : oOk o) (e : h o = .inr (6, rs)) (q : qX h o p n0 cc f) : qX (va_up h o (.inr (6, rs.set 1 w))) o p n0 cc f := by
  obtain ⟨⟨rs', e1, e2, e3⟩, ⟨fs, a1, a2⟩, ⟨gs, b1, b2⟩, c1, ss, d1, d2⟩ := q
  rw [e] at e1
  cases e1
  have ne : ∀ a, a ≠ o → va_up h o (.inr (6, rs.set 1 w)) a = h a := fun a z => by simp [va_up, z]
  refine ⟨⟨rs.set 1 w, by simp [va_up], ?_, ?_⟩, ⟨fs, (ne 0 (Ne.symm ho.2.1)).trans a1, a2⟩, ⟨gs, (ne 1 (Ne.symm ho.2.2.1)).trans b1, b2⟩, (ne 2 (Ne.symm ho.2.2.2.1)).trans c1, ss, (ne 5 (Ne.symm ho.2.2.2.2)).trans d1, d2⟩
  · rw [List.getElem?_set_ne (by decide)]
    exact e2
  · rw [List.getElem?_set_ne (by decide)]
    exact e3
theorem hI_ne2 {a b : Nat} (ha : a < 2 ^ 31) (hb : b < 2 ^ 31) : pm_cmp .ne (nI a) (nI b) = decide (¬ a = b) := by
  simp only [pm_cmp]
  rw [decide_eq_decide]
  refine not_congr ⟨fun e => ?_, fun e => by rw [e]⟩
  have e := congrArg Int32.toInt e
  rw [nI_toInt ha, nI_toInt hb] at e
  omega
theorem ty_ru {a : Nat} {as : List av} {b1 b5 : av} (hh : ah_ok bB 198 [] h) (ha : a < 198) (hb : bB a = .inr (6, as)) (h4 : as[4]? = some (2, ((1 : Nat) : Int), 1)) (h1 : as[1]? = some b1) (z1 : b1.1 = 0) (h5 : as[5]? = some b5) (z5 : b5.1 = 0) : ∃ (rs : List Value) (w5 s1 : Int32), h a = .inr (6, rs) ∧ rs[4]? = some (.ref 1) ∧ rs[5]? = some (.int w5) ∧ rs[1]? = some (.int s1) := by
  have h0 : ac_ok (h a) (bB a) := hh a ha
  rw [hb] at h0
  obtain ⟨rs, e, hl, hv⟩ := aE_obj h0 (by decide)
  have g4 := ty_or hh ha hb (by decide) h4 rfl e
  have l1 : 1 < rs.length := by rw [hl]; exact (List.getElem?_eq_some_iff.mp h1).1
  have l5 : 5 < rs.length := by rw [hl]; exact (List.getElem?_eq_some_iff.mp h5).1
  obtain ⟨x1, q1, -⟩ := av_int z1 (hv 1 _ _ (List.getElem?_eq_getElem l1) h1)
  obtain ⟨x5, q5, -⟩ := av_int z5 (hv 5 _ _ (List.getElem?_eq_getElem l5) h5)
  exact ⟨rs, x5, x1, e, g4, by rw [List.getElem?_eq_getElem l5, q5], by rw [List.getElem?_eq_getElem l1, q1]⟩
end ZRR
end MG95zyx3
