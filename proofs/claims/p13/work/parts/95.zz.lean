/-! a pure reader of rules: how far it comes, and whether it is one -/
section ZRD
variable {f : Nat → Int32} {t : Nat}
def zmi (f : Nat → Int32) (t : Nat) : Nat → Nat → Nat
  | 0, p => p
  | k + 1, p => cond (decide (p < t ∧ f p = nI 45)) (zmi f t k (p + 1)) p
def znb (f : Nat → Int32) (t : Nat) : Nat → Nat → Nat
  | 0, p => p
  | k + 1, p => cond (dg f p t) (znb f t k (p + 1)) p
def zlet (x : Int32) : Bool := decide (x = nI 119 ∨ x = nI 107 ∨ x = nI 114 ∨ x = nI 115 ∨ x = nI 104 ∨ x = nI 101 ∨ x = nI 100)
def zlev (o : Nat) (x : Int32) : Bool := cond (Nat.beq o 0) (decide (x = nI 60 ∨ x = nI 61 ∨ x = nI 62)) (cond (Nat.beq o 1) (decide (x = nI 43 ∨ x = nI 45)) (decide (x = nI 42 ∨ x = nI 47)))
def zlp (st : Nat → Bool × Nat) (f : Nat → Int32) (t o : Nat) : Nat → Nat → Bool × Nat
  | 0, p => (true, p)
  | k + 1, p => cond (decide (p < t) && zlev o (f p)) (cond (st (p + 1)).1 (zlp st f t o k (st (p + 1)).2) (false, (st (p + 1)).2)) (true, p)
def zth (st : Nat → Bool × Nat) (f : Nat → Int32) (t ns q : Nat) : Bool × Nat := cond (dg f q t) (true, znb f t 3 q) (cond (decide (q < t) && zlet (f q)) (true, q + 1) (cond (decide (q < t ∧ f q = nI 40) && decide (ns < 4)) (cond ((st (q + 1)).1 && decide ((st (q + 1)).2 < t ∧ f (st (q + 1)).2 = nI 41)) (true, (st (q + 1)).2 + 1) (false, (st (q + 1)).2)) (false, q)))
def pz (f : Nat → Int32) (t : Nat) : Nat → Nat → Nat → Nat → Bool × Nat
  | 0, _, _, p => (false, p)
  | m + 1, o, ns, p => cond (Nat.ble 3 o) (zth (pz f t m 0 (ns + 1)) f t ns (zmi f t 40 p)) (cond (pz f t m (o + 1) ns p).1 (zlp (pz f t m (o + 1) ns) f t o (cond (Nat.beq o 0) 1 40) (pz f t m (o + 1) ns p).2) (false, (pz f t m (o + 1) ns p).2))
theorem zmi_le : ∀ (k p : Nat), p ≤ t → zmi f t k p ≤ t
  | 0, _, h => h
  | k + 1, p, h => by
    show cond (decide (p < t ∧ f p = nI 45)) (zmi f t k (p + 1)) p ≤ t
    by_cases z : p < t ∧ f p = nI 45
    · rw [decide_eq_true z]
      exact zmi_le k (p + 1) (by omega)
    · rw [decide_eq_false z]
      exact h
theorem znb_le : ∀ (k p : Nat), p ≤ t → znb f t k p ≤ t
  | 0, _, h => h
  | k + 1, p, h => by
    show cond (dg f p t) (znb f t k (p + 1)) p ≤ t
    cases z : dg f p t with
    | true => exact znb_le k (p + 1) (dg_lt z)
    | false => exact h
theorem zlp_le {st : Nat → Bool × Nat} {o : Nat} (hs : ∀ q, q ≤ t → (st q).2 ≤ t) : ∀ (k p : Nat), p ≤ t → (zlp st f t o k p).2 ≤ t
  | 0, _, h => h
  | k + 1, p, h => by
    show (cond (decide (p < t) && zlev o (f p)) (cond (st (p + 1)).1 (zlp st f t o k (st (p + 1)).2) (false, (st (p + 1)).2)) (true, p)).2 ≤ t
    by_cases z : p < t
    · cases zlev o (f p) with
      | true =>
        rw [decide_eq_true z]
        have h2 := hs (p + 1) (by omega)
        cases zs : (st (p + 1)).1 with
        | true => exact zlp_le hs k _ h2
        | false => exact h2
      | false =>
        rw [Bool.and_false]
        exact h
    · rw [decide_eq_false z]
      exact h
theorem zth_le {st : Nat → Bool × Nat} {ns q : Nat} (hs : ∀ q, q ≤ t → (st q).2 ≤ t) (hq : q ≤ t) : (zth st f t ns q).2 ≤ t := by
  unfold zth
  cases dg f q t with
  | true => exact znb_le 3 q hq
  | false =>
    by_cases z : q < t
    · rw [decide_eq_true z]
      cases zlet (f q) with
      | true => exact z
      | false =>
        cases decide (q < t ∧ f q = nI 40) && decide (ns < 4) with
        | true =>
          have h2 := hs (q + 1) (by omega)
          cases (st (q + 1)).1 with
          | true =>
            by_cases y : (st (q + 1)).2 < t ∧ f (st (q + 1)).2 = nI 41
            · rw [decide_eq_true y]
              exact y.1
            · rw [decide_eq_false y]
              exact h2
          | false => exact h2
        | false => exact hq
    · rw [decide_eq_false z, decide_eq_false (fun y => z y.1)]
      exact hq
theorem pz_le : ∀ (m o ns p : Nat), p ≤ t → (pz f t m o ns p).2 ≤ t
  | 0, _, _, _, h => h
  | m + 1, o, ns, p, h => by
    show (cond (Nat.ble 3 o) (zth (pz f t m 0 (ns + 1)) f t ns (zmi f t 40 p)) (cond (pz f t m (o + 1) ns p).1 (zlp (pz f t m (o + 1) ns) f t o (cond (Nat.beq o 0) 1 40) (pz f t m (o + 1) ns p).2) (false, (pz f t m (o + 1) ns p).2))).2 ≤ t
    cases Nat.ble 3 o with
    | true => exact zth_le (fun q hq => pz_le m 0 (ns + 1) q hq) (zmi_le 40 p h)
    | false =>
      have h2 := pz_le m (o + 1) ns p h
      cases (pz f t m (o + 1) ns p).1 with
      | true => exact zlp_le (fun q hq => pz_le m (o + 1) ns q hq) _ _ h2
      | false => exact h2
end ZRD
/-! the class's reader: signs, steps -/
section ZRX
variable {n fr lo sl n0 cc o p : Nat} {h : pm_H} {R : pm_Rs} {f : Nat → Int32} {x v : Int32}
def rX (h : pm_H) (o p : Nat) : Prop := ∃ rs, h o = .inr (6, rs) ∧ rs[4]? = some (.ref 1) ∧ rs[5]? = some (.int (nI p))
def qX (h : pm_H) (o p n0 cc : Nat) (f : Nat → Int32) : Prop := rX h o p ∧ pX h n0 cc f
def oOk (o : Nat) : Prop := o < 198 ∧ o ≠ 0 ∧ o ≠ 1 ∧ o ≠ 2 ∧ o ≠ 5
theorem qX_mk {p' : Nat} {rs : List Value} {w : Value} (ho : oOk o) (e : h o = .inr (6, rs)) (e2 : rs[4]? = some (.ref 1)) (e3 : rs[5]? = some w) (px : pX h n0 cc f) : qX (va_up h o (.inr (6, rs.set 5 (.int (nI p'))))) o p' n0 cc f := by
  obtain ⟨⟨fs, a1, a2⟩, ⟨gs, b1, b2⟩, c1, ss, d1, d2⟩ := px
  have ne : ∀ a, a ≠ o → va_up h o (.inr (6, rs.set 5 (.int (nI p')))) a = h a := fun a z => by simp [va_up, z]
  refine ⟨⟨rs.set 5 (.int (nI p')), by simp [va_up], ?_, ?_⟩, ⟨fs, (ne 0 (Ne.symm ho.2.1)).trans a1, a2⟩, ⟨gs, (ne 1 (Ne.symm ho.2.2.1)).trans b1, b2⟩, (ne 2 (Ne.symm ho.2.2.2.1)).trans c1, ss, (ne 5 (Ne.symm ho.2.2.2.2)).trans d1, d2⟩
  · rw [List.getElem?_set_ne (by decide)]
    exact e2
  · rw [List.getElem?_set_self (List.getElem?_eq_some_iff.mp e3).1]
theorem qX_at {p' : Nat} {rs : List Value} (ho : oOk o) (e : h o = .inr (6, rs)) (q : qX h o p n0 cc f) : qX (va_up h o (.inr (6, rs.set 5 (.int (nI p'))))) o p' n0 cc f := by
  obtain ⟨⟨rs', e1, e2, e3⟩, px⟩ := q
  rw [e] at e1
  cases e1
  exact qX_mk ho e e2 e3 px
def z6P (ci g : Nat) : Bool := (Nat.beq ci 6 && (Nat.beq g 4 || Nat.beq g 5)) || ((Nat.beq ci 10 && (Nat.beq g 0 || Nat.beq g 2)) || ((Nat.beq ci 8 && Nat.ble g 1) || (Nat.beq ci 3 && Nat.beq g 0)))
def z6K (k : Nat) : Bool := Nat.beq k 60
theorem z6_ok : sf_ok z6P z6K := sf_of (N := [60]) (fun k h => by rw [Nat.eq_of_beq_eq_true h]; decide) (by decide +kernel)
theorem z6_ak : ak_ok 1 z6K := ak_of (N := [60]) (fun k h => by rw [Nat.eq_of_beq_eq_true h]; decide) (by decide +kernel)
theorem qX_fm {h' : pm_H} (a : fm (sfF z6P) h h') (b : akp 1 h h') (q : qX h o p n0 cc f) : qX h' o p n0 cc f := by
  obtain ⟨⟨rs, e1, e2, e3⟩, ⟨fs, a1, a2, a3⟩, ⟨gs, b1, b2, b3⟩, c1, ss, d1, d2⟩ := q
  obtain ⟨rs', r1, -, r2⟩ := a.2 o 6 rs e1
  obtain ⟨fs', f1, -, f2⟩ := a.2 0 10 fs a1
  obtain ⟨gs', g1, -, g2⟩ := a.2 1 8 gs b1
  obtain ⟨ss', s1, -, s2⟩ := a.2 5 3 ss d1
  exact ⟨⟨rs', r1, (r2 4 rfl).trans e2, (r2 5 rfl).trans e3⟩, ⟨fs', f1, (f2 0 rfl).trans a2, (f2 2 rfl).trans a3⟩, ⟨gs', g1, (g2 0 rfl).trans b2, (g2 1 rfl).trans b3⟩, b 2 _ c1, ss', s1, (s2 0 rfl).trans d2⟩
/-- a step is told -/
theorem em_run (q : qX h o p n0 cc f) (hh : pm_run PT n fr lo 60 (0, pm_l0 [.ref o, .int v] 2, [], h, 198, sl) = some R) : R.1 = none ∧ qX R.2.1 o p n0 cc f ∧ R.2.2 = (198, sl) := by
  have a := sf_run z6_ok _ _ _ 60 _ R rfl hh
  have b := ak_run (by decide) z6_ak _ _ _ 60 _ R rfl hh
  have c := sz_run z6_ok _ _ _ 60 _ R rfl hh
  exact ⟨vd_run rfl hh, qX_fm a b q, c⟩
theorem ns_run (ho : oOk o) (hn : n0 ≤ 80) (hp : p < 1000) (q : qX h o p n0 cc f) (hh : pm_run PT n fr lo 61 (0, pm_l0 [.ref o] 1, [], h, 198, sl) = some R) : R = (some (.int (sgA f n0 p 40)), h, 198, sl) := by
  obtain ⟨⟨rs, e0, e4, e5⟩, px⟩ := q
  obtain ⟨n, hh⟩ := rn_i rfl rfl rfl rfl hh
  obtain ⟨n, hh⟩ := rn_gfo (g := 4) rfl rfl ho.1 e0 e4 hh
  obtain ⟨n, hh⟩ := rn_i rfl rfl rfl rfl hh
  obtain ⟨n, hh⟩ := rn_gfo (g := 5) rfl rfl ho.1 e0 e5 hh
  obtain ⟨n, hh⟩ := rn_i rfl rfl rfl rfl hh
  have hh : pm_run PT n fr lo 61 (10, [some (.ref o)], [.int (nI 40), .int (nI p), .ref 1], h, 198, sl) = some R := hh
  obtain ⟨n, fr', lo', r1, hr1, hh⟩ := rn_call (w := 0) (t := 80) rfl rfl hh
  have er := sgA_run hn (by decide) hp px hr1
  subst er
  exact (rn_ret rfl (Or.inl rfl) hh).2
theorem rn_tsw {k pc len tt : Nat} {L : pm_L} {S : List Value} {d lw hg : Int} {offs : Array Int} (hi : pm_ins PT k pc = some (.tableswitch d lw hg offs, len)) (ht : pm_tgt pc d = some tt) (z : x.toInt < lw ∨ hg < x.toInt) (hh : pm_run PT n fr lo k (pc, L, .int x :: S, h, 198, sl) = some R) : ∃ m, pm_run PT m fr lo k (tt, L, S, h, 198, sl) = some R := by
  refine rn_i hi rfl rfl ?_ hh
  show (if x.toInt < lw ∨ hg < x.toInt then pm_jp pc d L S h 198 sl else _) = _
  rw [if_pos z]
  unfold pm_jp
  rw [ht]
def lvV (x : Int32) : Int32 := if 42 ≤ x.toInt ∧ x.toInt ≤ 62 then (if x = nI 42 ∨ x = nI 47 then 2 else if x = nI 43 ∨ x = nI 45 then 1 else if x = nI 60 ∨ x = nI 61 ∨ x = nI 62 then 0 else Int32.ofInt (-1)) else Int32.ofInt (-1)
def ltV (x : Int32) : Int32 := if 100 ≤ x.toInt ∧ x.toInt ≤ 119 then (if x = nI 119 then 0 else if x = nI 107 then 1 else if x = nI 114 then 2 else if x = nI 115 then 3 else if x = nI 104 then 4 else if x = nI 101 then 5 else if x = nI 100 then 6 else Int32.ofInt (-1)) else Int32.ofInt (-1)
theorem lvx_run (hh : pm_run PT n fr lo 63 (0, pm_l0 [.int x] 1, [], h, 198, sl) = some R) : R = (some (.int (lvV x)), h, 198, sl) := by
  obtain ⟨n, hh⟩ := rn_i rfl rfl rfl rfl hh
  by_cases z : x.toInt < 42 ∨ 62 < x.toInt
  · have ev : lvV x = Int32.ofInt (-1) := by
      unfold lvV
      rw [if_neg (by omega)]
    obtain ⟨n, hh⟩ := rn_tsw (tt := 106) rfl rfl z hh
    obtain ⟨n, hh⟩ := rn_i rfl rfl rfl rfl hh
    rw [ev]
    exact (rn_ret rfl (Or.inl rfl) hh).2
  · have hx : ∃ j, 42 ≤ j ∧ j ≤ 62 ∧ x = nI j := by
      obtain ⟨j, e, -, ej⟩ := hI_of (show 0 ≤ x.toInt by omega)
      exact ⟨j, by omega, by omega, e⟩
    obtain ⟨j, j1, j2, rfl⟩ := hx
    have hj : j = 42 ∨ j = 43 ∨ j = 44 ∨ j = 45 ∨ j = 46 ∨ j = 47 ∨ j = 48 ∨ j = 49 ∨ j = 50 ∨ j = 51 ∨ j = 52 ∨ j = 53 ∨ j = 54 ∨ j = 55 ∨ j = 56 ∨ j = 57 ∨ j = 58 ∨ j = 59 ∨ j = 60 ∨ j = 61 ∨ j = 62 := by omega
    rcases hj with rfl | rfl | rfl | rfl | rfl | rfl | rfl | rfl | rfl | rfl | rfl | rfl | rfl | rfl | rfl | rfl | rfl | rfl | rfl | rfl | rfl
    all_goals
      obtain ⟨n, hh⟩ := rn_i rfl rfl rfl rfl hh
      obtain ⟨n, hh⟩ := rn_i rfl rfl rfl rfl hh
      exact (rn_ret rfl (Or.inl rfl) hh).2
theorem ltx_run (hh : pm_run PT n fr lo 67 (0, pm_l0 [.int x] 1, [], h, 198, sl) = some R) : R = (some (.int (ltV x)), h, 198, sl) := by
  obtain ⟨n, hh⟩ := rn_i rfl rfl rfl rfl hh
  by_cases z : x.toInt < 100 ∨ 119 < x.toInt
  · have ev : ltV x = Int32.ofInt (-1) := by
      unfold ltV
      rw [if_neg (by omega)]
    obtain ⟨n, hh⟩ := rn_tsw (tt := 111) rfl rfl z hh
    obtain ⟨n, hh⟩ := rn_i rfl rfl rfl rfl hh
    rw [ev]
    exact (rn_ret rfl (Or.inl rfl) hh).2
  · have hx : ∃ j, 100 ≤ j ∧ j ≤ 119 ∧ x = nI j := by
      obtain ⟨j, e, -, ej⟩ := hI_of (show 0 ≤ x.toInt by omega)
      exact ⟨j, by omega, by omega, e⟩
    obtain ⟨j, j1, j2, rfl⟩ := hx
    have hj : j = 100 ∨ j = 101 ∨ j = 102 ∨ j = 103 ∨ j = 104 ∨ j = 105 ∨ j = 106 ∨ j = 107 ∨ j = 108 ∨ j = 109 ∨ j = 110 ∨ j = 111 ∨ j = 112 ∨ j = 113 ∨ j = 114 ∨ j = 115 ∨ j = 116 ∨ j = 117 ∨ j = 118 ∨ j = 119 := by omega
    rcases hj with rfl | rfl | rfl | rfl | rfl | rfl | rfl | rfl | rfl | rfl | rfl | rfl | rfl | rfl | rfl | rfl | rfl | rfl | rfl | rfl
    all_goals
      obtain ⟨n, hh⟩ := rn_i rfl rfl rfl rfl hh
      obtain ⟨n, hh⟩ := rn_i rfl rfl rfl rfl hh
      exact (rn_ret rfl (Or.inl rfl) hh).2
theorem m1_ne {c : Nat} (hc : c < 1000) : ¬ Int32.ofInt (-1) = nI c := fun e => by
  have e := congrArg Int32.toInt e
  rw [nI_toInt (by omega), show (Int32.ofInt (-1)).toInt = -1 by decide] at e
  omega
theorem sg_is {c : Nat} (hc : c < 1000) : (sgA f n0 p 40 = nI c) ↔ (p < min n0 40 ∧ f p = nI c) := by
  unfold sgA
  by_cases z : p < min n0 40
  · rw [decide_eq_true z]
    exact ⟨fun e => ⟨z, e⟩, fun e => e.2⟩
  · rw [decide_eq_false z]
    exact ⟨fun e => absurd e (m1_ne hc), fun e => absurd e.1 z⟩
theorem sg_ne {c : Nat} (hc : c < 1000) : pm_cmp .ne (sgA f n0 p 40) (nI c) = !decide (p < min n0 40 ∧ f p = nI c) := by
  simp only [pm_cmp]
  by_cases z : p < min n0 40 ∧ f p = nI c
  · rw [decide_eq_true z, decide_eq_false (fun q => q ((sg_is hc).mpr z))]
    rfl
  · rw [decide_eq_false z, decide_eq_true (show ¬ sgA f n0 p 40 = nI c from fun q => z ((sg_is hc).mp q))]
    rfl
theorem sg_eq {c : Nat} (hc : c < 1000) : pm_cmp .eq (sgA f n0 p 40) (nI c) = decide (p < min n0 40 ∧ f p = nI c) := by
  simp only [pm_cmp]
  by_cases z : p < min n0 40 ∧ f p = nI c
  · rw [decide_eq_true z, decide_eq_true ((sg_is hc).mpr z)]
  · rw [decide_eq_false z, decide_eq_false (fun q => z ((sg_is hc).mp q))]
/-- a digit stands there -/
theorem sg_dg (z : dg f p (min n0 40) = true) : pm_cmp .lt (sgA f n0 p 40) (nI 48) = false ∧ pm_cmp .gt (sgA f n0 p 40) (nI 57) = false := by
  have hl := dg_lt z
  obtain ⟨-, h1, h2⟩ := dg_iv z
  unfold sgA
  rw [decide_eq_true hl]
  constructor
  · exact decide_eq_false (fun q => by rw [Int32.lt_iff_toInt_lt] at q; rw [show (nI 48).toInt = 48 by decide] at q; have q : (f p).toInt < 48 := q; omega)
  · exact decide_eq_false (fun q => by rw [Int32.lt_iff_toInt_lt] at q; rw [show (nI 57).toInt = 57 by decide] at q; have q : 57 < (f p).toInt := q; omega)
theorem sg_nd (z : dg f p (min n0 40) = false) (y : pm_cmp .lt (sgA f n0 p 40) (nI 48) = false) : pm_cmp .gt (sgA f n0 p 40) (nI 57) = true := by
  unfold sgA at y ⊢
  by_cases a : p < min n0 40
  · rw [decide_eq_true a] at y ⊢
    have y : pm_cmp .lt (f p) (nI 48) = false := y
    show pm_cmp .gt (f p) (nI 57) = true
    cases q : pm_cmp .gt (f p) (nI 57) with
    | true => rfl
    | false =>
      have := dg_in y q
      unfold dg at z
      rw [decide_eq_true a, this] at z
      cases z
  · rw [decide_eq_false a] at y
    have y : pm_cmp .lt (Int32.ofInt (-1)) (nI 48) = false := y
    exact absurd y (by decide)
theorem sg_lt {x : Int32} (z : zlet x = false) : pm_cmp .lt (ltV x) 0 = true := by
  have z := of_decide_eq_false z
  have e : ltV x = Int32.ofInt (-1) := by
    unfold ltV
    by_cases a : 100 ≤ x.toInt ∧ x.toInt ≤ 119
    · rw [if_pos a, if_neg (fun q => z (Or.inl q)), if_neg (fun q => z (Or.inr (Or.inl q))), if_neg (fun q => z (Or.inr (Or.inr (Or.inl q)))), if_neg (fun q => z (Or.inr (Or.inr (Or.inr (Or.inl q))))), if_neg (fun q => z (Or.inr (Or.inr (Or.inr (Or.inr (Or.inl q)))))), if_neg (fun q => z (Or.inr (Or.inr (Or.inr (Or.inr (Or.inr (Or.inl q))))))), if_neg (fun q => z (Or.inr (Or.inr (Or.inr (Or.inr (Or.inr (Or.inr q)))))))]
    · rw [if_neg a]
  rw [e]
  decide
theorem sg_lt1 {x : Int32} (z : zlet x = true) : pm_cmp .lt (ltV x) 0 = false := by
  have z := of_decide_eq_true z
  rcases z with rfl | rfl | rfl | rfl | rfl | rfl | rfl <;> decide +kernel
theorem zlet_m1 : zlet (Int32.ofInt (-1)) = false := by decide +kernel
/-- is it a letter -/
theorem sg_let : pm_cmp .lt (ltV (sgA f n0 p 40)) 0 = !(decide (p < min n0 40) && zlet (f p)) := by
  unfold sgA
  by_cases a : p < min n0 40
  · rw [decide_eq_true a]
    show pm_cmp .lt (ltV (f p)) 0 = !(true && zlet (f p))
    cases z : zlet (f p) with
    | true => rw [sg_lt1 z]; rfl
    | false => rw [sg_lt z]; rfl
  · rw [decide_eq_false a]
    show pm_cmp .lt (ltV (Int32.ofInt (-1))) 0 = !(false && zlet (f p))
    rw [sg_lt zlet_m1]
    rfl
theorem zl_in {o : Nat} {x : Int32} (ho : o < 3) (z : zlev o x = true) : lvV x = nI o := by
  have hj : o = 0 ∨ o = 1 ∨ o = 2 := by omega
  rcases hj with rfl | rfl | rfl
  · have z : x = nI 60 ∨ x = nI 61 ∨ x = nI 62 := of_decide_eq_true z
    rcases z with rfl | rfl | rfl <;> decide +kernel
  · have z : x = nI 43 ∨ x = nI 45 := of_decide_eq_true z
    rcases z with rfl | rfl <;> decide +kernel
  · have z : x = nI 42 ∨ x = nI 47 := of_decide_eq_true z
    rcases z with rfl | rfl <;> decide +kernel
theorem zl_out {o : Nat} {x : Int32} (ho : o < 3) (z : zlev o x = false) : ¬ lvV x = nI o := by
  have n2 : ¬ (2 : Int32) = nI 0 ∧ ¬ (2 : Int32) = nI 1 ∧ ¬ (1 : Int32) = nI 0 ∧ ¬ (1 : Int32) = nI 2 ∧ ¬ (0 : Int32) = nI 1 ∧ ¬ (0 : Int32) = nI 2 := by decide +kernel
  have m0 := m1_ne (c := 0) (by decide)
  have m1 := m1_ne (c := 1) (by decide)
  have m2 := m1_ne (c := 2) (by decide)
  unfold lvV
  have hj : o = 0 ∨ o = 1 ∨ o = 2 := by omega
  by_cases a : 42 ≤ x.toInt ∧ x.toInt ≤ 62
  · rw [if_pos a]
    by_cases a2 : x = nI 42 ∨ x = nI 47
    · rw [if_pos a2]
      rcases hj with rfl | rfl | rfl
      · exact n2.1
      · exact n2.2.1
      · exact absurd a2 (of_decide_eq_false z)
    · rw [if_neg a2]
      by_cases a1 : x = nI 43 ∨ x = nI 45
      · rw [if_pos a1]
        rcases hj with rfl | rfl | rfl
        · exact n2.2.2.1
        · exact absurd a1 (of_decide_eq_false z)
        · exact n2.2.2.2.1
      · rw [if_neg a1]
        by_cases a0 : x = nI 60 ∨ x = nI 61 ∨ x = nI 62
        · rw [if_pos a0]
          rcases hj with rfl | rfl | rfl
          · exact absurd a0 (of_decide_eq_false z)
          · exact n2.2.2.2.2.1
          · exact n2.2.2.2.2.2
        · rw [if_neg a0]
          rcases hj with rfl | rfl | rfl
          · exact m0
          · exact m1
          · exact m2
  · rw [if_neg a]
    rcases hj with rfl | rfl | rfl
    · exact m0
    · exact m1
    · exact m2
theorem zlev_m1 {o : Nat} (ho : o < 3) : zlev o (Int32.ofInt (-1)) = false := by
  have hj : o = 0 ∨ o = 1 ∨ o = 2 := by omega
  rcases hj with rfl | rfl | rfl <;> decide +kernel
theorem sg_lev {o : Nat} (ho : o < 3) : pm_cmp .ne (lvV (sgA f n0 p 40)) (nI o) = !(decide (p < min n0 40) && zlev o (f p)) := by
  simp only [pm_cmp]
  unfold sgA
  by_cases a : p < min n0 40
  · rw [decide_eq_true a]
    show decide (¬ lvV (f p) = nI o) = !(true && zlev o (f p))
    cases z : zlev o (f p) with
    | true => rw [decide_eq_false (fun q => q (zl_in ho z))]; rfl
    | false => rw [decide_eq_true (zl_out ho z)]; rfl
  · rw [decide_eq_false a]
    show decide (¬ lvV (Int32.ofInt (-1)) = nI o) = !(false && zlev o (f p))
    rw [decide_eq_true (zl_out ho (zlev_m1 ho))]
    rfl
end ZRX
