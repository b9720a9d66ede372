/-! the pure reader looks at the text alone -/
section ZRC
variable {f g : Nat → Int32} {t : Nat}
theorem dg_cg (hf : ∀ j, j < t → f j = g j) (p : Nat) : dg f p t = dg g p t := by
  unfold dg
  by_cases z : p < t
  · rw [hf p z]
  · rw [decide_eq_false z, Bool.false_and, Bool.false_and]
theorem eq_cg (hf : ∀ j, j < t → f j = g j) (p : Nat) (c : Int32) : decide (p < t ∧ f p = c) = decide (p < t ∧ g p = c) := by
  by_cases z : p < t
  · rw [hf p z]
  · rw [decide_eq_false (fun q => z q.1), decide_eq_false (fun q => z q.1)]
theorem an_cg {b : Int32 → Bool} (hf : ∀ j, j < t → f j = g j) (p : Nat) : (decide (p < t) && b (f p)) = (decide (p < t) && b (g p)) := by
  by_cases z : p < t
  · rw [hf p z]
  · rw [decide_eq_false z, Bool.false_and, Bool.false_and]
theorem zmi_cg (hf : ∀ j, j < t → f j = g j) : ∀ (k p : Nat), zmi f t k p = zmi g t k p
  | 0, _ => rfl
  | k + 1, p => by
    show cond (decide (p < t ∧ f p = nI 45)) (zmi f t k (p + 1)) p = cond (decide (p < t ∧ g p = nI 45)) (zmi g t k (p + 1)) p
    rw [eq_cg hf, zmi_cg hf k]
theorem znb_cg (hf : ∀ j, j < t → f j = g j) : ∀ (k p : Nat), znb f t k p = znb g t k p
  | 0, _ => rfl
  | k + 1, p => by
    show cond (dg f p t) (znb f t k (p + 1)) p = cond (dg g p t) (znb g t k (p + 1)) p
    rw [dg_cg hf, znb_cg hf k]
theorem zlp_cg {st : Nat → Bool × Nat} {o : Nat} (hf : ∀ j, j < t → f j = g j) : ∀ (k p : Nat), zlp st f t o k p = zlp st g t o k p
  | 0, _ => rfl
  | k + 1, p => by
    show cond (decide (p < t) && zlev o (f p)) (cond (st (p + 1)).1 (zlp st f t o k (st (p + 1)).2) (false, (st (p + 1)).2)) (true, p) = cond (decide (p < t) && zlev o (g p)) (cond (st (p + 1)).1 (zlp st g t o k (st (p + 1)).2) (false, (st (p + 1)).2)) (true, p)
    rw [an_cg (b := zlev o) hf, zlp_cg hf k]
theorem zth_cg {st : Nat → Bool × Nat} {ns : Nat} (hf : ∀ j, j < t → f j = g j) (q : Nat) : zth st f t ns q = zth st g t ns q := by
  unfold zth
  rw [dg_cg hf, znb_cg hf, an_cg (b := zlet) hf, eq_cg hf q, eq_cg hf (st (q + 1)).2]
theorem pz_cg (hf : ∀ j, j < t → f j = g j) : ∀ (m o ns : Nat), pz f t m o ns = pz g t m o ns
  | 0, _, _ => rfl
  | m + 1, o, ns => by
    funext p
    show cond (Nat.ble 3 o) (zth (pz f t m 0 (ns + 1)) f t ns (zmi f t 40 p)) (cond (pz f t m (o + 1) ns p).1 (zlp (pz f t m (o + 1) ns) f t o (cond (Nat.beq o 0) 1 40) (pz f t m (o + 1) ns p).2) (false, (pz f t m (o + 1) ns p).2)) = cond (Nat.ble 3 o) (zth (pz g t m 0 (ns + 1)) g t ns (zmi g t 40 p)) (cond (pz g t m (o + 1) ns p).1 (zlp (pz g t m (o + 1) ns) g t o (cond (Nat.beq o 0) 1 40) (pz g t m (o + 1) ns p).2) (false, (pz g t m (o + 1) ns p).2))
    rw [pz_cg hf m 0 (ns + 1), pz_cg hf m (o + 1) ns, zth_cg hf, zmi_cg hf, zlp_cg hf]
end ZRC
/-! rule of both sides -/
section ZRR
variable {n fr lo sl n0 cc o : Nat} {h h1 h2 : pm_H} {R : pm_Rs} {f tp : Nat → Int32} {v w : Int32}
/-- where the class's reader finds a fault -/
def zF (f : Nat → Int32) (n0 : Nat) : Int32 := if n0 = 0 then Int32.ofInt (-1) else cond ((pz f (min n0 40) 20 0 0 0).1 && decide ((pz f (min n0 40) 20 0 0 0).2 = n0)) (Int32.ofInt (-1)) (nI (pz f (min n0 40) 20 0 0 0).2)
def zA (f : Nat → Int32) (n0 : Nat) : Int32 := if n0 = 0 then Int32.ofInt 0 else cond ((pz f (min n0 40) 20 0 0 0).1 && decide ((pz f (min n0 40) 20 0 0 0).2 = n0)) (Int32.ofInt 0) (Int32.ofInt (-1) - nI (pz f (min n0 40) 20 0 0 0).2)
theorem qX_sz {p : Nat} {w : Value} {rs : List Value} (ho : oOk o) (e : h o = .inr (6, rs)) (q : qX h o p n0 cc f) : qX (va_up h o (.inr (6, rs.set 1 w))) o p n0 cc f := by
  obtain ⟨⟨rs', e1, e2, e3⟩, ⟨fs, a1, a2⟩, ⟨gs, b1, b2⟩, c1, ss, d1, d2⟩ := q
  rw [e] at e1
  cases e1
  have ne : ∀ a, a ≠ o → va_up h o (.inr (6, rs.set 1 w)) a = h a := fun a z => by simp [va_up, z]
  refine ⟨⟨rs.set 1 w, by simp [va_up], ?_, ?_⟩, ⟨fs, (ne 0 (Ne.symm ho.2.1)).trans a1, a2⟩, ⟨gs, (ne 1 (Ne.symm ho.2.2.1)).trans b1, b2⟩, (ne 2 (Ne.symm ho.2.2.2.1)).trans c1, ss, (ne 5 (Ne.symm ho.2.2.2.2)).trans d1, d2⟩
  · rw [List.getElem?_set_ne (by decide)]
    exact e2
  · rw [List.getElem?_set_ne (by decide)]
    exact e3
theorem hI_ne2 {a b : Nat} (ha : a < 2 ^ 31) (hb : b < 2 ^ 31) : pm_cmp .ne (nI a) (nI b) = decide (¬ a = b) := by
  simp only [pm_cmp]
  rw [decide_eq_decide]
  refine not_congr ⟨fun e => ?_, fun e => by rw [e]⟩
  have e := congrArg Int32.toInt e
  rw [nI_toInt ha, nI_toInt hb] at e
  omega
theorem rdx_run {w5 : Value} (ho : oOk o) (hn : n0 ≤ 80) (px : pX h n0 cc f) {rs : List Value} (e0 : h o = .inr (6, rs)) (e4 : rs[4]? = some (.ref 1)) (e5 : rs[5]? = some w5) {s1 : Int32} (es : rs[1]? = some (.int s1)) (hh : pm_run PT n fr lo 58 (0, pm_l0 [.ref o] 2, [], h, 198, sl) = some R) : R.1 = some (.int (zF f n0)) ∧ R.2.2 = (198, sl) := by
  obtain ⟨px0, ⟨gs, b1, b2, b3⟩, px2⟩ := id px
  obtain ⟨n, hh⟩ := rn_i rfl rfl rfl rfl hh
  obtain ⟨n, hh⟩ := rn_gfo (g := 4) rfl rfl ho.1 e0 e4 hh
  obtain ⟨n, hh⟩ := rn_gfo (g := 1) rfl rfl (by decide) b1 b3 hh
  have hh : pm_run PT n fr lo 58 (7, [some (.ref o), none], [.int (nI n0)], h, 198, sl) = some R := hh
  obtain ⟨n, hh⟩ := rn_if (cc := .ne) (off := 9) (t := 16) rfl rfl hh
  unfold zF
  by_cases z : n0 = 0
  · rw [if_pos z]
    have ec : pm_cmp .ne (nI n0) 0 = false := by rw [z]; decide
    rw [ec] at hh
    have hh : pm_run PT n fr lo 58 (10, [some (.ref o), none], [], h, 198, sl) = some R := hh
    obtain ⟨n, hh⟩ := rn_i rfl rfl rfl rfl hh
    obtain ⟨n, fr', lo', r1, hr1, hh⟩ := rn_call (w := 0) (t := 59) rfl rfl hh
    have hz := sz_run k133_ok _ _ _ 59 _ r1 rfl hr1
    have hv := vd_run rfl hr1
    obtain ⟨rv, h2, s2⟩ := r1
    dsimp only at hz hv
    subst hz
    subst hv
    have hh : pm_run PT n fr lo 58 (14, [some (.ref o), none], [], h2, 198, sl) = some R := hh
    obtain ⟨n, hh⟩ := rn_i rfl rfl rfl rfl hh
    have e := (rn_ret rfl (Or.inl rfl) hh).2
    rw [e]
    exact ⟨rfl, rfl⟩
  · rw [if_neg z]
    have ec : pm_cmp .ne (nI n0) 0 = true := decide_eq_true (fun e => by
      have e := congrArg Int32.toInt e
      rw [nI_toInt (by omega), show (0 : Int32).toInt = 0 by decide] at e
      omega)
    rw [ec] at hh
    have hh : pm_run PT n fr lo 58 (16, [some (.ref o), none], [], h, 198, sl) = some R := hh
    obtain ⟨n, hh⟩ := rn_i rfl rfl rfl rfl hh
    obtain ⟨n, hh⟩ := rn_i rfl rfl rfl rfl hh
    obtain ⟨n, hh⟩ := rn_i rfl rfl rfl (pf_eq (f := 5) rfl rfl (by decide) ho.1 e0 e5) hh
    have hh : pm_run PT n fr lo 58 (21, [some (.ref o), none], [], (va_up h o (.inr (6, rs.set 5 (.int (nI 0))))), 198, sl) = some R := hh
    have q2 := qX_mk (p' := 0) ho e0 e4 e5 px
    have f0 : va_up h o (.inr (6, rs.set 5 (.int (nI 0)))) o = .inr (6, rs.set 5 (.int (nI 0))) := by simp [va_up]
    have fs1 : (rs.set 5 (.int (nI 0)))[1]? = some (.int s1) := by
      rw [List.getElem?_set_ne (by decide)]
      exact es
    generalize va_up h o (.inr (6, rs.set 5 (.int (nI 0)))) = h2 at hh q2 f0
    generalize rs.set 5 (.int (nI 0)) = r2 at f0 fs1
    have hh : pm_run PT n fr lo 58 (21, [some (.ref o), none], [], h2, 198, sl) = some R := hh
    obtain ⟨n, hh⟩ := rn_i rfl rfl rfl rfl hh
    obtain ⟨n, hh⟩ := rn_i rfl rfl rfl rfl hh
    obtain ⟨n, hh⟩ := rn_i rfl rfl rfl (pf_eq (f := 1) rfl rfl (by decide) ho.1 f0 fs1) hh
    have hh : pm_run PT n fr lo 58 (26, [some (.ref o), none], [], (va_up h2 o (.inr (6, r2.set 1 (.int (Int32.ofInt 0))))), 198, sl) = some R := hh
    have q3 := qX_sz (w := .int (Int32.ofInt 0)) ho f0 q2
    generalize va_up h2 o (.inr (6, r2.set 1 (.int (Int32.ofInt 0)))) = h3 at hh q3
    have hh : pm_run PT n fr lo 58 (26, [some (.ref o), none], [], h3, 198, sl) = some R := hh
    obtain ⟨n, hh⟩ := rn_i rfl rfl rfl rfl hh
    obtain ⟨n, hh⟩ := rn_i rfl rfl rfl rfl hh
    obtain ⟨n, hh⟩ := rn_i rfl rfl rfl rfl hh
    have hh : pm_run PT n fr lo 58 (29, [some (.ref o), none], [.int (nI 0), .int (nI 0), .ref o], h3, 198, sl) = some R := hh
    obtain ⟨n, fr', lo', r1, hr1, hh⟩ := rn_call (w := 0) (t := 62) rfl rfl hh
    obtain ⟨c1, c2, c3⟩ := cZ_all ho hn 20 0 0 0 _ _ _ _ h3 _ (by omega) (by omega) (by omega) (by omega) q3 hr1
    obtain ⟨rv, h4, s4⟩ := r1
    dsimp only at c1 c2 c3
    subst c1
    subst c3
    have hh : pm_run PT n fr lo 58 (32, [some (.ref o), none], [.int (cond (pz f (min n0 40) 20 0 0 0).1 1 0)], h4, 198, sl) = some R := hh
    have hle := pz_le (f := f) (t := min n0 40) 20 0 0 0 (by omega)
    generalize pz f (min n0 40) 20 0 0 0 = r at *
    obtain ⟨rb, rp⟩ := r
    dsimp only at c2 hle hh ⊢
    have hh : pm_run PT n fr lo 58 (32, [some (.ref o), none], [.int (cond rb 1 0)], h4, 198, sl) = some R := hh
    obtain ⟨n, hh⟩ := rn_if (cc := .eq) (off := 21) (t := 53) rfl rfl hh
    obtain ⟨⟨rs4, m0, m4, m5⟩, ⟨-, ⟨gs4, d1, d2, d3⟩, -⟩⟩ := id c2
    have bad : ∀ n : Nat, pm_run PT n fr lo 58 (53, [some (.ref o), none], [], h4, 198, sl) = some R → R.1 = some (.int (nI rp)) ∧ R.2.2 = (198, sl) := by
      intro n hh
      obtain ⟨n, hh⟩ := rn_i rfl rfl rfl rfl hh
      obtain ⟨n, hh⟩ := rn_i rfl rfl rfl rfl hh
      obtain ⟨n, hh⟩ := rn_i rfl rfl rfl rfl hh
      have hh : pm_run PT n fr lo 58 (56, [some (.ref o), some (.int 0)], [.int 0], h4, 198, sl) = some R := hh
      obtain ⟨n, hh⟩ := rn_if (cc := .eq) (off := 7) (t := 63) rfl rfl hh
      have hh : pm_run PT n fr lo 58 (63, [some (.ref o), some (.int 0)], [], h4, 198, sl) = some R := hh
      obtain ⟨n, hh⟩ := rn_i rfl rfl rfl rfl hh
      obtain ⟨n, hh⟩ := rn_gfo (g := 5) rfl rfl ho.1 m0 m5 hh
      have e := (rn_ret rfl (Or.inl rfl) hh).2
      rw [e]
      exact ⟨rfl, rfl⟩
    cases rb with
    | false => exact bad n hh
    | true =>
      have hh : pm_run PT n fr lo 58 (35, [some (.ref o), none], [], h4, 198, sl) = some R := hh
      obtain ⟨n, hh⟩ := rn_i rfl rfl rfl rfl hh
      obtain ⟨n, hh⟩ := rn_gfo (g := 5) rfl rfl ho.1 m0 m5 hh
      obtain ⟨n, hh⟩ := rn_i rfl rfl rfl rfl hh
      obtain ⟨n, hh⟩ := rn_gfo (g := 4) rfl rfl ho.1 m0 m4 hh
      obtain ⟨n, hh⟩ := rn_gfo (g := 1) rfl rfl (by decide) d1 d3 hh
      have hh : pm_run PT n fr lo 58 (46, [some (.ref o), none], [.int (nI n0), .int (nI rp)], h4, 198, sl) = some R := hh
      obtain ⟨n, hh⟩ := rn_icmp (cc := .ne) (off := 7) (t := 53) rfl rfl hh
      rw [hI_ne2 (by omega) (by omega)] at hh
      by_cases y : rp = n0
      · rw [decide_eq_true y]
        rw [decide_eq_false (fun q => q y)] at hh
        have hh : pm_run PT n fr lo 58 (49, [some (.ref o), none], [], h4, 198, sl) = some R := hh
        obtain ⟨n, hh⟩ := rn_i rfl rfl rfl rfl hh
        obtain ⟨n, hh⟩ := rn_i rfl rfl rfl rfl hh
        obtain ⟨n, hh⟩ := rn_i rfl rfl rfl rfl hh
        obtain ⟨n, hh⟩ := rn_i rfl rfl rfl rfl hh
        have hh : pm_run PT n fr lo 58 (56, [some (.ref o), some (.int 1)], [.int 1], h4, 198, sl) = some R := hh
        obtain ⟨n, hh⟩ := rn_if (cc := .eq) (off := 7) (t := 63) rfl rfl hh
        have hh : pm_run PT n fr lo 58 (59, [some (.ref o), some (.int 1)], [], h4, 198, sl) = some R := hh
        obtain ⟨n, hh⟩ := rn_i rfl rfl rfl rfl hh
        obtain ⟨n, hh⟩ := rn_i rfl rfl rfl rfl hh
        have e := (rn_ret rfl (Or.inl rfl) hh).2
        rw [e]
        exact ⟨rfl, rfl⟩
      · rw [decide_eq_false y]
        rw [decide_eq_true y] at hh
        exact bad n hh
def r90J (j : Nat) : Bool := Nat.ble j 1
theorem r90_a : blk_ok k10P k10K r90J 90 8 16 := blk_of (by decide +kernel)
def n0P (_ _ : Nat) : Bool := false
theorem n0_ok : sf_ok n0P noK := noK_sf
theorem r90_b : blk_ok n0P noK r90J 90 24 42 := blk_of (by decide +kernel)
theorem rlx_run {w5 : Value} (ho : oOk o) (hn : n0 ≤ 80) {fs rs : List Value} {s1 : Int32} (k0 : h 0 = .inr (10, fs)) (k9 : fs[9]? = some (.ref o)) (px : pX h n0 cc f) (e0 : h o = .inr (6, rs)) (e4 : rs[4]? = some (.ref 1)) (e5 : rs[5]? = some w5) (es : rs[1]? = some (.int s1)) (hh : pm_run PT n fr lo 90 (0, pm_l0 [.ref 0] 3, [], h, 198, sl) = some R) : R.1 = some (.int (zA f n0)) := by
  obtain ⟨n, hh⟩ := rn_i rfl rfl rfl rfl hh
  obtain ⟨n, hh⟩ := rn_gfo (g := 9) rfl rfl (by decide) k0 k9 hh
  obtain ⟨n, fr', lo', r1, hr1, hh⟩ := rn_call (w := 0) (t := 58) rfl rfl hh
  obtain ⟨c1, c2⟩ := rdx_run ho hn px e0 e4 e5 es hr1
  obtain ⟨rv, h2, s2⟩ := r1
  dsimp only at c1 c2
  subst c1
  subst c2
  have hh : pm_run PT n fr lo 90 (7, [some (.ref 0), none, none], [.int (zF f n0)], h2, 198, sl) = some R := hh
  obtain ⟨n, hh⟩ := rn_i rfl rfl rfl rfl hh
  have hh : pm_run PT n fr lo 90 (8, [some (.ref 0), some (.int (zF f n0)), none], [], h2, 198, sl) = some R := hh
  obtain ⟨n, L3, S3, h3, hh, hl, -⟩ := blk_run k10_ok r90_a n fr lo _ R (Nat.le_of_ble_eq_true rfl) (Nat.le_of_ble_eq_true rfl) hh
  dsimp only at hl hh
  have g0 := hl 0 (.ref 0) rfl rfl rfl
  have g1 := hl 1 (.int (zF f n0)) rfl rfl rfl
  have hh : pm_run PT n fr lo 90 (16, L3, S3, h3, 198, sl) = some R := hh
  obtain ⟨n, hh⟩ := rn_iln rfl g1 rfl hh
  obtain ⟨n, hh⟩ := rn_if (cc := .lt) (off := 7) (t := 24) rfl rfl hh
  have ok : ∀ n : Nat, pm_run PT n fr lo 90 (24, L3, S3, h3, 198, sl) = some R → R.1 = some (.int (Int32.ofInt 0)) := by
    intro n hh
    obtain ⟨n, L4, S4, h4, hh, hl, -⟩ := blk_run n0_ok r90_b n fr lo _ R (Nat.le_of_ble_eq_true rfl) (Nat.le_of_ble_eq_true rfl) hh
    dsimp only at hh
    have hh : pm_run PT n fr lo 90 (42, L4, S4, h4, 198, sl) = some R := hh
    obtain ⟨n, hh⟩ := rn_i rfl rfl rfl rfl hh
    have e := (rn_ret rfl (Or.inl rfl) hh).2
    rw [e]
  have no : ∀ (n : Nat) (rp : Nat), rp ≤ 80 → zF f n0 = nI rp → pm_run PT n fr lo 90 (cond (pm_cmp .lt (zF f n0) 0) 24 20, L3, S3, h3, 198, sl) = some R → R.1 = some (.int (Int32.ofInt (-1) - nI rp)) := by
    intro n rp hrp ez hh
    rw [ez] at g1 hh
    rw [lt0_val (by rw [nI_toInt (by omega)]; omega)] at hh
    have hh : pm_run PT n fr lo 90 (20, L3, S3, h3, 198, sl) = some R := hh
    obtain ⟨n, hh⟩ := rn_i rfl rfl rfl rfl hh
    obtain ⟨n, hh⟩ := rn_iln rfl g1 rfl hh
    obtain ⟨n, hh⟩ := rn_i rfl rfl rfl rfl hh
    have e := (rn_ret rfl (Or.inl rfl) hh).2
    rw [e]
  have yes : ∀ n : Nat, zF f n0 = Int32.ofInt (-1) → pm_run PT n fr lo 90 (cond (pm_cmp .lt (zF f n0) 0) 24 20, L3, S3, h3, 198, sl) = some R → R.1 = some (.int (Int32.ofInt 0)) := by
    intro n ez hh
    rw [ez, show pm_cmp .lt (Int32.ofInt (-1)) 0 = true by decide] at hh
    exact ok n hh
  unfold zA
  by_cases z : n0 = 0
  · rw [if_pos z]
    exact yes n (by unfold zF; rw [if_pos z]) hh
  · rw [if_neg z]
    have hle := pz_le (f := f) (t := min n0 40) 20 0 0 0 (by omega)
    cases y : ((pz f (min n0 40) 20 0 0 0).1 && decide ((pz f (min n0 40) 20 0 0 0).2 = n0)) with
    | true => exact yes n (by unfold zF; rw [if_neg z, y]; rfl) hh
    | false => exact no n _ (by omega) (by unfold zF; rw [if_neg z, y]; rfl) hh
theorem rdm_run {x16 x17 x18 : Value} {c24 : Int32} (hn : n0 ≤ 80) (h15 : mF h 15 (.int (nI n0))) (h16 : mF h 16 x16) (h17 : mF h 17 x17) (h18 : mF h 18 x18) (h24 : mF h 24 (.int c24)) (h14 : mF h 14 (.ref 172)) (hA : h 172 = .inl (0, 80, .inl tp)) (h22 : mF h 22 (.ref 175)) (hh : pm_run PT n fr lo 196 (0, pm_l0 [.ref 162] 3, [], h, 198, sl) = some R) : R.1 = some (.int (zA tp n0)) ∧ R.2.2 = (198, sl) := by
  obtain ⟨n, hh⟩ := rn_i rfl rfl rfl rfl hh
  obtain ⟨n, hh⟩ := rn_i rfl rfl rfl rfl hh
  have hh : pm_run PT n fr lo 196 (3, [some (.ref 162), none, none], [.int (nI 40), .ref 162], h, 198, sl) = some R := hh
  obtain ⟨n, fr', lo', r1, hr1, hh⟩ := rn_call (w := 0) (t := 180) rfl rfl hh
  have er := rn_dt (F := 10) (Lo := 1000) (hd_begins (fr := 10) (lo := 1000) (sl := sl) (m := 40) h15 h16 h17 h18 hn (by decide) (by decide) (by decide)) hr1
  subst er
  have mm : ∀ (g : Nat) (v : Value), g ≠ 15 → g ≠ 16 → g ≠ 18 → g ≠ 17 → mF h g v → mF (hbeg h n0 40) g v := fun g v a1 a2 a3 a4 q => mF_ne (Ne.symm a4) (mF_ne (Ne.symm a3) (mF_ne (Ne.symm a2) (mF_ne (Ne.symm a1) q)))
  have b24 := mm 24 _ (by decide) (by decide) (by decide) (by decide) h24
  have b22 := mm 22 _ (by decide) (by decide) (by decide) (by decide) h22
  have b14 := mm 14 _ (by decide) (by decide) (by decide) (by decide) h14
  have b16 : mF (hbeg h n0 40) 16 (.int (nI 0)) := mF_ne (by decide) (mF_ne (by decide) (mF_self (w := x16) (mF_ne (by decide) h16)))
  have b18 : mF (hbeg h n0 40) 18 (.int (nI 0)) := mF_ne (by decide) (mF_self (w := x18) (mF_ne (by decide) (mF_ne (by decide) h18)))
  have b17 : mF (hbeg h n0 40) 17 (.int (nI (min n0 40))) := mF_self (w := x17) (mF_ne (by decide) (mF_ne (by decide) (mF_ne (by decide) h17)))
  have bA : hbeg h n0 40 172 = .inl (0, 80, .inl tp) := mset_arr (by decide) (mset_arr (by decide) (mset_arr (by decide) (mset_arr (by decide) hA)))
  have hh : pm_run PT n fr lo 196 (6, [some (.ref 162), none, none], [.int (nI n0)], (hbeg h n0 40), 198, sl) = some R := hh
  generalize hbeg h n0 40 = hb at hh b24 b22 b14 b16 b18 b17 bA
  have hh : pm_run PT n fr lo 196 (6, [some (.ref 162), none, none], [.int (nI n0)], hb, 198, sl) = some R := hh
  obtain ⟨n, hh⟩ := rn_i rfl rfl rfl rfl hh
  obtain ⟨n, hh⟩ := rn_i rfl rfl rfl rfl hh
  obtain ⟨n, hh⟩ := rn_i rfl rfl rfl rfl hh
  have hh : pm_run PT n fr lo 196 (9, [some (.ref 162), some (.int (nI n0)), none], [.int 0, .ref 162], hb, 198, sl) = some R := hh
  obtain ⟨n, hh⟩ := rn_pfm (w := .int c24) rfl rfl rfl (by decide) b24 hh
  have hh : pm_run PT n fr lo 196 (12, [some (.ref 162), some (.int (nI n0)), none], [], (mset hb 24 (.int (Int32.ofInt 0))), 198, sl) = some R := hh
  have q0 : qM (mset hb 24 (.int (Int32.ofInt 0))) 0 (min n0 40) tp := ⟨⟨mF_ne (by decide) b16, mF_ne (by decide) b17, mF_ne (by decide) b14, mset_arr (by decide) bA⟩, mF_ne (by decide) b22, _, mF_self b24⟩
  have g18 : mF (mset hb 24 (.int (Int32.ofInt 0))) 18 (.int (nI 0)) := mF_ne (by decide) b18
  generalize mset hb 24 (.int (Int32.ofInt 0)) = h2 at hh q0 g18
  have hh : pm_run PT n fr lo 196 (12, [some (.ref 162), some (.int (nI n0)), none], [], h2, 198, sl) = some R := hh
  have fin : ∀ (n : Nat) (b : Bool) (p : Nat) (h3 : pm_H), p ≤ min n0 40 → qM h3 p (min n0 40) tp → pm_run PT n fr lo 196 (29, [some (.ref 162), some (.int (nI n0)), none], [.int (cond b 1 0)], h3, 198, sl) = some R → R.1 = some (.int (fO n0 40 (min n0 40) p b)) ∧ R.2.2 = (198, sl) := by
    intro n b p h3 hp q3 hh
    obtain ⟨n, hh⟩ := rn_i rfl rfl rfl rfl hh
    obtain ⟨n, hh⟩ := rn_i rfl rfl rfl rfl hh
    obtain ⟨n, hh⟩ := rn_i rfl rfl rfl rfl hh
    obtain ⟨n, hh⟩ := rn_i rfl rfl rfl rfl hh
    obtain ⟨n, hh⟩ := rn_i rfl rfl rfl rfl hh
    have hh : pm_run PT n fr lo 196 (35, [some (.ref 162), some (.int (nI n0)), some (.int (cond b 1 0))], [.int (cond b 1 0), .int (nI 40), .int (nI n0), .ref 162], h3, 198, sl) = some R := hh
    obtain ⟨n, fr', lo', r1, hr1, hh⟩ := rn_call (w := 0) (t := 186) rfl rfl hh
    have er := fo_run (m := 40) hn (by decide) (by omega) (by omega) q3.1.1 q3.1.2.1 hr1
    subst er
    have e := (rn_ret rfl (Or.inl rfl) hh).2
    rw [e]
    exact ⟨rfl, rfl⟩
  obtain ⟨n, hh⟩ := rn_i rfl rfl rfl rfl hh
  obtain ⟨n, hh⟩ := rn_if (cc := .eq) (off := 11) (t := 24) rfl rfl hh
  unfold zA
  by_cases z : n0 = 0
  · rw [if_pos z]
    have ec : pm_cmp .eq (nI n0) 0 = true := by rw [z]; decide
    rw [ec] at hh
    have hh : pm_run PT n fr lo 196 (24, [some (.ref 162), some (.int (nI n0)), none], [], h2, 198, sl) = some R := hh
    obtain ⟨n, hh⟩ := rn_i rfl rfl rfl rfl hh
    obtain ⟨n, hh⟩ := rn_i rfl rfl rfl rfl hh
    have e := fin n true 0 h2 (by omega) q0 hh
    have ef : fO n0 40 (min n0 40) 0 true = Int32.ofInt 0 := by
      rw [z]
      decide +kernel
    rw [ef] at e
    exact e
  · rw [if_neg z]
    have ec : pm_cmp .eq (nI n0) 0 = false := decide_eq_false (fun e => by
      have e := congrArg Int32.toInt e
      rw [nI_toInt (by omega), show (0 : Int32).toInt = 0 by decide] at e
      omega)
    rw [ec] at hh
    have hh : pm_run PT n fr lo 196 (16, [some (.ref 162), some (.int (nI n0)), none], [], h2, 198, sl) = some R := hh
    obtain ⟨n, hh⟩ := rn_i rfl rfl rfl rfl hh
    obtain ⟨n, hh⟩ := rn_i rfl rfl rfl rfl hh
    have hh : pm_run PT n fr lo 196 (18, [some (.ref 162), some (.int (nI n0)), none], [.int (nI 0), .ref 162], h2, 198, sl) = some R := hh
    obtain ⟨n, fr', lo', r1, hr1, hh⟩ := rn_call (w := 0) (t := 195) rfl rfl hh
    obtain ⟨c1, c2, -, c4⟩ := rM_all (t := min n0 40) (by omega) 20 0 0 0 _ _ _ _ h2 _ (by omega) (by omega) (by omega) (by omega) q0 g18 hr1
    obtain ⟨rv, h4, s4⟩ := r1
    dsimp only at c1 c2 c4
    subst c1
    subst c4
    have hle := pz_le (f := tp) (t := min n0 40) 20 0 0 0 (by omega)
    have hh : pm_run PT n fr lo 196 (21, [some (.ref 162), some (.int (nI n0)), none], [.int (cond (pz tp (min n0 40) 20 0 0 0).1 1 0)], h4, 198, sl) = some R := hh
    generalize pz tp (min n0 40) 20 0 0 0 = r at *
    obtain ⟨rb, rp⟩ := r
    dsimp only at c2 hle hh ⊢
    have hh : pm_run PT n fr lo 196 (21, [some (.ref 162), some (.int (nI n0)), none], [.int (cond rb 1 0)], h4, 198, sl) = some R := hh
    obtain ⟨n, hh⟩ := rn_if (cc := .eq) (off := 7) (t := 28) rfl rfl hh
    have ef : fO n0 40 (min n0 40) rp rb = cond (rb && decide (rp = n0)) (Int32.ofInt 0) (Int32.ofInt (-1) - nI rp) := by
      unfold fO fO2
      generalize Int32.ofInt (-1) = m1
      cases rb with
      | false =>
        rw [Bool.false_and, Bool.false_and]
        by_cases y : 40 < n0 ∧ (false = true ∨ 40 ≤ rp)
        · rw [if_pos y]
          have : rp = 40 := by
            rcases y.2 with q | q
            · cases q
            · omega
          rw [this]
          rfl
        · rw [if_neg y]
      | true =>
        rw [Bool.true_and, Bool.true_and]
        by_cases y : 40 < n0
        · rw [decide_eq_false (show ¬ rp = n0 by omega)]
          by_cases x : rp = min n0 40
          · rw [decide_eq_true x, if_pos ⟨y, Or.inl rfl⟩]
            have : rp = 40 := by omega
            rw [this]
            rfl
          · rw [decide_eq_false x, if_neg (fun q => by
              rcases q.2 with q | q
              · cases q
              · omega)]
        · have ed : decide (rp = min n0 40) = decide (rp = n0) := by rw [show min n0 40 = n0 by omega]
          rw [ed, if_neg (fun q => y q.1)]
    rw [← ef]
    cases rb with
    | true =>
      have hh : pm_run PT n fr lo 196 (24, [some (.ref 162), some (.int (nI n0)), none], [], h4, 198, sl) = some R := hh
      obtain ⟨n, hh⟩ := rn_i rfl rfl rfl rfl hh
      obtain ⟨n, hh⟩ := rn_i rfl rfl rfl rfl hh
      exact fin n true rp h4 hle c2 hh
    | false =>
      have hh : pm_run PT n fr lo 196 (28, [some (.ref 162), some (.int (nI n0)), none], [], h4, 198, sl) = some R := hh
      obtain ⟨n, hh⟩ := rn_i rfl rfl rfl rfl hh
      exact fin n false rp h4 hle c2 hh
def r198J (j : Nat) : Bool := Nat.beq j 1
def r197K (k : Nat) : Bool := Nat.beq k 197
theorem r197_ok : sf_ok n0P r197K := sf_of (N := [197]) (fun k h => by rw [Nat.eq_of_beq_eq_true h]; decide) (by decide +kernel)
theorem r198_b : blk_ok n0P r197K r198J 198 14 26 := blk_of (by decide +kernel)
theorem rlm_run {x16 x17 x18 w0 : Value} {c24 : Int32} (hn : n0 ≤ 80) (h0 : mF h 0 w0) (h15 : mF h 15 (.int (nI n0))) (h16 : mF h 16 x16) (h17 : mF h 17 x17) (h18 : mF h 18 x18) (h24 : mF h 24 (.int c24)) (h14 : mF h 14 (.ref 172)) (hA : h 172 = .inl (0, 80, .inl tp)) (h22 : mF h 22 (.ref 175)) (hh : pm_run PT n fr lo 198 (0, pm_l0 [.ref 162] 2, [], h, 198, sl) = some R) : R.1 = some (.int (zA tp n0)) := by
  obtain ⟨n, hh⟩ := rn_i rfl rfl rfl rfl hh
  obtain ⟨n, hh⟩ := rn_i rfl rfl rfl rfl hh
  obtain ⟨n, hh⟩ := rn_pfm (w := w0) rfl rfl rfl (by decide) h0 hh
  have hh : pm_run PT n fr lo 198 (5, [some (.ref 162), none], [], (mset h 0 (.int (Int32.ofInt 0))), 198, sl) = some R := hh
  obtain ⟨n, hh⟩ := rn_i rfl rfl rfl rfl hh
  obtain ⟨n, fr', lo', r1, hr1, hh⟩ := rn_call (w := 0) (t := 196) rfl rfl hh
  obtain ⟨c1, c2⟩ := rdm_run hn (mF_ne (by decide) h15) (mF_ne (by decide) h16) (mF_ne (by decide) h17) (mF_ne (by decide) h18) (mF_ne (by decide) h24) (mF_ne (by decide) h14) (mset_arr (by decide) hA) (mF_ne (by decide) h22) hr1
  obtain ⟨rv, h2, s2⟩ := r1
  dsimp only at c1 c2
  subst c1
  subst c2
  have hh : pm_run PT n fr lo 198 (9, [some (.ref 162), none], [.int (zA tp n0)], h2, 198, sl) = some R := hh
  obtain ⟨n, hh⟩ := rn_i rfl rfl rfl rfl hh
  have hh : pm_run PT n fr lo 198 (10, [some (.ref 162), some (.int (zA tp n0))], [], h2, 198, sl) = some R := hh
  obtain ⟨n, hh⟩ := rn_i rfl rfl rfl rfl hh
  obtain ⟨n, hh⟩ := rn_if (cc := .ne) (off := 15) (t := 26) rfl rfl hh
  cases y : pm_cmp .ne (zA tp n0) 0 with
  | true =>
    rw [y] at hh
    obtain ⟨n, hh⟩ := rn_i rfl rfl rfl rfl hh
    have e := (rn_ret rfl (Or.inl rfl) hh).2
    rw [e]
  | false =>
    rw [y] at hh
    have hh : pm_run PT n fr lo 198 (14, [some (.ref 162), some (.int (zA tp n0))], [], h2, 198, sl) = some R := hh
    obtain ⟨n, L3, S3, h3, hh, hl, -⟩ := blk_run r197_ok r198_b n fr lo _ R (Nat.le_of_ble_eq_true rfl) (Nat.le_of_ble_eq_true rfl) hh
    dsimp only at hl hh
    have g1 := hl 1 (.int (zA tp n0)) rfl rfl rfl
    have hh : pm_run PT n fr lo 198 (26, L3, S3, h3, 198, sl) = some R := hh
    obtain ⟨n, hh⟩ := rn_iln rfl g1 rfl hh
    have e := (rn_ret rfl (Or.inl rfl) hh).2
    rw [e]
theorem zA_cg {f g : Nat → Int32} (hf : ∀ j, j < n0 → f j = g j) : zA f n0 = zA g n0 := by
  unfold zA
  rw [pz_cg (f := f) (g := g) (t := min n0 40) (fun j hj => hf j (by omega))]
def asO : List av := match bB 142 with
  | .inr (_, as) => as
  | _ => []
theorem ty_9 (hh : ah_ok bB 198 [] h) {fs : List Value} (e : h 0 = .inr (10, fs)) : ∃ o, (o = 142 ∨ o = 145) ∧ fs[9]? = some (.ref o) := by
  have h0 := hh 0 (by decide)
  obtain ⟨fs', ef, hl, hg⟩ := aE_obj (ci := 10) (as := asX0) h0 (by decide)
  rw [e] at ef
  cases ef
  have hlf : 9 < fs.length := by rw [hl]; exact Nat.le_of_ble_eq_true rfl
  have ev : fs[9]? = some fs[9] := List.getElem?_eq_getElem hlf
  have hv := hg 9 _ (2, 142, 3002) ev rfl
  cases e9 : fs[9] with
  | ref p =>
    rw [e9] at hv
    have hp := hv.2
    have hp : p ∈ [142, 145] := hp
    refine ⟨p, by simpa using hp, by rw [ev, e9]⟩
  | null => rw [e9] at hv; exact absurd (show (2 : Nat) = 3 from hv) (by decide)
  | _ => rw [e9] at hv; first | exact hv.elim | (cases hv.1)
theorem ty_ru {a : Nat} {as : List av} {b1 b5 : av} (hh : ah_ok bB 198 [] h) (ha : a < 198) (hb : bB a = .inr (6, as)) (h4 : as[4]? = some (2, ((1 : Nat) : Int), 1)) (h1 : as[1]? = some b1) (z1 : b1.1 = 0) (h5 : as[5]? = some b5) (z5 : b5.1 = 0) : ∃ (rs : List Value) (w5 s1 : Int32), h a = .inr (6, rs) ∧ rs[4]? = some (.ref 1) ∧ rs[5]? = some (.int w5) ∧ rs[1]? = some (.int s1) := by
  have h0 : ac_ok (h a) (bB a) := hh a ha
  rw [hb] at h0
  obtain ⟨rs, e, hl, hv⟩ := aE_obj h0 (by decide)
  have g4 := ty_or hh ha hb (by decide) h4 rfl e
  have l1 : 1 < rs.length := by rw [hl]; exact (List.getElem?_eq_some_iff.mp h1).1
  have l5 : 5 < rs.length := by rw [hl]; exact (List.getElem?_eq_some_iff.mp h5).1
  obtain ⟨x1, q1, -⟩ := av_int z1 (hv 1 _ _ (List.getElem?_eq_getElem l1) h1)
  obtain ⟨x5, q5, -⟩ := av_int z5 (hv 5 _ _ (List.getElem?_eq_getElem l5) h5)
  exact ⟨rs, x5, x1, e, g4, by rw [List.getElem?_eq_getElem l5, q5], by rw [List.getElem?_eq_getElem l1, q1]⟩
theorem rule_both (pr : prun sl 90 198 [] h h1 h2 v w) (hI : LI5 h) : v = w := by
  obtain ⟨⟨m, r1⟩, ⟨f1, i1⟩, ⟨m2, r2⟩, -, -⟩ := pr
  obtain ⟨hI0, ⟨n0, cc0, f0, g0, hn, hc0, ⟨x1, x2⟩, ⟨y1, y2, y3⟩, hjj⟩, -⟩ := hI
  obtain ⟨fs, a1, a2, a3⟩ := ty_x2 hI0.1
  have px : pX h n0 cc0 f0 := ⟨⟨fs, a1, a2, a3⟩, x1.1, x1.2, x2⟩
  obtain ⟨o, ho, k9⟩ := ty_9 hI0.1 a1
  have hok : oOk o := by
    rcases ho with rfl | rfl
    · exact ⟨by decide, by decide, by decide, by decide, by decide⟩
    · exact ⟨by decide, by decide, by decide, by decide, by decide⟩
  have ty : ∃ (rs : List Value) (w5 s1 : Int32), h o = .inr (6, rs) ∧ rs[4]? = some (.ref 1) ∧ rs[5]? = some (.int w5) ∧ rs[1]? = some (.int s1) := by
    rcases ho with rfl | rfl
    · exact ty_ru (a := 142) hI0.1 (by decide) rfl rfl rfl rfl rfl rfl
    · exact ty_ru (a := 145) hI0.1 (by decide) rfl rfl rfl rfl rfl rfl
  obtain ⟨rs, w5, s1, e0, e4, e5, es⟩ := ty
  have cx := rlx_run (f := f0) hok hn a1 k9 px e0 e4 e5 es r1
  obtain ⟨w0, hw⟩ := ty_m0 i1.1
  obtain ⟨w16, h16⟩ := ty_mi i1.1 16 (by decide +kernel) (by decide +kernel)
  obtain ⟨w17, h17⟩ := ty_mi i1.1 17 (by decide +kernel) (by decide +kernel)
  obtain ⟨w18, h18⟩ := ty_mi i1.1 18 (by decide +kernel) (by decide +kernel)
  obtain ⟨w24, h24⟩ := ty_mi i1.1 24 (by decide +kernel) (by decide +kernel)
  have cm := rlm_run (tp := g0) hn hw (mF_hi f1 y1) h16 h17 h18 h24 (ty_m14 i1.1) ((f1.1 172 rfl).trans y2) (ty_ref i1.1 (g := 22) (p := 175) rfl) r2
  dsimp only at cx cm
  rw [Value.int.inj (Option.some.inj cx), Value.int.inj (Option.some.inj cm)]
  exact zA_cg hjj
end ZRR
