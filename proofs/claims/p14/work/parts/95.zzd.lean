/-! the code that the class's reader of rules emits: functions alone -/
section ZCD
variable {f : Nat → Int32} {t : Nat}
def znv (f : Nat → Int32) (t : Nat) : Nat → Nat → Int32 → Int32
  | 0, _, v => v
  | k + 1, p, v => cond (dg f p t) (znv f t k (p + 1) (10 * v + (f p - nI 48))) v
def zng (f : Nat → Int32) (t : Nat) : Nat → Nat → Bool → Bool
  | 0, _, b => b
  | k + 1, p, b => cond (decide (p < t ∧ f p = nI 45)) (zng f t k (p + 1) (!b)) b
def cth (sc : Nat → List Int32) (f : Nat → Int32) (t q : Nat) : List Int32 := cond (dg f q t) [znv f t 3 q 0] (cond (decide (q < t) && zlet (f q)) [-(f q)] (sc (q + 1)))
def clp (sc : Nat → List Int32) (st : Nat → Bool × Nat) (f : Nat → Int32) (t o : Nat) : Nat → Nat → List Int32
  | 0, _ => []
  | k + 1, p => cond (decide (p < t) && zlev o (f p)) (sc (p + 1) ++ (-(f p)) :: clp sc st f t o k (st (p + 1)).2) []
def pc (f : Nat → Int32) (t : Nat) : Nat → Nat → Nat → Nat → List Int32
  | 0, _, _, _ => []
  | m + 1, o, ns, p => cond (Nat.ble 3 o) (cth (pc f t m 0 (ns + 1)) f t (zmi f t 40 p) ++ cond (zng f t 40 p false) [Int32.ofInt (-126)] []) (pc f t m (o + 1) ns p ++ clp (pc f t m (o + 1) ns) (pz f t m (o + 1) ns) f t o (cond (Nat.beq o 0) 1 40) (pz f t m (o + 1) ns p).2)
theorem zng_ne : ∀ (k p : Nat) (b : Bool), zng f t k p b = !b → p + 1 ≤ zmi f t k p
  | 0, _, b, h => by
    have h : b = !b := h
    cases b <;> cases h
  | k + 1, p, b, h => by
    have h : cond (decide (p < t ∧ f p = nI 45)) (zng f t k (p + 1) (!b)) b = !b := h
    show p + 1 ≤ cond (decide (p < t ∧ f p = nI 45)) (zmi f t k (p + 1)) p
    have := zmi_ge (f := f) (t := t) k (p + 1)
    cases z : decide (p < t ∧ f p = nI 45) with
    | true => exact this
    | false =>
      rw [z] at h
      have h : b = !b := h
      cases b <;> cases h
theorem zng_gt (k p : Nat) (h : zng f t k p false = true) : p + 1 ≤ zmi f t k p := zng_ne k p false h
theorem cth_len0 {st : Nat → Bool × Nat} {sc : Nat → List Int32} {ns q : Nat} (hs : ∀ q, (st q).1 = true → (sc q).length + q ≤ (st q).2) (e : (zth st f t ns q).1 = true) : (cth sc f t q).length + q ≤ (zth st f t ns q).2 := by
  unfold zth at e ⊢
  unfold cth
  cases z1 : dg f q t with
  | true =>
    show 1 + q ≤ znb f t 3 q
    have h0 : znb f t 3 q = cond (dg f q t) (znb f t 2 (q + 1)) q := rfl
    rw [z1] at h0
    have h1 : q + 1 ≤ znb f t 2 (q + 1) := znb_ge 2 (q + 1)
    have h0 : znb f t 3 q = znb f t 2 (q + 1) := h0
    omega
  | false =>
    rw [z1] at e
    cases z2 : (decide (q < t) && zlet (f q)) with
    | true => exact Nat.le_of_eq (Nat.add_comm 1 q)
    | false =>
      rw [z2] at e
      cases z3 : (decide (q < t ∧ f q = nI 40) && decide (ns < 4)) with
      | false =>
        rw [z3] at e
        cases e
      | true =>
        rw [z3] at e
        cases z4 : ((st (q + 1)).1 && decide ((st (q + 1)).2 < t ∧ f (st (q + 1)).2 = nI 41)) with
        | false =>
          rw [z4] at e
          cases e
        | true =>
          rw [Bool.and_eq_true] at z4
          have := hs (q + 1) z4.1
          show (sc (q + 1)).length + q ≤ (st (q + 1)).2 + 1
          omega
theorem clp_len {st : Nat → Bool × Nat} {sc : Nat → List Int32} {o : Nat} (hs : ∀ q, (st q).1 = true → (sc q).length + q ≤ (st q).2) : ∀ (k p : Nat), (zlp st f t o k p).1 = true → (clp sc st f t o k p).length + p ≤ (zlp st f t o k p).2
  | 0, p, _ => by
    show 0 + p ≤ p
    omega
  | k + 1, p, e => by
    have e : (cond (decide (p < t) && zlev o (f p)) (cond (st (p + 1)).1 (zlp st f t o k (st (p + 1)).2) (false, (st (p + 1)).2)) (true, p)).1 = true := e
    show (cond (decide (p < t) && zlev o (f p)) (sc (p + 1) ++ (-(f p)) :: clp sc st f t o k (st (p + 1)).2) []).length + p ≤ (cond (decide (p < t) && zlev o (f p)) (cond (st (p + 1)).1 (zlp st f t o k (st (p + 1)).2) (false, (st (p + 1)).2)) (true, p)).2
    cases z1 : (decide (p < t) && zlev o (f p)) with
    | false =>
      show 0 + p ≤ p
      omega
    | true =>
      rw [z1] at e
      cases z2 : (st (p + 1)).1 with
      | false =>
        rw [z2] at e
        cases e
      | true =>
        rw [z2] at e
        have h1 := hs (p + 1) z2
        have h2 := clp_len hs k (st (p + 1)).2 e
        show (sc (p + 1) ++ (-(f p)) :: clp sc st f t o k (st (p + 1)).2).length + p ≤ (zlp st f t o k (st (p + 1)).2).2
        rw [List.length_append, List.length_cons]
        omega
theorem pc_len : ∀ (m o ns p : Nat), (pz f t m o ns p).1 = true → (pc f t m o ns p).length + p ≤ (pz f t m o ns p).2
  | 0, _, _, _, e => by cases e
  | m + 1, o, ns, p, e => by
    have e : (cond (Nat.ble 3 o) (zth (pz f t m 0 (ns + 1)) f t ns (zmi f t 40 p)) (cond (pz f t m (o + 1) ns p).1 (zlp (pz f t m (o + 1) ns) f t o (cond (Nat.beq o 0) 1 40) (pz f t m (o + 1) ns p).2) (false, (pz f t m (o + 1) ns p).2))).1 = true := e
    show (cond (Nat.ble 3 o) (cth (pc f t m 0 (ns + 1)) f t (zmi f t 40 p) ++ cond (zng f t 40 p false) [Int32.ofInt (-126)] []) (pc f t m (o + 1) ns p ++ clp (pc f t m (o + 1) ns) (pz f t m (o + 1) ns) f t o (cond (Nat.beq o 0) 1 40) (pz f t m (o + 1) ns p).2)).length + p ≤ (cond (Nat.ble 3 o) (zth (pz f t m 0 (ns + 1)) f t ns (zmi f t 40 p)) (cond (pz f t m (o + 1) ns p).1 (zlp (pz f t m (o + 1) ns) f t o (cond (Nat.beq o 0) 1 40) (pz f t m (o + 1) ns p).2) (false, (pz f t m (o + 1) ns p).2))).2
    cases z1 : Nat.ble 3 o with
    | true =>
      rw [z1] at e
      have h1 := cth_len0 (sc := pc f t m 0 (ns + 1)) (pc_len m 0 (ns + 1)) e
      have h2 := zmi_ge (f := f) (t := t) 40 p
      show (cth (pc f t m 0 (ns + 1)) f t (zmi f t 40 p) ++ cond (zng f t 40 p false) [Int32.ofInt (-126)] []).length + p ≤ (zth (pz f t m 0 (ns + 1)) f t ns (zmi f t 40 p)).2
      rw [List.length_append]
      cases z2 : zng f t 40 p false with
      | true =>
        have h3 := zng_gt 40 p z2
        show _ + 1 + p ≤ _
        omega
      | false =>
        show _ + 0 + p ≤ _
        omega
    | false =>
      rw [z1] at e
      cases z2 : (pz f t m (o + 1) ns p).1 with
      | false =>
        have e : (cond (pz f t m (o + 1) ns p).1 (zlp (pz f t m (o + 1) ns) f t o (cond (Nat.beq o 0) 1 40) (pz f t m (o + 1) ns p).2) (false, (pz f t m (o + 1) ns p).2)).1 = true := e
        rw [z2] at e
        cases e
      | true =>
        have e : (cond (pz f t m (o + 1) ns p).1 (zlp (pz f t m (o + 1) ns) f t o (cond (Nat.beq o 0) 1 40) (pz f t m (o + 1) ns p).2) (false, (pz f t m (o + 1) ns p).2)).1 = true := e
        rw [z2] at e
        have h1 := pc_len m (o + 1) ns p z2
        have h2 := clp_len (sc := pc f t m (o + 1) ns) (pc_len m (o + 1) ns) _ _ e
        show (pc f t m (o + 1) ns p ++ clp (pc f t m (o + 1) ns) (pz f t m (o + 1) ns) f t o (cond (Nat.beq o 0) 1 40) (pz f t m (o + 1) ns p).2).length + p ≤ (zlp (pz f t m (o + 1) ns) f t o (cond (Nat.beq o 0) 1 40) (pz f t m (o + 1) ns p).2).2
        rw [List.length_append]
        omega
theorem cth_len {m ns q : Nat} (e : (zth (pz f t m 0 (ns + 1)) f t ns q).1 = true) : (cth (pc f t m 0 (ns + 1)) f t q).length + q ≤ (zth (pz f t m 0 (ns + 1)) f t ns q).2 := cth_len0 (pc_len m 0 (ns + 1)) e
end ZCD
/-! the class's reader with the code that it emits -/
section ZCX
variable {n fr lo sl n0 cc o p : Nat} {h : pm_H} {R : pm_Rs} {f : Nat → Int32} {x v : Int32} {cs : List Int32}
theorem sg_val (hl : p < min n0 40) : sgA f n0 p 40 = f p := by
  unfold sgA
  rw [decide_eq_true hl]
  rfl
def oOk2 (o : Nat) : Prop := oOk o ∧ (o + 1 < 198 ∧ o + 1 ≠ 0 ∧ o + 1 ≠ 1 ∧ o + 1 ≠ 2 ∧ o + 1 ≠ 5)
def kX (h : pm_H) (o : Nat) (cs : List Int32) : Prop := ∃ rs C, h o = .inr (6, rs) ∧ rs[0]? = some (.ref (o + 1)) ∧ rs[1]? = some (.int (nI cs.length)) ∧ h (o + 1) = .inl (0, 40, .inl C) ∧ ∀ j, j < cs.length → cs[j]? = some (C j)
def qC (h : pm_H) (o p n0 cc : Nat) (f : Nat → Int32) (cs : List Int32) : Prop := qX h o p n0 cc f ∧ kX h o cs
theorem kX_at {rs : List Value} {w : Value} (e : h o = .inr (6, rs)) (k : kX h o cs) : kX (va_up h o (.inr (6, rs.set 5 w))) o cs := by
  obtain ⟨rs', C, k1, k2, k3, k4, k5⟩ := k
  rw [e] at k1
  cases k1
  refine ⟨rs.set 5 w, C, by simp [va_up], ?_, ?_, ?_, k5⟩
  · rw [List.getElem?_set_ne (by decide)]
    exact k2
  · rw [List.getElem?_set_ne (by decide)]
    exact k3
  · rw [show va_up h o (.inr (6, rs.set 5 w)) (o + 1) = h (o + 1) from if_neg (by omega)]
    exact k4
theorem qC_at {p' : Nat} {rs : List Value} (ho : oOk2 o) (e : h o = .inr (6, rs)) (q : qC h o p n0 cc f cs) : qC (va_up h o (.inr (6, rs.set 5 (.int (nI p'))))) o p' n0 cc f cs := ⟨qX_at ho.1 e q.1, kX_at e q.2⟩
/-- a step is told, and stands in the code -/
theorem em_runC (ho : oOk2 o) (hl0 : cs.length < 40) (q : qC h o p n0 cc f cs) (hh : pm_run PT n fr lo 60 (0, pm_l0 [.ref o, .int v] 2, [], h, 198, sl) = some R) : R.1 = none ∧ qC R.2.1 o p n0 cc f (cs ++ [v]) ∧ R.2.2 = (198, sl) := by
  obtain ⟨a1, a2, a3⟩ := em_run q.1 hh
  refine ⟨a1, ⟨a2, ?_⟩, a3⟩
  obtain ⟨-, rs, C, k1, k2, k3, k4, k5⟩ := q
  obtain ⟨n, hh⟩ := rn_i rfl rfl rfl rfl hh
  obtain ⟨n, hh⟩ := rn_gfo (g := 1) rfl rfl ho.1.1 k1 k3 hh
  obtain ⟨n, hh⟩ := rn_i rfl rfl rfl rfl hh
  have hh : pm_run PT n fr lo 60 (6, [some (.ref o), some (.int v)], [.int (nI 40), .int (nI cs.length)], h, 198, sl) = some R := hh
  obtain ⟨n, hh⟩ := rn_icmp (cc := .ge) (off := 23) (t := 29) rfl rfl hh
  rw [hI_ge (by omega) (by omega), decide_eq_false (by omega)] at hh
  have hh : pm_run PT n fr lo 60 (9, [some (.ref o), some (.int v)], [], h, 198, sl) = some R := hh
  obtain ⟨n, hh⟩ := rn_i rfl rfl rfl rfl hh
  obtain ⟨n, hh⟩ := rn_gfo (g := 0) rfl rfl ho.1.1 k1 k2 hh
  obtain ⟨n, hh⟩ := rn_i rfl rfl rfl rfl hh
  obtain ⟨n, hh⟩ := rn_gfo (g := 1) rfl rfl ho.1.1 k1 k3 hh
  obtain ⟨n, hh⟩ := rn_i rfl rfl rfl rfl hh
  have hh : pm_run PT n fr lo 60 (18, [some (.ref o), some (.int v)], [.int v, .int (nI cs.length), .ref (o + 1)], h, 198, sl) = some R := hh
  obtain ⟨n, hh⟩ := rn_ism rfl k4 (hI_in (by omega) (by decide)) ho.2.1 hh
  rw [nI_clamp (by omega)] at hh
  have j1 : aset h (o + 1) 40 (upd C cs.length v) o = .inr (6, rs) := (asR_ne (by omega)).trans k1
  have hh : pm_run PT n fr lo 60 (19, [some (.ref o), some (.int v)], [], aset h (o + 1) 40 (upd C cs.length v), 198, sl) = some R := hh
  obtain ⟨n, hh⟩ := rn_i rfl rfl rfl rfl hh
  obtain ⟨n, hh⟩ := rn_i rfl rfl rfl rfl hh
  obtain ⟨n, hh⟩ := rn_gfo (g := 1) rfl rfl ho.1.1 j1 k3 hh
  obtain ⟨n, hh⟩ := rn_i rfl rfl rfl rfl hh
  obtain ⟨n, hh⟩ := rn_i rfl rfl rfl rfl hh
  have hh : pm_run PT n fr lo 60 (26, [some (.ref o), some (.int v)], [.int (nI cs.length + nI 1), .ref o], aset h (o + 1) 40 (upd C cs.length v), 198, sl) = some R := hh
  rw [nI_add] at hh
  obtain ⟨n, hh⟩ := rn_i rfl rfl rfl (pf_eq (f := 1) rfl rfl (by decide) ho.1.1 j1 k3) hh
  have e := rn_vret rfl rfl hh
  rw [e]
  dsimp only
  refine ⟨rs.set 1 (.int (nI (cs.length + 1))), upd C cs.length v, by simp [va_up], ?_, ?_, ?_, fun j hj => ?_⟩
  · rw [List.getElem?_set_ne (by decide)]
    exact k2
  · rw [List.getElem?_set_self (List.getElem?_eq_some_iff.mp k3).1, List.length_append]
    rfl
  · rw [show va_up (aset h (o + 1) 40 (upd C cs.length v)) o (.inr (6, rs.set 1 (.int (nI (cs.length + 1))))) (o + 1) = aset h (o + 1) 40 (upd C cs.length v) (o + 1) from if_neg (by omega)]
    exact asR_self
  · rw [List.length_append] at hj
    have hj : j < cs.length + 1 := hj
    unfold upd
    by_cases z : j = cs.length
    · subst z
      rw [if_pos rfl, List.getElem?_append_right (Nat.le_refl _), Nat.sub_self]
      rfl
    · rw [if_neg z, List.getElem?_append_left (by omega)]
      exact k5 j (by omega)
theorem nbc_loop {fr lo sl n0 cc o : Nat} {f : Nat → Int32} (ho : oOk2 o) (hn : n0 ≤ 80) {cs : List Int32} {R : pm_Rs} : ∀ (k i p n : Nat) (num : Int32) (h : pm_H), i + k = 3 → p ≤ min n0 40 → cs.length < 40 → qC h o p n0 cc f cs → pm_run PT n fr lo 66 (18, [some (.ref o), some (.int num), some (.int (dgA f n0 p 40)), some (.int (nI i))], [], h, 198, sl) = some R → R.1 = none ∧ qC R.2.1 o (znb f (min n0 40) k p) n0 cc f (cs ++ [znv f (min n0 40) k p num]) ∧ R.2.2 = (198, sl) := by
  have fin : ∀ (n p : Nat) (x2 num : Int32) (x3 : Option Value) (h : pm_H), cs.length < 40 → qC h o p n0 cc f cs → pm_run PT n fr lo 66 (64, [some (.ref o), some (.int num), some (.int x2), x3], [], h, 198, sl) = some R → R.1 = none ∧ qC R.2.1 o p n0 cc f (cs ++ [num]) ∧ R.2.2 = (198, sl) := by
    intro n p x2 num x3 h hl0 q hh
    obtain ⟨n, hh⟩ := rn_i rfl rfl rfl rfl hh
    obtain ⟨n, hh⟩ := rn_i rfl rfl rfl rfl hh
    obtain ⟨n, fr', lo', r1, hr1, hh⟩ := rn_call (w := 0) (t := 60) rfl rfl hh
    obtain ⟨e1, q2, e2⟩ := em_runC ho hl0 q hr1
    obtain ⟨rv, h2, s2⟩ := r1
    dsimp only at e1 e2 q2
    subst e1
    subst e2
    have hh : pm_run PT n fr lo 66 (69, [some (.ref o), some (.int num), some (.int x2), x3], [], h2, 198, sl) = some R := hh
    have e := rn_vret rfl rfl hh
    rw [e]
    exact ⟨rfl, q2, rfl⟩
  intro k
  induction k with
  | zero =>
    intro i p n num h hi hp hl0 q hh
    obtain ⟨n, hh⟩ := rn_i rfl rfl rfl rfl hh
    obtain ⟨n, hh⟩ := rn_i rfl rfl rfl rfl hh
    have hh : pm_run PT n fr lo 66 (20, [some (.ref o), some (.int num), some (.int (dgA f n0 p 40)), some (.int (nI i))], [.int (nI 3), .int (nI i)], h, 198, sl) = some R := hh
    obtain ⟨n, hh⟩ := rn_icmp (cc := .ge) (off := 44) (t := 64) rfl rfl hh
    rw [hI_ge (by omega) (by omega), decide_eq_true (by omega)] at hh
    exact fin n p _ _ _ h hl0 q hh
  | succ k ih =>
    intro i p n num h hi hp hl0 q hh
    obtain ⟨⟨⟨rs, e0, e4, e5⟩, px⟩, kq⟩ := id q
    obtain ⟨n, hh⟩ := rn_i rfl rfl rfl rfl hh
    obtain ⟨n, hh⟩ := rn_i rfl rfl rfl rfl hh
    have hh : pm_run PT n fr lo 66 (20, [some (.ref o), some (.int num), some (.int (dgA f n0 p 40)), some (.int (nI i))], [.int (nI 3), .int (nI i)], h, 198, sl) = some R := hh
    obtain ⟨n, hh⟩ := rn_icmp (cc := .ge) (off := 44) (t := 64) rfl rfl hh
    rw [hI_ge (by omega) (by omega), decide_eq_false (by omega)] at hh
    have hh : pm_run PT n fr lo 66 (23, [some (.ref o), some (.int num), some (.int (dgA f n0 p 40)), some (.int (nI i))], [], h, 198, sl) = some R := hh
    obtain ⟨n, hh⟩ := rn_i rfl rfl rfl rfl hh
    obtain ⟨n, hh⟩ := rn_if (cc := .lt) (off := 40) (t := 64) rfl rfl hh
    show R.1 = none ∧ qC R.2.1 o (cond (dg f p (min n0 40)) (znb f (min n0 40) k (p + 1)) p) n0 cc f (cs ++ [cond (dg f p (min n0 40)) (znv f (min n0 40) k (p + 1) (10 * num + (f p - nI 48))) num]) ∧ R.2.2 = (198, sl)
    cases z : dg f p (min n0 40) with
    | false =>
      have ed : dgA f n0 p 40 = Int32.ofInt (-1) := by unfold dgA; rw [z]; rfl
      have ec : pm_cmp .lt (dgA f n0 p 40) 0 = true := by rw [ed]; decide
      rw [ec] at hh
      exact fin n p _ _ _ h hl0 q hh
    | true =>
      have hl := dg_lt z
      have ed : dgA f n0 p 40 = f p - nI 48 := by unfold dgA; rw [z]; rfl
      have ec : pm_cmp .lt (dgA f n0 p 40) 0 = false := by rw [ed]; exact lt0_val (dg_val z).1
      rw [ec] at hh
      have hh : pm_run PT n fr lo 66 (27, [some (.ref o), some (.int num), some (.int (dgA f n0 p 40)), some (.int (nI i))], [], h, 198, sl) = some R := hh
      obtain ⟨n, hh⟩ := rn_i rfl rfl rfl rfl hh
      obtain ⟨n, hh⟩ := rn_i rfl rfl rfl rfl hh
      obtain ⟨n, hh⟩ := rn_i rfl rfl rfl rfl hh
      obtain ⟨n, hh⟩ := rn_i rfl rfl rfl rfl hh
      obtain ⟨n, hh⟩ := rn_i rfl rfl rfl rfl hh
      obtain ⟨n, hh⟩ := rn_i rfl rfl rfl rfl hh
      have hh : pm_run PT n fr lo 66 (34, [some (.ref o), some (.int ((10 * num) + (dgA f n0 p 40))), some (.int (dgA f n0 p 40)), some (.int (nI i))], [], h, 198, sl) = some R := hh
      obtain ⟨n, hh⟩ := rn_i rfl rfl rfl rfl hh
      obtain ⟨n, hh⟩ := rn_i rfl rfl rfl rfl hh
      obtain ⟨n, hh⟩ := rn_gfo (g := 5) rfl rfl ho.1.1 e0 e5 hh
      obtain ⟨n, hh⟩ := rn_i rfl rfl rfl rfl hh
      obtain ⟨n, hh⟩ := rn_i rfl rfl rfl rfl hh
      obtain ⟨n, hh⟩ := rn_i rfl rfl rfl (pf_eq (f := 5) rfl rfl (by decide) ho.1.1 e0 e5) hh
      have hh : pm_run PT n fr lo 66 (44, [some (.ref o), some (.int ((10 * num) + (dgA f n0 p 40))), some (.int (dgA f n0 p 40)), some (.int (nI i))], [], (va_up h o (.inr (6, rs.set 5 (.int (nI p + Int32.ofInt 1))))), 198, sl) = some R := hh
      rw [show nI p + Int32.ofInt 1 = nI (p + 1) from (Int32.ofNat_add p 1).symm] at hh
      have q2 := qC_at (p' := p + 1) ho e0 q
      generalize va_up h o (.inr (6, rs.set 5 (.int (nI (p + 1))))) = h2 at hh q2
      have hh : pm_run PT n fr lo 66 (44, [some (.ref o), some (.int ((10 * num) + (dgA f n0 p 40))), some (.int (dgA f n0 p 40)), some (.int (nI i))], [], h2, 198, sl) = some R := hh
      obtain ⟨⟨⟨rs2, f0, f4, f5⟩, px2⟩, kq2⟩ := id q2
      obtain ⟨n, hh⟩ := rn_i rfl rfl rfl rfl hh
      obtain ⟨n, hh⟩ := rn_gfo (g := 4) rfl rfl ho.1.1 f0 f4 hh
      obtain ⟨n, hh⟩ := rn_i rfl rfl rfl rfl hh
      obtain ⟨n, hh⟩ := rn_gfo (g := 5) rfl rfl ho.1.1 f0 f5 hh
      obtain ⟨n, hh⟩ := rn_i rfl rfl rfl rfl hh
      have hh : pm_run PT n fr lo 66 (54, [some (.ref o), some (.int ((10 * num) + (dgA f n0 p 40))), some (.int (dgA f n0 p 40)), some (.int (nI i))], [.int (nI 40), .int (nI (p + 1)), .ref 1], h2, 198, sl) = some R := hh
      obtain ⟨n, fr', lo', r1, hr1, hh⟩ := rn_call (w := 0) (t := 81) rfl rfl hh
      have er := dgA_run hn (by decide) (by omega) px2 hr1
      subst er
      have hh : pm_run PT n fr lo 66 (57, [some (.ref o), some (.int ((10 * num) + (dgA f n0 p 40))), some (.int (dgA f n0 p 40)), some (.int (nI i))], [.int (dgA f n0 (p + 1) 40)], h2, 198, sl) = some R := hh
      obtain ⟨n, hh⟩ := rn_i rfl rfl rfl rfl hh
      obtain ⟨n, hh⟩ := rn_i rfl rfl rfl rfl hh
      obtain ⟨n, hh⟩ := rn_i rfl rfl rfl rfl hh
      have hh : pm_run PT n fr lo 66 (18, [some (.ref o), some (.int ((10 * num) + (dgA f n0 p 40))), some (.int (dgA f n0 (p + 1) 40)), some (.int ((nI i) + Int32.ofInt 1))], [], h2, 198, sl) = some R := hh
      rw [show nI i + Int32.ofInt 1 = nI (i + 1) from (Int32.ofNat_add i 1).symm] at hh
      rw [ed] at hh
      exact ih (i + 1) (p + 1) n _ h2 (by omega) (by omega) hl0 q2 hh
theorem nbc_run {n fr lo sl n0 cc o : Nat} {f : Nat → Int32} (ho : oOk2 o) (hn : n0 ≤ 80) {cs : List Int32} {p : Nat} {h : pm_H} {R : pm_Rs} (hp : p ≤ min n0 40) (hl0 : cs.length < 40) (q : qC h o p n0 cc f cs) (hh : pm_run PT n fr lo 66 (0, pm_l0 [.ref o] 4, [], h, 198, sl) = some R) : R.1 = none ∧ qC R.2.1 o (znb f (min n0 40) 3 p) n0 cc f (cs ++ [znv f (min n0 40) 3 p 0]) ∧ R.2.2 = (198, sl) := by
  obtain ⟨⟨⟨rs, e0, e4, e5⟩, px⟩, kq⟩ := id q
  obtain ⟨n, hh⟩ := rn_i rfl rfl rfl rfl hh
  obtain ⟨n, hh⟩ := rn_i rfl rfl rfl rfl hh
  obtain ⟨n, hh⟩ := rn_i rfl rfl rfl rfl hh
  obtain ⟨n, hh⟩ := rn_gfo (g := 4) rfl rfl ho.1.1 e0 e4 hh
  obtain ⟨n, hh⟩ := rn_i rfl rfl rfl rfl hh
  obtain ⟨n, hh⟩ := rn_gfo (g := 5) rfl rfl ho.1.1 e0 e5 hh
  obtain ⟨n, hh⟩ := rn_i rfl rfl rfl rfl hh
  have hh : pm_run PT n fr lo 66 (12, [some (.ref o), some (.int 0), none, none], [.int (nI 40), .int (nI p), .ref 1], h, 198, sl) = some R := hh
  obtain ⟨n, fr', lo', r1, hr1, hh⟩ := rn_call (w := 0) (t := 81) rfl rfl hh
  have er := dgA_run hn (by decide) (by omega) px hr1
  subst er
  have hh : pm_run PT n fr lo 66 (15, [some (.ref o), some (.int 0), none, none], [.int (dgA f n0 p 40)], h, 198, sl) = some R := hh
  obtain ⟨n, hh⟩ := rn_i rfl rfl rfl rfl hh
  obtain ⟨n, hh⟩ := rn_i rfl rfl rfl rfl hh
  obtain ⟨n, hh⟩ := rn_i rfl rfl rfl rfl hh
  have hh : pm_run PT n fr lo 66 (18, [some (.ref o), some (.int 0), some (.int (dgA f n0 p 40)), some (.int 0)], [], h, 198, sl) = some R := hh
  exact nbc_loop ho hn 3 0 p n _ h (by omega) hp hl0 q hh
/-- what a reader of rules answers, and the code that it emits -/
def zC (R : pm_Rs) (o n0 cc sl : Nat) (f : Nat → Int32) (cs : List Int32) (r : Bool × Nat) (ds : List Int32) : Prop := R.1 = some (.int (cond r.1 1 0)) ∧ qX R.2.1 o r.2 n0 cc f ∧ R.2.2 = (198, sl) ∧ (r.1 = true → qC R.2.1 o r.2 n0 cc f (cs ++ ds))
def cC (m n0 cc o : Nat) (f : Nat → Int32) : Prop := ∀ (lv ns p n fr lo sl : Nat) (h : pm_H) (R : pm_Rs) (cs : List Int32), lv ≤ 3 → ns ≤ 4 → (4 - lv) + 4 * (4 - ns) ≤ m → p ≤ min n0 40 → cs.length ≤ p → qC h o p n0 cc f cs → pm_run PT n fr lo 62 (0, pm_l0 [.ref o, .int (nI lv), .int (nI ns)] 6, [], h, 198, sl) = some R → zC R o n0 cc sl f cs (pz f (min n0 40) m lv ns p) (pc f (min n0 40) m lv ns p)
theorem zC_ok {R : pm_Rs} {o n0 cc sl p : Nat} {f : Nat → Int32} {cs ds : List Int32} {h : pm_H} (q : qC h o p n0 cc f (cs ++ ds)) (e : R = (some (.int 1), h, 198, sl)) : zC R o n0 cc sl f cs (true, p) ds := by
  rw [e]
  exact ⟨rfl, q.1, rfl, fun _ => q⟩
theorem zC_no {R : pm_Rs} {o n0 cc sl p : Nat} {f : Nat → Int32} {cs ds : List Int32} {h : pm_H} (q : qX h o p n0 cc f) (e : R = (some (.int 0), h, 198, sl)) : zC R o n0 cc sl f cs (false, p) ds := by
  rw [e]
  exact ⟨rfl, q, rfl, fun y => by cases y⟩
theorem thc_run {n fr lo sl n0 cc o : Nat} {f : Nat → Int32} (ho : oOk2 o) (hn : n0 ≤ 80) {cs : List Int32} {m ns p : Nat} {h : pm_H} {R : pm_Rs} (ih : cC m n0 cc o f) (hns : ns ≤ 4) (hm : 4 * (4 - ns) ≤ m) (hp : p ≤ min n0 40) (hl0 : cs.length ≤ p) (q : qC h o p n0 cc f cs) (hh : pm_run PT n fr lo 65 (0, pm_l0 [.ref o, .int (nI ns)] 3, [], h, 198, sl) = some R) : zC R o n0 cc sl f cs (zth (pz f (min n0 40) m 0 (ns + 1)) f (min n0 40) ns p) (cth (pc f (min n0 40) m 0 (ns + 1)) f (min n0 40) p) := by
  obtain ⟨⟨⟨rs, e0, e4, e5⟩, px⟩, kq⟩ := id q
  obtain ⟨n, hh⟩ := rn_i rfl rfl rfl rfl hh
  obtain ⟨n, fr', lo', r1, hr1, hh⟩ := rn_call (w := 0) (t := 61) rfl rfl hh
  have er := ns_run ho.1 hn (by omega) q.1 hr1
  subst er
  have hh : pm_run PT n fr lo 65 (4, [some (.ref o), some (.int (nI ns)), none], [.int (sgA f n0 p 40)], h, 198, sl) = some R := hh
  obtain ⟨n, hh⟩ := rn_i rfl rfl rfl rfl hh
  have hh : pm_run PT n fr lo 65 (5, [some (.ref o), some (.int (nI ns)), some (.int (sgA f n0 p 40))], [], h, 198, sl) = some R := hh
  obtain ⟨n, hh⟩ := rn_i rfl rfl rfl rfl hh
  obtain ⟨n, hh⟩ := rn_i rfl rfl rfl rfl hh
  have hh : pm_run PT n fr lo 65 (8, [some (.ref o), some (.int (nI ns)), some (.int (sgA f n0 p 40))], [.int (nI 48), .int (sgA f n0 p 40)], h, 198, sl) = some R := hh
  obtain ⟨n, hh⟩ := rn_icmp (cc := .lt) (off := 15) (t := 23) rfl rfl hh
  unfold zth cth
  cases z : dg f p (min n0 40) with
  | true =>
    obtain ⟨d1, d2⟩ := sg_dg z
    rw [d1] at hh
    have hh : pm_run PT n fr lo 65 (11, [some (.ref o), some (.int (nI ns)), some (.int (sgA f n0 p 40))], [], h, 198, sl) = some R := hh
    obtain ⟨n, hh⟩ := rn_i rfl rfl rfl rfl hh
    obtain ⟨n, hh⟩ := rn_i rfl rfl rfl rfl hh
    have hh : pm_run PT n fr lo 65 (14, [some (.ref o), some (.int (nI ns)), some (.int (sgA f n0 p 40))], [.int (nI 57), .int (sgA f n0 p 40)], h, 198, sl) = some R := hh
    obtain ⟨n, hh⟩ := rn_icmp (cc := .gt) (off := 9) (t := 23) rfl rfl hh
    rw [d2] at hh
    have hh : pm_run PT n fr lo 65 (17, [some (.ref o), some (.int (nI ns)), some (.int (sgA f n0 p 40))], [], h, 198, sl) = some R := hh
    obtain ⟨n, hh⟩ := rn_i rfl rfl rfl rfl hh
    obtain ⟨n, fr', lo', r1, hr1, hh⟩ := rn_call (w := 0) (t := 66) rfl rfl hh
    obtain ⟨b1, b2, b3⟩ := nbc_run ho hn hp (by have := dg_lt z; omega) q hr1
    obtain ⟨rv, h2, s2⟩ := r1
    dsimp only at b1 b2 b3
    subst b1
    subst b3
    have hh : pm_run PT n fr lo 65 (21, [some (.ref o), some (.int (nI ns)), some (.int (sgA f n0 p 40))], [], h2, 198, sl) = some R := hh
    obtain ⟨n, hh⟩ := rn_i rfl rfl rfl rfl hh
    exact zC_ok b2 (rn_ret rfl (Or.inr rfl) hh).2
  | false =>
    have to23 : ∀ n : Nat, pm_run PT n fr lo 65 (23, [some (.ref o), some (.int (nI ns)), some (.int (sgA f n0 p 40))], [], h, 198, sl) = some R → zC R o n0 cc sl f cs (cond false (true, znb f (min n0 40) 3 p) (cond (decide (p < min n0 40) && zlet (f p)) (true, p + 1) (cond (decide (p < min n0 40 ∧ f p = nI 40) && decide (ns < 4)) (cond ((pz f (min n0 40) m 0 (ns + 1) (p + 1)).1 && decide ((pz f (min n0 40) m 0 (ns + 1) (p + 1)).2 < min n0 40 ∧ f (pz f (min n0 40) m 0 (ns + 1) (p + 1)).2 = nI 41)) (true, (pz f (min n0 40) m 0 (ns + 1) (p + 1)).2 + 1) (false, (pz f (min n0 40) m 0 (ns + 1) (p + 1)).2)) (false, p)))) (cond false [znv f (min n0 40) 3 p 0] (cond (decide (p < min n0 40) && zlet (f p)) [-(f p)] (pc f (min n0 40) m 0 (ns + 1) (p + 1)))) := by
      intro n hh
      obtain ⟨n, hh⟩ := rn_i rfl rfl rfl rfl hh
      obtain ⟨n, fr', lo', r1, hr1, hh⟩ := rn_call (w := 2) (t := 67) rfl rfl hh
      have er := ltx_run hr1
      subst er
      have hh : pm_run PT n fr lo 65 (27, [some (.ref o), some (.int (nI ns)), some (.int (sgA f n0 p 40))], [.int (ltV (sgA f n0 p 40))], h, 198, sl) = some R := hh
      obtain ⟨n, hh⟩ := rn_if (cc := .lt) (off := 21) (t := 48) rfl rfl hh
      rw [sg_let] at hh
      cases zl : (decide (p < min n0 40) && zlet (f p)) with
      | true =>
        have hl : p < min n0 40 := by
          rw [Bool.and_eq_true] at zl
          exact of_decide_eq_true zl.1
        rw [zl] at hh
        have hh : pm_run PT n fr lo 65 (30, [some (.ref o), some (.int (nI ns)), some (.int (sgA f n0 p 40))], [], h, 198, sl) = some R := hh
        obtain ⟨n, hh⟩ := rn_i rfl rfl rfl rfl hh
        obtain ⟨n, hh⟩ := rn_i rfl rfl rfl rfl hh
        obtain ⟨n, hh⟩ := rn_i rfl rfl rfl rfl hh
        have hh : pm_run PT n fr lo 65 (33, [some (.ref o), some (.int (nI ns)), some (.int (sgA f n0 p 40))], [.int (-(sgA f n0 p 40)), .ref o], h, 198, sl) = some R := hh
        obtain ⟨n, fr', lo', r1, hr1, hh⟩ := rn_call (w := 0) (t := 60) rfl rfl hh
        obtain ⟨b1, b2, b3⟩ := em_runC ho (by omega) q hr1
        obtain ⟨rv, h2, s2⟩ := r1
        dsimp only at b1 b2 b3
        subst b1
        subst b3
        obtain ⟨⟨⟨rs, e0, e4, e5⟩, px⟩, kq⟩ := id b2
        have hh : pm_run PT n fr lo 65 (36, [some (.ref o), some (.int (nI ns)), some (.int (sgA f n0 p 40))], [], h2, 198, sl) = some R := hh
        obtain ⟨n, hh⟩ := rn_i rfl rfl rfl rfl hh
        obtain ⟨n, hh⟩ := rn_i rfl rfl rfl rfl hh
        obtain ⟨n, hh⟩ := rn_gfo (g := 5) rfl rfl ho.1.1 e0 e5 hh
        obtain ⟨n, hh⟩ := rn_i rfl rfl rfl rfl hh
        obtain ⟨n, hh⟩ := rn_i rfl rfl rfl rfl hh
        obtain ⟨n, hh⟩ := rn_i rfl rfl rfl (pf_eq (f := 5) rfl rfl (by decide) ho.1.1 e0 e5) hh
        have hh : pm_run PT n fr lo 65 (46, [some (.ref o), some (.int (nI ns)), some (.int (sgA f n0 p 40))], [], (va_up h2 o (.inr (6, rs.set 5 (.int (nI p + Int32.ofInt 1))))), 198, sl) = some R := hh
        rw [show nI p + Int32.ofInt 1 = nI (p + 1) from (Int32.ofNat_add p 1).symm] at hh
        have q3 := qC_at (p' := p + 1) ho e0 b2
        generalize va_up h2 o (.inr (6, rs.set 5 (.int (nI (p + 1))))) = h3 at hh q3
        have hh : pm_run PT n fr lo 65 (46, [some (.ref o), some (.int (nI ns)), some (.int (sgA f n0 p 40))], [], h3, 198, sl) = some R := hh
        obtain ⟨n, hh⟩ := rn_i rfl rfl rfl rfl hh
        have eg : -(sgA f n0 p 40) = -(f p) := by rw [sg_val hl]
        rw [eg] at q3
        exact zC_ok q3 (rn_ret rfl (Or.inr rfl) hh).2
      | false =>
        rw [zl] at hh
        have hh : pm_run PT n fr lo 65 (48, [some (.ref o), some (.int (nI ns)), some (.int (sgA f n0 p 40))], [], h, 198, sl) = some R := hh
        obtain ⟨n, hh⟩ := rn_i rfl rfl rfl rfl hh
        obtain ⟨n, hh⟩ := rn_i rfl rfl rfl rfl hh
        have hh : pm_run PT n fr lo 65 (51, [some (.ref o), some (.int (nI ns)), some (.int (sgA f n0 p 40))], [.int (nI 40), .int (sgA f n0 p 40)], h, 198, sl) = some R := hh
        obtain ⟨n, hh⟩ := rn_icmp (cc := .ne) (off := 8) (t := 59) rfl rfl hh
        rw [sg_ne (by decide)] at hh
        have no : ∀ n : Nat, pm_run PT n fr lo 65 (59, [some (.ref o), some (.int (nI ns)), some (.int (sgA f n0 p 40))], [], h, 198, sl) = some R → zC R o n0 cc sl f cs (false, p) (pc f (min n0 40) m 0 (ns + 1) (p + 1)) := by
          intro n hh
          obtain ⟨n, hh⟩ := rn_i rfl rfl rfl rfl hh
          exact zC_no q.1 (rn_ret rfl (Or.inr rfl) hh).2
        cases zo : decide (p < min n0 40 ∧ f p = nI 40) with
        | false =>
          rw [zo] at hh
          exact no n hh
        | true =>
          rw [zo] at hh
          have hl := (of_decide_eq_true zo).1
          have hh : pm_run PT n fr lo 65 (54, [some (.ref o), some (.int (nI ns)), some (.int (sgA f n0 p 40))], [], h, 198, sl) = some R := hh
          obtain ⟨n, hh⟩ := rn_i rfl rfl rfl rfl hh
          obtain ⟨n, hh⟩ := rn_i rfl rfl rfl rfl hh
          have hh : pm_run PT n fr lo 65 (56, [some (.ref o), some (.int (nI ns)), some (.int (sgA f n0 p 40))], [.int (nI 4), .int (nI ns)], h, 198, sl) = some R := hh
          obtain ⟨n, hh⟩ := rn_icmp (cc := .lt) (off := 5) (t := 61) rfl rfl hh
          rw [hI_lt (by omega) (by omega)] at hh
          by_cases z4 : ns < 4
          · rw [decide_eq_true z4] at hh
            rw [decide_eq_true z4]
            have hh : pm_run PT n fr lo 65 (61, [some (.ref o), some (.int (nI ns)), some (.int (sgA f n0 p 40))], [], h, 198, sl) = some R := hh
            obtain ⟨n, hh⟩ := rn_i rfl rfl rfl rfl hh
            obtain ⟨n, hh⟩ := rn_i rfl rfl rfl rfl hh
            obtain ⟨n, hh⟩ := rn_gfo (g := 5) rfl rfl ho.1.1 e0 e5 hh
            obtain ⟨n, hh⟩ := rn_i rfl rfl rfl rfl hh
            obtain ⟨n, hh⟩ := rn_i rfl rfl rfl rfl hh
            obtain ⟨n, hh⟩ := rn_i rfl rfl rfl (pf_eq (f := 5) rfl rfl (by decide) ho.1.1 e0 e5) hh
            have hh : pm_run PT n fr lo 65 (71, [some (.ref o), some (.int (nI ns)), some (.int (sgA f n0 p 40))], [], (va_up h o (.inr (6, rs.set 5 (.int (nI p + Int32.ofInt 1))))), 198, sl) = some R := hh
            rw [show nI p + Int32.ofInt 1 = nI (p + 1) from (Int32.ofNat_add p 1).symm] at hh
            have q3 := qC_at (p' := p + 1) ho e0 q
            generalize va_up h o (.inr (6, rs.set 5 (.int (nI (p + 1))))) = h3 at hh q3
            have hh : pm_run PT n fr lo 65 (71, [some (.ref o), some (.int (nI ns)), some (.int (sgA f n0 p 40))], [], h3, 198, sl) = some R := hh
            obtain ⟨n, hh⟩ := rn_i rfl rfl rfl rfl hh
            obtain ⟨n, hh⟩ := rn_i rfl rfl rfl rfl hh
            obtain ⟨n, hh⟩ := rn_i rfl rfl rfl rfl hh
            obtain ⟨n, hh⟩ := rn_i rfl rfl rfl rfl hh
            obtain ⟨n, hh⟩ := rn_i rfl rfl rfl rfl hh
            have hh : pm_run PT n fr lo 65 (76, [some (.ref o), some (.int (nI ns)), some (.int (sgA f n0 p 40))], [.int (nI ns + Int32.ofInt 1), .int (nI 0), .ref o], h3, 198, sl) = some R := hh
            rw [show nI ns + Int32.ofInt 1 = nI (ns + 1) from (Int32.ofNat_add ns 1).symm] at hh
            obtain ⟨n, fr', lo', r1, hr1, hh⟩ := rn_call (w := 0) (t := 62) rfl rfl hh
            obtain ⟨b1, b2, b3, b4⟩ := ih 0 (ns + 1) (p + 1) _ _ _ _ _ _ _ (by omega) (by omega) (by omega) (by omega) (by omega) q3 hr1
            obtain ⟨rv, h4, s4⟩ := r1
            dsimp only at b1 b2 b3 b4
            subst b1
            subst b3
            have hh : pm_run PT n fr lo 65 (79, [some (.ref o), some (.int (nI ns)), some (.int (sgA f n0 p 40))], [.int (cond (pz f (min n0 40) m 0 (ns + 1) (p + 1)).1 1 0)], h4, 198, sl) = some R := hh
            have hle := pz_le (f := f) (t := min n0 40) m 0 (ns + 1) (p + 1) (by omega)
            generalize pz f (min n0 40) m 0 (ns + 1) (p + 1) = r at *
            obtain ⟨rb, rp⟩ := r
            dsimp only at b2 b4 hle hh ⊢
            have hh : pm_run PT n fr lo 65 (79, [some (.ref o), some (.int (nI ns)), some (.int (sgA f n0 p 40))], [.int (cond rb 1 0)], h4, 198, sl) = some R := hh
            obtain ⟨n, hh⟩ := rn_if (cc := .eq) (off := 12) (t := 91) rfl rfl hh
            have no2 : ∀ n : Nat, pm_run PT n fr lo 65 (91, [some (.ref o), some (.int (nI ns)), some (.int (sgA f n0 p 40))], [], h4, 198, sl) = some R → zC R o n0 cc sl f cs (false, rp) (pc f (min n0 40) m 0 (ns + 1) (p + 1)) := by
              intro n hh
              obtain ⟨n, hh⟩ := rn_i rfl rfl rfl rfl hh
              exact zC_no b2 (rn_ret rfl (Or.inr rfl) hh).2
            cases rb with
            | false => exact no2 n hh
            | true =>
              have b2 := b4 rfl
              have hh : pm_run PT n fr lo 65 (82, [some (.ref o), some (.int (nI ns)), some (.int (sgA f n0 p 40))], [], h4, 198, sl) = some R := hh
              obtain ⟨n, hh⟩ := rn_i rfl rfl rfl rfl hh
              obtain ⟨n, fr', lo', r1, hr1, hh⟩ := rn_call (w := 0) (t := 61) rfl rfl hh
              have er := ns_run ho.1 hn (by omega) b2.1 hr1
              subst er
              obtain ⟨n, hh⟩ := rn_i rfl rfl rfl rfl hh
              have hh : pm_run PT n fr lo 65 (88, [some (.ref o), some (.int (nI ns)), some (.int (sgA f n0 p 40))], [.int (nI 41), .int (sgA f n0 rp 40)], h4, 198, sl) = some R := hh
              obtain ⟨n, hh⟩ := rn_icmp (cc := .eq) (off := 5) (t := 93) rfl rfl hh
              rw [sg_eq (by decide)] at hh
              cases zc : decide (rp < min n0 40 ∧ f rp = nI 41) with
              | false =>
                rw [zc] at hh
                exact no2 n hh
              | true =>
                rw [zc] at hh
                obtain ⟨⟨⟨rs, e0, e4, e5⟩, px⟩, kq⟩ := id b2
                have hh : pm_run PT n fr lo 65 (93, [some (.ref o), some (.int (nI ns)), some (.int (sgA f n0 p 40))], [], h4, 198, sl) = some R := hh
                obtain ⟨n, hh⟩ := rn_i rfl rfl rfl rfl hh
                obtain ⟨n, hh⟩ := rn_i rfl rfl rfl rfl hh
                obtain ⟨n, hh⟩ := rn_gfo (g := 5) rfl rfl ho.1.1 e0 e5 hh
                obtain ⟨n, hh⟩ := rn_i rfl rfl rfl rfl hh
                obtain ⟨n, hh⟩ := rn_i rfl rfl rfl rfl hh
                obtain ⟨n, hh⟩ := rn_i rfl rfl rfl (pf_eq (f := 5) rfl rfl (by decide) ho.1.1 e0 e5) hh
                have hh : pm_run PT n fr lo 65 (103, [some (.ref o), some (.int (nI ns)), some (.int (sgA f n0 p 40))], [], (va_up h4 o (.inr (6, rs.set 5 (.int (nI rp + Int32.ofInt 1))))), 198, sl) = some R := hh
                rw [show nI rp + Int32.ofInt 1 = nI (rp + 1) from (Int32.ofNat_add rp 1).symm] at hh
                have q5 := qC_at (p' := rp + 1) ho e0 b2
                generalize va_up h4 o (.inr (6, rs.set 5 (.int (nI (rp + 1))))) = h5 at hh q5
                have hh : pm_run PT n fr lo 65 (103, [some (.ref o), some (.int (nI ns)), some (.int (sgA f n0 p 40))], [], h5, 198, sl) = some R := hh
                obtain ⟨n, hh⟩ := rn_i rfl rfl rfl rfl hh
                exact zC_ok q5 (rn_ret rfl (Or.inr rfl) hh).2
          · rw [decide_eq_false z4] at hh
            rw [decide_eq_false z4]
            exact no n hh
    cases y : pm_cmp .lt (sgA f n0 p 40) (nI 48) with
    | true =>
      rw [y] at hh
      exact to23 n hh
    | false =>
      rw [y] at hh
      have hh : pm_run PT n fr lo 65 (11, [some (.ref o), some (.int (nI ns)), some (.int (sgA f n0 p 40))], [], h, 198, sl) = some R := hh
      obtain ⟨n, hh⟩ := rn_i rfl rfl rfl rfl hh
      obtain ⟨n, hh⟩ := rn_i rfl rfl rfl rfl hh
      have hh : pm_run PT n fr lo 65 (14, [some (.ref o), some (.int (nI ns)), some (.int (sgA f n0 p 40))], [.int (nI 57), .int (sgA f n0 p 40)], h, 198, sl) = some R := hh
      obtain ⟨n, hh⟩ := rn_icmp (cc := .gt) (off := 9) (t := 23) rfl rfl hh
      rw [sg_nd z y] at hh
      exact to23 n hh
theorem mic_loop {fr lo sl n0 cc o : Nat} {f : Nat → Int32} (ho : oOk2 o) (hn : n0 ≤ 80) {cs : List Int32} {ns : Nat} {R : pm_Rs} : ∀ (k i p n : Nat) (ng : Bool) (h : pm_H), i + k = 40 → p ≤ min n0 40 → qC h o p n0 cc f cs → pm_run PT n fr lo 64 (4, [some (.ref o), some (.int (nI ns)), some (.int (cond ng 1 0)), some (.int (nI i))], [], h, 198, sl) = some R → ∃ (q i' : Nat) (h' : pm_H), pm_run PT q fr lo 64 (45, [some (.ref o), some (.int (nI ns)), some (.int (cond (zng f (min n0 40) k p ng) 1 0)), some (.int (nI i'))], [], h', 198, sl) = some R ∧ qC h' o (zmi f (min n0 40) k p) n0 cc f cs := by
  intro k
  induction k with
  | zero =>
    intro i p n ng h hi hp q hh
    obtain ⟨n, hh⟩ := rn_i rfl rfl rfl rfl hh
    obtain ⟨n, hh⟩ := rn_i rfl rfl rfl rfl hh
    have hh : pm_run PT n fr lo 64 (7, [some (.ref o), some (.int (nI ns)), some (.int (cond ng 1 0)), some (.int (nI i))], [.int (nI 40), .int (nI i)], h, 198, sl) = some R := hh
    obtain ⟨n, hh⟩ := rn_icmp (cc := .ge) (off := 38) (t := 45) rfl rfl hh
    rw [hI_ge (by omega) (by omega), decide_eq_true (by omega)] at hh
    exact ⟨n, i, h, hh, q⟩
  | succ k ih =>
    intro i p n ng h hi hp q hh
    obtain ⟨⟨⟨rs, e0, e4, e5⟩, px⟩, kq⟩ := id q
    obtain ⟨n, hh⟩ := rn_i rfl rfl rfl rfl hh
    obtain ⟨n, hh⟩ := rn_i rfl rfl rfl rfl hh
    have hh : pm_run PT n fr lo 64 (7, [some (.ref o), some (.int (nI ns)), some (.int (cond ng 1 0)), some (.int (nI i))], [.int (nI 40), .int (nI i)], h, 198, sl) = some R := hh
    obtain ⟨n, hh⟩ := rn_icmp (cc := .ge) (off := 38) (t := 45) rfl rfl hh
    rw [hI_ge (by omega) (by omega), decide_eq_false (by omega)] at hh
    have hh : pm_run PT n fr lo 64 (10, [some (.ref o), some (.int (nI ns)), some (.int (cond ng 1 0)), some (.int (nI i))], [], h, 198, sl) = some R := hh
    obtain ⟨n, hh⟩ := rn_i rfl rfl rfl rfl hh
    obtain ⟨n, fr', lo', r1, hr1, hh⟩ := rn_call (w := 0) (t := 61) rfl rfl hh
    have er := ns_run ho.1 hn (by omega) q.1 hr1
    subst er
    obtain ⟨n, hh⟩ := rn_i rfl rfl rfl rfl hh
    have hh : pm_run PT n fr lo 64 (16, [some (.ref o), some (.int (nI ns)), some (.int (cond ng 1 0)), some (.int (nI i))], [.int (nI 45), .int (sgA f n0 p 40)], h, 198, sl) = some R := hh
    obtain ⟨n, hh⟩ := rn_icmp (cc := .ne) (off := 29) (t := 45) rfl rfl hh
    rw [sg_ne (by decide)] at hh
    show ∃ (q i' : Nat) (h' : pm_H), pm_run PT q fr lo 64 (45, [some (.ref o), some (.int (nI ns)), some (.int (cond (cond (decide (p < min n0 40 ∧ f p = nI 45)) (zng f (min n0 40) k (p + 1) (!ng)) ng) 1 0)), some (.int (nI i'))], [], h', 198, sl) = some R ∧ qC h' o (cond (decide (p < min n0 40 ∧ f p = nI 45)) (zmi f (min n0 40) k (p + 1)) p) n0 cc f cs
    cases z : decide (p < min n0 40 ∧ f p = nI 45) with
    | false =>
      rw [z] at hh
      exact ⟨n, i, h, hh, q⟩
    | true =>
      rw [z] at hh
      have hl := (of_decide_eq_true z).1
      have hh : pm_run PT n fr lo 64 (19, [some (.ref o), some (.int (nI ns)), some (.int (cond ng 1 0)), some (.int (nI i))], [], h, 198, sl) = some R := hh
      have fin : ∀ (n : Nat) (g2 : Bool), pm_run PT n fr lo 64 (28, [some (.ref o), some (.int (nI ns)), some (.int (cond ng 1 0)), some (.int (nI i))], [.int (cond g2 1 0)], h, 198, sl) = some R → ∃ (q i' : Nat) (h' : pm_H), pm_run PT q fr lo 64 (45, [some (.ref o), some (.int (nI ns)), some (.int (cond (zng f (min n0 40) k (p + 1) g2) 1 0)), some (.int (nI i'))], [], h', 198, sl) = some R ∧ qC h' o (zmi f (min n0 40) k (p + 1)) n0 cc f cs := by
        intro n g2 hh
        obtain ⟨n, hh⟩ := rn_i rfl rfl rfl rfl hh
        have hh : pm_run PT n fr lo 64 (29, [some (.ref o), some (.int (nI ns)), some (.int (cond g2 1 0)), some (.int (nI i))], [], h, 198, sl) = some R := hh
        obtain ⟨n, hh⟩ := rn_i rfl rfl rfl rfl hh
        obtain ⟨n, hh⟩ := rn_i rfl rfl rfl rfl hh
        obtain ⟨n, hh⟩ := rn_gfo (g := 5) rfl rfl ho.1.1 e0 e5 hh
        obtain ⟨n, hh⟩ := rn_i rfl rfl rfl rfl hh
        obtain ⟨n, hh⟩ := rn_i rfl rfl rfl rfl hh
        obtain ⟨n, hh⟩ := rn_i rfl rfl rfl (pf_eq (f := 5) rfl rfl (by decide) ho.1.1 e0 e5) hh
        have hh : pm_run PT n fr lo 64 (39, [some (.ref o), some (.int (nI ns)), some (.int (cond g2 1 0)), some (.int (nI i))], [], (va_up h o (.inr (6, rs.set 5 (.int (nI p + Int32.ofInt 1))))), 198, sl) = some R := hh
        rw [show nI p + Int32.ofInt 1 = nI (p + 1) from (Int32.ofNat_add p 1).symm] at hh
        have q2 := qC_at (p' := p + 1) ho e0 q
        generalize va_up h o (.inr (6, rs.set 5 (.int (nI (p + 1))))) = h2 at hh q2
        have hh : pm_run PT n fr lo 64 (39, [some (.ref o), some (.int (nI ns)), some (.int (cond g2 1 0)), some (.int (nI i))], [], h2, 198, sl) = some R := hh
        obtain ⟨n, hh⟩ := rn_i rfl rfl rfl rfl hh
        obtain ⟨n, hh⟩ := rn_i rfl rfl rfl rfl hh
        have hh : pm_run PT n fr lo 64 (4, [some (.ref o), some (.int (nI ns)), some (.int (cond g2 1 0)), some (.int ((nI i) + Int32.ofInt 1))], [], h2, 198, sl) = some R := hh
        rw [show nI i + Int32.ofInt 1 = nI (i + 1) from (Int32.ofNat_add i 1).symm] at hh
        exact ih (i + 1) (p + 1) n _ h2 (by omega) (by omega) q2 hh
      obtain ⟨n, hh⟩ := rn_i rfl rfl rfl rfl hh
      obtain ⟨n, hh⟩ := rn_if (cc := .ne) (off := 7) (t := 27) rfl rfl hh
      cases ng with
      | true =>
        obtain ⟨n, hh⟩ := rn_i rfl rfl rfl rfl hh
        exact fin n false hh
      | false =>
        obtain ⟨n, hh⟩ := rn_i rfl rfl rfl rfl hh
        obtain ⟨n, hh⟩ := rn_i rfl rfl rfl rfl hh
        exact fin n true hh
theorem sic_run {n fr lo sl n0 cc o : Nat} {f : Nat → Int32} (ho : oOk2 o) (hn : n0 ≤ 80) {cs : List Int32} {m ns p : Nat} {h : pm_H} {R : pm_Rs} (ih : cC m n0 cc o f) (hns : ns ≤ 4) (hm : 4 * (4 - ns) ≤ m) (hp : p ≤ min n0 40) (hl0 : cs.length ≤ p) (q : qC h o p n0 cc f cs) (hh : pm_run PT n fr lo 64 (0, pm_l0 [.ref o, .int (nI ns)] 4, [], h, 198, sl) = some R) : zC R o n0 cc sl f cs (zth (pz f (min n0 40) m 0 (ns + 1)) f (min n0 40) ns (zmi f (min n0 40) 40 p)) (cth (pc f (min n0 40) m 0 (ns + 1)) f (min n0 40) (zmi f (min n0 40) 40 p) ++ cond (zng f (min n0 40) 40 p false) [Int32.ofInt (-126)] []) := by
  obtain ⟨n, hh⟩ := rn_i rfl rfl rfl rfl hh
  obtain ⟨n, hh⟩ := rn_i rfl rfl rfl rfl hh
  obtain ⟨n, hh⟩ := rn_i rfl rfl rfl rfl hh
  obtain ⟨n, hh⟩ := rn_i rfl rfl rfl rfl hh
  have hh : pm_run PT n fr lo 64 (4, [some (.ref o), some (.int (nI ns)), some (.int 0), some (.int 0)], [], h, 198, sl) = some R := hh
  obtain ⟨n, i2, h2, hh, q2⟩ := mic_loop ho hn 40 0 p n false h (by omega) hp q hh
  have hz := zmi_le (f := f) (t := min n0 40) 40 p hp
  have hg := zmi_ge (f := f) (t := min n0 40) 40 p
  have hx := zng_gt (f := f) (t := min n0 40) 40 p
  generalize zng f (min n0 40) 40 p false = g2 at *
  generalize zmi f (min n0 40) 40 p = pq at *
  obtain ⟨n, hh⟩ := rn_i rfl rfl rfl rfl hh
  obtain ⟨n, hh⟩ := rn_i rfl rfl rfl rfl hh
  obtain ⟨n, fr', lo', r1, hr1, hh⟩ := rn_call (w := 0) (t := 65) rfl rfl hh
  obtain ⟨b1, b2, b3, b4⟩ := thc_run ho hn ih hns hm hz (by omega) q2 hr1
  obtain ⟨rv, h3, s3⟩ := r1
  dsimp only at b1 b2 b3 b4
  subst b1
  subst b3
  have hrl := zth_le (f := f) (fun q hq => pz_le (f := f) (t := min n0 40) m 0 (ns + 1) q hq) (ns := ns) hz
  have hlen := cth_len (f := f) (t := min n0 40) (m := m) (ns := ns) (q := pq)
  have hh : pm_run PT n fr lo 64 (50, [some (.ref o), some (.int (nI ns)), some (.int (cond g2 1 0)), some (.int (nI i2))], [.int (cond (zth (pz f (min n0 40) m 0 (ns + 1)) f (min n0 40) ns pq).1 1 0)], h3, 198, sl) = some R := hh
  generalize zth (pz f (min n0 40) m 0 (ns + 1)) f (min n0 40) ns pq = r at *
  generalize cth (pc f (min n0 40) m 0 (ns + 1)) f (min n0 40) pq = dt at *
  obtain ⟨rb, rp⟩ := r
  dsimp only at b2 b4 hh hlen hrl ⊢
  have hh : pm_run PT n fr lo 64 (50, [some (.ref o), some (.int (nI ns)), some (.int (cond g2 1 0)), some (.int (nI i2))], [.int (cond rb 1 0)], h3, 198, sl) = some R := hh
  obtain ⟨n, hh⟩ := rn_if (cc := .ne) (off := 5) (t := 55) rfl rfl hh
  cases rb with
  | false =>
    obtain ⟨n, hh⟩ := rn_i rfl rfl rfl rfl hh
    exact zC_no b2 (rn_ret rfl (Or.inr rfl) hh).2
  | true =>
    have hh : pm_run PT n fr lo 64 (55, [some (.ref o), some (.int (nI ns)), some (.int (cond g2 1 0)), some (.int (nI i2))], [], h3, 198, sl) = some R := hh
    have b5 := b4 rfl
    have hlen := hlen rfl
    obtain ⟨n, hh⟩ := rn_i rfl rfl rfl rfl hh
    obtain ⟨n, hh⟩ := rn_if (cc := .eq) (off := 9) (t := 65) rfl rfl hh
    cases g2 with
    | false =>
      obtain ⟨n, hh⟩ := rn_i rfl rfl rfl rfl hh
      exact zC_ok (by rw [show cond false [Int32.ofInt (-126)] ([] : List Int32) = [] from rfl, List.append_nil]; exact b5) (rn_ret rfl (Or.inr rfl) hh).2
    | true =>
      have hx := hx rfl
      have hh : pm_run PT n fr lo 64 (59, [some (.ref o), some (.int (nI ns)), some (.int (cond true 1 0)), some (.int (nI i2))], [], h3, 198, sl) = some R := hh
      obtain ⟨n, hh⟩ := rn_i rfl rfl rfl rfl hh
      obtain ⟨n, hh⟩ := rn_i rfl rfl rfl rfl hh
      obtain ⟨n, fr', lo', r1, hr1, hh⟩ := rn_call (w := 0) (t := 60) rfl rfl hh
      obtain ⟨d1, d2, d3⟩ := em_runC ho (by rw [List.length_append]; omega) b5 hr1
      obtain ⟨rv, h4, s4⟩ := r1
      dsimp only at d1 d2 d3
      subst d1
      subst d3
      have hh : pm_run PT n fr lo 64 (65, [some (.ref o), some (.int (nI ns)), some (.int (cond true 1 0)), some (.int (nI i2))], [], h4, 198, sl) = some R := hh
      obtain ⟨n, hh⟩ := rn_i rfl rfl rfl rfl hh
      rw [List.append_assoc] at d2
      exact zC_ok d2 (rn_ret rfl (Or.inr rfl) hh).2
theorem lpc_loop {n0 cc o : Nat} {f : Nat → Int32} (ho : oOk2 o) (hn : n0 ≤ 80) {m lv ns mo fr lo sl : Nat} {R : pm_Rs} (ih : cC m n0 cc o f) (hlv : lv < 3) (hns : ns ≤ 4) (hm : (4 - (lv + 1)) + 4 * (4 - ns) ≤ m) (hmo : mo < 100) : ∀ (k i p n : Nat) (x5 : Option Value) (h : pm_H) (cs : List Int32), i + k = mo → p ≤ min n0 40 → cs.length ≤ p → qC h o p n0 cc f cs → pm_run PT n fr lo 62 (38, [some (.ref o), some (.int (nI lv)), some (.int (nI ns)), some (.int (nI mo)), some (.int (nI i)), x5], [], h, 198, sl) = some R → zC R o n0 cc sl f cs (zlp (pz f (min n0 40) m (lv + 1) ns) f (min n0 40) lv k p) (clp (pc f (min n0 40) m (lv + 1) ns) (pz f (min n0 40) m (lv + 1) ns) f (min n0 40) lv k p) := by
  have yes : ∀ (n p i : Nat) (x5 : Option Value) (h : pm_H) (cs : List Int32), qC h o p n0 cc f cs → pm_run PT n fr lo 62 (97, [some (.ref o), some (.int (nI lv)), some (.int (nI ns)), some (.int (nI mo)), some (.int (nI i)), x5], [], h, 198, sl) = some R → zC R o n0 cc sl f cs (true, p) [] := by
    intro n p i x5 h cs q hh
    obtain ⟨n, hh⟩ := rn_i rfl rfl rfl rfl hh
    exact zC_ok (by rw [List.append_nil]; exact q) (rn_ret rfl (Or.inr rfl) hh).2
  intro k
  induction k with
  | zero =>
    intro i p n x5 h cs hi hp hl0 q hh
    obtain ⟨n, hh⟩ := rn_i rfl rfl rfl rfl hh
    obtain ⟨n, hh⟩ := rn_i rfl rfl rfl rfl hh
    have hh : pm_run PT n fr lo 62 (41, [some (.ref o), some (.int (nI lv)), some (.int (nI ns)), some (.int (nI mo)), some (.int (nI i)), x5], [.int (nI mo), .int (nI i)], h, 198, sl) = some R := hh
    obtain ⟨n, hh⟩ := rn_icmp (cc := .ge) (off := 56) (t := 97) rfl rfl hh
    rw [hI_ge (by omega) (by omega), decide_eq_true (by omega)] at hh
    exact yes n p i x5 h cs q hh
  | succ k ihk =>
    intro i p n x5 h cs hi hp hl0 q hh
    obtain ⟨⟨⟨rs, e0, e4, e5⟩, px⟩, kq⟩ := id q
    obtain ⟨n, hh⟩ := rn_i rfl rfl rfl rfl hh
    obtain ⟨n, hh⟩ := rn_i rfl rfl rfl rfl hh
    have hh : pm_run PT n fr lo 62 (41, [some (.ref o), some (.int (nI lv)), some (.int (nI ns)), some (.int (nI mo)), some (.int (nI i)), x5], [.int (nI mo), .int (nI i)], h, 198, sl) = some R := hh
    obtain ⟨n, hh⟩ := rn_icmp (cc := .ge) (off := 56) (t := 97) rfl rfl hh
    rw [hI_ge (by omega) (by omega), decide_eq_false (by omega)] at hh
    have hh : pm_run PT n fr lo 62 (44, [some (.ref o), some (.int (nI lv)), some (.int (nI ns)), some (.int (nI mo)), some (.int (nI i)), x5], [], h, 198, sl) = some R := hh
    obtain ⟨n, hh⟩ := rn_i rfl rfl rfl rfl hh
    obtain ⟨n, fr', lo', r1, hr1, hh⟩ := rn_call (w := 0) (t := 61) rfl rfl hh
    have er := ns_run ho.1 hn (by omega) q.1 hr1
    subst er
    have hh : pm_run PT n fr lo 62 (48, [some (.ref o), some (.int (nI lv)), some (.int (nI ns)), some (.int (nI mo)), some (.int (nI i)), x5], [.int (sgA f n0 p 40)], h, 198, sl) = some R := hh
    obtain ⟨n, fr', lo', r1, hr1, hh⟩ := rn_call (w := 2) (t := 63) rfl rfl hh
    have er := lvx_run hr1
    subst er
    obtain ⟨n, hh⟩ := rn_i rfl rfl rfl rfl hh
    have hh : pm_run PT n fr lo 62 (52, [some (.ref o), some (.int (nI lv)), some (.int (nI ns)), some (.int (nI mo)), some (.int (nI i)), x5], [.int (nI lv), .int (lvV (sgA f n0 p 40))], h, 198, sl) = some R := hh
    obtain ⟨n, hh⟩ := rn_icmp (cc := .ne) (off := 45) (t := 97) rfl rfl hh
    rw [sg_lev hlv] at hh
    show zC R o n0 cc sl f cs (cond (decide (p < min n0 40) && zlev lv (f p)) (cond (pz f (min n0 40) m (lv + 1) ns (p + 1)).1 (zlp (pz f (min n0 40) m (lv + 1) ns) f (min n0 40) lv k (pz f (min n0 40) m (lv + 1) ns (p + 1)).2) (false, (pz f (min n0 40) m (lv + 1) ns (p + 1)).2)) (true, p)) (cond (decide (p < min n0 40) && zlev lv (f p)) (pc f (min n0 40) m (lv + 1) ns (p + 1) ++ (-(f p)) :: clp (pc f (min n0 40) m (lv + 1) ns) (pz f (min n0 40) m (lv + 1) ns) f (min n0 40) lv k (pz f (min n0 40) m (lv + 1) ns (p + 1)).2) [])
    cases z : (decide (p < min n0 40) && zlev lv (f p)) with
    | false =>
      rw [z] at hh
      exact yes n p i x5 h cs q hh
    | true =>
      have hl : p < min n0 40 := by
        rw [Bool.and_eq_true] at z
        exact of_decide_eq_true z.1
      rw [z] at hh
      have hh : pm_run PT n fr lo 62 (55, [some (.ref o), some (.int (nI lv)), some (.int (nI ns)), some (.int (nI mo)), some (.int (nI i)), x5], [], h, 198, sl) = some R := hh
      obtain ⟨n, hh⟩ := rn_i rfl rfl rfl rfl hh
      obtain ⟨n, fr', lo', r1, hr1, hh⟩ := rn_call (w := 0) (t := 61) rfl rfl hh
      have er := ns_run ho.1 hn (by omega) q.1 hr1
      subst er
      have hh : pm_run PT n fr lo 62 (59, [some (.ref o), some (.int (nI lv)), some (.int (nI ns)), some (.int (nI mo)), some (.int (nI i)), x5], [.int (sgA f n0 p 40)], h, 198, sl) = some R := hh
      obtain ⟨n, hh⟩ := rn_i rfl rfl rfl rfl hh
      have hh : pm_run PT n fr lo 62 (61, [some (.ref o), some (.int (nI lv)), some (.int (nI ns)), some (.int (nI mo)), some (.int (nI i)), some (.int (sgA f n0 p 40))], [], h, 198, sl) = some R := hh
      obtain ⟨n, hh⟩ := rn_i rfl rfl rfl rfl hh
      obtain ⟨n, hh⟩ := rn_i rfl rfl rfl rfl hh
      obtain ⟨n, hh⟩ := rn_gfo (g := 5) rfl rfl ho.1.1 e0 e5 hh
      obtain ⟨n, hh⟩ := rn_i rfl rfl rfl rfl hh
      obtain ⟨n, hh⟩ := rn_i rfl rfl rfl rfl hh
      obtain ⟨n, hh⟩ := rn_i rfl rfl rfl (pf_eq (f := 5) rfl rfl (by decide) ho.1.1 e0 e5) hh
      have hh : pm_run PT n fr lo 62 (71, [some (.ref o), some (.int (nI lv)), some (.int (nI ns)), some (.int (nI mo)), some (.int (nI i)), some (.int (sgA f n0 p 40))], [], (va_up h o (.inr (6, rs.set 5 (.int (nI p + Int32.ofInt 1))))), 198, sl) = some R := hh
      rw [show nI p + Int32.ofInt 1 = nI (p + 1) from (Int32.ofNat_add p 1).symm] at hh
      have q2 := qC_at (p' := p + 1) ho e0 q
      generalize va_up h o (.inr (6, rs.set 5 (.int (nI (p + 1))))) = h2 at hh q2
      have hh : pm_run PT n fr lo 62 (71, [some (.ref o), some (.int (nI lv)), some (.int (nI ns)), some (.int (nI mo)), some (.int (nI i)), some (.int (sgA f n0 p 40))], [], h2, 198, sl) = some R := hh
      obtain ⟨n, hh⟩ := rn_i rfl rfl rfl rfl hh
      obtain ⟨n, hh⟩ := rn_i rfl rfl rfl rfl hh
      obtain ⟨n, hh⟩ := rn_i rfl rfl rfl rfl hh
      obtain ⟨n, hh⟩ := rn_i rfl rfl rfl rfl hh
      obtain ⟨n, hh⟩ := rn_i rfl rfl rfl rfl hh
      have hh : pm_run PT n fr lo 62 (76, [some (.ref o), some (.int (nI lv)), some (.int (nI ns)), some (.int (nI mo)), some (.int (nI i)), some (.int (sgA f n0 p 40))], [.int (nI ns), .int (nI lv + Int32.ofInt 1), .ref o], h2, 198, sl) = some R := hh
      rw [show nI lv + Int32.ofInt 1 = nI (lv + 1) from (Int32.ofNat_add lv 1).symm] at hh
      obtain ⟨n, fr', lo', r1, hr1, hh⟩ := rn_call (w := 0) (t := 62) rfl rfl hh
      obtain ⟨b1, b2, b3, b4⟩ := ih (lv + 1) ns (p + 1) _ _ _ _ _ _ _ (by omega) hns hm (by omega) (by omega) q2 hr1
      obtain ⟨rv, h3, s3⟩ := r1
      dsimp only at b1 b2 b3 b4
      subst b1
      subst b3
      have hle := pz_le (f := f) (t := min n0 40) m (lv + 1) ns (p + 1) (by omega)
      have hlen := pc_len (f := f) (t := min n0 40) m (lv + 1) ns (p + 1)
      have hh : pm_run PT n fr lo 62 (79, [some (.ref o), some (.int (nI lv)), some (.int (nI ns)), some (.int (nI mo)), some (.int (nI i)), some (.int (sgA f n0 p 40))], [.int (cond (pz f (min n0 40) m (lv + 1) ns (p + 1)).1 1 0)], h3, 198, sl) = some R := hh
      obtain ⟨n, hh⟩ := rn_if (cc := .ne) (off := 5) (t := 84) rfl rfl hh
      cases zr : (pz f (min n0 40) m (lv + 1) ns (p + 1)).1 with
      | false =>
        rw [zr] at hh
        obtain ⟨n, hh⟩ := rn_i rfl rfl rfl rfl hh
        exact zC_no b2 (rn_ret rfl (Or.inr rfl) hh).2
      | true =>
        rw [zr] at hh
        have b5 := b4 zr
        have hlen := hlen zr
        have hh : pm_run PT n fr lo 62 (84, [some (.ref o), some (.int (nI lv)), some (.int (nI ns)), some (.int (nI mo)), some (.int (nI i)), some (.int (sgA f n0 p 40))], [], h3, 198, sl) = some R := hh
        obtain ⟨n, hh⟩ := rn_i rfl rfl rfl rfl hh
        obtain ⟨n, hh⟩ := rn_i rfl rfl rfl rfl hh
        obtain ⟨n, hh⟩ := rn_i rfl rfl rfl rfl hh
        have hh : pm_run PT n fr lo 62 (88, [some (.ref o), some (.int (nI lv)), some (.int (nI ns)), some (.int (nI mo)), some (.int (nI i)), some (.int (sgA f n0 p 40))], [.int (-(sgA f n0 p 40)), .ref o], h3, 198, sl) = some R := hh
        obtain ⟨n, fr', lo', r1, hr1, hh⟩ := rn_call (w := 0) (t := 60) rfl rfl hh
        obtain ⟨d1, d2, d3⟩ := em_runC ho (by rw [List.length_append]; omega) b5 hr1
        obtain ⟨rv, h4, s4⟩ := r1
        dsimp only at d1 d2 d3
        subst d1
        subst d3
        have hh : pm_run PT n fr lo 62 (91, [some (.ref o), some (.int (nI lv)), some (.int (nI ns)), some (.int (nI mo)), some (.int (nI i)), some (.int (sgA f n0 p 40))], [], h4, 198, sl) = some R := hh
        obtain ⟨n, hh⟩ := rn_i rfl rfl rfl rfl hh
        obtain ⟨n, hh⟩ := rn_i rfl rfl rfl rfl hh
        have hh : pm_run PT n fr lo 62 (38, [some (.ref o), some (.int (nI lv)), some (.int (nI ns)), some (.int (nI mo)), some (.int ((nI i) + Int32.ofInt 1)), some (.int (sgA f n0 p 40))], [], h4, 198, sl) = some R := hh
        rw [show nI i + Int32.ofInt 1 = nI (i + 1) from (Int32.ofNat_add i 1).symm] at hh
        rw [sg_val hl] at d2
        have q9 := ihk (i + 1) _ n _ h4 _ (by omega) hle (by rw [List.length_append, List.length_append]; show _ + _ + 1 ≤ _; omega) d2 hh
        obtain ⟨r1, r2, r3, r4⟩ := q9
        exact ⟨r1, r2, r3, fun y => by have y := r4 y; rw [List.append_assoc, List.append_assoc] at y; exact y⟩
theorem cC_all {n0 cc o : Nat} {f : Nat → Int32} (ho : oOk2 o) (hn : n0 ≤ 80) : ∀ m, cC m n0 cc o f
  | 0 => by
    intro lv ns p n fr lo sl h R cs h1 h2 h3 hp hl0 q hh
    omega
  | m + 1 => by
    intro lv ns p n fr lo sl h R cs h1 h2 h3 hp hl0 q hh
    have ih := cC_all (cc := cc) (f := f) ho hn m
    obtain ⟨n, hh⟩ := rn_i rfl rfl rfl rfl hh
    obtain ⟨n, hh⟩ := rn_i rfl rfl rfl rfl hh
    have hh : pm_run PT n fr lo 62 (2, [some (.ref o), some (.int (nI lv)), some (.int (nI ns)), none, none, none], [.int (nI 3), .int (nI lv)], h, 198, sl) = some R := hh
    obtain ⟨n, hh⟩ := rn_icmp (cc := .lt) (off := 9) (t := 11) rfl rfl hh
    rw [hI_lt (by omega) (by omega)] at hh
    by_cases z : lv < 3
    · rw [decide_eq_true z] at hh
      have hh : pm_run PT n fr lo 62 (11, [some (.ref o), some (.int (nI lv)), some (.int (nI ns)), none, none, none], [], h, 198, sl) = some R := hh
      have e3 : Nat.ble 3 lv = false := by
        cases e : Nat.ble 3 lv with
        | true => exact absurd (Nat.le_of_ble_eq_true e) (by omega)
        | false => rfl
      show zC R o n0 cc sl f cs (cond (Nat.ble 3 lv) (zth (pz f (min n0 40) m 0 (ns + 1)) f (min n0 40) ns (zmi f (min n0 40) 40 p)) (cond (pz f (min n0 40) m (lv + 1) ns p).1 (zlp (pz f (min n0 40) m (lv + 1) ns) f (min n0 40) lv (cond (Nat.beq lv 0) 1 40) (pz f (min n0 40) m (lv + 1) ns p).2) (false, (pz f (min n0 40) m (lv + 1) ns p).2))) (cond (Nat.ble 3 lv) (cth (pc f (min n0 40) m 0 (ns + 1)) f (min n0 40) (zmi f (min n0 40) 40 p) ++ cond (zng f (min n0 40) 40 p false) [Int32.ofInt (-126)] []) (pc f (min n0 40) m (lv + 1) ns p ++ clp (pc f (min n0 40) m (lv + 1) ns) (pz f (min n0 40) m (lv + 1) ns) f (min n0 40) lv (cond (Nat.beq lv 0) 1 40) (pz f (min n0 40) m (lv + 1) ns p).2))
      rw [e3]
      obtain ⟨n, hh⟩ := rn_i rfl rfl rfl rfl hh
      obtain ⟨n, hh⟩ := rn_i rfl rfl rfl rfl hh
      obtain ⟨n, hh⟩ := rn_i rfl rfl rfl rfl hh
      obtain ⟨n, hh⟩ := rn_i rfl rfl rfl rfl hh
      obtain ⟨n, hh⟩ := rn_i rfl rfl rfl rfl hh
      have hh : pm_run PT n fr lo 62 (16, [some (.ref o), some (.int (nI lv)), some (.int (nI ns)), none, none, none], [.int (nI ns), .int (nI lv + Int32.ofInt 1), .ref o], h, 198, sl) = some R := hh
      rw [show nI lv + Int32.ofInt 1 = nI (lv + 1) from (Int32.ofNat_add lv 1).symm] at hh
      obtain ⟨n, fr', lo', r1, hr1, hh⟩ := rn_call (w := 0) (t := 62) rfl rfl hh
      obtain ⟨b1, b2, b3, b4⟩ := ih (lv + 1) ns p _ _ _ _ _ _ _ (by omega) h2 (by omega) hp hl0 q hr1
      obtain ⟨rv, h3, s3⟩ := r1
      dsimp only at b1 b2 b3 b4
      subst b1
      subst b3
      have hle := pz_le (f := f) (t := min n0 40) m (lv + 1) ns p hp
      have hlen := pc_len (f := f) (t := min n0 40) m (lv + 1) ns p
      have hh : pm_run PT n fr lo 62 (19, [some (.ref o), some (.int (nI lv)), some (.int (nI ns)), none, none, none], [.int (cond (pz f (min n0 40) m (lv + 1) ns p).1 1 0)], h3, 198, sl) = some R := hh
      obtain ⟨n, hh⟩ := rn_if (cc := .ne) (off := 5) (t := 24) rfl rfl hh
      show zC R o n0 cc sl f cs (cond (pz f (min n0 40) m (lv + 1) ns p).1 (zlp (pz f (min n0 40) m (lv + 1) ns) f (min n0 40) lv (cond (Nat.beq lv 0) 1 40) (pz f (min n0 40) m (lv + 1) ns p).2) (false, (pz f (min n0 40) m (lv + 1) ns p).2)) (pc f (min n0 40) m (lv + 1) ns p ++ clp (pc f (min n0 40) m (lv + 1) ns) (pz f (min n0 40) m (lv + 1) ns) f (min n0 40) lv (cond (Nat.beq lv 0) 1 40) (pz f (min n0 40) m (lv + 1) ns p).2)
      cases zr : (pz f (min n0 40) m (lv + 1) ns p).1 with
      | false =>
        rw [zr] at hh
        obtain ⟨n, hh⟩ := rn_i rfl rfl rfl rfl hh
        exact zC_no b2 (rn_ret rfl (Or.inr rfl) hh).2
      | true =>
        rw [zr] at hh
        have b5 := b4 zr
        have hlen := hlen zr
        have wr : ∀ (r : Bool × Nat) (ds : List Int32), zC R o n0 cc sl f (cs ++ pc f (min n0 40) m (lv + 1) ns p) r ds → zC R o n0 cc sl f cs r (pc f (min n0 40) m (lv + 1) ns p ++ ds) := fun r ds q9 => ⟨q9.1, q9.2.1, q9.2.2.1, fun y => by have y := q9.2.2.2 y; rw [List.append_assoc] at y; exact y⟩
        have hh : pm_run PT n fr lo 62 (24, [some (.ref o), some (.int (nI lv)), some (.int (nI ns)), none, none, none], [], h3, 198, sl) = some R := hh
        obtain ⟨n, hh⟩ := rn_i rfl rfl rfl rfl hh
        obtain ⟨n, hh⟩ := rn_if (cc := .ne) (off := 7) (t := 32) rfl rfl hh
        have e0 : pm_cmp .ne (nI lv) 0 = !(Nat.beq lv 0) := by
          rcases (by omega : lv = 0 ∨ lv = 1 ∨ lv = 2) with rfl | rfl | rfl <;> decide +kernel
        rw [e0] at hh
        cases zb : Nat.beq lv 0 with
        | true =>
          rw [zb] at hh
          have hh : pm_run PT n fr lo 62 (28, [some (.ref o), some (.int (nI lv)), some (.int (nI ns)), none, none, none], [], h3, 198, sl) = some R := hh
          obtain ⟨n, hh⟩ := rn_i rfl rfl rfl rfl hh
          obtain ⟨n, hh⟩ := rn_i rfl rfl rfl rfl hh
          obtain ⟨n, hh⟩ := rn_i rfl rfl rfl rfl hh
          obtain ⟨n, hh⟩ := rn_i rfl rfl rfl rfl hh
          obtain ⟨n, hh⟩ := rn_i rfl rfl rfl rfl hh
          have hh : pm_run PT n fr lo 62 (38, [some (.ref o), some (.int (nI lv)), some (.int (nI ns)), some (.int 1), some (.int 0), none], [], h3, 198, sl) = some R := hh
          exact wr _ _ (lpc_loop (mo := 1) ho hn ih z h2 (by omega) (by decide) 1 0 _ n _ h3 _ (by omega) hle (by rw [List.length_append]; omega) b5 hh)
        | false =>
          rw [zb] at hh
          have hh : pm_run PT n fr lo 62 (32, [some (.ref o), some (.int (nI lv)), some (.int (nI ns)), none, none, none], [], h3, 198, sl) = some R := hh
          obtain ⟨n, hh⟩ := rn_i rfl rfl rfl rfl hh
          obtain ⟨n, hh⟩ := rn_i rfl rfl rfl rfl hh
          obtain ⟨n, hh⟩ := rn_i rfl rfl rfl rfl hh
          obtain ⟨n, hh⟩ := rn_i rfl rfl rfl rfl hh
          have hh : pm_run PT n fr lo 62 (38, [some (.ref o), some (.int (nI lv)), some (.int (nI ns)), some (.int 40), some (.int 0), none], [], h3, 198, sl) = some R := hh
          exact wr _ _ (lpc_loop (mo := 40) ho hn ih z h2 (by omega) (by decide) 40 0 _ n _ h3 _ (by omega) hle (by rw [List.length_append]; omega) b5 hh)
    · rw [decide_eq_false z] at hh
      have e3 : lv = 3 := by omega
      subst e3
      have hh : pm_run PT n fr lo 62 (5, [some (.ref o), some (.int (nI 3)), some (.int (nI ns)), none, none, none], [], h, 198, sl) = some R := hh
      obtain ⟨n, hh⟩ := rn_i rfl rfl rfl rfl hh
      obtain ⟨n, hh⟩ := rn_i rfl rfl rfl rfl hh
      obtain ⟨n, fr', lo', r1, hr1, hh⟩ := rn_call (w := 0) (t := 64) rfl rfl hh
      obtain ⟨b1, b2, b3, b4⟩ := sic_run ho hn ih h2 (by omega) hp hl0 q hr1
      obtain ⟨rv, h3, s3⟩ := r1
      dsimp only at b1 b2 b3 b4
      subst b1
      subst b3
      have hh : pm_run PT n fr lo 62 (10, [some (.ref o), some (.int (nI 3)), some (.int (nI ns)), none, none, none], [.int (cond (zth (pz f (min n0 40) m 0 (ns + 1)) f (min n0 40) ns (zmi f (min n0 40) 40 p)).1 1 0)], h3, 198, sl) = some R := hh
      have e := (rn_ret rfl (Or.inr rfl) hh).2
      rw [e]
      exact ⟨rfl, b2, rfl, b4⟩
end ZCX
