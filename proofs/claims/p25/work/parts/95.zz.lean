/-! walks: steps that went through -/
section WKA
variable {n fr lo sl k pc a m j w : Nat} {h : pm_H} {R : pm_Rs} {L : pm_L} {S : List Value} {i x y : Int32} {g : Nat → Int32}
theorem pm_in_lt (z : pm_in i m = true) : i.toNatClampNeg < m := Nat.lt_of_not_le (fun q => (of_decide_eq_true z) (Or.inr q))
theorem rn_ias (hi : pm_ins PT k pc = some (.iaload, 1)) (ha : h a = .inl (0, m, .inl g)) (hl : a < 198) (hh : pm_run PT n fr lo k (pc, L, .int i :: .ref a :: S, h, 198, sl) = some R) : ∃ q, i.toNatClampNeg < m ∧ pm_run PT q fr lo k (pc + 1, L, .int (g i.toNatClampNeg) :: S, h, 198, sl) = some R := by
  obtain ⟨st, q, e, hh⟩ := rn_ex hi rfl (fun q => by cases q) (fun q => by cases q) (fun q => by cases q) hh
  have e : pm_ia PT .int pc L (.int i :: .ref a :: S) h 198 sl = some st := e
  unfold pm_ia at e
  dsimp only at e
  rw [pm_iar_m ha hl] at e
  dsimp only at e
  by_cases z : pm_in i m = true
  · rw [if_pos z] at e
    cases e
    exact ⟨q, pm_in_lt z, hh⟩
  · rw [if_neg z] at e
    cases e
theorem rn_iss (hi : pm_ins PT k pc = some (.iastore, 1)) (ha : h a = .inl (0, m, .inl g)) (hl : a < 198) (hh : pm_run PT n fr lo k (pc, L, .int x :: .int i :: .ref a :: S, h, 198, sl) = some R) : ∃ q, i.toNatClampNeg < m ∧ pm_run PT q fr lo k (pc + 1, L, S, aset h a m (upd g i.toNatClampNeg x), 198, sl) = some R := by
  obtain ⟨st, q, e, hh⟩ := rn_ex hi rfl (fun q => by cases q) (fun q => by cases q) (fun q => by cases q) hh
  have e : pm_iS PT .int (fun x => x) pc L (.int x :: .int i :: .ref a :: S) h 198 sl = some st := e
  unfold pm_iS at e
  dsimp only at e
  rw [pm_iar_m ha hl] at e
  dsimp only at e
  by_cases z : pm_in i m = true
  · rw [if_pos z] at e
    cases e
    exact ⟨q, pm_in_lt z, hh⟩
  · rw [if_neg z] at e
    cases e
theorem rn_max (hi : pm_ins PT k pc = some (.invokestatic j, 3)) (hc : pm_callee PT k (.invokestatic j) = none) (hm : pm_mlk PT (pm_o PT k) j = some (8, w)) (hh : pm_run PT n fr lo k (pc, L, .int y :: .int x :: S, h, 198, sl) = some R) : ∃ q, pm_run PT q fr lo k (pc + 3, L, .int (if x < y then y else x) :: S, h, 198, sl) = some R := by
  obtain ⟨st, q, e, hh⟩ := rn_ex hi hc (fun q => by cases q) (fun q => by cases q) (fun q => by cases q) hh
  have e : pm_libW PT false fr lo k j pc L (.int y :: .int x :: S) h 198 sl = some st := e
  unfold pm_libW at e
  rw [hm] at e
  have e : (if 1 ≤ fr ∧ pm_sum S + 13 ≤ lo then some (pc + 3, L, Value.int (if x < y then y else x) :: S, h, 198, sl) else none) = some st := e
  split at e
  · cases e
    exact ⟨q, hh⟩
  · cases e
end WKA
/-! walks: what is computed -/
section WKB
variable {e g x : Int32} {m a b cc : Nat} {F F' A A' : Nat → Int32}
def w6 (A : Nat → Int32) (i : Nat) : Int32 := if i < 600 then A i else 0
def u6 (A : Nat → Int32) (i : Nat) (v : Int32) : Nat → Int32 := if i < 600 then upd A i v else A
def wkX (m : Nat) (r : Int32) (b : Nat) : Nat := ((nI m + r) * 6 + nI b).toNatClampNeg
def wkM (p q : Int32) : Int32 := if p < q then q else p
def wkIx (F : Nat → Int32) (e g x : Int32) (m a b : Nat) (A : Nat → Int32) : Nat → Int32 := cond (pm_cmp .le (F (6 * a + b)) 0) A (cond (pm_cmp .gt (nI m + F (6 * a + b)) 99) A (cond (pm_cmp .lt x (e * F (6 * a + b))) A (u6 A (wkX m (F (6 * a + b)) b) (wkM (w6 A (wkX m (F (6 * a + b)) b)) (x - e * F (6 * a + b) + g)))))
def wkb (F : Nat → Int32) (e g x : Int32) (m a : Nat) : Nat → Nat → (Nat → Int32) → (Nat → Int32)
  | 0, _, A => A
  | d + 1, b, A => wkb F e g x m a d (b + 1) (wkIx F e g x m a b A)
def wkc (F : Nat → Int32) (e g : Int32) (m cc a : Nat) (A : Nat → Int32) : Nat → Int32 := cond (pm_cmp .ge (w6 A (6 * m + a)) 0) (wkb F e g (w6 A (6 * m + a)) m a cc 0 A) A
def wka (F : Nat → Int32) (e g : Int32) (m cc : Nat) : Nat → Nat → (Nat → Int32) → (Nat → Int32)
  | 0, _, A => A
  | d + 1, a, A => wka F e g m cc d (a + 1) (wkc F e g m cc a A)
def wkm (F : Nat → Int32) (e g : Int32) (cc t : Nat) : Nat → Nat → (Nat → Int32) → Int32
  | 0, _, _ => Int32.ofInt (-2)
  | d + 1, m, A => cond (pm_cmp .lt (w6 A (6 * m + t)) 0) (wkm F e g cc t d (m + 1) (wka F e g m cc cc 0 A)) (nI m)
def eq6 (A A' : Nat → Int32) : Prop := ∀ i, i < 600 → A i = A' i
theorem w6_eq {i : Nat} (q : eq6 A A') : w6 A i = w6 A' i := by
  unfold w6
  by_cases z : i < 600
  · rw [if_pos z, if_pos z, q i z]
  · rw [if_neg z, if_neg z]
theorem u6_eq {i : Nat} {v : Int32} (q : eq6 A A') : eq6 (u6 A i v) (u6 A' i v) := by
  unfold u6
  by_cases z : i < 600
  · rw [if_pos z, if_pos z]
    intro j hj
    unfold upd
    by_cases y : j = i
    · rw [if_pos y, if_pos y]
    · rw [if_neg y, if_neg y]
      exact q j hj
  · rw [if_neg z, if_neg z]
    exact q
theorem wkIx_eq (ha : a < 6) (hb : b < 6) (hF : ∀ j, j < 36 → F j = F' j) (q : eq6 A A') : eq6 (wkIx F e g x m a b A) (wkIx F' e g x m a b A') := by
  unfold wkIx
  rw [hF (6 * a + b) (by omega), w6_eq q]
  cases pm_cmp .le (F' (6 * a + b)) 0 with
  | true => exact q
  | false =>
    cases pm_cmp .gt (nI m + F' (6 * a + b)) 99 with
    | true => exact q
    | false =>
      cases pm_cmp .lt x (e * F' (6 * a + b)) with
      | true => exact q
      | false => exact u6_eq q
theorem wkb_eq (ha : a < 6) (hF : ∀ j, j < 36 → F j = F' j) : ∀ (d b : Nat) (A A' : Nat → Int32), b + d ≤ 6 → eq6 A A' → eq6 (wkb F e g x m a d b A) (wkb F' e g x m a d b A')
  | 0, _, _, _, _, q => q
  | d + 1, b, _, _, hb, q => wkb_eq ha hF d (b + 1) _ _ (by omega) (wkIx_eq ha (by omega) hF q)
theorem wkc_eq (hc : cc ≤ 6) (ha : a < 6) (hF : ∀ j, j < 36 → F j = F' j) (q : eq6 A A') : eq6 (wkc F e g m cc a A) (wkc F' e g m cc a A') := by
  unfold wkc
  rw [w6_eq q]
  cases pm_cmp .ge (w6 A' (6 * m + a)) 0 with
  | true => exact wkb_eq ha hF cc 0 _ _ (by omega) q
  | false => exact q
theorem wka_eq (hc : cc ≤ 6) (hF : ∀ j, j < 36 → F j = F' j) : ∀ (d a : Nat) (A A' : Nat → Int32), a + d ≤ 6 → eq6 A A' → eq6 (wka F e g m cc d a A) (wka F' e g m cc d a A')
  | 0, _, _, _, _, q => q
  | d + 1, a, _, _, ha, q => wka_eq hc hF d (a + 1) _ _ (by omega) (wkc_eq hc (by omega) hF q)
theorem wkm_eq {t : Nat} (hc : cc ≤ 6) (hF : ∀ j, j < 36 → F j = F' j) : ∀ (d m : Nat) (A A' : Nat → Int32), eq6 A A' → wkm F e g cc t d m A = wkm F' e g cc t d m A'
  | 0, _, _, _, _ => rfl
  | d + 1, m, A, A', q => by
    show cond (pm_cmp .lt (w6 A (6 * m + t)) 0) (wkm F e g cc t d (m + 1) (wka F e g m cc cc 0 A)) (nI m) = cond (pm_cmp .lt (w6 A' (6 * m + t)) 0) (wkm F' e g cc t d (m + 1) (wka F' e g m cc cc 0 A')) (nI m)
    rw [w6_eq q, wkm_eq hc hF d (m + 1) _ _ (wka_eq hc hF cc 0 _ _ (by omega) q)]
/-- the table when the walk begins -/
def wk0 (A : Nat → Int32) (j : Nat) : Nat → Int32 := fun i => if i < j then Int32.ofInt (-1) else A i
theorem wk0_up (A : Nat → Int32) (j : Nat) : upd (wk0 A j) j (Int32.ofInt (-1)) = wk0 A (j + 1) := by
  funext i
  unfold upd wk0
  by_cases z : i = j
  · rw [if_pos z, if_pos (by omega)]
  · rw [if_neg z]
    by_cases y : i < j
    · rw [if_pos y, if_pos (by omega)]
    · rw [if_neg y, if_neg (by omega)]
theorem wk0_0 (A : Nat → Int32) : wk0 A 0 = A := by
  funext i
  unfold wk0
  rw [if_neg (by omega)]
theorem wk0_eq (A A' : Nat → Int32) : eq6 (wk0 A 600) (wk0 A' 600) := fun i hi => by
  unfold wk0
  rw [if_pos hi, if_pos hi]
def wkA (F A : Nat → Int32) (e g : Int32) (cc s t : Nat) : Int32 := wkm F e g cc t 100 0 (u6 (wk0 A 600) s g)
theorem wkA_eq {s t : Nat} (hc : cc ≤ 6) (hF : ∀ j, j < 36 → F j = F' j) : wkA F A e g cc s t = wkA F' A' e g cc s t := wkm_eq hc hF 100 0 _ _ (u6_eq (wk0_eq A A'))
end WKB
/-! walks of the class -/
section WKX
variable {n fr lo sl : Nat} {h : pm_H} {R : pm_Rs} {F : Nat → Int32}
def wxB (h : pm_H) (F : Nat → Int32) (cc : Nat) : Prop := (∃ fs, h 148 = .inr (4, fs) ∧ fs[0]? = some (.ref 5) ∧ fs[2]? = some (.ref 150)) ∧ (∃ rs, h 5 = .inr (3, rs) ∧ rs[0]? = some (.int (nI cc)) ∧ rs[4]? = some (.ref 8)) ∧ h 8 = .inl (0, 36, .inl F)
theorem wx_in {cc m a : Nat} {e g x : Int32} (hc : cc ≤ 6) (ha : a < 6) (hB : wxB h F cc) : ∀ (d b n : Nat) (A : Nat → Int32) (x7 x8 : Option Value), b + d = cc → pm_run PT n fr lo 51 (22, [some (.ref 148), some (.int (nI m)), some (.int (nI a)), some (.int e), some (.int g), some (.int x), some (.int (nI b)), x7, x8], [], (aset h 150 600 A), 198, sl) = some R → R = (none, aset h 150 600 (wkb F e g x m a d b A), 198, sl) := by
  obtain ⟨⟨fs, k1, k2, k3⟩, ⟨rs, r1, r2, r3⟩, k8⟩ := hB
  intro d
  induction d with
  | zero =>
    intro b n A x7 x8 hb hh
    have e148 : aset h 150 600 A 148 = .inr (4, fs) := (asR_ne (by decide)).trans k1
    have e5 : aset h 150 600 A 5 = .inr (3, rs) := (asR_ne (by decide)).trans r1
    have e8 : aset h 150 600 A 8 = .inl (0, 36, .inl F) := (asR_ne (by decide)).trans k8
    have eA : aset h 150 600 A 150 = .inl (0, 600, .inl A) := asR_self
    obtain ⟨n, hh⟩ := rn_i rfl rfl rfl rfl hh
    obtain ⟨n, hh⟩ := rn_i rfl rfl rfl rfl hh
    obtain ⟨n, hh⟩ := rn_gfo (g := 0) rfl rfl (by decide) e148 k2 hh
    obtain ⟨n, hh⟩ := rn_gfo (g := 0) rfl rfl (by decide) e5 r2 hh
    obtain ⟨n, hh⟩ := rn_icmp (cc := .ge) (off := 87) (t := 118) rfl rfl hh
    rw [hI_ge (by omega) (by omega), decide_eq_true (by omega)] at hh
    exact rn_vret rfl rfl hh
  | succ d ih =>
    intro b n A x7 x8 hb hh
    have fin : ∀ (n : Nat) (A' : Nat → Int32) (y7 y8 : Option Value), wkIx F e g x m a b A = A' → pm_run PT n fr lo 51 (112, [some (.ref 148), some (.int (nI m)), some (.int (nI a)), some (.int e), some (.int g), some (.int x), some (.int (nI b)), y7, y8], [], aset h 150 600 A', 198, sl) = some R → R = (none, aset h 150 600 (wkb F e g x m a (d + 1) b A), 198, sl) := by
      intro n A' y7 y8 ew hh
      obtain ⟨n, hh⟩ := rn_i rfl rfl rfl rfl hh
      obtain ⟨n, hh⟩ := rn_i rfl rfl rfl rfl hh
      have hh : pm_run PT n fr lo 51 (22, [some (.ref 148), some (.int (nI m)), some (.int (nI a)), some (.int e), some (.int g), some (.int x), some (.int ((nI b) + Int32.ofInt 1)), y7, y8], [], (aset h 150 600 A'), 198, sl) = some R := hh
      rw [show nI b + Int32.ofInt 1 = nI (b + 1) from (Int32.ofNat_add b 1).symm] at hh
      have q := ih (b + 1) n A' y7 y8 (by omega) hh
      rw [← ew] at q
      exact q
    have e148 : aset h 150 600 A 148 = .inr (4, fs) := (asR_ne (by decide)).trans k1
    have e5 : aset h 150 600 A 5 = .inr (3, rs) := (asR_ne (by decide)).trans r1
    have e8 : aset h 150 600 A 8 = .inl (0, 36, .inl F) := (asR_ne (by decide)).trans k8
    have eA : aset h 150 600 A 150 = .inl (0, 600, .inl A) := asR_self
    obtain ⟨n, hh⟩ := rn_i rfl rfl rfl rfl hh
    obtain ⟨n, hh⟩ := rn_i rfl rfl rfl rfl hh
    obtain ⟨n, hh⟩ := rn_gfo (g := 0) rfl rfl (by decide) e148 k2 hh
    obtain ⟨n, hh⟩ := rn_gfo (g := 0) rfl rfl (by decide) e5 r2 hh
    obtain ⟨n, hh⟩ := rn_icmp (cc := .ge) (off := 87) (t := 118) rfl rfl hh
    rw [hI_ge (by omega) (by omega), decide_eq_false (by omega)] at hh
    have hh : pm_run PT n fr lo 51 (34, [some (.ref 148), some (.int (nI m)), some (.int (nI a)), some (.int e), some (.int g), some (.int x), some (.int (nI b)), x7, x8], [], (aset h 150 600 A), 198, sl) = some R := hh
    obtain ⟨n, hh⟩ := rn_i rfl rfl rfl rfl hh
    obtain ⟨n, hh⟩ := rn_gfo (g := 0) rfl rfl (by decide) e148 k2 hh
    obtain ⟨n, hh⟩ := rn_gfo (g := 4) rfl rfl (by decide) e5 r3 hh
    obtain ⟨n, hh⟩ := rn_i rfl rfl rfl rfl hh
    obtain ⟨n, hh⟩ := rn_i rfl rfl rfl rfl hh
    obtain ⟨n, fr', lo', r1, hr1, hh⟩ := rn_call (w := 3) (t := 160) rfl rfl hh
    have er := po_run hr1
    subst er
    rw [ix6b] at hh
    have hh : pm_run PT n fr lo 51 (47, [some (.ref 148), some (.int (nI m)), some (.int (nI a)), some (.int e), some (.int g), some (.int x), some (.int (nI b)), x7, x8], [.int (nI (6 * a + b)), .ref 8], (aset h 150 600 A), 198, sl) = some R := hh
    obtain ⟨n, hh⟩ := rn_iam rfl e8 (hI_in (by omega) (by omega)) (by decide) hh
    rw [nI_clamp (by omega)] at hh
    obtain ⟨n, hh⟩ := rn_i rfl rfl rfl rfl hh
    have hh : pm_run PT n fr lo 51 (50, [some (.ref 148), some (.int (nI m)), some (.int (nI a)), some (.int e), some (.int g), some (.int x), some (.int (nI b)), some (.int (F (6 * a + b))), x8], [], (aset h 150 600 A), 198, sl) = some R := hh
    obtain ⟨n, hh⟩ := rn_i rfl rfl rfl rfl hh
    obtain ⟨n, hh⟩ := rn_if (cc := .le) (off := 60) (t := 112) rfl rfl hh
    cases z1 : pm_cmp .le (F (6 * a + b)) 0 with
    | true =>
      rw [z1] at hh
      exact fin n A _ _ (by unfold wkIx; rw [z1]; rfl) hh
    | false =>
      rw [z1] at hh
      have hh : pm_run PT n fr lo 51 (55, [some (.ref 148), some (.int (nI m)), some (.int (nI a)), some (.int e), some (.int g), some (.int x), some (.int (nI b)), some (.int (F (6 * a + b))), x8], [], (aset h 150 600 A), 198, sl) = some R := hh
      obtain ⟨n, hh⟩ := rn_i rfl rfl rfl rfl hh
      obtain ⟨n, hh⟩ := rn_i rfl rfl rfl rfl hh
      obtain ⟨n, hh⟩ := rn_i rfl rfl rfl rfl hh
      obtain ⟨n, hh⟩ := rn_i rfl rfl rfl rfl hh
      have hh : pm_run PT n fr lo 51 (61, [some (.ref 148), some (.int (nI m)), some (.int (nI a)), some (.int e), some (.int g), some (.int x), some (.int (nI b)), some (.int (F (6 * a + b))), x8], [.int 99, .int ((nI m) + (F (6 * a + b)))], (aset h 150 600 A), 198, sl) = some R := hh
      obtain ⟨n, hh⟩ := rn_icmp (cc := .gt) (off := 51) (t := 112) rfl rfl hh
      cases z2 : pm_cmp .gt ((nI m) + (F (6 * a + b))) 99 with
      | true =>
        rw [z2] at hh
        exact fin n A _ _ (by unfold wkIx; rw [z1, z2]; rfl) hh
      | false =>
        rw [z2] at hh
        have hh : pm_run PT n fr lo 51 (64, [some (.ref 148), some (.int (nI m)), some (.int (nI a)), some (.int e), some (.int g), some (.int x), some (.int (nI b)), some (.int (F (6 * a + b))), x8], [], (aset h 150 600 A), 198, sl) = some R := hh
        obtain ⟨n, hh⟩ := rn_i rfl rfl rfl rfl hh
        obtain ⟨n, hh⟩ := rn_i rfl rfl rfl rfl hh
        obtain ⟨n, hh⟩ := rn_i rfl rfl rfl rfl hh
        obtain ⟨n, hh⟩ := rn_i rfl rfl rfl rfl hh
        have hh : pm_run PT n fr lo 51 (70, [some (.ref 148), some (.int (nI m)), some (.int (nI a)), some (.int e), some (.int g), some (.int x), some (.int (nI b)), some (.int (F (6 * a + b))), x8], [.int (e * (F (6 * a + b))), .int x], (aset h 150 600 A), 198, sl) = some R := hh
        obtain ⟨n, hh⟩ := rn_icmp (cc := .lt) (off := 42) (t := 112) rfl rfl hh
        cases z3 : pm_cmp .lt x (e * (F (6 * a + b))) with
        | true =>
          rw [z3] at hh
          exact fin n A _ _ (by unfold wkIx; rw [z1, z2, z3]; rfl) hh
        | false =>
          rw [z3] at hh
          have hh : pm_run PT n fr lo 51 (73, [some (.ref 148), some (.int (nI m)), some (.int (nI a)), some (.int e), some (.int g), some (.int x), some (.int (nI b)), some (.int (F (6 * a + b))), x8], [], (aset h 150 600 A), 198, sl) = some R := hh
          obtain ⟨n, hh⟩ := rn_i rfl rfl rfl rfl hh
          obtain ⟨n, hh⟩ := rn_i rfl rfl rfl rfl hh
          obtain ⟨n, hh⟩ := rn_i rfl rfl rfl rfl hh
          obtain ⟨n, hh⟩ := rn_i rfl rfl rfl rfl hh
          obtain ⟨n, hh⟩ := rn_i rfl rfl rfl rfl hh
          obtain ⟨n, hh⟩ := rn_i rfl rfl rfl rfl hh
          obtain ⟨n, hh⟩ := rn_i rfl rfl rfl rfl hh
          obtain ⟨n, hh⟩ := rn_i rfl rfl rfl rfl hh
          have hh : pm_run PT n fr lo 51 (85, [some (.ref 148), some (.int (nI m)), some (.int (nI a)), some (.int e), some (.int g), some (.int x), some (.int (nI b)), some (.int (F (6 * a + b))), some (.int ((((nI m) + (F (6 * a + b))) * 6) + (nI b)))], [], (aset h 150 600 A), 198, sl) = some R := hh
          obtain ⟨n, hh⟩ := rn_i rfl rfl rfl rfl hh
          obtain ⟨n, hh⟩ := rn_gfo (g := 2) rfl rfl (by decide) e148 k3 hh
          obtain ⟨n, hh⟩ := rn_i rfl rfl rfl rfl hh
          obtain ⟨n, hh⟩ := rn_i rfl rfl rfl rfl hh
          obtain ⟨n, hh⟩ := rn_gfo (g := 2) rfl rfl (by decide) e148 k3 hh
          obtain ⟨n, hh⟩ := rn_i rfl rfl rfl rfl hh
          have hh : pm_run PT n fr lo 51 (97, [some (.ref 148), some (.int (nI m)), some (.int (nI a)), some (.int e), some (.int g), some (.int x), some (.int (nI b)), some (.int (F (6 * a + b))), some (.int ((((nI m) + (F (6 * a + b))) * 6) + (nI b)))], [.int ((((nI m) + (F (6 * a + b))) * 6) + (nI b)), .ref 150, .int ((((nI m) + (F (6 * a + b))) * 6) + (nI b)), .ref 150], (aset h 150 600 A), 198, sl) = some R := hh
          obtain ⟨n, hx, hh⟩ := rn_ias rfl eA (by decide) hh
          have hh : pm_run PT n fr lo 51 (98, [some (.ref 148), some (.int (nI m)), some (.int (nI a)), some (.int e), some (.int g), some (.int x), some (.int (nI b)), some (.int (F (6 * a + b))), some (.int ((((nI m) + (F (6 * a + b))) * 6) + (nI b)))], [.int (A (wkX m (F (6 * a + b)) b)), .int ((((nI m) + (F (6 * a + b))) * 6) + (nI b)), .ref 150], (aset h 150 600 A), 198, sl) = some R := hh
          have hx : wkX m (F (6 * a + b)) b < 600 := hx
          obtain ⟨n, hh⟩ := rn_i rfl rfl rfl rfl hh
          obtain ⟨n, hh⟩ := rn_i rfl rfl rfl rfl hh
          obtain ⟨n, hh⟩ := rn_i rfl rfl rfl rfl hh
          obtain ⟨n, hh⟩ := rn_i rfl rfl rfl rfl hh
          obtain ⟨n, hh⟩ := rn_i rfl rfl rfl rfl hh
          obtain ⟨n, hh⟩ := rn_i rfl rfl rfl rfl hh
          obtain ⟨n, hh⟩ := rn_i rfl rfl rfl rfl hh
          have hh : pm_run PT n fr lo 51 (108, [some (.ref 148), some (.int (nI m)), some (.int (nI a)), some (.int e), some (.int g), some (.int x), some (.int (nI b)), some (.int (F (6 * a + b))), some (.int ((((nI m) + (F (6 * a + b))) * 6) + (nI b)))], [.int ((x - (e * (F (6 * a + b)))) + g), .int (A (wkX m (F (6 * a + b)) b)), .int ((((nI m) + (F (6 * a + b))) * 6) + (nI b)), .ref 150], (aset h 150 600 A), 198, sl) = some R := hh
          obtain ⟨n, hh⟩ := rn_max (w := 0) rfl rfl rfl hh
          have hh : pm_run PT n fr lo 51 (111, [some (.ref 148), some (.int (nI m)), some (.int (nI a)), some (.int e), some (.int g), some (.int x), some (.int (nI b)), some (.int (F (6 * a + b))), some (.int ((((nI m) + (F (6 * a + b))) * 6) + (nI b)))], [.int (wkM (A (wkX m (F (6 * a + b)) b)) ((x - (e * (F (6 * a + b)))) + g)), .int ((((nI m) + (F (6 * a + b))) * 6) + (nI b)), .ref 150], (aset h 150 600 A), 198, sl) = some R := hh
          obtain ⟨n, -, hh⟩ := rn_iss rfl eA (by decide) hh
          rw [aset_aset] at hh
          refine fin n _ _ _ ?_ hh
          unfold wkIx u6 w6
          rw [z1, z2, z3, if_pos hx, if_pos hx]
          rfl
theorem wx_goOn {cc m a : Nat} {e g : Int32} {A : Nat → Int32} (hc : cc ≤ 6) (ha : a < 6) (hm : m < 100) (hB : wxB h F cc) (hh : pm_run PT n fr lo 51 (0, pm_l0 [.ref 148, .int (nI m), .int (nI a), .int e, .int g] 9, [], aset h 150 600 A, 198, sl) = some R) : R = (none, aset h 150 600 (wkc F e g m cc a A), 198, sl) := by
  obtain ⟨⟨fs, k1, k2, k3⟩, ⟨rs, r1, r2, r3⟩, k8⟩ := id hB
  have e148 : aset h 150 600 A 148 = .inr (4, fs) := (asR_ne (by decide)).trans k1
  have e5 : aset h 150 600 A 5 = .inr (3, rs) := (asR_ne (by decide)).trans r1
  have e8 : aset h 150 600 A 8 = .inl (0, 36, .inl F) := (asR_ne (by decide)).trans k8
  have eA : aset h 150 600 A 150 = .inl (0, 600, .inl A) := asR_self
  have ew : w6 A (6 * m + a) = A (6 * m + a) := by unfold w6; rw [if_pos (by omega)]
  obtain ⟨n, hh⟩ := rn_i rfl rfl rfl rfl hh
  obtain ⟨n, hh⟩ := rn_gfo (g := 2) rfl rfl (by decide) e148 k3 hh
  obtain ⟨n, hh⟩ := rn_i rfl rfl rfl rfl hh
  obtain ⟨n, hh⟩ := rn_i rfl rfl rfl rfl hh
  obtain ⟨n, hh⟩ := rn_i rfl rfl rfl rfl hh
  obtain ⟨n, hh⟩ := rn_i rfl rfl rfl rfl hh
  obtain ⟨n, hh⟩ := rn_i rfl rfl rfl rfl hh
  have hh : pm_run PT n fr lo 51 (10, [some (.ref 148), some (.int (nI m)), some (.int (nI a)), some (.int e), some (.int g), none, none, none, none], [.int (((nI m) * 6) + (nI a)), .ref 150], (aset h 150 600 A), 198, sl) = some R := hh
  rw [ix6b] at hh
  obtain ⟨n, hh⟩ := rn_iam rfl eA (hI_in (by omega) (by omega)) (by decide) hh
  rw [nI_clamp (by omega)] at hh
  rw [← ew] at hh
  obtain ⟨n, hh⟩ := rn_i rfl rfl rfl rfl hh
  have hh : pm_run PT n fr lo 51 (13, [some (.ref 148), some (.int (nI m)), some (.int (nI a)), some (.int e), some (.int g), some (.int (w6 A (6 * m + a))), none, none, none], [], (aset h 150 600 A), 198, sl) = some R := hh
  obtain ⟨n, hh⟩ := rn_i rfl rfl rfl rfl hh
  obtain ⟨n, hh⟩ := rn_if (cc := .ge) (off := 4) (t := 19) rfl rfl hh
  unfold wkc
  cases z : pm_cmp .ge (w6 A (6 * m + a)) 0 with
  | false =>
    rw [z] at hh
    exact rn_vret rfl rfl hh
  | true =>
    rw [z] at hh
    have hh : pm_run PT n fr lo 51 (19, [some (.ref 148), some (.int (nI m)), some (.int (nI a)), some (.int e), some (.int g), some (.int (w6 A (6 * m + a))), none, none, none], [], (aset h 150 600 A), 198, sl) = some R := hh
    obtain ⟨n, hh⟩ := rn_i rfl rfl rfl rfl hh
    obtain ⟨n, hh⟩ := rn_i rfl rfl rfl rfl hh
    have hh : pm_run PT n fr lo 51 (22, [some (.ref 148), some (.int (nI m)), some (.int (nI a)), some (.int e), some (.int g), some (.int (w6 A (6 * m + a))), some (.int 0), none, none], [], (aset h 150 600 A), 198, sl) = some R := hh
    exact wx_in hc ha hB cc 0 n A _ _ (by omega) hh
theorem wx_cts {cc m t : Nat} {s e g : Int32} (hc : cc ≤ 6) (hm : m < 100) (hB : wxB h F cc) : ∀ (d a n : Nat) (A : Nat → Int32), a + d = cc → pm_run PT n fr lo 50 (66, [some (.ref 148), some (.int s), some (.int (nI t)), some (.int e), some (.int g), some (.int (nI m)), some (.int (nI a))], [], aset h 150 600 A, 198, sl) = some R → ∃ q, pm_run PT q fr lo 50 (95, [some (.ref 148), some (.int s), some (.int (nI t)), some (.int e), some (.int g), some (.int (nI m)), some (.int (nI cc))], [], aset h 150 600 (wka F e g m cc d a A), 198, sl) = some R := by
  obtain ⟨⟨fs, k1, k2, k3⟩, ⟨rs, r1, r2, r3⟩, k8⟩ := id hB
  intro d
  induction d with
  | zero =>
    intro a n A ha hh
    have e148 : aset h 150 600 A 148 = .inr (4, fs) := (asR_ne (by decide)).trans k1
    have e5 : aset h 150 600 A 5 = .inr (3, rs) := (asR_ne (by decide)).trans r1
    obtain ⟨n, hh⟩ := rn_i rfl rfl rfl rfl hh
    obtain ⟨n, hh⟩ := rn_i rfl rfl rfl rfl hh
    obtain ⟨n, hh⟩ := rn_gfo (g := 0) rfl rfl (by decide) e148 k2 hh
    obtain ⟨n, hh⟩ := rn_gfo (g := 0) rfl rfl (by decide) e5 r2 hh
    obtain ⟨n, hh⟩ := rn_icmp (cc := .ge) (off := 20) (t := 95) rfl rfl hh
    rw [hI_ge (by omega) (by omega), decide_eq_true (by omega)] at hh
    have ha : a = cc := by omega
    rw [ha] at hh
    exact ⟨n, hh⟩
  | succ d ih =>
    intro a n A ha hh
    have e148 : aset h 150 600 A 148 = .inr (4, fs) := (asR_ne (by decide)).trans k1
    have e5 : aset h 150 600 A 5 = .inr (3, rs) := (asR_ne (by decide)).trans r1
    obtain ⟨n, hh⟩ := rn_i rfl rfl rfl rfl hh
    obtain ⟨n, hh⟩ := rn_i rfl rfl rfl rfl hh
    obtain ⟨n, hh⟩ := rn_gfo (g := 0) rfl rfl (by decide) e148 k2 hh
    obtain ⟨n, hh⟩ := rn_gfo (g := 0) rfl rfl (by decide) e5 r2 hh
    obtain ⟨n, hh⟩ := rn_icmp (cc := .ge) (off := 20) (t := 95) rfl rfl hh
    rw [hI_ge (by omega) (by omega), decide_eq_false (by omega)] at hh
    have hh : pm_run PT n fr lo 50 (78, [some (.ref 148), some (.int s), some (.int (nI t)), some (.int e), some (.int g), some (.int (nI m)), some (.int (nI a))], [], (aset h 150 600 A), 198, sl) = some R := hh
    obtain ⟨n, hh⟩ := rn_i rfl rfl rfl rfl hh
    obtain ⟨n, hh⟩ := rn_i rfl rfl rfl rfl hh
    obtain ⟨n, hh⟩ := rn_i rfl rfl rfl rfl hh
    obtain ⟨n, hh⟩ := rn_i rfl rfl rfl rfl hh
    obtain ⟨n, hh⟩ := rn_i rfl rfl rfl rfl hh
    obtain ⟨n, fr', lo', r1, hr1, hh⟩ := rn_call (w := 0) (t := 51) rfl rfl hh
    have er := wx_goOn hc (by omega) hm hB hr1
    subst er
    have hh : pm_run PT n fr lo 50 (89, [some (.ref 148), some (.int s), some (.int (nI t)), some (.int e), some (.int g), some (.int (nI m)), some (.int (nI a))], [], (aset h 150 600 (wkc F e g m cc a A)), 198, sl) = some R := hh
    obtain ⟨n, hh⟩ := rn_i rfl rfl rfl rfl hh
    obtain ⟨n, hh⟩ := rn_i rfl rfl rfl rfl hh
    have hh : pm_run PT n fr lo 50 (66, [some (.ref 148), some (.int s), some (.int (nI t)), some (.int e), some (.int g), some (.int (nI m)), some (.int ((nI a) + Int32.ofInt 1))], [], (aset h 150 600 (wkc F e g m cc a A)), 198, sl) = some R := hh
    rw [show nI a + Int32.ofInt 1 = nI (a + 1) from (Int32.ofNat_add a 1).symm] at hh
    exact ih (a + 1) n _ (by omega) hh
theorem wx_mon {cc t : Nat} {s e g : Int32} (hc : cc ≤ 6) (ht : t < 6) (hB : wxB h F cc) : ∀ (d m n : Nat) (A : Nat → Int32) (x6 : Option Value), m + d = 100 → pm_run PT n fr lo 50 (38, [some (.ref 148), some (.int s), some (.int (nI t)), some (.int e), some (.int g), some (.int (nI m)), x6], [], aset h 150 600 A, 198, sl) = some R → R.1 = some (.int (wkm F e g cc t d m A)) := by
  obtain ⟨⟨fs, k1, k2, k3⟩, ⟨rs, r1, r2, r3⟩, k8⟩ := id hB
  intro d
  induction d with
  | zero =>
    intro m n A x6 hm hh
    obtain ⟨n, hh⟩ := rn_i rfl rfl rfl rfl hh
    obtain ⟨n, hh⟩ := rn_i rfl rfl rfl rfl hh
    have hh : pm_run PT n fr lo 50 (42, [some (.ref 148), some (.int s), some (.int (nI t)), some (.int e), some (.int g), some (.int (nI m)), x6], [.int (nI 99), .int (nI m)], (aset h 150 600 A), 198, sl) = some R := hh
    obtain ⟨n, hh⟩ := rn_icmp (cc := .gt) (off := 59) (t := 101) rfl rfl hh
    rw [hI_gt (by omega) (by omega), decide_eq_true (by omega)] at hh
    have hh : pm_run PT n fr lo 50 (101, [some (.ref 148), some (.int s), some (.int (nI t)), some (.int e), some (.int g), some (.int (nI m)), x6], [], (aset h 150 600 A), 198, sl) = some R := hh
    obtain ⟨n, hh⟩ := rn_i rfl rfl rfl rfl hh
    have q := (rn_ret rfl (Or.inl rfl) hh).2
    rw [q]
    rfl
  | succ d ih =>
    intro m n A x6 hm hh
    have e148 : aset h 150 600 A 148 = .inr (4, fs) := (asR_ne (by decide)).trans k1
    have e5 : aset h 150 600 A 5 = .inr (3, rs) := (asR_ne (by decide)).trans r1
    have e8 : aset h 150 600 A 8 = .inl (0, 36, .inl F) := (asR_ne (by decide)).trans k8
    have eA : aset h 150 600 A 150 = .inl (0, 600, .inl A) := asR_self
    have ew : w6 A (6 * m + t) = A (6 * m + t) := by unfold w6; rw [if_pos (by omega)]
    obtain ⟨n, hh⟩ := rn_i rfl rfl rfl rfl hh
    obtain ⟨n, hh⟩ := rn_i rfl rfl rfl rfl hh
    have hh : pm_run PT n fr lo 50 (42, [some (.ref 148), some (.int s), some (.int (nI t)), some (.int e), some (.int g), some (.int (nI m)), x6], [.int (nI 99), .int (nI m)], (aset h 150 600 A), 198, sl) = some R := hh
    obtain ⟨n, hh⟩ := rn_icmp (cc := .gt) (off := 59) (t := 101) rfl rfl hh
    rw [hI_gt (by omega) (by omega), decide_eq_false (by omega)] at hh
    have hh : pm_run PT n fr lo 50 (45, [some (.ref 148), some (.int s), some (.int (nI t)), some (.int e), some (.int g), some (.int (nI m)), x6], [], (aset h 150 600 A), 198, sl) = some R := hh
    obtain ⟨n, hh⟩ := rn_i rfl rfl rfl rfl hh
    obtain ⟨n, hh⟩ := rn_gfo (g := 2) rfl rfl (by decide) e148 k3 hh
    obtain ⟨n, hh⟩ := rn_i rfl rfl rfl rfl hh
    obtain ⟨n, hh⟩ := rn_i rfl rfl rfl rfl hh
    obtain ⟨n, hh⟩ := rn_i rfl rfl rfl rfl hh
    obtain ⟨n, hh⟩ := rn_i rfl rfl rfl rfl hh
    obtain ⟨n, hh⟩ := rn_i rfl rfl rfl rfl hh
    have hh : pm_run PT n fr lo 50 (56, [some (.ref 148), some (.int s), some (.int (nI t)), some (.int e), some (.int g), some (.int (nI m)), x6], [.int (((nI m) * 6) + (nI t)), .ref 150], (aset h 150 600 A), 198, sl) = some R := hh
    rw [ix6b] at hh
    obtain ⟨n, hh⟩ := rn_iam rfl eA (hI_in (by omega) (by omega)) (by decide) hh
    rw [nI_clamp (by omega)] at hh
    rw [← ew] at hh
    have hh : pm_run PT n fr lo 50 (57, [some (.ref 148), some (.int s), some (.int (nI t)), some (.int e), some (.int g), some (.int (nI m)), x6], [.int (w6 A (6 * m + t))], (aset h 150 600 A), 198, sl) = some R := hh
    obtain ⟨n, hh⟩ := rn_if (cc := .lt) (off := 6) (t := 63) rfl rfl hh
    show R.1 = some (.int (cond (pm_cmp .lt (w6 A (6 * m + t)) 0) (wkm F e g cc t d (m + 1) (wka F e g m cc cc 0 A)) (nI m)))
    cases z : pm_cmp .lt (w6 A (6 * m + t)) 0 with
    | false =>
      rw [z] at hh
      obtain ⟨n, hh⟩ := rn_i rfl rfl rfl rfl hh
      have q := (rn_ret rfl (Or.inl rfl) hh).2
      rw [q]
      rfl
    | true =>
      rw [z] at hh
      have hh : pm_run PT n fr lo 50 (63, [some (.ref 148), some (.int s), some (.int (nI t)), some (.int e), some (.int g), some (.int (nI m)), x6], [], (aset h 150 600 A), 198, sl) = some R := hh
      obtain ⟨n, hh⟩ := rn_i rfl rfl rfl rfl hh
      obtain ⟨n, hh⟩ := rn_i rfl rfl rfl rfl hh
      have hh : pm_run PT n fr lo 50 (66, [some (.ref 148), some (.int s), some (.int (nI t)), some (.int e), some (.int g), some (.int (nI m)), some (.int 0)], [], (aset h 150 600 A), 198, sl) = some R := hh
      obtain ⟨n, hh⟩ := wx_cts hc (by omega) hB cc 0 n A (by omega) hh
      obtain ⟨n, hh⟩ := rn_i rfl rfl rfl rfl hh
      obtain ⟨n, hh⟩ := rn_i rfl rfl rfl rfl hh
      have hh : pm_run PT n fr lo 50 (38, [some (.ref 148), some (.int s), some (.int (nI t)), some (.int e), some (.int g), some (.int ((nI m) + Int32.ofInt 1)), some (.int (nI cc))], [], (aset h 150 600 (wka F e g m cc cc 0 A)), 198, sl) = some R := hh
      rw [show nI m + Int32.ofInt 1 = nI (m + 1) from (Int32.ofNat_add m 1).symm] at hh
      exact ih (m + 1) n _ _ (by omega) hh
theorem rn_aln2 {k pc a m : Nat} {L : pm_L} {S : List Value} {g : Nat → Int32} (hi : pm_ins PT k pc = some (.arraylength, 1)) (ha : h a = .inl (0, m, .inl g)) (hl : a < 198) (hh : pm_run PT n fr lo k (pc, L, .ref a :: S, h, 198, sl) = some R) : ∃ q, pm_run PT q fr lo k (pc + 1, L, .int (nI m) :: S, h, 198, sl) = some R := by
  refine rn_i hi rfl rfl ?_ hh
  show pm_al PT pc L (.ref a :: S) h 198 sl = _
  unfold pm_al
  dsimp only
  rw [if_pos hl, ha]
  rfl
theorem wx_fill {cc s t : Nat} {e g : Int32} {A : Nat → Int32} (hB : wxB h F cc) : ∀ (d j n : Nat), j + d = 600 → pm_run PT n fr lo 50 (3, [some (.ref 148), some (.int (nI s)), some (.int (nI t)), some (.int e), some (.int g), some (.int (nI j)), none], [], aset h 150 600 (wk0 A j), 198, sl) = some R → ∃ q, pm_run PT q fr lo 50 (27, [some (.ref 148), some (.int (nI s)), some (.int (nI t)), some (.int e), some (.int g), some (.int (nI 600)), none], [], aset h 150 600 (wk0 A 600), 198, sl) = some R := by
  obtain ⟨⟨fs, k1, k2, k3⟩, -, -⟩ := id hB
  intro d
  induction d with
  | zero =>
    intro j n hj hh
    have e148 : aset h 150 600 (wk0 A j) 148 = .inr (4, fs) := (asR_ne (by decide)).trans k1
    have eA : aset h 150 600 (wk0 A j) 150 = .inl (0, 600, .inl (wk0 A j)) := asR_self
    obtain ⟨n, hh⟩ := rn_i rfl rfl rfl rfl hh
    obtain ⟨n, hh⟩ := rn_i rfl rfl rfl rfl hh
    obtain ⟨n, hh⟩ := rn_gfo (g := 2) rfl rfl (by decide) e148 k3 hh
    have hh : pm_run PT n fr lo 50 (9, [some (.ref 148), some (.int (nI s)), some (.int (nI t)), some (.int e), some (.int g), some (.int (nI j)), none], [.ref 150, .int (nI j)], (aset h 150 600 (wk0 A j)), 198, sl) = some R := hh
    obtain ⟨n, hh⟩ := rn_aln2 rfl eA (by decide) hh
    have hh : pm_run PT n fr lo 50 (10, [some (.ref 148), some (.int (nI s)), some (.int (nI t)), some (.int e), some (.int g), some (.int (nI j)), none], [.int (nI 600), .int (nI j)], (aset h 150 600 (wk0 A j)), 198, sl) = some R := hh
    obtain ⟨n, hh⟩ := rn_icmp (cc := .ge) (off := 17) (t := 27) rfl rfl hh
    rw [hI_ge (by omega) (by omega), decide_eq_true (by omega)] at hh
    have hj : j = 600 := by omega
    rw [hj] at hh
    exact ⟨n, hh⟩
  | succ d ih =>
    intro j n hj hh
    have e148 : aset h 150 600 (wk0 A j) 148 = .inr (4, fs) := (asR_ne (by decide)).trans k1
    have eA : aset h 150 600 (wk0 A j) 150 = .inl (0, 600, .inl (wk0 A j)) := asR_self
    obtain ⟨n, hh⟩ := rn_i rfl rfl rfl rfl hh
    obtain ⟨n, hh⟩ := rn_i rfl rfl rfl rfl hh
    obtain ⟨n, hh⟩ := rn_gfo (g := 2) rfl rfl (by decide) e148 k3 hh
    have hh : pm_run PT n fr lo 50 (9, [some (.ref 148), some (.int (nI s)), some (.int (nI t)), some (.int e), some (.int g), some (.int (nI j)), none], [.ref 150, .int (nI j)], (aset h 150 600 (wk0 A j)), 198, sl) = some R := hh
    obtain ⟨n, hh⟩ := rn_aln2 rfl eA (by decide) hh
    have hh : pm_run PT n fr lo 50 (10, [some (.ref 148), some (.int (nI s)), some (.int (nI t)), some (.int e), some (.int g), some (.int (nI j)), none], [.int (nI 600), .int (nI j)], (aset h 150 600 (wk0 A j)), 198, sl) = some R := hh
    obtain ⟨n, hh⟩ := rn_icmp (cc := .ge) (off := 17) (t := 27) rfl rfl hh
    rw [hI_ge (by omega) (by omega), decide_eq_false (by omega)] at hh
    have hh : pm_run PT n fr lo 50 (13, [some (.ref 148), some (.int (nI s)), some (.int (nI t)), some (.int e), some (.int g), some (.int (nI j)), none], [], (aset h 150 600 (wk0 A j)), 198, sl) = some R := hh
    obtain ⟨n, hh⟩ := rn_i rfl rfl rfl rfl hh
    obtain ⟨n, hh⟩ := rn_gfo (g := 2) rfl rfl (by decide) e148 k3 hh
    obtain ⟨n, hh⟩ := rn_i rfl rfl rfl rfl hh
    obtain ⟨n, hh⟩ := rn_i rfl rfl rfl rfl hh
    have hh : pm_run PT n fr lo 50 (20, [some (.ref 148), some (.int (nI s)), some (.int (nI t)), some (.int e), some (.int g), some (.int (nI j)), none], [.int (Int32.ofInt (-1)), .int (nI j), .ref 150], (aset h 150 600 (wk0 A j)), 198, sl) = some R := hh
    obtain ⟨n, hh⟩ := rn_ism rfl eA (hI_in (by omega) (by omega)) (by decide) hh
    rw [nI_clamp (by omega), aset_aset, wk0_up] at hh
    have hh : pm_run PT n fr lo 50 (21, [some (.ref 148), some (.int (nI s)), some (.int (nI t)), some (.int e), some (.int g), some (.int (nI j)), none], [], (aset h 150 600 (wk0 A (j + 1))), 198, sl) = some R := hh
    obtain ⟨n, hh⟩ := rn_i rfl rfl rfl rfl hh
    obtain ⟨n, hh⟩ := rn_i rfl rfl rfl rfl hh
    have hh : pm_run PT n fr lo 50 (3, [some (.ref 148), some (.int (nI s)), some (.int (nI t)), some (.int e), some (.int g), some (.int ((nI j) + Int32.ofInt 1)), none], [], (aset h 150 600 (wk0 A (j + 1))), 198, sl) = some R := hh
    rw [show nI j + Int32.ofInt 1 = nI (j + 1) from (Int32.ofNat_add j 1).symm] at hh
    exact ih (j + 1) n (by omega) hh
theorem wx_few {cc s t : Nat} {e g : Int32} {A : Nat → Int32} (hc : cc ≤ 6) (hs : s < 6) (ht : t < 6) (hB : wxB h F cc) (kA : h 150 = .inl (0, 600, .inl A)) (hh : pm_run PT n fr lo 50 (0, pm_l0 [.ref 148, .int (nI s), .int (nI t), .int e, .int g] 7, [], h, 198, sl) = some R) : R.1 = some (.int (wkA F A e g cc s t)) := by
  obtain ⟨⟨fs, k1, k2, k3⟩, -, -⟩ := id hB
  obtain ⟨n, hh⟩ := rn_i rfl rfl rfl rfl hh
  obtain ⟨n, hh⟩ := rn_i rfl rfl rfl rfl hh
  have hh : pm_run PT n fr lo 50 (3, [some (.ref 148), some (.int (nI s)), some (.int (nI t)), some (.int e), some (.int g), some (.int 0), none], [], h, 198, sl) = some R := hh
  rw [← aset_same kA] at hh
  rw [← wk0_0 A] at hh
  obtain ⟨n, hh⟩ := wx_fill (A := A) hB 600 0 n (by omega) hh
  have hh : pm_run PT n fr lo 50 (27, [some (.ref 148), some (.int (nI s)), some (.int (nI t)), some (.int e), some (.int g), some (.int (nI 600)), none], [], (aset h 150 600 (wk0 A 600)), 198, sl) = some R := hh
  have e148 : aset h 150 600 (wk0 A 600) 148 = .inr (4, fs) := (asR_ne (by decide)).trans k1
  have eA : aset h 150 600 (wk0 A 600) 150 = .inl (0, 600, .inl (wk0 A 600)) := asR_self
  obtain ⟨n, hh⟩ := rn_i rfl rfl rfl rfl hh
  obtain ⟨n, hh⟩ := rn_gfo (g := 2) rfl rfl (by decide) e148 k3 hh
  obtain ⟨n, hh⟩ := rn_i rfl rfl rfl rfl hh
  obtain ⟨n, hh⟩ := rn_i rfl rfl rfl rfl hh
  have hh : pm_run PT n fr lo 50 (34, [some (.ref 148), some (.int (nI s)), some (.int (nI t)), some (.int e), some (.int g), some (.int (nI 600)), none], [.int g, .int (nI s), .ref 150], (aset h 150 600 (wk0 A 600)), 198, sl) = some R := hh
  obtain ⟨n, hh⟩ := rn_ism rfl eA (hI_in (by omega) (by omega)) (by decide) hh
  rw [nI_clamp (by omega), aset_aset] at hh
  have hh : pm_run PT n fr lo 50 (35, [some (.ref 148), some (.int (nI s)), some (.int (nI t)), some (.int e), some (.int g), some (.int (nI 600)), none], [], (aset h 150 600 (upd (wk0 A 600) s g)), 198, sl) = some R := hh
  have eu : upd (wk0 A 600) s g = u6 (wk0 A 600) s g := by unfold u6; rw [if_pos (by omega)]
  rw [eu] at hh
  obtain ⟨n, hh⟩ := rn_i rfl rfl rfl rfl hh
  obtain ⟨n, hh⟩ := rn_i rfl rfl rfl rfl hh
  have hh : pm_run PT n fr lo 50 (38, [some (.ref 148), some (.int (nI s)), some (.int (nI t)), some (.int e), some (.int g), some (.int 0), none], [], (aset h 150 600 (u6 (wk0 A 600) s g)), 198, sl) = some R := hh
  exact wx_mon hc ht hB 100 0 n _ _ (by omega) hh
def wkV (cc : Nat) (x y e g : Int32) : Bool := cB cc x && (cB cc y && (decide (0 ≤ e.toInt ∧ e.toInt ≤ 9) && decide (0 ≤ g.toInt ∧ g.toInt ≤ 99)))
theorem gt_e {x : Int32} {c : Nat} (hc : c < 1000) : pm_cmp .gt x (nI c) = decide ((c : Int) < x.toInt) := by
  simp only [pm_cmp]
  rw [Bool.eq_iff_iff, decide_eq_true_iff, decide_eq_true_iff, Int32.lt_iff_toInt_lt, nI_toInt (by omega)]
/-- the class's walks -/
theorem wx_run {cc : Nat} {x y e g : Int32} {A : Nat → Int32} {fs : List Value} (hc : cc ≤ 6) (k0 : h 0 = .inr (10, fs)) (k02 : fs[2]? = some (.ref 5)) (k010 : fs[10]? = some (.ref 148)) (hB : wxB h F cc) (kA : h 150 = .inl (0, 600, .inl A)) (hh : pm_run PT n fr lo 109 (0, pm_l0 [.ref 0, .int x, .int y, .int e, .int g] 6, [], h, 198, sl) = some R) : (wkV cc x y e g = false ∧ R.1 = some (.int (Int32.ofInt (-1)))) ∨ ∃ s t, x = nI s ∧ y = nI t ∧ s < cc ∧ t < cc ∧ wkV cc x y e g = true ∧ R.1 = some (.int (wkA F A e g cc s t)) := by
  obtain ⟨-, ⟨rs, r1, r2, r3⟩, -⟩ := id hB
  have rc : rC h (.int (nI cc)) := ⟨rs, r1, r2⟩
  have no : ∀ (n : Nat) (q5 : Option Value), wkV cc x y e g = false → pm_run PT n fr lo 109 (56, [some (.ref 0), some (.int x), some (.int y), some (.int e), some (.int g), q5], [], h, 198, sl) = some R → wkV cc x y e g = false ∧ R.1 = some (.int (Int32.ofInt (-1))) := by
    intro n q5 z hh
    obtain ⟨n, hh⟩ := rn_i rfl rfl rfl rfl hh
    have q := (rn_ret rfl (Or.inl rfl) hh).2
    rw [q]
    exact ⟨z, rfl⟩
  have no26 : ∀ n : Nat, (decide (0 ≤ e.toInt ∧ e.toInt ≤ 9) && decide (0 ≤ g.toInt ∧ g.toInt ≤ 99)) = false → pm_run PT n fr lo 109 (26, [some (.ref 0), some (.int x), some (.int y), some (.int e), some (.int g), none], [], h, 198, sl) = some R → wkV cc x y e g = false ∧ R.1 = some (.int (Int32.ofInt (-1))) := by
    intro n z hh
    obtain ⟨n, hh⟩ := rn_i rfl rfl rfl rfl hh
    obtain ⟨n, hh⟩ := rn_i rfl rfl rfl rfl hh
    obtain ⟨n, hh⟩ := rn_i rfl rfl rfl rfl hh
    have hh : pm_run PT n fr lo 109 (31, [some (.ref 0), some (.int x), some (.int y), some (.int e), some (.int g), some (.int 0)], [.int 0], h, 198, sl) = some R := hh
    obtain ⟨n, hh⟩ := rn_if (cc := .eq) (off := 25) (t := 56) rfl rfl hh
    have hh : pm_run PT n fr lo 109 (56, [some (.ref 0), some (.int x), some (.int y), some (.int e), some (.int g), some (.int 0)], [], h, 198, sl) = some R := hh
    exact no n _ (by unfold wkV; rw [z, Bool.and_false, Bool.and_false]) hh
  obtain ⟨n, hh⟩ := rn_i rfl rfl rfl rfl hh
  obtain ⟨n, hh⟩ := rn_if (cc := .lt) (off := 25) (t := 26) rfl rfl hh
  rw [lt0_e] at hh
  by_cases z1 : e.toInt < 0
  · rw [decide_eq_true z1] at hh
    exact Or.inl (no26 n (by rw [decide_eq_false (show ¬ (0 ≤ e.toInt ∧ e.toInt ≤ 9) by omega)]; rfl) hh)
  · rw [decide_eq_false z1] at hh
    have hh : pm_run PT n fr lo 109 (4, [some (.ref 0), some (.int x), some (.int y), some (.int e), some (.int g), none], [], h, 198, sl) = some R := hh
    obtain ⟨n, hh⟩ := rn_i rfl rfl rfl rfl hh
    obtain ⟨n, hh⟩ := rn_i rfl rfl rfl rfl hh
    have hh : pm_run PT n fr lo 109 (7, [some (.ref 0), some (.int x), some (.int y), some (.int e), some (.int g), none], [.int (nI 9), .int e], h, 198, sl) = some R := hh
    obtain ⟨n, hh⟩ := rn_icmp (cc := .gt) (off := 19) (t := 26) rfl rfl hh
    rw [gt_e (by omega)] at hh
    by_cases z2 : ((9 : Nat) : Int) < e.toInt
    · rw [decide_eq_true z2] at hh
      exact Or.inl (no26 n (by rw [decide_eq_false (show ¬ (0 ≤ e.toInt ∧ e.toInt ≤ 9) by omega)]; rfl) hh)
    · rw [decide_eq_false z2] at hh
      have hh : pm_run PT n fr lo 109 (10, [some (.ref 0), some (.int x), some (.int y), some (.int e), some (.int g), none], [], h, 198, sl) = some R := hh
      obtain ⟨n, hh⟩ := rn_i rfl rfl rfl rfl hh
      obtain ⟨n, hh⟩ := rn_if (cc := .lt) (off := 14) (t := 26) rfl rfl hh
      rw [lt0_e] at hh
      by_cases z3 : g.toInt < 0
      · rw [decide_eq_true z3] at hh
        exact Or.inl (no26 n (by rw [decide_eq_false (show ¬ (0 ≤ g.toInt ∧ g.toInt ≤ 99) by omega), Bool.and_false]) hh)
      · rw [decide_eq_false z3] at hh
        have hh : pm_run PT n fr lo 109 (15, [some (.ref 0), some (.int x), some (.int y), some (.int e), some (.int g), none], [], h, 198, sl) = some R := hh
        obtain ⟨n, hh⟩ := rn_i rfl rfl rfl rfl hh
        obtain ⟨n, hh⟩ := rn_i rfl rfl rfl rfl hh
        have hh : pm_run PT n fr lo 109 (19, [some (.ref 0), some (.int x), some (.int y), some (.int e), some (.int g), none], [.int (nI 99), .int g], h, 198, sl) = some R := hh
        obtain ⟨n, hh⟩ := rn_icmp (cc := .gt) (off := 7) (t := 26) rfl rfl hh
        rw [gt_e (by omega)] at hh
        by_cases z4 : ((99 : Nat) : Int) < g.toInt
        · rw [decide_eq_true z4] at hh
          exact Or.inl (no26 n (by rw [decide_eq_false (show ¬ (0 ≤ g.toInt ∧ g.toInt ≤ 99) by omega), Bool.and_false]) hh)
        · rw [decide_eq_false z4] at hh
          have hh : pm_run PT n fr lo 109 (22, [some (.ref 0), some (.int x), some (.int y), some (.int e), some (.int g), none], [], h, 198, sl) = some R := hh
          have ef : (decide (0 ≤ e.toInt ∧ e.toInt ≤ 9) && decide (0 ≤ g.toInt ∧ g.toInt ≤ 99)) = true := by
            rw [decide_eq_true (show 0 ≤ e.toInt ∧ e.toInt ≤ 9 by omega), decide_eq_true (show 0 ≤ g.toInt ∧ g.toInt ≤ 99 by omega)]
            rfl
          obtain ⟨n, hh⟩ := rn_i rfl rfl rfl rfl hh
          obtain ⟨n, hh⟩ := rn_i rfl rfl rfl rfl hh
          obtain ⟨n, hh⟩ := rn_i rfl rfl rfl rfl hh
          obtain ⟨n, hh⟩ := rn_i rfl rfl rfl rfl hh
          have hh : pm_run PT n fr lo 109 (31, [some (.ref 0), some (.int x), some (.int y), some (.int e), some (.int g), some (.int 1)], [.int 1], h, 198, sl) = some R := hh
          obtain ⟨n, hh⟩ := rn_if (cc := .eq) (off := 25) (t := 56) rfl rfl hh
          have hh : pm_run PT n fr lo 109 (34, [some (.ref 0), some (.int x), some (.int y), some (.int e), some (.int g), some (.int 1)], [], h, 198, sl) = some R := hh
          obtain ⟨n, hh⟩ := rn_i rfl rfl rfl rfl hh
          obtain ⟨n, hh⟩ := rn_gfo (g := 2) rfl rfl (by decide) k0 k02 hh
          obtain ⟨n, hh⟩ := rn_i rfl rfl rfl rfl hh
          obtain ⟨n, fr', lo', r1, hr1, hh⟩ := rn_call (w := 0) (t := 23) rfl rfl hh
          have er := xi_run hc rc hr1
          subst er
          have hh : pm_run PT n fr lo 109 (42, [some (.ref 0), some (.int x), some (.int y), some (.int e), some (.int g), some (.int 1)], [.int (cond (cB cc x) 1 0)], h, 198, sl) = some R := hh
          obtain ⟨n, hh⟩ := rn_if (cc := .eq) (off := 14) (t := 56) rfl rfl hh
          cases zx : cB cc x with
          | false =>
            rw [zx] at hh
            exact Or.inl (no n _ (by unfold wkV; rw [zx]; rfl) hh)
          | true =>
            rw [zx] at hh
            have hh : pm_run PT n fr lo 109 (45, [some (.ref 0), some (.int x), some (.int y), some (.int e), some (.int g), some (.int 1)], [], h, 198, sl) = some R := hh
            obtain ⟨n, hh⟩ := rn_i rfl rfl rfl rfl hh
            obtain ⟨n, hh⟩ := rn_gfo (g := 2) rfl rfl (by decide) k0 k02 hh
            obtain ⟨n, hh⟩ := rn_i rfl rfl rfl rfl hh
            obtain ⟨n, fr', lo', r1, hr1, hh⟩ := rn_call (w := 0) (t := 23) rfl rfl hh
            have er := xi_run hc rc hr1
            subst er
            have hh : pm_run PT n fr lo 109 (53, [some (.ref 0), some (.int x), some (.int y), some (.int e), some (.int g), some (.int 1)], [.int (cond (cB cc y) 1 0)], h, 198, sl) = some R := hh
            obtain ⟨n, hh⟩ := rn_if (cc := .ne) (off := 5) (t := 58) rfl rfl hh
            cases zy : cB cc y with
            | false =>
              rw [zy] at hh
              exact Or.inl (no n _ (by unfold wkV; rw [zy, Bool.false_and, Bool.and_false]) hh)
            | true =>
              rw [zy] at hh
              have hh : pm_run PT n fr lo 109 (58, [some (.ref 0), some (.int x), some (.int y), some (.int e), some (.int g), some (.int 1)], [], h, 198, sl) = some R := hh
              obtain ⟨s, hs, rfl⟩ := cB_iv zx
              obtain ⟨t, ht, rfl⟩ := cB_iv zy
              have hh : pm_run PT n fr lo 109 (58, [some (.ref 0), some (.int (nI s)), some (.int (nI t)), some (.int e), some (.int g), some (.int 1)], [], h, 198, sl) = some R := hh
              obtain ⟨n, hh⟩ := rn_i rfl rfl rfl rfl hh
              obtain ⟨n, hh⟩ := rn_gfo (g := 10) rfl rfl (by decide) k0 k010 hh
              obtain ⟨n, hh⟩ := rn_i rfl rfl rfl rfl hh
              obtain ⟨n, hh⟩ := rn_i rfl rfl rfl rfl hh
              obtain ⟨n, hh⟩ := rn_i rfl rfl rfl rfl hh
              obtain ⟨n, hh⟩ := rn_i rfl rfl rfl rfl hh
              obtain ⟨n, fr', lo', r1, hr1, hh⟩ := rn_call (w := 0) (t := 50) rfl rfl hh
              have er := wx_few hc (by omega) (by omega) hB kA hr1
              obtain ⟨rv, hw, sw⟩ := r1
              dsimp only at er
              subst er
              have hz := sz_run k133_ok _ _ _ 50 _ _ rfl hr1
              dsimp only at hz
              subst hz
              have hh : pm_run PT n fr lo 109 (70, [some (.ref 0), some (.int (nI s)), some (.int (nI t)), some (.int e), some (.int g), some (.int 1)], [.int (wkA F A e g cc s t)], hw, 198, sl) = some R := hh
              have q := (rn_ret rfl (Or.inl rfl) hh).2
              refine Or.inr ⟨s, t, rfl, rfl, hs, ht, by unfold wkV; rw [zx, zy, ef]; rfl, ?_⟩
              rw [q]
end WKX
/-! walks of the reference -/
section WKY
variable {n fr lo sl : Nat} {h : pm_H} {R : pm_Rs} {F : Nat → Int32}
def wmB (h : pm_H) (F : Nat → Int32) (cc : Nat) : Prop := mF h 3 (.int (nI cc)) ∧ mF h 11 (.ref 169) ∧ mF h 40 (.ref 186) ∧ h 169 = .inl (0, 36, .inl F)
theorem wm_in {cc m a : Nat} {t : Nat} {s e g x : Int32} (hc : cc ≤ 6) (ha : a < 6) (hx0 : pm_cmp .lt x 0 = false) (hB : wmB h F cc) : ∀ (d b n : Nat) (A : Nat → Int32) (x7 x8 : Option Value), b + d = cc → pm_run PT n fr lo 239 (139, [some (.ref 162), some (.int s), some (.int (nI t)), some (.int e), some (.int g), some (.int (nI m)), some (.int (nI a)), some (.int x), some (.int (nI b)), x7, x8], [], (aset h 186 600 A), 198, sl) = some R → ∃ q x7' x8', pm_run PT q fr lo 239 (238, [some (.ref 162), some (.int s), some (.int (nI t)), some (.int e), some (.int g), some (.int (nI m)), some (.int (nI a)), some (.int x), some (.int (nI cc)), x7', x8'], [], aset h 186 600 (wkb F e g x m a d b A), 198, sl) = some R := by
  obtain ⟨k3, k11, k40, k9⟩ := hB
  intro d
  induction d with
  | zero =>
    intro b n A x7 x8 hb hh
    have e3 : mF (aset h 186 600 A) 3 (.int (nI cc)) := aset_mF (by decide) k3
    have e11 : mF (aset h 186 600 A) 11 (.ref 169) := aset_mF (by decide) k11
    have e40 : mF (aset h 186 600 A) 40 (.ref 186) := aset_mF (by decide) k40
    have e8 : aset h 186 600 A 169 = .inl (0, 36, .inl F) := (asR_ne (by decide)).trans k9
    have eA : aset h 186 600 A 186 = .inl (0, 600, .inl A) := asR_self
    obtain ⟨n, hh⟩ := rn_i rfl rfl rfl rfl hh
    obtain ⟨n, hh⟩ := rn_i rfl rfl rfl rfl hh
    obtain ⟨n, hh⟩ := rn_gfm rfl rfl e3 hh
    obtain ⟨n, hh⟩ := rn_icmp (cc := .ge) (off := 93) (t := 238) rfl rfl hh
    rw [hI_ge (by omega) (by omega), decide_eq_true (by omega)] at hh
    have hb : b = cc := by omega
    rw [hb] at hh
    exact ⟨n, x7, x8, hh⟩
  | succ d ih =>
    intro b n A x7 x8 hb hh
    have fin : ∀ (n : Nat) (A' : Nat → Int32) (y7 y8 : Option Value), wkIx F e g x m a b A = A' → pm_run PT n fr lo 239 (232, [some (.ref 162), some (.int s), some (.int (nI t)), some (.int e), some (.int g), some (.int (nI m)), some (.int (nI a)), some (.int x), some (.int (nI b)), y7, y8], [], aset h 186 600 A', 198, sl) = some R → ∃ q x7' x8', pm_run PT q fr lo 239 (238, [some (.ref 162), some (.int s), some (.int (nI t)), some (.int e), some (.int g), some (.int (nI m)), some (.int (nI a)), some (.int x), some (.int (nI cc)), x7', x8'], [], aset h 186 600 (wkb F e g x m a (d + 1) b A), 198, sl) = some R := by
      intro n A' y7 y8 ew hh
      obtain ⟨n, hh⟩ := rn_i rfl rfl rfl rfl hh
      obtain ⟨n, hh⟩ := rn_i rfl rfl rfl rfl hh
      have hh : pm_run PT n fr lo 239 (139, [some (.ref 162), some (.int s), some (.int (nI t)), some (.int e), some (.int g), some (.int (nI m)), some (.int (nI a)), some (.int x), some (.int ((nI b) + Int32.ofInt 1)), y7, y8], [], (aset h 186 600 A'), 198, sl) = some R := hh
      rw [show nI b + Int32.ofInt 1 = nI (b + 1) from (Int32.ofNat_add b 1).symm] at hh
      have q := ih (b + 1) n A' y7 y8 (by omega) hh
      rw [← ew] at q
      exact q
    have e3 : mF (aset h 186 600 A) 3 (.int (nI cc)) := aset_mF (by decide) k3
    have e11 : mF (aset h 186 600 A) 11 (.ref 169) := aset_mF (by decide) k11
    have e40 : mF (aset h 186 600 A) 40 (.ref 186) := aset_mF (by decide) k40
    have e8 : aset h 186 600 A 169 = .inl (0, 36, .inl F) := (asR_ne (by decide)).trans k9
    have eA : aset h 186 600 A 186 = .inl (0, 600, .inl A) := asR_self
    obtain ⟨n, hh⟩ := rn_i rfl rfl rfl rfl hh
    obtain ⟨n, hh⟩ := rn_i rfl rfl rfl rfl hh
    obtain ⟨n, hh⟩ := rn_gfm rfl rfl e3 hh
    obtain ⟨n, hh⟩ := rn_icmp (cc := .ge) (off := 93) (t := 238) rfl rfl hh
    rw [hI_ge (by omega) (by omega), decide_eq_false (by omega)] at hh
    have hh : pm_run PT n fr lo 239 (148, [some (.ref 162), some (.int s), some (.int (nI t)), some (.int e), some (.int g), some (.int (nI m)), some (.int (nI a)), some (.int x), some (.int (nI b)), x7, x8], [], (aset h 186 600 A), 198, sl) = some R := hh
    obtain ⟨n, hh⟩ := rn_i rfl rfl rfl rfl hh
    obtain ⟨n, hh⟩ := rn_if (cc := .lt) (off := 88) (t := 238) rfl rfl hh
    rw [hx0] at hh
    have hh : pm_run PT n fr lo 239 (153, [some (.ref 162), some (.int s), some (.int (nI t)), some (.int e), some (.int g), some (.int (nI m)), some (.int (nI a)), some (.int x), some (.int (nI b)), x7, x8], [], (aset h 186 600 A), 198, sl) = some R := hh
    obtain ⟨n, hh⟩ := rn_i rfl rfl rfl rfl hh
    obtain ⟨n, hh⟩ := rn_gfm rfl rfl e11 hh
    obtain ⟨n, hh⟩ := rn_i rfl rfl rfl rfl hh
    obtain ⟨n, hh⟩ := rn_i rfl rfl rfl rfl hh
    obtain ⟨n, hh⟩ := rn_i rfl rfl rfl rfl hh
    obtain ⟨n, hh⟩ := rn_i rfl rfl rfl rfl hh
    obtain ⟨n, hh⟩ := rn_i rfl rfl rfl rfl hh
    have hh : pm_run PT n fr lo 239 (165, [some (.ref 162), some (.int s), some (.int (nI t)), some (.int e), some (.int g), some (.int (nI m)), some (.int (nI a)), some (.int x), some (.int (nI b)), x7, x8], [.int ((6 * (nI a)) + (nI b)), .ref 169], (aset h 186 600 A), 198, sl) = some R := hh
    rw [ix6] at hh
    obtain ⟨n, hh⟩ := rn_iam rfl e8 (hI_in (by omega) (by omega)) (by decide) hh
    rw [nI_clamp (by omega)] at hh
    obtain ⟨n, hh⟩ := rn_i rfl rfl rfl rfl hh
    have hh : pm_run PT n fr lo 239 (168, [some (.ref 162), some (.int s), some (.int (nI t)), some (.int e), some (.int g), some (.int (nI m)), some (.int (nI a)), some (.int x), some (.int (nI b)), some (.int (F (6 * a + b))), x8], [], (aset h 186 600 A), 198, sl) = some R := hh
    obtain ⟨n, hh⟩ := rn_i rfl rfl rfl rfl hh
    obtain ⟨n, hh⟩ := rn_if (cc := .le) (off := 62) (t := 232) rfl rfl hh
    cases z1 : pm_cmp .le (F (6 * a + b)) 0 with
    | true =>
      rw [z1] at hh
      exact fin n A _ _ (by unfold wkIx; rw [z1]; rfl) hh
    | false =>
      rw [z1] at hh
      have hh : pm_run PT n fr lo 239 (173, [some (.ref 162), some (.int s), some (.int (nI t)), some (.int e), some (.int g), some (.int (nI m)), some (.int (nI a)), some (.int x), some (.int (nI b)), some (.int (F (6 * a + b))), x8], [], (aset h 186 600 A), 198, sl) = some R := hh
      obtain ⟨n, hh⟩ := rn_i rfl rfl rfl rfl hh
      obtain ⟨n, hh⟩ := rn_i rfl rfl rfl rfl hh
      obtain ⟨n, hh⟩ := rn_i rfl rfl rfl rfl hh
      obtain ⟨n, hh⟩ := rn_i rfl rfl rfl rfl hh
      have hh : pm_run PT n fr lo 239 (180, [some (.ref 162), some (.int s), some (.int (nI t)), some (.int e), some (.int g), some (.int (nI m)), some (.int (nI a)), some (.int x), some (.int (nI b)), some (.int (F (6 * a + b))), x8], [.int 99, .int ((nI m) + (F (6 * a + b)))], (aset h 186 600 A), 198, sl) = some R := hh
      obtain ⟨n, hh⟩ := rn_icmp (cc := .gt) (off := 52) (t := 232) rfl rfl hh
      cases z2 : pm_cmp .gt ((nI m) + (F (6 * a + b))) 99 with
      | true =>
        rw [z2] at hh
        exact fin n A _ _ (by unfold wkIx; rw [z1, z2]; rfl) hh
      | false =>
        rw [z2] at hh
        have hh : pm_run PT n fr lo 239 (183, [some (.ref 162), some (.int s), some (.int (nI t)), some (.int e), some (.int g), some (.int (nI m)), some (.int (nI a)), some (.int x), some (.int (nI b)), some (.int (F (6 * a + b))), x8], [], (aset h 186 600 A), 198, sl) = some R := hh
        obtain ⟨n, hh⟩ := rn_i rfl rfl rfl rfl hh
        obtain ⟨n, hh⟩ := rn_i rfl rfl rfl rfl hh
        obtain ⟨n, hh⟩ := rn_i rfl rfl rfl rfl hh
        obtain ⟨n, hh⟩ := rn_i rfl rfl rfl rfl hh
        have hh : pm_run PT n fr lo 239 (189, [some (.ref 162), some (.int s), some (.int (nI t)), some (.int e), some (.int g), some (.int (nI m)), some (.int (nI a)), some (.int x), some (.int (nI b)), some (.int (F (6 * a + b))), x8], [.int (e * (F (6 * a + b))), .int x], (aset h 186 600 A), 198, sl) = some R := hh
        obtain ⟨n, hh⟩ := rn_icmp (cc := .lt) (off := 43) (t := 232) rfl rfl hh
        cases z3 : pm_cmp .lt x (e * (F (6 * a + b))) with
        | true =>
          rw [z3] at hh
          exact fin n A _ _ (by unfold wkIx; rw [z1, z2, z3]; rfl) hh
        | false =>
          rw [z3] at hh
          have hh : pm_run PT n fr lo 239 (192, [some (.ref 162), some (.int s), some (.int (nI t)), some (.int e), some (.int g), some (.int (nI m)), some (.int (nI a)), some (.int x), some (.int (nI b)), some (.int (F (6 * a + b))), x8], [], (aset h 186 600 A), 198, sl) = some R := hh
          obtain ⟨n, hh⟩ := rn_i rfl rfl rfl rfl hh
          obtain ⟨n, hh⟩ := rn_i rfl rfl rfl rfl hh
          obtain ⟨n, hh⟩ := rn_i rfl rfl rfl rfl hh
          obtain ⟨n, hh⟩ := rn_i rfl rfl rfl rfl hh
          obtain ⟨n, hh⟩ := rn_i rfl rfl rfl rfl hh
          obtain ⟨n, hh⟩ := rn_i rfl rfl rfl rfl hh
          obtain ⟨n, hh⟩ := rn_i rfl rfl rfl rfl hh
          obtain ⟨n, hh⟩ := rn_i rfl rfl rfl rfl hh
          have hh : pm_run PT n fr lo 239 (205, [some (.ref 162), some (.int s), some (.int (nI t)), some (.int e), some (.int g), some (.int (nI m)), some (.int (nI a)), some (.int x), some (.int (nI b)), some (.int (F (6 * a + b))), some (.int ((6 * ((nI m) + (F (6 * a + b)))) + (nI b)))], [], (aset h 186 600 A), 198, sl) = some R := hh
          rw [Int32.mul_comm 6] at hh
          have hh : pm_run PT n fr lo 239 (205, [some (.ref 162), some (.int s), some (.int (nI t)), some (.int e), some (.int g), some (.int (nI m)), some (.int (nI a)), some (.int x), some (.int (nI b)), some (.int (F (6 * a + b))), some (.int ((nI m + F (6 * a + b)) * 6 + nI b))], [], (aset h 186 600 A), 198, sl) = some R := hh
          obtain ⟨n, hh⟩ := rn_i rfl rfl rfl rfl hh
          obtain ⟨n, hh⟩ := rn_gfm rfl rfl e40 hh
          obtain ⟨n, hh⟩ := rn_i rfl rfl rfl rfl hh
          obtain ⟨n, hh⟩ := rn_i rfl rfl rfl rfl hh
          obtain ⟨n, hh⟩ := rn_gfm rfl rfl e40 hh
          obtain ⟨n, hh⟩ := rn_i rfl rfl rfl rfl hh
          have hh : pm_run PT n fr lo 239 (217, [some (.ref 162), some (.int s), some (.int (nI t)), some (.int e), some (.int g), some (.int (nI m)), some (.int (nI a)), some (.int x), some (.int (nI b)), some (.int (F (6 * a + b))), some (.int ((nI m + F (6 * a + b)) * 6 + nI b))], [.int ((nI m + F (6 * a + b)) * 6 + nI b), .ref 186, .int ((nI m + F (6 * a + b)) * 6 + nI b), .ref 186], (aset h 186 600 A), 198, sl) = some R := hh
          obtain ⟨n, hx, hh⟩ := rn_ias rfl eA (by decide) hh
          have hh : pm_run PT n fr lo 239 (218, [some (.ref 162), some (.int s), some (.int (nI t)), some (.int e), some (.int g), some (.int (nI m)), some (.int (nI a)), some (.int x), some (.int (nI b)), some (.int (F (6 * a + b))), some (.int ((nI m + F (6 * a + b)) * 6 + nI b))], [.int (A (wkX m (F (6 * a + b)) b)), .int ((nI m + F (6 * a + b)) * 6 + nI b), .ref 186], (aset h 186 600 A), 198, sl) = some R := hh
          have hx : wkX m (F (6 * a + b)) b < 600 := hx
          obtain ⟨n, hh⟩ := rn_i rfl rfl rfl rfl hh
          obtain ⟨n, hh⟩ := rn_i rfl rfl rfl rfl hh
          obtain ⟨n, hh⟩ := rn_i rfl rfl rfl rfl hh
          obtain ⟨n, hh⟩ := rn_i rfl rfl rfl rfl hh
          obtain ⟨n, hh⟩ := rn_i rfl rfl rfl rfl hh
          obtain ⟨n, hh⟩ := rn_i rfl rfl rfl rfl hh
          obtain ⟨n, hh⟩ := rn_i rfl rfl rfl rfl hh
          have hh : pm_run PT n fr lo 239 (228, [some (.ref 162), some (.int s), some (.int (nI t)), some (.int e), some (.int g), some (.int (nI m)), some (.int (nI a)), some (.int x), some (.int (nI b)), some (.int (F (6 * a + b))), some (.int ((nI m + F (6 * a + b)) * 6 + nI b))], [.int ((x - (e * (F (6 * a + b)))) + g), .int (A (wkX m (F (6 * a + b)) b)), .int ((nI m + F (6 * a + b)) * 6 + nI b), .ref 186], (aset h 186 600 A), 198, sl) = some R := hh
          obtain ⟨n, hh⟩ := rn_max (w := 0) rfl rfl rfl hh
          have hh : pm_run PT n fr lo 239 (231, [some (.ref 162), some (.int s), some (.int (nI t)), some (.int e), some (.int g), some (.int (nI m)), some (.int (nI a)), some (.int x), some (.int (nI b)), some (.int (F (6 * a + b))), some (.int ((nI m + F (6 * a + b)) * 6 + nI b))], [.int (wkM (A (wkX m (F (6 * a + b)) b)) ((x - (e * (F (6 * a + b)))) + g)), .int ((nI m + F (6 * a + b)) * 6 + nI b), .ref 186], (aset h 186 600 A), 198, sl) = some R := hh
          obtain ⟨n, -, hh⟩ := rn_iss rfl eA (by decide) hh
          rw [aset_aset] at hh
          refine fin n _ _ _ ?_ hh
          unfold wkIx u6 w6
          rw [z1, z2, z3, if_pos hx, if_pos hx]
          rfl
theorem ge_lt0 {x : Int32} (z : pm_cmp .ge x 0 = true) : pm_cmp .lt x 0 = false := by
  have z : (0 : Int32) ≤ x := of_decide_eq_true z
  refine decide_eq_false (fun q => ?_)
  rw [Int32.le_iff_toInt_le] at z
  rw [Int32.lt_iff_toInt_lt] at q
  omega
theorem ge_lt1 {x : Int32} (z : pm_cmp .ge x 0 = false) : pm_cmp .lt x 0 = true := by
  have z : ¬ (0 : Int32) ≤ x := of_decide_eq_false z
  refine decide_eq_true ?_
  rw [Int32.le_iff_toInt_le] at z
  rw [Int32.lt_iff_toInt_lt]
  omega
theorem wm_cts {cc m t : Nat} {s e g : Int32} (hc : cc ≤ 6) (hm : m < 100) (hB : wmB h F cc) : ∀ (d a n : Nat) (A : Nat → Int32) (x7 x8 x9 x10 : Option Value), a + d = cc → pm_run PT n fr lo 239 (112, [some (.ref 162), some (.int s), some (.int (nI t)), some (.int e), some (.int g), some (.int (nI m)), some (.int (nI a)), x7, x8, x9, x10], [], aset h 186 600 A, 198, sl) = some R → ∃ q y7 y8 y9 y10, pm_run PT q fr lo 239 (244, [some (.ref 162), some (.int s), some (.int (nI t)), some (.int e), some (.int g), some (.int (nI m)), some (.int (nI cc)), y7, y8, y9, y10], [], aset h 186 600 (wka F e g m cc d a A), 198, sl) = some R := by
  obtain ⟨k3, k11, k40, k9⟩ := id hB
  intro d
  induction d with
  | zero =>
    intro a n A x7 x8 x9 x10 ha hh
    have e3 : mF (aset h 186 600 A) 3 (.int (nI cc)) := aset_mF (by decide) k3
    obtain ⟨n, hh⟩ := rn_i rfl rfl rfl rfl hh
    obtain ⟨n, hh⟩ := rn_i rfl rfl rfl rfl hh
    obtain ⟨n, hh⟩ := rn_gfm rfl rfl e3 hh
    obtain ⟨n, hh⟩ := rn_icmp (cc := .ge) (off := 126) (t := 244) rfl rfl hh
    rw [hI_ge (by omega) (by omega), decide_eq_true (by omega)] at hh
    have ha : a = cc := by omega
    rw [ha] at hh
    exact ⟨n, _, _, _, _, hh⟩
  | succ d ih =>
    intro a n A x7 x8 x9 x10 ha hh
    have e3 : mF (aset h 186 600 A) 3 (.int (nI cc)) := aset_mF (by decide) k3
    have e11 : mF (aset h 186 600 A) 11 (.ref 169) := aset_mF (by decide) k11
    have e40 : mF (aset h 186 600 A) 40 (.ref 186) := aset_mF (by decide) k40
    have e8 : aset h 186 600 A 169 = .inl (0, 36, .inl F) := (asR_ne (by decide)).trans k9
    have eA : aset h 186 600 A 186 = .inl (0, 600, .inl A) := asR_self
    have ew : w6 A (6 * m + a) = A (6 * m + a) := by unfold w6; rw [if_pos (by omega)]
    obtain ⟨n, hh⟩ := rn_i rfl rfl rfl rfl hh
    obtain ⟨n, hh⟩ := rn_i rfl rfl rfl rfl hh
    obtain ⟨n, hh⟩ := rn_gfm rfl rfl e3 hh
    obtain ⟨n, hh⟩ := rn_icmp (cc := .ge) (off := 126) (t := 244) rfl rfl hh
    rw [hI_ge (by omega) (by omega), decide_eq_false (by omega)] at hh
    have hh : pm_run PT n fr lo 239 (121, [some (.ref 162), some (.int s), some (.int (nI t)), some (.int e), some (.int g), some (.int (nI m)), some (.int (nI a)), x7, x8, x9, x10], [], (aset h 186 600 A), 198, sl) = some R := hh
    obtain ⟨n, hh⟩ := rn_i rfl rfl rfl rfl hh
    obtain ⟨n, hh⟩ := rn_gfm rfl rfl e40 hh
    obtain ⟨n, hh⟩ := rn_i rfl rfl rfl rfl hh
    obtain ⟨n, hh⟩ := rn_i rfl rfl rfl rfl hh
    obtain ⟨n, hh⟩ := rn_i rfl rfl rfl rfl hh
    obtain ⟨n, hh⟩ := rn_i rfl rfl rfl rfl hh
    obtain ⟨n, hh⟩ := rn_i rfl rfl rfl rfl hh
    have hh : pm_run PT n fr lo 239 (133, [some (.ref 162), some (.int s), some (.int (nI t)), some (.int e), some (.int g), some (.int (nI m)), some (.int (nI a)), x7, x8, x9, x10], [.int ((6 * (nI m)) + (nI a)), .ref 186], (aset h 186 600 A), 198, sl) = some R := hh
    rw [ix6] at hh
    obtain ⟨n, hh⟩ := rn_iam rfl eA (hI_in (by omega) (by omega)) (by decide) hh
    rw [nI_clamp (by omega)] at hh
    rw [← ew] at hh
    obtain ⟨n, hh⟩ := rn_i rfl rfl rfl rfl hh
    obtain ⟨n, hh⟩ := rn_i rfl rfl rfl rfl hh
    obtain ⟨n, hh⟩ := rn_i rfl rfl rfl rfl hh
    have hh : pm_run PT n fr lo 239 (139, [some (.ref 162), some (.int s), some (.int (nI t)), some (.int e), some (.int g), some (.int (nI m)), some (.int (nI a)), some (.int (w6 A (6 * m + a))), some (.int 0), x9, x10], [], (aset h 186 600 A), 198, sl) = some R := hh
    have fin : ∀ (n : Nat) (A2 : Nat → Int32) (y7 y8 y9 y10 : Option Value), wkc F e g m cc a A = A2 → pm_run PT n fr lo 239 (238, [some (.ref 162), some (.int s), some (.int (nI t)), some (.int e), some (.int g), some (.int (nI m)), some (.int (nI a)), y7, y8, y9, y10], [], aset h 186 600 A2, 198, sl) = some R → ∃ q y7 y8 y9 y10, pm_run PT q fr lo 239 (244, [some (.ref 162), some (.int s), some (.int (nI t)), some (.int e), some (.int g), some (.int (nI m)), some (.int (nI cc)), y7, y8, y9, y10], [], aset h 186 600 (wka F e g m cc (d + 1) a A), 198, sl) = some R := by
      intro n A2 y7 y8 y9 y10 ea hh
      obtain ⟨n, hh⟩ := rn_i rfl rfl rfl rfl hh
      obtain ⟨n, hh⟩ := rn_i rfl rfl rfl rfl hh
      have hh : pm_run PT n fr lo 239 (112, [some (.ref 162), some (.int s), some (.int (nI t)), some (.int e), some (.int g), some (.int (nI m)), some (.int ((nI a) + Int32.ofInt 1)), y7, y8, y9, y10], [], (aset h 186 600 A2), 198, sl) = some R := hh
      rw [show nI a + Int32.ofInt 1 = nI (a + 1) from (Int32.ofNat_add a 1).symm] at hh
      have q := ih (a + 1) n A2 _ _ _ _ (by omega) hh
      rw [← ea] at q
      exact q
    cases z : pm_cmp .ge (w6 A (6 * m + a)) 0 with
    | true =>
      have z2 : pm_cmp .lt (w6 A (6 * m + a)) 0 = false := ge_lt0 z
      obtain ⟨n, y9, y10, hh⟩ := wm_in hc (by omega) z2 hB cc 0 n A _ _ (by omega) hh
      exact fin n _ _ _ _ _ (by unfold wkc; rw [z]; rfl) hh
    | false =>
      have z2 : pm_cmp .lt (w6 A (6 * m + a)) 0 = true := ge_lt1 z
      obtain ⟨n, hh⟩ := rn_i rfl rfl rfl rfl hh
      obtain ⟨n, hh⟩ := rn_i rfl rfl rfl rfl hh
      obtain ⟨n, hh⟩ := rn_gfm rfl rfl e3 hh
      have hh : pm_run PT n fr lo 239 (145, [some (.ref 162), some (.int s), some (.int (nI t)), some (.int e), some (.int g), some (.int (nI m)), some (.int (nI a)), some (.int (w6 A (6 * m + a))), some (.int 0), x9, x10], [.int (nI cc), .int (nI 0)], (aset h 186 600 A), 198, sl) = some R := hh
      obtain ⟨n, hh⟩ := rn_icmp (cc := .ge) (off := 93) (t := 238) rfl rfl hh
      rw [hI_ge (by omega) (by omega), decide_eq_false (by omega)] at hh
      have hh : pm_run PT n fr lo 239 (148, [some (.ref 162), some (.int s), some (.int (nI t)), some (.int e), some (.int g), some (.int (nI m)), some (.int (nI a)), some (.int (w6 A (6 * m + a))), some (.int 0), x9, x10], [], (aset h 186 600 A), 198, sl) = some R := hh
      obtain ⟨n, hh⟩ := rn_i rfl rfl rfl rfl hh
      obtain ⟨n, hh⟩ := rn_if (cc := .lt) (off := 88) (t := 238) rfl rfl hh
      rw [z2] at hh
      exact fin n _ _ _ _ _ (by unfold wkc; rw [z]; rfl) hh
theorem wm_mon {cc t : Nat} {s e g : Int32} (hc : cc ≤ 6) (ht : t < 6) (hB : wmB h F cc) : ∀ (d m n : Nat) (A : Nat → Int32) (x6 x7 x8 x9 x10 : Option Value), m + d = 100 → pm_run PT n fr lo 239 (84, [some (.ref 162), some (.int s), some (.int (nI t)), some (.int e), some (.int g), some (.int (nI m)), x6, x7, x8, x9, x10], [], aset h 186 600 A, 198, sl) = some R → R.1 = some (.int (wkm F e g cc t d m A)) := by
  obtain ⟨k3, k11, k40, k9⟩ := id hB
  intro d
  induction d with
  | zero =>
    intro m n A x6 x7 x8 x9 x10 hm hh
    obtain ⟨n, hh⟩ := rn_i rfl rfl rfl rfl hh
    obtain ⟨n, hh⟩ := rn_i rfl rfl rfl rfl hh
    have hh : pm_run PT n fr lo 239 (88, [some (.ref 162), some (.int s), some (.int (nI t)), some (.int e), some (.int g), some (.int (nI m)), x6, x7, x8, x9, x10], [.int (nI 99), .int (nI m)], (aset h 186 600 A), 198, sl) = some R := hh
    obtain ⟨n, hh⟩ := rn_icmp (cc := .gt) (off := 162) (t := 250) rfl rfl hh
    rw [hI_gt (by omega) (by omega), decide_eq_true (by omega)] at hh
    have hh : pm_run PT n fr lo 239 (250, [some (.ref 162), some (.int s), some (.int (nI t)), some (.int e), some (.int g), some (.int (nI m)), x6, x7, x8, x9, x10], [], (aset h 186 600 A), 198, sl) = some R := hh
    obtain ⟨n, hh⟩ := rn_i rfl rfl rfl rfl hh
    have q := (rn_ret rfl (Or.inl rfl) hh).2
    rw [q]
    rfl
  | succ d ih =>
    intro m n A x6 x7 x8 x9 x10 hm hh
    have e3 : mF (aset h 186 600 A) 3 (.int (nI cc)) := aset_mF (by decide) k3
    have e11 : mF (aset h 186 600 A) 11 (.ref 169) := aset_mF (by decide) k11
    have e40 : mF (aset h 186 600 A) 40 (.ref 186) := aset_mF (by decide) k40
    have e8 : aset h 186 600 A 169 = .inl (0, 36, .inl F) := (asR_ne (by decide)).trans k9
    have eA : aset h 186 600 A 186 = .inl (0, 600, .inl A) := asR_self
    have ew : w6 A (6 * m + t) = A (6 * m + t) := by unfold w6; rw [if_pos (by omega)]
    obtain ⟨n, hh⟩ := rn_i rfl rfl rfl rfl hh
    obtain ⟨n, hh⟩ := rn_i rfl rfl rfl rfl hh
    have hh : pm_run PT n fr lo 239 (88, [some (.ref 162), some (.int s), some (.int (nI t)), some (.int e), some (.int g), some (.int (nI m)), x6, x7, x8, x9, x10], [.int (nI 99), .int (nI m)], (aset h 186 600 A), 198, sl) = some R := hh
    obtain ⟨n, hh⟩ := rn_icmp (cc := .gt) (off := 162) (t := 250) rfl rfl hh
    rw [hI_gt (by omega) (by omega), decide_eq_false (by omega)] at hh
    have hh : pm_run PT n fr lo 239 (91, [some (.ref 162), some (.int s), some (.int (nI t)), some (.int e), some (.int g), some (.int (nI m)), x6, x7, x8, x9, x10], [], (aset h 186 600 A), 198, sl) = some R := hh
    obtain ⟨n, hh⟩ := rn_i rfl rfl rfl rfl hh
    obtain ⟨n, hh⟩ := rn_gfm rfl rfl e40 hh
    obtain ⟨n, hh⟩ := rn_i rfl rfl rfl rfl hh
    obtain ⟨n, hh⟩ := rn_i rfl rfl rfl rfl hh
    obtain ⟨n, hh⟩ := rn_i rfl rfl rfl rfl hh
    obtain ⟨n, hh⟩ := rn_i rfl rfl rfl rfl hh
    obtain ⟨n, hh⟩ := rn_i rfl rfl rfl rfl hh
    have hh : pm_run PT n fr lo 239 (102, [some (.ref 162), some (.int s), some (.int (nI t)), some (.int e), some (.int g), some (.int (nI m)), x6, x7, x8, x9, x10], [.int ((6 * (nI m)) + (nI t)), .ref 186], (aset h 186 600 A), 198, sl) = some R := hh
    rw [ix6] at hh
    obtain ⟨n, hh⟩ := rn_iam rfl eA (hI_in (by omega) (by omega)) (by decide) hh
    rw [nI_clamp (by omega)] at hh
    rw [← ew] at hh
    have hh : pm_run PT n fr lo 239 (103, [some (.ref 162), some (.int s), some (.int (nI t)), some (.int e), some (.int g), some (.int (nI m)), x6, x7, x8, x9, x10], [.int (w6 A (6 * m + t))], (aset h 186 600 A), 198, sl) = some R := hh
    obtain ⟨n, hh⟩ := rn_if (cc := .lt) (off := 6) (t := 109) rfl rfl hh
    show R.1 = some (.int (cond (pm_cmp .lt (w6 A (6 * m + t)) 0) (wkm F e g cc t d (m + 1) (wka F e g m cc cc 0 A)) (nI m)))
    cases z : pm_cmp .lt (w6 A (6 * m + t)) 0 with
    | false =>
      rw [z] at hh
      obtain ⟨n, hh⟩ := rn_i rfl rfl rfl rfl hh
      have q := (rn_ret rfl (Or.inl rfl) hh).2
      rw [q]
      rfl
    | true =>
      rw [z] at hh
      have hh : pm_run PT n fr lo 239 (109, [some (.ref 162), some (.int s), some (.int (nI t)), some (.int e), some (.int g), some (.int (nI m)), x6, x7, x8, x9, x10], [], (aset h 186 600 A), 198, sl) = some R := hh
      obtain ⟨n, hh⟩ := rn_i rfl rfl rfl rfl hh
      obtain ⟨n, hh⟩ := rn_i rfl rfl rfl rfl hh
      have hh : pm_run PT n fr lo 239 (112, [some (.ref 162), some (.int s), some (.int (nI t)), some (.int e), some (.int g), some (.int (nI m)), some (.int 0), x7, x8, x9, x10], [], (aset h 186 600 A), 198, sl) = some R := hh
      obtain ⟨n, y7, y8, y9, y10, hh⟩ := wm_cts hc (by omega) hB cc 0 n A _ _ _ _ (by omega) hh
      obtain ⟨n, hh⟩ := rn_i rfl rfl rfl rfl hh
      obtain ⟨n, hh⟩ := rn_i rfl rfl rfl rfl hh
      have hh : pm_run PT n fr lo 239 (84, [some (.ref 162), some (.int s), some (.int (nI t)), some (.int e), some (.int g), some (.int ((nI m) + Int32.ofInt 1)), some (.int (nI cc)), y7, y8, y9, y10], [], (aset h 186 600 (wka F e g m cc cc 0 A)), 198, sl) = some R := hh
      rw [show nI m + Int32.ofInt 1 = nI (m + 1) from (Int32.ofNat_add m 1).symm] at hh
      exact ih (m + 1) n _ _ _ _ _ _ (by omega) hh
theorem wm_fill {cc s t : Nat} {e g : Int32} {A : Nat → Int32} (hB : wmB h F cc) : ∀ (d j n : Nat), j + d = 600 → pm_run PT n fr lo 239 (51, [some (.ref 162), some (.int (nI s)), some (.int (nI t)), some (.int e), some (.int g), some (.int (nI j)), none, none, none, none, none], [], aset h 186 600 (wk0 A j), 198, sl) = some R → ∃ q, pm_run PT q fr lo 239 (73, [some (.ref 162), some (.int (nI s)), some (.int (nI t)), some (.int e), some (.int g), some (.int (nI 600)), none, none, none, none, none], [], aset h 186 600 (wk0 A 600), 198, sl) = some R := by
  obtain ⟨k3, k11, k40, k9⟩ := id hB
  intro d
  induction d with
  | zero =>
    intro j n hj hh
    have e40 : mF (aset h 186 600 (wk0 A j)) 40 (.ref 186) := aset_mF (by decide) k40
    have eA : aset h 186 600 (wk0 A j) 186 = .inl (0, 600, .inl (wk0 A j)) := asR_self
    obtain ⟨n, hh⟩ := rn_i rfl rfl rfl rfl hh
    obtain ⟨n, hh⟩ := rn_i rfl rfl rfl rfl hh
    have hh : pm_run PT n fr lo 239 (56, [some (.ref 162), some (.int (nI s)), some (.int (nI t)), some (.int e), some (.int g), some (.int (nI j)), none, none, none, none, none], [.int (nI 600), .int (nI j)], (aset h 186 600 (wk0 A j)), 198, sl) = some R := hh
    obtain ⟨n, hh⟩ := rn_icmp (cc := .ge) (off := 17) (t := 73) rfl rfl hh
    rw [hI_ge (by omega) (by omega), decide_eq_true (by omega)] at hh
    have hj : j = 600 := by omega
    rw [hj] at hh
    exact ⟨n, hh⟩
  | succ d ih =>
    intro j n hj hh
    have e40 : mF (aset h 186 600 (wk0 A j)) 40 (.ref 186) := aset_mF (by decide) k40
    have eA : aset h 186 600 (wk0 A j) 186 = .inl (0, 600, .inl (wk0 A j)) := asR_self
    obtain ⟨n, hh⟩ := rn_i rfl rfl rfl rfl hh
    obtain ⟨n, hh⟩ := rn_i rfl rfl rfl rfl hh
    have hh : pm_run PT n fr lo 239 (56, [some (.ref 162), some (.int (nI s)), some (.int (nI t)), some (.int e), some (.int g), some (.int (nI j)), none, none, none, none, none], [.int (nI 600), .int (nI j)], (aset h 186 600 (wk0 A j)), 198, sl) = some R := hh
    obtain ⟨n, hh⟩ := rn_icmp (cc := .ge) (off := 17) (t := 73) rfl rfl hh
    rw [hI_ge (by omega) (by omega), decide_eq_false (by omega)] at hh
    have hh : pm_run PT n fr lo 239 (59, [some (.ref 162), some (.int (nI s)), some (.int (nI t)), some (.int e), some (.int g), some (.int (nI j)), none, none, none, none, none], [], (aset h 186 600 (wk0 A j)), 198, sl) = some R := hh
    obtain ⟨n, hh⟩ := rn_i rfl rfl rfl rfl hh
    obtain ⟨n, hh⟩ := rn_gfm rfl rfl e40 hh
    obtain ⟨n, hh⟩ := rn_i rfl rfl rfl rfl hh
    obtain ⟨n, hh⟩ := rn_i rfl rfl rfl rfl hh
    have hh : pm_run PT n fr lo 239 (66, [some (.ref 162), some (.int (nI s)), some (.int (nI t)), some (.int e), some (.int g), some (.int (nI j)), none, none, none, none, none], [.int (Int32.ofInt (-1)), .int (nI j), .ref 186], (aset h 186 600 (wk0 A j)), 198, sl) = some R := hh
    obtain ⟨n, hh⟩ := rn_ism rfl eA (hI_in (by omega) (by omega)) (by decide) hh
    rw [nI_clamp (by omega), aset_aset, wk0_up] at hh
    have hh : pm_run PT n fr lo 239 (67, [some (.ref 162), some (.int (nI s)), some (.int (nI t)), some (.int e), some (.int g), some (.int (nI j)), none, none, none, none, none], [], (aset h 186 600 (wk0 A (j + 1))), 198, sl) = some R := hh
    obtain ⟨n, hh⟩ := rn_i rfl rfl rfl rfl hh
    obtain ⟨n, hh⟩ := rn_i rfl rfl rfl rfl hh
    have hh : pm_run PT n fr lo 239 (51, [some (.ref 162), some (.int (nI s)), some (.int (nI t)), some (.int e), some (.int g), some (.int ((nI j) + Int32.ofInt 1)), none, none, none, none, none], [], (aset h 186 600 (wk0 A (j + 1))), 198, sl) = some R := hh
    rw [show nI j + Int32.ofInt 1 = nI (j + 1) from (Int32.ofNat_add j 1).symm] at hh
    exact ih (j + 1) n (by omega) hh
theorem in99_b {z : Int32} : in_b z.toInt64 0 99 = decide (0 ≤ z.toInt ∧ z.toInt ≤ 99) := by
  unfold in_b
  have n1 : (0 : Int64).toInt = 0 := by decide
  have n2 : (99 : Int64).toInt = 99 := by decide
  rw [Bool.eq_iff_iff, Bool.and_eq_true, decide_eq_true_iff, Bool.not_eq_true', Bool.not_eq_true', decide_eq_false_iff_not, decide_eq_false_iff_not, Int64.lt_iff_toInt_lt, Int64.lt_iff_toInt_lt, Int32.toInt_toInt64, n1, n2]
  omega
theorem wm_run {cc : Nat} {x y e g : Int32} {A : Nat → Int32} {w0 : Value} (hc : cc ≤ 6) (h0 : mF h 0 w0) (hB : wmB h F cc) (kA : h 186 = .inl (0, 600, .inl A)) (hh : pm_run PT n fr lo 239 (0, pm_l0 [.ref 162, .int x, .int y, .int e, .int g] 11, [], h, 198, sl) = some R) : (wkV cc x y e g = false ∧ R.1 = some (.int (Int32.ofInt (-1)))) ∨ ∃ s t, x = nI s ∧ y = nI t ∧ s < cc ∧ t < cc ∧ wkV cc x y e g = true ∧ R.1 = some (.int (wkA F A e g cc s t)) := by
  obtain ⟨k3, k11, k40, k9⟩ := hB
  obtain ⟨n, hh⟩ := rn_i rfl rfl rfl rfl hh
  obtain ⟨n, hh⟩ := rn_i rfl rfl rfl rfl hh
  obtain ⟨n, hh⟩ := rn_pfm (w := w0) rfl rfl rfl (by decide) h0 hh
  have hB : wmB (mset h 0 (.int (Int32.ofInt 0))) F cc := ⟨mF_ne (by decide) k3, mF_ne (by decide) k11, mF_ne (by decide) k40, mset_arr (by decide) k9⟩
  have kA : mset h 0 (.int (Int32.ofInt 0)) 186 = .inl (0, 600, .inl A) := mset_arr (by decide) kA
  generalize mset h 0 (.int (Int32.ofInt 0)) = hb at *
  obtain ⟨k3, k11, k40, k9⟩ := id hB
  have no : ∀ n : Nat, wkV cc x y e g = false → pm_run PT n fr lo 239 (46, [some (.ref 162), some (.int x), some (.int y), some (.int e), some (.int g), none, none, none, none, none, none], [], hb, 198, sl) = some R → wkV cc x y e g = false ∧ R.1 = some (.int (Int32.ofInt (-1))) := by
    intro n z hh
    obtain ⟨n, hh⟩ := rn_i rfl rfl rfl rfl hh
    have q := (rn_ret rfl (Or.inl rfl) hh).2
    rw [q]
    exact ⟨z, rfl⟩
  have hh : pm_run PT n fr lo 239 (5, [some (.ref 162), some (.int x), some (.int y), some (.int e), some (.int g), none, none, none, none, none, none], [], hb, 198, sl) = some R := hh
  obtain ⟨n, hh⟩ := rn_i rfl rfl rfl rfl hh
  obtain ⟨n, hh⟩ := rn_i rfl rfl rfl rfl hh
  obtain ⟨n, fr', lo', r1, hr1, hh⟩ := rn_call (w := 0) (t := 168) rfl rfl hh
  have er := mi_run hc k3 hr1
  subst er
  have hh : pm_run PT n fr lo 239 (10, [some (.ref 162), some (.int x), some (.int y), some (.int e), some (.int g), none, none, none, none, none, none], [.int (cond (cB cc x) 1 0)], hb, 198, sl) = some R := hh
  obtain ⟨n, hh⟩ := rn_if (cc := .eq) (off := 36) (t := 46) rfl rfl hh
  cases zx : cB cc x with
  | false =>
    rw [zx] at hh
    exact Or.inl (no n (by unfold wkV; rw [zx]; rfl) hh)
  | true =>
    rw [zx] at hh
    have hh : pm_run PT n fr lo 239 (13, [some (.ref 162), some (.int x), some (.int y), some (.int e), some (.int g), none, none, none, none, none, none], [], hb, 198, sl) = some R := hh
    obtain ⟨n, hh⟩ := rn_i rfl rfl rfl rfl hh
    obtain ⟨n, hh⟩ := rn_i rfl rfl rfl rfl hh
    obtain ⟨n, fr', lo', r1, hr1, hh⟩ := rn_call (w := 0) (t := 168) rfl rfl hh
    have er := mi_run hc k3 hr1
    subst er
    have hh : pm_run PT n fr lo 239 (18, [some (.ref 162), some (.int x), some (.int y), some (.int e), some (.int g), none, none, none, none, none, none], [.int (cond (cB cc y) 1 0)], hb, 198, sl) = some R := hh
    obtain ⟨n, hh⟩ := rn_if (cc := .eq) (off := 28) (t := 46) rfl rfl hh
    cases zy : cB cc y with
    | false =>
      rw [zy] at hh
      exact Or.inl (no n (by unfold wkV; rw [zy, Bool.false_and, Bool.and_false]) hh)
    | true =>
      rw [zy] at hh
      have hh : pm_run PT n fr lo 239 (21, [some (.ref 162), some (.int x), some (.int y), some (.int e), some (.int g), none, none, none, none, none, none], [], hb, 198, sl) = some R := hh
      obtain ⟨n, hh⟩ := rn_i rfl rfl rfl rfl hh
      obtain ⟨n, hh⟩ := rn_i rfl rfl rfl rfl hh
      obtain ⟨n, hh⟩ := rn_i rfl rfl rfl rfl hh
      obtain ⟨n, hh⟩ := rn_i rfl rfl rfl rfl hh
      obtain ⟨n, fr', lo', r1, hr1, hh⟩ := rn_call (w := 2) (t := 163) rfl rfl hh
      have er := rn_dt (F := 10) (Lo := 1000) (hd_in (fr := 10) (lo := 1000) (h := hb) (sl := sl) e.toInt64 0 9) hr1
      subst er
      rw [in9_b] at hh
      have hh : pm_run PT n fr lo 239 (30, [some (.ref 162), some (.int x), some (.int y), some (.int e), some (.int g), none, none, none, none, none, none], [.int (cond (decide (0 ≤ e.toInt ∧ e.toInt ≤ 9)) 1 0)], hb, 198, sl) = some R := hh
      obtain ⟨n, hh⟩ := rn_if (cc := .eq) (off := 16) (t := 46) rfl rfl hh
      cases ze : decide (0 ≤ e.toInt ∧ e.toInt ≤ 9) with
      | false =>
        rw [ze] at hh
        exact Or.inl (no n (by unfold wkV; rw [ze, Bool.false_and, Bool.and_false, Bool.and_false]) hh)
      | true =>
        rw [ze] at hh
        have hh : pm_run PT n fr lo 239 (33, [some (.ref 162), some (.int x), some (.int y), some (.int e), some (.int g), none, none, none, none, none, none], [], hb, 198, sl) = some R := hh
        obtain ⟨n, hh⟩ := rn_i rfl rfl rfl rfl hh
        obtain ⟨n, hh⟩ := rn_i rfl rfl rfl rfl hh
        obtain ⟨n, hh⟩ := rn_i rfl rfl rfl rfl hh
        obtain ⟨n, hh⟩ := rn_i rfl rfl rfl rfl hh
        obtain ⟨n, fr', lo', r1, hr1, hh⟩ := rn_call (w := 2) (t := 163) rfl rfl hh
        have er := rn_dt (F := 10) (Lo := 1000) (hd_in (fr := 10) (lo := 1000) (h := hb) (sl := sl) g.toInt64 0 99) hr1
        subst er
        rw [in99_b] at hh
        have hh : pm_run PT n fr lo 239 (43, [some (.ref 162), some (.int x), some (.int y), some (.int e), some (.int g), none, none, none, none, none, none], [.int (cond (decide (0 ≤ g.toInt ∧ g.toInt ≤ 99)) 1 0)], hb, 198, sl) = some R := hh
        obtain ⟨n, hh⟩ := rn_if (cc := .ne) (off := 5) (t := 48) rfl rfl hh
        cases zg : decide (0 ≤ g.toInt ∧ g.toInt ≤ 99) with
        | false =>
          rw [zg] at hh
          exact Or.inl (no n (by unfold wkV; rw [zg, Bool.and_false, Bool.and_false, Bool.and_false]) hh)
        | true =>
          rw [zg] at hh
          have hh : pm_run PT n fr lo 239 (48, [some (.ref 162), some (.int x), some (.int y), some (.int e), some (.int g), none, none, none, none, none, none], [], hb, 198, sl) = some R := hh
          obtain ⟨s, hs, rfl⟩ := cB_iv zx
          obtain ⟨t, ht, rfl⟩ := cB_iv zy
          have hh : pm_run PT n fr lo 239 (48, [some (.ref 162), some (.int (nI s)), some (.int (nI t)), some (.int e), some (.int g), none, none, none, none, none, none], [], hb, 198, sl) = some R := hh
          refine Or.inr ⟨s, t, rfl, rfl, hs, ht, by unfold wkV; rw [zx, zy, ze, zg]; rfl, ?_⟩
          obtain ⟨n, hh⟩ := rn_i rfl rfl rfl rfl hh
          obtain ⟨n, hh⟩ := rn_i rfl rfl rfl rfl hh
          have hh : pm_run PT n fr lo 239 (51, [some (.ref 162), some (.int (nI s)), some (.int (nI t)), some (.int e), some (.int g), some (.int 0), none, none, none, none, none], [], hb, 198, sl) = some R := hh
          rw [← aset_same kA] at hh
          rw [← wk0_0 A] at hh
          obtain ⟨n, hh⟩ := wm_fill (A := A) hB 600 0 n (by omega) hh
          have hh : pm_run PT n fr lo 239 (73, [some (.ref 162), some (.int (nI s)), some (.int (nI t)), some (.int e), some (.int g), some (.int (nI 600)), none, none, none, none, none], [], (aset hb 186 600 (wk0 A 600)), 198, sl) = some R := hh
          have e40 : mF (aset hb 186 600 (wk0 A 600)) 40 (.ref 186) := aset_mF (by decide) k40
          have eA : aset hb 186 600 (wk0 A 600) 186 = .inl (0, 600, .inl (wk0 A 600)) := asR_self
          obtain ⟨n, hh⟩ := rn_i rfl rfl rfl rfl hh
          obtain ⟨n, hh⟩ := rn_gfm rfl rfl e40 hh
          obtain ⟨n, hh⟩ := rn_i rfl rfl rfl rfl hh
          obtain ⟨n, hh⟩ := rn_i rfl rfl rfl rfl hh
          have hh : pm_run PT n fr lo 239 (80, [some (.ref 162), some (.int (nI s)), some (.int (nI t)), some (.int e), some (.int g), some (.int (nI 600)), none, none, none, none, none], [.int g, .int (nI s), .ref 186], (aset hb 186 600 (wk0 A 600)), 198, sl) = some R := hh
          obtain ⟨n, hh⟩ := rn_ism rfl eA (hI_in (by omega) (by omega)) (by decide) hh
          rw [nI_clamp (by omega), aset_aset] at hh
          have hh : pm_run PT n fr lo 239 (81, [some (.ref 162), some (.int (nI s)), some (.int (nI t)), some (.int e), some (.int g), some (.int (nI 600)), none, none, none, none, none], [], (aset hb 186 600 (upd (wk0 A 600) s g)), 198, sl) = some R := hh
          have eu : upd (wk0 A 600) s g = u6 (wk0 A 600) s g := by unfold u6; rw [if_pos (by omega)]
          rw [eu] at hh
          obtain ⟨n, hh⟩ := rn_i rfl rfl rfl rfl hh
          obtain ⟨n, hh⟩ := rn_i rfl rfl rfl rfl hh
          have hh : pm_run PT n fr lo 239 (84, [some (.ref 162), some (.int (nI s)), some (.int (nI t)), some (.int e), some (.int g), some (.int 0), none, none, none, none, none], [], (aset hb 186 600 (u6 (wk0 A 600) s g)), 198, sl) = some R := hh
          exact wm_mon hc (by omega) hB 100 0 n _ _ _ _ _ _ (by omega) hh
end WKY
/-! both walks answer alike -/
section WKZ
variable {sl : Nat} {h h1 h2 : pm_H} {v w x y e g : Int32}
def asR148 : List av := match bB 148 with
  | .inr (_, as) => as
  | _ => []
theorem walks_both (pr : prun sl 109 239 [x, y, e, g] h h1 h2 v w) (hI : LI5 h) (r : RO h) : v = w := by
  obtain ⟨F, F', cc, hc, m3, e8, e9, hj, -⟩ := r
  obtain ⟨⟨m, r1⟩, ⟨f1, i1⟩, ⟨m2, r2⟩, -, -⟩ := pr
  obtain ⟨hI0, ⟨n0, cc0, f0, g0, hn, hc0, ⟨x1, ⟨rs, d5, d50⟩⟩, ⟨y1, y2, y3⟩, hjj⟩, -⟩ := hI
  have ecc := mF_ij (by omega) (by omega) y3 m3
  subst ecc
  obtain ⟨fs, a1, -, a3⟩ := ty_x2 hI0.1
  have d54 : rs[4]? = some (.ref 8) := ty_or hI0.1 (a := 5) (g := 4) (p := 8) (by decide) rfl (by decide) rfl rfl d5
  have a10 : fs[10]? = some (.ref 148) := ty_or hI0.1 (a := 0) (g := 10) (p := 148) (by decide) rfl (by decide) rfl rfl a1
  obtain ⟨fo, b1⟩ : ∃ fo, h 148 = .inr (4, fo) := by
    obtain ⟨fo, b1, -⟩ := aE_obj (ci := 4) (as := asR148) (hI0.1 148 (by decide)) (by decide)
    exact ⟨fo, b1⟩
  have b2 : fo[0]? = some (.ref 5) := ty_or hI0.1 (a := 148) (g := 0) (p := 5) (by decide) rfl (by decide) rfl rfl b1
  have b3 : fo[2]? = some (.ref 150) := ty_or hI0.1 (a := 148) (g := 2) (p := 150) (by decide) rfl (by decide) rfl rfl b1
  obtain ⟨A, kA, -⟩ := ty_arr hI0.1 (i := 150) (by decide) rfl rfl (by decide)
  obtain ⟨A', kA', -⟩ := ty_arr i1.1 (i := 186) (by decide) rfl rfl (by decide)
  have qx := wx_run (F := F) hc a1 a3 a10 ⟨⟨fo, b1, b2, b3⟩, ⟨rs, d5, d50, d54⟩, e8⟩ kA r1
  obtain ⟨w0, hw⟩ := ty_m0 i1.1
  have qm := wm_run (F := F') hc hw ⟨mF_hi f1 m3, ty_ref i1.1 (g := 11) (p := 169) rfl, ty_ref i1.1 (g := 40) (p := 186) rfl, (f1.1 169 rfl).trans e9⟩ kA' r2
  dsimp only at qx qm
  rcases qx with ⟨c1, q1⟩ | ⟨s, t, es, et, hs, ht, c1, q1⟩
  · rcases qm with ⟨c2, q2⟩ | ⟨s', t', es', et', hs', ht', c2, q2⟩
    · exact (Value.int.inj (Option.some.inj q1)).trans (Value.int.inj (Option.some.inj q2)).symm
    · rw [c1] at c2
      cases c2
  · rcases qm with ⟨c2, q2⟩ | ⟨s', t', es', et', hs', ht', c2, q2⟩
    · rw [c1] at c2
      cases c2
    · have e1 : s' = s := nI_ij (by omega) (by omega) (es'.symm.trans es)
      have e2 : t' = t := nI_ij (by omega) (by omega) (et'.symm.trans et)
      subst e1
      subst e2
      rw [Value.int.inj (Option.some.inj q1), Value.int.inj (Option.some.inj q2)]
      exact wkA_eq hc hj
end WKZ
