section MG95zzykx0
/-! readCourts of the class: what it notes -/
section VAX
variable {n fr lo sl n0 cc ln i : Nat} {h g0 : pm_H} {R : pm_Rs} {f A0 B0 A B : Nat → Int32} {d : Int32}
/-- ln whole lines and i digits of the next are noted behind the cc courts that there are -/
def vI (cc : Nat) (f A0 B0 A B : Nat → Int32) (ln i : Nat) : Prop := ((∀ c, c < cc → A c = A0 c) ∧ ∀ j, j < 5 * cc → B j = B0 j) ∧ (∀ k, k < ln → A (cc + k) = f (7 * k) - nI 48 ∧ ∀ j, j < 5 → B (5 * (cc + k) + j) = f (7 * k + 1 + j) - nI 48) ∧ (0 < i → A (cc + ln) = f (7 * ln) - nI 48) ∧ ∀ j, j + 1 < i → B (5 * (cc + ln) + j) = f (7 * ln + 1 + j) - nI 48
theorem vI_rank (v : vI cc f A0 B0 A B ln 0) : vI cc f A0 B0 (upd A (cc + ln) (f (7 * ln) - nI 48)) B ln 1 := by
  obtain ⟨⟨a1, a2⟩, a3, -, -⟩ := v
  have un : ∀ c, c ≠ cc + ln → upd A (cc + ln) (f (7 * ln) - nI 48) c = A c := fun c z => by unfold upd; rw [if_neg z]
  refine ⟨⟨fun c hc => (un c (by omega)).trans (a1 c hc), a2⟩, fun k hk => ⟨(un _ (by omega)).trans (a3 k hk).1, (a3 k hk).2⟩, fun _ => ?_, fun j hj => by omega⟩
  unfold upd
  rw [if_pos rfl]
theorem vI_taste {i : Nat} (hi : i < 5) (v : vI cc f A0 B0 A B ln (i + 1)) : vI cc f A0 B0 A (upd B (5 * (cc + ln) + i) (f (7 * ln + 1 + i) - nI 48)) ln (i + 2) := by
  obtain ⟨⟨a1, a2⟩, a3, a4, a5⟩ := v
  have un : ∀ c, c ≠ 5 * (cc + ln) + i → upd B (5 * (cc + ln) + i) (f (7 * ln + 1 + i) - nI 48) c = B c := fun c z => by unfold upd; rw [if_neg z]
  refine ⟨⟨a1, fun j hj => (un j (by omega)).trans (a2 j hj)⟩, fun k hk => ⟨(a3 k hk).1, fun j hj => (un _ (by omega)).trans ((a3 k hk).2 j hj)⟩, fun _ => a4 (by omega), fun j hj => ?_⟩
  by_cases z : j = i
  · subst z
    unfold upd
    rw [if_pos rfl]
  · exact (un _ (by omega)).trans (a5 j (by omega))
theorem vI_line (v : vI cc f A0 B0 A B ln 6) : vI cc f A0 B0 A B (ln + 1) 0 := by
  obtain ⟨a1, a3, a4, a5⟩ := v
  refine ⟨a1, fun k hk => ?_, fun q => by omega, fun j hj => by omega⟩
  by_cases z : k = ln
  · subst z
    exact ⟨a4 (by omega), fun j hj => a5 j (by omega)⟩
  · exact a3 k (by omega)
theorem vI_0 (v : vI cc f A0 B0 A B ln i) : vI cc f A0 B0 A B 0 0 := ⟨v.1, fun k hk => by omega, fun q => by omega, fun j hj => by omega⟩
def svX (g0 h : pm_H) (n0 cc : Nat) (f A B : Nat → Int32) : Prop := pX h n0 cc f ∧ (∃ rs, h 5 = .inr (3, rs) ∧ rs[2]? = some (.ref 6) ∧ rs[3]? = some (.ref 7) ∧ WT h ∧ ∀ i, i ≠ 6 → i ≠ 7 → h i = g0 i) ∧ h 6 = .inl (0, 6, .inl A) ∧ h 7 = .inl (0, 30, .inl B)
theorem pX_as {a m : Nat} {g : Nat → Int32} (h0 : a ≠ 0) (h1 : a ≠ 1) (h2 : a ≠ 2) (h5 : a ≠ 5) (x : pX h n0 cc f) : pX (aset h a m g) n0 cc f := by
  obtain ⟨⟨fs, a1, a2⟩, ⟨gs, b1, b2⟩, c1, rs, d1, d2⟩ := x
  exact ⟨⟨fs, (asR_ne (Ne.symm h0)).trans a1, a2⟩, ⟨gs, (asR_ne (Ne.symm h1)).trans b1, b2⟩, (asR_ne (Ne.symm h2)).trans c1, rs, (asR_ne (Ne.symm h5)).trans d1, d2⟩
theorem svX_6 {A' : Nat → Int32} (x : svX g0 h n0 cc f A B) : svX g0 (aset h 6 6 A') n0 cc f A' B := by
  obtain ⟨p, ⟨rs, r1, r2, r3, wt, fr⟩, -, k7⟩ := x
  exact ⟨pX_as (by decide) (by decide) (by decide) (by decide) p, ⟨rs, (asR_ne (by decide)).trans r1, r2, r3, wt_as rfl wt, fun i h6 h7 => (asR_ne h6).trans (fr i h6 h7)⟩, asR_self, (asR_ne (by decide)).trans k7⟩
theorem svX_7 {B' : Nat → Int32} (x : svX g0 h n0 cc f A B) : svX g0 (aset h 7 30 B') n0 cc f A B' := by
  obtain ⟨p, ⟨rs, r1, r2, r3, wt, fr⟩, k6, -⟩ := x
  exact ⟨pX_as (by decide) (by decide) (by decide) (by decide) p, ⟨rs, (asR_ne (by decide)).trans r1, r2, r3, wt_as rfl wt, fun i h6 h7 => (asR_ne h7).trans (fr i h6 h7)⟩, (asR_ne (by decide)).trans k6, asR_self⟩
theorem nc_0 {c : Nat} (hc : c < 1000) (x : svX g0 h n0 cc f A B) (hh : pm_run PT n fr lo 26 (0, pm_l0 [.ref 5, .int (nI c), .int (nI 0), .int d] 4, [], h, 198, sl) = some R) : R = (none, aset h 6 6 (upd A c d), 198, sl) := by
  obtain ⟨-, ⟨rs, r1, r2, r3⟩, k6, k7⟩ := x
  obtain ⟨n, hh⟩ := rn_i rfl rfl rfl rfl hh
  obtain ⟨n, hh⟩ := rn_if (cc := .ne) (off := 13) (t := 14) rfl rfl hh
  have hh : pm_run PT n fr lo 26 (4, [some (.ref 5), some (.int (nI c)), some (.int (nI 0)), some (.int d)], [], h, 198, sl) = some R := hh
  obtain ⟨n, hh⟩ := rn_i rfl rfl rfl rfl hh
  obtain ⟨n, hh⟩ := rn_gfo (g := 2) rfl rfl (by decide) r1 r2 hh
  obtain ⟨n, hh⟩ := rn_i rfl rfl rfl rfl hh
  obtain ⟨n, hh⟩ := rn_i rfl rfl rfl rfl hh
  have hh : pm_run PT n fr lo 26 (10, [some (.ref 5), some (.int (nI c)), some (.int (nI 0)), some (.int d)], [.int d, .int (nI c), .ref 6], h, 198, sl) = some R := hh
  obtain ⟨n, -, hh⟩ := en_iss rfl k6 (by decide) hh
  rw [nI_clamp (by omega)] at hh
  have hh : pm_run PT n fr lo 26 (11, [some (.ref 5), some (.int (nI c)), some (.int (nI 0)), some (.int d)], [], (aset h 6 6 (upd A c d)), 198, sl) = some R := hh
  obtain ⟨n, hh⟩ := rn_i rfl rfl rfl rfl hh
  exact rn_vret rfl rfl hh
theorem nI_sub1 (n : Nat) : nI (n + 1) - 1 = nI n := by
  rw [show nI (n + 1) = nI n + 1 from Int32.ofNat_add n 1]
  exact Int32.add_sub_cancel _ _
theorem nc_s {c i : Nat} (hc : c < 1000) (hi : i < 1000) (x : svX g0 h n0 cc f A B) (hh : pm_run PT n fr lo 26 (0, pm_l0 [.ref 5, .int (nI c), .int (nI (i + 1)), .int d] 4, [], h, 198, sl) = some R) : R = (none, aset h 7 30 (upd B (5 * c + i) d), 198, sl) := by
  obtain ⟨-, ⟨rs, r1, r2, r3⟩, k6, k7⟩ := x
  have ec : pm_cmp .ne (nI (i + 1)) 0 = true := decide_eq_true (fun e => by
    have e := congrArg Int32.toInt e
    rw [nI_toInt (by omega), show (0 : Int32).toInt = 0 by decide] at e
    omega)
  obtain ⟨n, hh⟩ := rn_i rfl rfl rfl rfl hh
  obtain ⟨n, hh⟩ := rn_if (cc := .ne) (off := 13) (t := 14) rfl rfl hh
  rw [ec] at hh
  have hh : pm_run PT n fr lo 26 (14, [some (.ref 5), some (.int (nI c)), some (.int (nI (i + 1))), some (.int d)], [], h, 198, sl) = some R := hh
  obtain ⟨n, hh⟩ := rn_i rfl rfl rfl rfl hh
  obtain ⟨n, hh⟩ := rn_gfo (g := 3) rfl rfl (by decide) r1 r3.1 hh
  obtain ⟨n, hh⟩ := rn_i rfl rfl rfl rfl hh
  obtain ⟨n, hh⟩ := rn_i rfl rfl rfl rfl hh
  obtain ⟨n, hh⟩ := rn_i rfl rfl rfl rfl hh
  obtain ⟨n, hh⟩ := rn_i rfl rfl rfl rfl hh
  obtain ⟨n, hh⟩ := rn_i rfl rfl rfl rfl hh
  obtain ⟨n, hh⟩ := rn_i rfl rfl rfl rfl hh
  obtain ⟨n, hh⟩ := rn_i rfl rfl rfl rfl hh
  obtain ⟨n, hh⟩ := rn_i rfl rfl rfl rfl hh
  have hh : pm_run PT n fr lo 26 (26, [some (.ref 5), some (.int (nI c)), some (.int (nI (i + 1))), some (.int d)], [.int d, .int ((((nI c) * 5) + (nI (i + 1))) - 1), .ref 7], h, 198, sl) = some R := hh
  have ei : nI c * 5 + nI (i + 1) - 1 = nI (5 * c + i) := by
    rw [show (5 : Int32) = nI 5 from rfl, hI_mul, nI_add, Nat.mul_comm c 5, show 5 * c + (i + 1) = 5 * c + i + 1 by omega]
    exact nI_sub1 _
  rw [ei] at hh
  obtain ⟨n, -, hh⟩ := en_iss rfl k7 (by decide) hh
  rw [nI_clamp (by omega)] at hh
  exact rn_vret rfl rfl hh
theorem m1_nN : ∀ p, p < 100 → ∀ N, N < 10 → ¬ (Int32.ofInt (-1) - nI p = nI N) := by decide +kernel
/-- what is noted when it ends: nothing of the courts that there are; all lines, if they are so many -/
def vP (g0 : pm_H) (R : pm_Rs) (n0 cc : Nat) (f A0 B0 : Nat → Int32) : Prop := ∃ A B, svX g0 R.2.1 n0 cc f A B ∧ vI cc f A0 B0 A B 0 0 ∧ ∀ N, 1 ≤ N → N < 10 → R.1 = some (.int (nI N)) → vI cc f A0 B0 A B N 0
theorem vP_no {p : Nat} {x3 x4 x5 : Option Value} (hp : p < 100) (x : svX g0 h n0 cc f A B) (v : vI cc f A0 B0 A B ln i) (e : R = (some (.int (Int32.ofInt (-1) - nI p)), h, 198, sl)) : vP g0 R n0 cc f A0 B0 := by
  rw [e]
  refine ⟨A, B, x, vI_0 v, fun N h1 h2 e2 => ?_⟩
  have e2 : Int32.ofInt (-1) - nI p = nI N := Value.int.inj (Option.some.inj e2)
  exact absurd e2 (m1_nN p hp N h2)
theorem vx_dig (hn : n0 ≤ 80) (hl : cc + ln < 6) : ∀ (k i n : Nat) (h : pm_H) (A B : Nat → Int32) (x5 : Option Value), i + k = 6 → svX g0 h n0 cc f A B → vI cc f A0 B0 A B ln i → pm_run PT n fr lo 129 (45, [some (.ref 0), some (.int (nI (7 * ln + i))), some (.int (nI ln)), some (.int (nI (cc + ln))), some (.int (nI i)), x5], [], h, 198, sl) = some R → vP g0 R n0 cc f A0 B0 ∨ ∃ q h' A' B' y5, pm_run PT q fr lo 129 (104, [some (.ref 0), some (.int (nI (7 * ln + 6))), some (.int (nI ln)), some (.int (nI (cc + ln))), some (.int (nI 6)), y5], [], h', 198, sl) = some R ∧ svX g0 h' n0 cc f A' B' ∧ vI cc f A0 B0 A' B' ln 6 := by
  intro k
  induction k with
  | zero =>
    intro i n h A B x5 hi x v hh
    obtain ⟨n, hh⟩ := rn_i rfl rfl rfl rfl hh
    obtain ⟨n, hh⟩ := rn_i rfl rfl rfl rfl hh
    have hh : pm_run PT n fr lo 129 (49, [some (.ref 0), some (.int (nI (7 * ln + i))), some (.int (nI ln)), some (.int (nI (cc + ln))), some (.int (nI i)), x5], [.int (nI 6), .int (nI i)], h, 198, sl) = some R := hh
    obtain ⟨n, hh⟩ := rn_icmp (cc := .ge) (off := 55) (t := 104) rfl rfl hh
    rw [hI_ge (by omega) (by omega), decide_eq_true (by omega)] at hh
    have hi : i = 6 := by omega
    rw [hi] at hh v
    exact Or.inr ⟨n, h, A, B, x5, hh, x, v⟩
  | succ k ih =>
    intro i n h A B x5 hi x v hh
    obtain ⟨px, -⟩ := id x
    obtain ⟨⟨fs, a1, a2, a3⟩, ⟨gs, b1, b2, b3⟩, c1, rs, d1, d2⟩ := id px
    obtain ⟨n, hh⟩ := rn_i rfl rfl rfl rfl hh
    obtain ⟨n, hh⟩ := rn_i rfl rfl rfl rfl hh
    have hh : pm_run PT n fr lo 129 (49, [some (.ref 0), some (.int (nI (7 * ln + i))), some (.int (nI ln)), some (.int (nI (cc + ln))), some (.int (nI i)), x5], [.int (nI 6), .int (nI i)], h, 198, sl) = some R := hh
    obtain ⟨n, hh⟩ := rn_icmp (cc := .ge) (off := 55) (t := 104) rfl rfl hh
    rw [hI_ge (by omega) (by omega), decide_eq_false (by omega)] at hh
    have hh : pm_run PT n fr lo 129 (52, [some (.ref 0), some (.int (nI (7 * ln + i))), some (.int (nI ln)), some (.int (nI (cc + ln))), some (.int (nI i)), x5], [], h, 198, sl) = some R := hh
    obtain ⟨n, hh⟩ := rn_i rfl rfl rfl rfl hh
    obtain ⟨n, hh⟩ := rn_gfo (g := 0) rfl rfl (by decide) a1 a2 hh
    obtain ⟨n, hh⟩ := rn_i rfl rfl rfl rfl hh
    obtain ⟨n, hh⟩ := rn_i rfl rfl rfl rfl hh
    have hh : pm_run PT n fr lo 129 (59, [some (.ref 0), some (.int (nI (7 * ln + i))), some (.int (nI ln)), some (.int (nI (cc + ln))), some (.int (nI i)), x5], [.int (nI 41), .int (nI (7 * ln + i)), .ref 1], h, 198, sl) = some R := hh
    obtain ⟨n, fr', lo', r1, hr1, hh⟩ := rn_call (w := 0) (t := 81) rfl rfl hh
    have er := dgA_run hn (by decide) (by omega) px hr1
    subst er
    have hh : pm_run PT n fr lo 129 (62, [some (.ref 0), some (.int (nI (7 * ln + i))), some (.int (nI ln)), some (.int (nI (cc + ln))), some (.int (nI i)), x5], [.int (dgA f n0 (7 * ln + i) 41)], h, 198, sl) = some R := hh
    obtain ⟨n, hh⟩ := rn_i rfl rfl rfl rfl hh
    have hh : pm_run PT n fr lo 129 (64, [some (.ref 0), some (.int (nI (7 * ln + i))), some (.int (nI ln)), some (.int (nI (cc + ln))), some (.int (nI i)), some (.int (dgA f n0 (7 * ln + i) 41))], [], h, 198, sl) = some R := hh
    have no : ∀ n : Nat, pm_run PT n fr lo 129 (79, [some (.ref 0), some (.int (nI (7 * ln + i))), some (.int (nI ln)), some (.int (nI (cc + ln))), some (.int (nI i)), some (.int (dgA f n0 (7 * ln + i) 41))], [], h, 198, sl) = some R → vP g0 R n0 cc f A0 B0 := by
      intro n hh
      obtain ⟨n, hh⟩ := rn_i rfl rfl rfl rfl hh
      obtain ⟨n, hh⟩ := rn_i rfl rfl rfl rfl hh
      obtain ⟨n, hh⟩ := rn_i rfl rfl rfl rfl hh
      exact vP_no (p := 7 * ln + i) (x3 := none) (x4 := none) (x5 := none) (by omega) x v (rn_ret rfl (Or.inl rfl) hh).2
    obtain ⟨n, hh⟩ := rn_i rfl rfl rfl rfl hh
    obtain ⟨n, hh⟩ := rn_if (cc := .lt) (off := 13) (t := 79) rfl rfl hh
    cases z : dg f (7 * ln + i) (min n0 41) with
    | false =>
      rw [show pm_cmp .lt (dgA f n0 (7 * ln + i) 41) 0 = true by rw [dgA_no z]; decide] at hh
      exact Or.inl (no n hh)
    | true =>
      have ed : dgA f n0 (7 * ln + i) 41 = f (7 * ln + i) - nI 48 := dgA_yes z
      rw [show pm_cmp .lt (dgA f n0 (7 * ln + i) 41) 0 = false by rw [ed]; exact lt0_val (dg_val z).1] at hh
      have hh : pm_run PT n fr lo 129 (69, [some (.ref 0), some (.int (nI (7 * ln + i))), some (.int (nI ln)), some (.int (nI (cc + ln))), some (.int (nI i)), some (.int (dgA f n0 (7 * ln + i) 41))], [], h, 198, sl) = some R := hh
      have note : ∀ n : Nat, pm_run PT n fr lo 129 (83, [some (.ref 0), some (.int (nI (7 * ln + i))), some (.int (nI ln)), some (.int (nI (cc + ln))), some (.int (nI i)), some (.int (dgA f n0 (7 * ln + i) 41))], [], h, 198, sl) = some R → vP g0 R n0 cc f A0 B0 ∨ ∃ q h' A' B' y5, pm_run PT q fr lo 129 (104, [some (.ref 0), some (.int (nI (7 * ln + 6))), some (.int (nI ln)), some (.int (nI (cc + ln))), some (.int (nI 6)), y5], [], h', 198, sl) = some R ∧ svX g0 h' n0 cc f A' B' ∧ vI cc f A0 B0 A' B' ln 6 := by
        intro n hh
        obtain ⟨n, hh⟩ := rn_i rfl rfl rfl rfl hh
        obtain ⟨n, hh⟩ := rn_gfo (g := 2) rfl rfl (by decide) a1 a3 hh
        obtain ⟨n, hh⟩ := rn_i rfl rfl rfl rfl hh
        obtain ⟨n, hh⟩ := rn_i rfl rfl rfl rfl hh
        obtain ⟨n, hh⟩ := rn_i rfl rfl rfl rfl hh
        have hh : pm_run PT n fr lo 129 (92, [some (.ref 0), some (.int (nI (7 * ln + i))), some (.int (nI ln)), some (.int (nI (cc + ln))), some (.int (nI i)), some (.int (dgA f n0 (7 * ln + i) 41))], [.int (dgA f n0 (7 * ln + i) 41), .int (nI i), .int (nI (cc + ln)), .ref 5], h, 198, sl) = some R := hh
        obtain ⟨n, fr', lo', r1, hr1, hh⟩ := rn_call (w := 0) (t := 26) rfl rfl hh
        rw [ed] at hr1
        have hij : i = 0 ∨ ∃ j, i = j + 1 := by
          cases i with
          | zero => exact Or.inl rfl
          | succ j => exact Or.inr ⟨j, rfl⟩
        rcases hij with rfl | ⟨j, rfl⟩
        · have er := nc_0 (by omega) x hr1
          subst er
          have hh : pm_run PT n fr lo 129 (95, [some (.ref 0), some (.int (nI (7 * ln + 0))), some (.int (nI ln)), some (.int (nI (cc + ln))), some (.int (nI 0)), some (.int (dgA f n0 (7 * ln + 0) 41))], [], (aset h 6 6 (upd A (cc + ln) (f (7 * ln + 0) - nI 48))), 198, sl) = some R := hh
          obtain ⟨n, hh⟩ := rn_i rfl rfl rfl rfl hh
          obtain ⟨n, hh⟩ := rn_i rfl rfl rfl rfl hh
          obtain ⟨n, hh⟩ := rn_i rfl rfl rfl rfl hh
          have hh : pm_run PT n fr lo 129 (45, [some (.ref 0), some (.int ((nI (7 * ln + 0)) + Int32.ofInt 1)), some (.int (nI ln)), some (.int (nI (cc + ln))), some (.int ((nI 0) + Int32.ofInt 1)), some (.int (dgA f n0 (7 * ln + 0) 41))], [], (aset h 6 6 (upd A (cc + ln) (f (7 * ln + 0) - nI 48))), 198, sl) = some R := hh
          rw [show nI (7 * ln + 0) + Int32.ofInt 1 = nI (7 * ln + 1) from (Int32.ofNat_add (7 * ln + 0) 1).symm, show nI 0 + Int32.ofInt 1 = nI 1 from rfl] at hh
          exact ih 1 n _ _ B _ (by omega) (svX_6 x) (vI_rank v) hh
        · have er := nc_s (by omega) (by omega) x hr1
          subst er
          have hh : pm_run PT n fr lo 129 (95, [some (.ref 0), some (.int (nI (7 * ln + (j + 1)))), some (.int (nI ln)), some (.int (nI (cc + ln))), some (.int (nI (j + 1))), some (.int (dgA f n0 (7 * ln + (j + 1)) 41))], [], (aset h 7 30 (upd B (5 * (cc + ln) + j) (f (7 * ln + (j + 1)) - nI 48))), 198, sl) = some R := hh
          obtain ⟨n, hh⟩ := rn_i rfl rfl rfl rfl hh
          obtain ⟨n, hh⟩ := rn_i rfl rfl rfl rfl hh
          obtain ⟨n, hh⟩ := rn_i rfl rfl rfl rfl hh
          have hh : pm_run PT n fr lo 129 (45, [some (.ref 0), some (.int ((nI (7 * ln + (j + 1))) + Int32.ofInt 1)), some (.int (nI ln)), some (.int (nI (cc + ln))), some (.int ((nI (j + 1)) + Int32.ofInt 1)), some (.int (dgA f n0 (7 * ln + (j + 1)) 41))], [], (aset h 7 30 (upd B (5 * (cc + ln) + j) (f (7 * ln + (j + 1)) - nI 48))), 198, sl) = some R := hh
          rw [show nI (7 * ln + (j + 1)) + Int32.ofInt 1 = nI (7 * ln + (j + 1 + 1)) from (Int32.ofNat_add (7 * ln + (j + 1)) 1).symm, show nI (j + 1) + Int32.ofInt 1 = nI (j + 1 + 1) from (Int32.ofNat_add (j + 1) 1).symm] at hh
          rw [show 7 * ln + (j + 1) = 7 * ln + 1 + j by omega] at hh
          exact ih (j + 1 + 1) n _ A _ _ (by omega) (svX_7 x) (vI_taste (by omega) v) hh
      obtain ⟨n, hh⟩ := rn_i rfl rfl rfl rfl hh
      obtain ⟨n, hh⟩ := rn_if (cc := .ne) (off := 12) (t := 83) rfl rfl hh
      by_cases y : i = 0
      · have e0 : pm_cmp .ne (nI i) 0 = false := by rw [y]; decide
        rw [e0] at hh
        have hh : pm_run PT n fr lo 129 (74, [some (.ref 0), some (.int (nI (7 * ln + i))), some (.int (nI ln)), some (.int (nI (cc + ln))), some (.int (nI i)), some (.int (dgA f n0 (7 * ln + i) 41))], [], h, 198, sl) = some R := hh
        obtain ⟨n, hh⟩ := rn_i rfl rfl rfl rfl hh
        obtain ⟨n, hh⟩ := rn_if (cc := .ne) (off := 7) (t := 83) rfl rfl hh
        cases y2 : pm_cmp .ne (dgA f n0 (7 * ln + i) 41) 0 with
        | true =>
          rw [y2] at hh
          exact note n hh
        | false =>
          rw [y2] at hh
          exact Or.inl (no n hh)
      · have e0 : pm_cmp .ne (nI i) 0 = true := decide_eq_true (fun e => by
          have e := congrArg Int32.toInt e
          rw [nI_toInt (by omega), show (0 : Int32).toInt = 0 by decide] at e
          omega)
        rw [e0] at hh
        exact note n hh
theorem vx_lines (hn : n0 ≤ 80) (hc : cc ≤ 6) : ∀ (k ln n : Nat) (h : pm_H) (A B : Nat → Int32) (x3 x4 x5 : Option Value), ln + k = 6 → svX g0 h n0 cc f A B → vI cc f A0 B0 A B ln 0 → pm_run PT n fr lo 129 (16, [some (.ref 0), some (.int (nI (7 * ln))), some (.int (nI ln)), x3, x4, x5], [], h, 198, sl) = some R → vP g0 R n0 cc f A0 B0 := by
  intro k
  induction k with
  | zero =>
    intro ln n h A B x3 x4 x5 hk x v hh
    obtain ⟨n, hh⟩ := rn_i rfl rfl rfl rfl hh
    obtain ⟨n, hh⟩ := rn_i rfl rfl rfl rfl hh
    have hh : pm_run PT n fr lo 129 (19, [some (.ref 0), some (.int (nI (7 * ln))), some (.int (nI ln)), x3, x4, x5], [.int (nI 6), .int (nI ln)], h, 198, sl) = some R := hh
    obtain ⟨n, hh⟩ := rn_icmp (cc := .ge) (off := 128) (t := 147) rfl rfl hh
    rw [hI_ge (by omega) (by omega), decide_eq_true (by omega)] at hh
    have hh : pm_run PT n fr lo 129 (147, [some (.ref 0), some (.int (nI (7 * ln))), some (.int (nI ln)), x3, x4, x5], [], h, 198, sl) = some R := hh
    obtain ⟨n, hh⟩ := rn_i rfl rfl rfl rfl hh
    obtain ⟨n, hh⟩ := rn_i rfl rfl rfl rfl hh
    obtain ⟨n, hh⟩ := rn_i rfl rfl rfl rfl hh
    exact vP_no (p := 7 * ln) (x3 := none) (x4 := none) (x5 := none) (by omega) x v (rn_ret rfl (Or.inl rfl) hh).2
  | succ k ih =>
    intro ln n h A B x3 x4 x5 hk x v hh
    obtain ⟨px, -⟩ := id x
    obtain ⟨⟨fs, a1, a2, a3⟩, ⟨gs, b1, b2, b3⟩, c1, rs, d1, d2⟩ := id px
    obtain ⟨n, hh⟩ := rn_i rfl rfl rfl rfl hh
    obtain ⟨n, hh⟩ := rn_i rfl rfl rfl rfl hh
    have hh : pm_run PT n fr lo 129 (19, [some (.ref 0), some (.int (nI (7 * ln))), some (.int (nI ln)), x3, x4, x5], [.int (nI 6), .int (nI ln)], h, 198, sl) = some R := hh
    obtain ⟨n, hh⟩ := rn_icmp (cc := .ge) (off := 128) (t := 147) rfl rfl hh
    rw [hI_ge (by omega) (by omega), decide_eq_false (by omega)] at hh
    have hh : pm_run PT n fr lo 129 (22, [some (.ref 0), some (.int (nI (7 * ln))), some (.int (nI ln)), x3, x4, x5], [], h, 198, sl) = some R := hh
    obtain ⟨n, hh⟩ := rn_i rfl rfl rfl rfl hh
    obtain ⟨n, hh⟩ := rn_gfo (g := 2) rfl rfl (by decide) a1 a3 hh
    obtain ⟨n, hh⟩ := rn_gfo (g := 0) rfl rfl (by decide) d1 d2 hh
    obtain ⟨n, hh⟩ := rn_i rfl rfl rfl rfl hh
    obtain ⟨n, hh⟩ := rn_i rfl rfl rfl rfl hh
    have hh : pm_run PT n fr lo 129 (31, [some (.ref 0), some (.int (nI (7 * ln))), some (.int (nI ln)), x3, x4, x5], [.int ((nI cc) + (nI ln))], h, 198, sl) = some R := hh
    rw [nI_add] at hh
    obtain ⟨n, hh⟩ := rn_i rfl rfl rfl rfl hh
    obtain ⟨n, hh⟩ := rn_i rfl rfl rfl rfl hh
    obtain ⟨n, hh⟩ := rn_i rfl rfl rfl rfl hh
    have hh : pm_run PT n fr lo 129 (35, [some (.ref 0), some (.int (nI (7 * ln))), some (.int (nI ln)), some (.int (nI (cc + ln))), x4, x5], [.int (nI 6), .int (nI (cc + ln))], h, 198, sl) = some R := hh
    obtain ⟨n, hh⟩ := rn_icmp (cc := .lt) (off := 7) (t := 42) rfl rfl hh
    rw [hI_lt (by omega) (by omega)] at hh
    by_cases z : cc + ln < 6
    · rw [decide_eq_true z] at hh
      have hh : pm_run PT n fr lo 129 (42, [some (.ref 0), some (.int (nI (7 * ln))), some (.int (nI ln)), some (.int (nI (cc + ln))), x4, x5], [], h, 198, sl) = some R := hh
      obtain ⟨n, hh⟩ := rn_i rfl rfl rfl rfl hh
      obtain ⟨n, hh⟩ := rn_i rfl rfl rfl rfl hh
      have hh : pm_run PT n fr lo 129 (45, [some (.ref 0), some (.int (nI (7 * ln))), some (.int (nI ln)), some (.int (nI (cc + ln))), some (.int 0), x5], [], h, 198, sl) = some R := hh
      have hh : pm_run PT n fr lo 129 (45, [some (.ref 0), some (.int (nI (7 * ln + 0))), some (.int (nI ln)), some (.int (nI (cc + ln))), some (.int (nI 0)), x5], [], h, 198, sl) = some R := hh
      rcases vx_dig hn z 6 0 n h A B x5 (by omega) x v hh with w | ⟨n, h2, A2, B2, y5, hh, x2, v2⟩
      · exact w
      · obtain ⟨px, -⟩ := id x2
        obtain ⟨⟨fs, a1, a2, a3⟩, ⟨gs, b1, b2, b3⟩, c1, rs, d1, d2⟩ := id px
        obtain ⟨n, hh⟩ := rn_i rfl rfl rfl rfl hh
        obtain ⟨n, hh⟩ := rn_i rfl rfl rfl rfl hh
        obtain ⟨n, hh⟩ := rn_gfo (g := 0) rfl rfl (by decide) a1 a2 hh
        obtain ⟨n, hh⟩ := rn_gfo (g := 1) rfl rfl (by decide) b1 b3 hh
        have hh : pm_run PT n fr lo 129 (112, [some (.ref 0), some (.int (nI (7 * ln + 6))), some (.int (nI ln)), some (.int (nI (cc + ln))), some (.int (nI 6)), y5], [.int (nI n0), .int (nI (7 * ln + 6))], h2, 198, sl) = some R := hh
        obtain ⟨n, hh⟩ := rn_icmp (cc := .ne) (off := 7) (t := 119) rfl rfl hh
        rw [hI_ne (by omega) (by omega)] at hh
        by_cases y : 7 * ln + 6 = n0
        · rw [decide_eq_false (fun q => q y)] at hh
          have hh : pm_run PT n fr lo 129 (115, [some (.ref 0), some (.int (nI (7 * ln + 6))), some (.int (nI ln)), some (.int (nI (cc + ln))), some (.int (nI 6)), y5], [], h2, 198, sl) = some R := hh
          obtain ⟨n, hh⟩ := rn_i rfl rfl rfl rfl hh
          obtain ⟨n, hh⟩ := rn_i rfl rfl rfl rfl hh
          obtain ⟨n, hh⟩ := rn_i rfl rfl rfl rfl hh
          have hh : pm_run PT n fr lo 129 (118, [some (.ref 0), some (.int (nI (7 * ln + 6))), some (.int (nI ln)), some (.int (nI (cc + ln))), some (.int (nI 6)), y5], [.int ((nI ln) + 1)], h2, 198, sl) = some R := hh
          rw [show nI ln + 1 = nI (ln + 1) from (Int32.ofNat_add ln 1).symm] at hh
          have e := (rn_ret rfl (Or.inl rfl) hh).2
          rw [e]
          refine ⟨A2, B2, x2, vI_0 v2, fun N h1 h2 e2 => ?_⟩
          have e2 : nI (ln + 1) = nI N := Value.int.inj (Option.some.inj e2)
          have e3 : ln + 1 = N := nI_ij (by omega) (by omega) e2
          rw [← e3]
          exact vI_line v2
        · rw [decide_eq_true y] at hh
          have hh : pm_run PT n fr lo 129 (119, [some (.ref 0), some (.int (nI (7 * ln + 6))), some (.int (nI ln)), some (.int (nI (cc + ln))), some (.int (nI 6)), y5], [], h2, 198, sl) = some R := hh
          obtain ⟨n, hh⟩ := rn_i rfl rfl rfl rfl hh
          obtain ⟨n, hh⟩ := rn_gfo (g := 0) rfl rfl (by decide) a1 a2 hh
          obtain ⟨n, hh⟩ := rn_i rfl rfl rfl rfl hh
          obtain ⟨n, hh⟩ := rn_i rfl rfl rfl rfl hh
          have hh : pm_run PT n fr lo 129 (126, [some (.ref 0), some (.int (nI (7 * ln + 6))), some (.int (nI ln)), some (.int (nI (cc + ln))), some (.int (nI 6)), y5], [.int (nI 41), .int (nI (7 * ln + 6)), .ref 1], h2, 198, sl) = some R := hh
          obtain ⟨n, fr', lo', r1, hr1, hh⟩ := rn_call (w := 0) (t := 80) rfl rfl hh
          have er := sgA_run hn (by decide) (by omega) px hr1
          subst er
          obtain ⟨n, hh⟩ := rn_i rfl rfl rfl rfl hh
          have hh : pm_run PT n fr lo 129 (131, [some (.ref 0), some (.int (nI (7 * ln + 6))), some (.int (nI ln)), some (.int (nI (cc + ln))), some (.int (nI 6)), y5], [.int 59, .int (sgA f n0 (7 * ln + 6) 41)], h2, 198, sl) = some R := hh
          obtain ⟨n, hh⟩ := rn_icmp (cc := .eq) (off := 7) (t := 138) rfl rfl hh
          cases u : pm_cmp .eq (sgA f n0 (7 * ln + 6) 41) 59 with
          | false =>
            rw [u] at hh
            have hh : pm_run PT n fr lo 129 (134, [some (.ref 0), some (.int (nI (7 * ln + 6))), some (.int (nI ln)), some (.int (nI (cc + ln))), some (.int (nI 6)), y5], [], h2, 198, sl) = some R := hh
            obtain ⟨n, hh⟩ := rn_i rfl rfl rfl rfl hh
            obtain ⟨n, hh⟩ := rn_i rfl rfl rfl rfl hh
            obtain ⟨n, hh⟩ := rn_i rfl rfl rfl rfl hh
            exact vP_no (p := 7 * ln + 6) (x3 := none) (x4 := none) (x5 := none) (by omega) x2 v2 (rn_ret rfl (Or.inl rfl) hh).2
          | true =>
            rw [u] at hh
            have hh : pm_run PT n fr lo 129 (138, [some (.ref 0), some (.int (nI (7 * ln + 6))), some (.int (nI ln)), some (.int (nI (cc + ln))), some (.int (nI 6)), y5], [], h2, 198, sl) = some R := hh
            obtain ⟨n, hh⟩ := rn_i rfl rfl rfl rfl hh
            obtain ⟨n, hh⟩ := rn_i rfl rfl rfl rfl hh
            obtain ⟨n, hh⟩ := rn_i rfl rfl rfl rfl hh
            have hh : pm_run PT n fr lo 129 (16, [some (.ref 0), some (.int ((nI (7 * ln + 6)) + Int32.ofInt 1)), some (.int ((nI ln) + Int32.ofInt 1)), some (.int (nI (cc + ln))), some (.int (nI 6)), y5], [], h2, 198, sl) = some R := hh
            rw [show nI (7 * ln + 6) + Int32.ofInt 1 = nI (7 * (ln + 1)) from (Int32.ofNat_add (7 * ln + 6) 1).symm, show nI ln + Int32.ofInt 1 = nI (ln + 1) from (Int32.ofNat_add ln 1).symm] at hh
            exact ih (ln + 1) n h2 A2 B2 _ _ _ (by omega) x2 (vI_line v2) hh
    · rw [decide_eq_false z] at hh
      have hh : pm_run PT n fr lo 129 (38, [some (.ref 0), some (.int (nI (7 * ln))), some (.int (nI ln)), some (.int (nI (cc + ln))), x4, x5], [], h, 198, sl) = some R := hh
      obtain ⟨n, hh⟩ := rn_i rfl rfl rfl rfl hh
      obtain ⟨n, hh⟩ := rn_i rfl rfl rfl rfl hh
      obtain ⟨n, hh⟩ := rn_i rfl rfl rfl rfl hh
      exact vP_no (p := 7 * ln) (x3 := none) (x4 := none) (x5 := none) (by omega) x v (rn_ret rfl (Or.inl rfl) hh).2
theorem vx_run (hn : n0 ≤ 80) (hc : cc ≤ 6) (x : svX g0 h n0 cc f A B) (hh : pm_run PT n fr lo 129 (0, pm_l0 [.ref 0] 6, [], h, 198, sl) = some R) : vP g0 R n0 cc f A B := by
  obtain ⟨px, -⟩ := id x
  obtain ⟨⟨fs, a1, a2, a3⟩, ⟨gs, b1, b2, b3⟩, c1, rs, d1, d2⟩ := id px
  have v0 : vI cc f A B A B 0 0 := ⟨⟨fun _ _ => rfl, fun _ _ => rfl⟩, fun k hk => by omega, fun q => by omega, fun j hj => by omega⟩
  obtain ⟨n, hh⟩ := rn_i rfl rfl rfl rfl hh
  obtain ⟨n, hh⟩ := rn_gfo (g := 0) rfl rfl (by decide) a1 a2 hh
  obtain ⟨n, hh⟩ := rn_gfo (g := 1) rfl rfl (by decide) b1 b3 hh
  have hh : pm_run PT n fr lo 129 (7, [some (.ref 0), none, none, none, none, none], [.int (nI n0)], h, 198, sl) = some R := hh
  obtain ⟨n, hh⟩ := rn_if (cc := .ne) (off := 5) (t := 12) rfl rfl hh
  cases z : pm_cmp .ne (nI n0) 0 with
  | false =>
    rw [z] at hh
    obtain ⟨n, hh⟩ := rn_i rfl rfl rfl rfl hh
    have e := (rn_ret rfl (Or.inl rfl) hh).2
    rw [e]
    refine ⟨A, B, x, v0, fun N h1 h2 e2 => ?_⟩
    have e2 : nI 0 = nI N := Value.int.inj (Option.some.inj e2)
    have e3 : 0 = N := nI_ij (by omega) (by omega) e2
    omega
  | true =>
    rw [z] at hh
    have hh : pm_run PT n fr lo 129 (12, [some (.ref 0), none, none, none, none, none], [], h, 198, sl) = some R := hh
    obtain ⟨n, hh⟩ := rn_i rfl rfl rfl rfl hh
    obtain ⟨n, hh⟩ := rn_i rfl rfl rfl rfl hh
    obtain ⟨n, hh⟩ := rn_i rfl rfl rfl rfl hh
    obtain ⟨n, hh⟩ := rn_i rfl rfl rfl rfl hh
    have hh : pm_run PT n fr lo 129 (16, [some (.ref 0), some (.int 0), some (.int 0), none, none, none], [], h, 198, sl) = some R := hh
    have hh : pm_run PT n fr lo 129 (16, [some (.ref 0), some (.int (nI (7 * 0))), some (.int (nI 0)), none, none, none], [], h, 198, sl) = some R := hh
    exact vx_lines hn hc 6 0 n h A B _ _ _ (by omega) x v0 hh
end VAX
end MG95zzykx0
section MG95zzykx1
/-! readsCourt of the reference: what it reads -/
section VAM
variable {n fr lo sl t cc rm p : Nat} {h g0 : pm_H} {R : pm_Rs} {tp Rd : Nat → Int32}
def dgt (x : Int32) : Prop := ∃ d, d < 10 ∧ x = nI d
/-- a digit of THE TEXT's first t signs -/
def dgV (tp : Nat → Int32) (t a : Nat) : Prop := dgt (tp a - nI 48) ∧ a < t
theorem dgi_lt {tp : Nat → Int32} {t a : Nat} {l u : Int32} (z : dgi tp a t l u = true) : a < t := by
  unfold dgi at z
  rw [Bool.and_eq_true] at z
  exact of_decide_eq_true z.1
theorem dgt_of {x : Int32} (h : 0 ≤ x.toInt ∧ x.toInt ≤ 9) : dgt x := by
  obtain ⟨d, hd, e, hx⟩ := ab_nn h.1 (Int.le_refl 0)
  have h2 := h.2
  exact ⟨d, by omega, e⟩
def pV (g0 h : pm_H) (tp : Nat → Int32) (t cc p rm : Nat) (Rd : Nat → Int32) : Prop := (mF h 16 (.int (nI p)) ∧ mF h 17 (.int (nI t)) ∧ mF h 14 (.ref 172) ∧ h 172 = .inl (0, 80, .inl tp)) ∧ mF h 20 (.int (nI rm)) ∧ (mF h 3 (.int (nI cc)) ∧ WT h ∧ (∀ i, i ≠ 162 → i ≠ 173 → h i = g0 i) ∧ ∀ g, g ≠ 16 → g ≠ 20 → Fi h 162 g = Fi g0 162 g) ∧ mF h 19 (.ref 173) ∧ h 173 = .inl (0, 36, .inl Rd)
theorem mset_fs {g : Nat} {x v : Value} (q : mF h g x) : mset h g v = fset h 162 g v := by
  obtain ⟨fs, e, -⟩ := q
  rw [mset_of e]
  unfold fset
  rw [e]
theorem pV_16 {q : Nat} (x : pV g0 h tp t cc p rm Rd) : pV g0 (mset h 16 (.int (nI q))) tp t cc q rm Rd := by
  obtain ⟨⟨a1, a2, a3, a4⟩, a5, a6, a7, a8⟩ := x
  exact ⟨⟨mF_self a1, mF_ne (by decide) a2, mF_ne (by decide) a3, mset_arr (by decide) a4⟩, mF_ne (by decide) a5, ⟨mF_ne (by decide) a6.1, by rw [mset_fs a1]; exact wt_fs rfl (by decide) rfl a6.2.1, fun i h1 h2 => (mset_ne h1).trans (a6.2.2.1 i h1 h2), fun g h1 h2 => by rw [mset_fs a1]; exact (Fi_n (Or.inr h1)).trans (a6.2.2.2 g h1 h2)⟩, mF_ne (by decide) a7, mset_arr (by decide) a8⟩
theorem pV_20 {q : Nat} (x : pV g0 h tp t cc p rm Rd) : pV g0 (mset h 20 (.int (nI q))) tp t cc p q Rd := by
  obtain ⟨⟨a1, a2, a3, a4⟩, a5, a6, a7, a8⟩ := x
  exact ⟨⟨mF_ne (by decide) a1, mF_ne (by decide) a2, mF_ne (by decide) a3, mset_arr (by decide) a4⟩, mF_self a5, ⟨mF_ne (by decide) a6.1, by rw [mset_fs a5]; exact wt_fs rfl (by decide) rfl a6.2.1, fun i h1 h2 => (mset_ne h1).trans (a6.2.2.1 i h1 h2), fun g h1 h2 => by rw [mset_fs a5]; exact (Fi_n (Or.inr h2)).trans (a6.2.2.2 g h1 h2)⟩, mF_ne (by decide) a7, mset_arr (by decide) a8⟩
theorem pV_rd {Rd' : Nat → Int32} (x : pV g0 h tp t cc p rm Rd) : pV g0 (aset h 173 36 Rd') tp t cc p rm Rd' := by
  obtain ⟨⟨a1, a2, a3, a4⟩, a5, a6, a7, a8⟩ := x
  exact ⟨⟨aset_mF (by decide) a1, aset_mF (by decide) a2, aset_mF (by decide) a3, (asR_ne (by decide)).trans a4⟩, aset_mF (by decide) a5, ⟨aset_mF (by decide) a6.1, wt_as rfl a6.2.1, fun i h1 h2 => (asR_ne h2).trans (a6.2.2.1 i h1 h2), fun g h1 h2 => (Fi_a (by decide)).trans (a6.2.2.2 g h1 h2)⟩, aset_mF (by decide) a7, asR_self⟩
/-- number(1): one digit -/
theorem n1_run (ht : t ≤ 80) (hp : p < 900) (x : pV g0 h tp t cc p rm Rd) (hh : pm_run PT n fr lo 184 (0, pm_l0 [.ref 162, .int (nI 1)] 4, [], h, 198, sl) = some R) : R = cond (dg tp p t) (some (.int (tp p - nI 48)), mset h 16 (.int (nI (p + 1))), 198, sl) (some (.int (-1)), h, 198, sl) := by
  have e := rn_dt (F := 10) (Lo := 1000) (hd_number (fr := 10) (lo := 1000) (sl := sl) x.1.1 x.1.2.1 x.1.2.2.1 x.1.2.2.2 ht (by omega) (by omega) (by omega) (d := 1) (by omega)) hh
  cases z : dg tp p t with
  | false =>
    rw [z] at e
    exact e
  | true =>
    rw [z] at e
    have e : R = (some (.int (nbr tp t 1 p 0).2), mset h 16 (.int (nI (nbr tp t 1 p 0).1)), 198, sl) := e
    have e1 : nbr tp t 1 p 0 = (p + 1, 10 * 0 + tp p - 48) := by
      show cond (dg tp p t) (p + 1, 10 * 0 + tp p - 48) (p, 0) = _
      rw [z]
      rfl
    have e2 : (10 : Int32) * 0 + tp p - 48 = tp p - nI 48 := by
      rw [show (10 : Int32) * 0 = 0 by decide, Int32.zero_add]
      rfl
    rw [e1] at e
    dsimp only at e
    rw [e2] at e
    exact e
/-- what is read when it ends -/
def vR (g0 : pm_H) (R : pm_Rs) (tp : Nat → Int32) (t cc rm : Nat) (Rd : Nat → Int32) (sl : Nat) : Prop := ∃ (b : Bool) (p' : Nat) (Rd' : Nat → Int32), R.1 = some (.int (cond b 1 0)) ∧ pV g0 R.2.1 tp t cc p' (rm + 1) Rd' ∧ R.2.2 = (198, sl) ∧ p' < 80 ∧ (∀ j, j < 6 * rm → Rd' j = Rd j) ∧ (b = true → p' = 7 * rm + 6 ∧ ∀ j, j < 6 → Rd' (6 * rm + j) = tp (7 * rm + j) - nI 48 ∧ dgV tp t (7 * rm + j))
theorem vm_end {i : Nat} {b : Bool} {Rd' : Nat → Int32} (hp : p < 80) (hr : rm < 6) (x : pV g0 h tp t cc p rm Rd') (hb : ∀ j, j < 6 * rm → Rd' j = Rd j) (hv : b = true → p = 7 * rm + 6 ∧ ∀ j, j < 6 → Rd' (6 * rm + j) = tp (7 * rm + j) - nI 48 ∧ dgV tp t (7 * rm + j)) (hh : pm_run PT n fr lo 187 (103, [some (.ref 162), some (.int (nI (6 * rm))), some (.int (cond b 1 0)), some (.int (nI i))], [], h, 198, sl) = some R) : vR g0 R tp t cc rm Rd sl := by
  have a5 := x.2.1
  obtain ⟨n, hh⟩ := rn_i rfl rfl rfl rfl hh
  obtain ⟨n, hh⟩ := rn_i rfl rfl rfl rfl hh
  obtain ⟨n, hh⟩ := rn_gfm rfl rfl a5 hh
  obtain ⟨n, hh⟩ := rn_i rfl rfl rfl rfl hh
  obtain ⟨n, hh⟩ := rn_i rfl rfl rfl rfl hh
  have hh : pm_run PT n fr lo 187 (110, [some (.ref 162), some (.int (nI (6 * rm))), some (.int (cond b 1 0)), some (.int (nI i))], [.int ((nI rm) + 1), .ref 162], h, 198, sl) = some R := hh
  rw [show nI rm + 1 = nI (rm + 1) from (Int32.ofNat_add rm 1).symm] at hh
  obtain ⟨n, hh⟩ := rn_pfm (w := .int (nI rm)) rfl rfl rfl (by decide) a5 hh
  have hh : pm_run PT n fr lo 187 (113, [some (.ref 162), some (.int (nI (6 * rm))), some (.int (cond b 1 0)), some (.int (nI i))], [], (mset h 20 (.int (nI (rm + 1)))), 198, sl) = some R := hh
  obtain ⟨n, hh⟩ := rn_i rfl rfl rfl rfl hh
  have e := (rn_ret rfl (Or.inr rfl) hh).2
  rw [e]
  exact ⟨b, p, Rd', rfl, pV_20 x, rfl, hp, hb, hv⟩
theorem vm_no {i : Nat} {Rd' : Nat → Int32} (hp : p < 80) (hi : i < 1000) (hr : rm < 6) (x : pV g0 h tp t cc p rm Rd') (hb : ∀ j, j < 6 * rm → Rd' j = Rd j) (hh : pm_run PT n fr lo 187 (54, [some (.ref 162), some (.int (nI (6 * rm))), some (.int 0), some (.int (nI i))], [], h, 198, sl) = some R) : vR g0 R tp t cc rm Rd sl := by
  have go : ∀ n : Nat, pm_run PT n fr lo 187 (103, [some (.ref 162), some (.int (nI (6 * rm))), some (.int 0), some (.int (nI i))], [], h, 198, sl) = some R → vR g0 R tp t cc rm Rd sl := fun n hh => vm_end (b := false) hp hr x hb (fun e => by cases e) hh
  obtain ⟨n, hh⟩ := rn_i rfl rfl rfl rfl hh
  obtain ⟨n, hh⟩ := rn_i rfl rfl rfl rfl hh
  have hh : pm_run PT n fr lo 187 (56, [some (.ref 162), some (.int (nI (6 * rm))), some (.int 0), some (.int (nI i))], [.int (nI 5), .int (nI i)], h, 198, sl) = some R := hh
  obtain ⟨n, hh⟩ := rn_icmp (cc := .ge) (off := 47) (t := 103) rfl rfl hh
  rw [hI_ge (by omega) (by omega)] at hh
  by_cases z : 5 ≤ i
  · rw [decide_eq_true z] at hh
    exact go n hh
  · rw [decide_eq_false z] at hh
    have hh : pm_run PT n fr lo 187 (59, [some (.ref 162), some (.int (nI (6 * rm))), some (.int 0), some (.int (nI i))], [], h, 198, sl) = some R := hh
    obtain ⟨n, hh⟩ := rn_i rfl rfl rfl rfl hh
    obtain ⟨n, hh⟩ := rn_if (cc := .eq) (off := 43) (t := 103) rfl rfl hh
    exact go n hh
theorem vm_loop (ht : t ≤ 80) (hr : rm < 6) : ∀ (k i n : Nat) (h : pm_H) (Rd' : Nat → Int32), i + k = 5 → pV g0 h tp t cc (7 * rm + 1 + i) rm Rd' → (∀ j, j < 6 * rm → Rd' j = Rd j) → (∀ j, j < i + 1 → Rd' (6 * rm + j) = tp (7 * rm + j) - nI 48 ∧ dgV tp t (7 * rm + j)) → pm_run PT n fr lo 187 (54, [some (.ref 162), some (.int (nI (6 * rm))), some (.int 1), some (.int (nI i))], [], h, 198, sl) = some R → vR g0 R tp t cc rm Rd sl := by
  intro k
  induction k with
  | zero =>
    intro i n h Rd' hi x hb hv hh
    obtain ⟨n, hh⟩ := rn_i rfl rfl rfl rfl hh
    obtain ⟨n, hh⟩ := rn_i rfl rfl rfl rfl hh
    have hh : pm_run PT n fr lo 187 (56, [some (.ref 162), some (.int (nI (6 * rm))), some (.int 1), some (.int (nI i))], [.int (nI 5), .int (nI i)], h, 198, sl) = some R := hh
    obtain ⟨n, hh⟩ := rn_icmp (cc := .ge) (off := 47) (t := 103) rfl rfl hh
    rw [hI_ge (by omega) (by omega), decide_eq_true (by omega)] at hh
    exact vm_end (b := true) (by omega) hr x hb (fun _ => ⟨by omega, fun j hj => hv j (by omega)⟩) hh
  | succ k ih =>
    intro i n h Rd' hi x hb hv hh
    obtain ⟨-, -, -, a7, a8⟩ := id x
    obtain ⟨n, hh⟩ := rn_i rfl rfl rfl rfl hh
    obtain ⟨n, hh⟩ := rn_i rfl rfl rfl rfl hh
    have hh : pm_run PT n fr lo 187 (56, [some (.ref 162), some (.int (nI (6 * rm))), some (.int 1), some (.int (nI i))], [.int (nI 5), .int (nI i)], h, 198, sl) = some R := hh
    obtain ⟨n, hh⟩ := rn_icmp (cc := .ge) (off := 47) (t := 103) rfl rfl hh
    rw [hI_ge (by omega) (by omega), decide_eq_false (by omega)] at hh
    have hh : pm_run PT n fr lo 187 (59, [some (.ref 162), some (.int (nI (6 * rm))), some (.int 1), some (.int (nI i))], [], h, 198, sl) = some R := hh
    obtain ⟨n, hh⟩ := rn_i rfl rfl rfl rfl hh
    obtain ⟨n, hh⟩ := rn_if (cc := .eq) (off := 43) (t := 103) rfl rfl hh
    have hh : pm_run PT n fr lo 187 (63, [some (.ref 162), some (.int (nI (6 * rm))), some (.int 1), some (.int (nI i))], [], h, 198, sl) = some R := hh
    obtain ⟨n, hh⟩ := rn_i rfl rfl rfl rfl hh
    obtain ⟨n, hh⟩ := rn_gfm rfl rfl a7 hh
    obtain ⟨n, hh⟩ := rn_i rfl rfl rfl rfl hh
    obtain ⟨n, hh⟩ := rn_i rfl rfl rfl rfl hh
    obtain ⟨n, hh⟩ := rn_i rfl rfl rfl rfl hh
    obtain ⟨n, hh⟩ := rn_i rfl rfl rfl rfl hh
    obtain ⟨n, hh⟩ := rn_i rfl rfl rfl rfl hh
    have hh : pm_run PT n fr lo 187 (72, [some (.ref 162), some (.int (nI (6 * rm))), some (.int 1), some (.int (nI i))], [.int (((nI (6 * rm)) + 1) + (nI i)), .ref 173], h, 198, sl) = some R := hh
    have ei : nI (6 * rm) + 1 + nI i = nI (6 * rm + 1 + i) := by
      rw [show nI (6 * rm) + 1 = nI (6 * rm + 1) from (Int32.ofNat_add (6 * rm) 1).symm, nI_add]
    rw [ei] at hh
    have hh : pm_run PT n fr lo 187 (72, [some (.ref 162), some (.int (nI (6 * rm))), some (.int 1), some (.int (nI i))], [.int (nI (6 * rm + 1 + i)), .ref 173], h, 198, sl) = some R := hh
    obtain ⟨n, hh⟩ := rn_i rfl rfl rfl rfl hh
    obtain ⟨n, hh⟩ := rn_i rfl rfl rfl rfl hh
    have hh : pm_run PT n fr lo 187 (74, [some (.ref 162), some (.int (nI (6 * rm))), some (.int 1), some (.int (nI i))], [.int (nI 1), .ref 162, .int (nI (6 * rm + 1 + i)), .ref 173], h, 198, sl) = some R := hh
    obtain ⟨n, fr', lo', r1, hr1, hh⟩ := rn_call (w := 0) (t := 184) rfl rfl hh
    have er := n1_run ht (by omega) x hr1
    cases z : dg tp (7 * rm + 1 + i) t with
    | false =>
      rw [z] at er
      have er : r1 = (some (.int (-1)), h, 198, sl) := er
      subst er
      have hh : pm_run PT n fr lo 187 (77, [some (.ref 162), some (.int (nI (6 * rm))), some (.int 1), some (.int (nI i))], [.int (-1), .int (nI (6 * rm + 1 + i)), .ref 173], h, 198, sl) = some R := hh
      obtain ⟨n, hh⟩ := rn_ism rfl a8 (hI_in (by omega) (by omega)) (by decide) hh
      rw [nI_clamp (by omega)] at hh
      have hh : pm_run PT n fr lo 187 (78, [some (.ref 162), some (.int (nI (6 * rm))), some (.int 1), some (.int (nI i))], [], (aset h 173 36 (upd Rd' (6 * rm + 1 + i) (-1))), 198, sl) = some R := hh
      have x2 := pV_rd (Rd' := upd Rd' (6 * rm + 1 + i) (-1)) x
      obtain ⟨-, -, -, c7, c8⟩ := id x2
      obtain ⟨n, hh⟩ := rn_i rfl rfl rfl rfl hh
      obtain ⟨n, hh⟩ := rn_gfm rfl rfl c7 hh
      obtain ⟨n, hh⟩ := rn_i rfl rfl rfl rfl hh
      obtain ⟨n, hh⟩ := rn_i rfl rfl rfl rfl hh
      obtain ⟨n, hh⟩ := rn_i rfl rfl rfl rfl hh
      obtain ⟨n, hh⟩ := rn_i rfl rfl rfl rfl hh
      obtain ⟨n, hh⟩ := rn_i rfl rfl rfl rfl hh
      have hh : pm_run PT n fr lo 187 (87, [some (.ref 162), some (.int (nI (6 * rm))), some (.int 1), some (.int (nI i))], [.int (((nI (6 * rm)) + 1) + (nI i)), .ref 173], (aset h 173 36 (upd Rd' (6 * rm + 1 + i) (-1))), 198, sl) = some R := hh
      rw [ei] at hh
      obtain ⟨n, hh⟩ := rn_iam rfl c8 (hI_in (by omega) (by omega)) (by decide) hh
      rw [nI_clamp (by omega)] at hh
      rw [show upd Rd' (6 * rm + 1 + i) (-1) (6 * rm + 1 + i) = -1 by unfold upd; rw [if_pos rfl]] at hh
      have hh : pm_run PT n fr lo 187 (88, [some (.ref 162), some (.int (nI (6 * rm))), some (.int 1), some (.int (nI i))], [.int (-1)], (aset h 173 36 (upd Rd' (6 * rm + 1 + i) (-1))), 198, sl) = some R := hh
      obtain ⟨n, hh⟩ := rn_if (cc := .lt) (off := 7) (t := 95) rfl rfl hh
      have hh : pm_run PT n fr lo 187 (95, [some (.ref 162), some (.int (nI (6 * rm))), some (.int 1), some (.int (nI i))], [], (aset h 173 36 (upd Rd' (6 * rm + 1 + i) (-1))), 198, sl) = some R := hh
      obtain ⟨n, hh⟩ := rn_i rfl rfl rfl rfl hh
      obtain ⟨n, hh⟩ := rn_i rfl rfl rfl rfl hh
      obtain ⟨n, hh⟩ := rn_i rfl rfl rfl rfl hh
      obtain ⟨n, hh⟩ := rn_i rfl rfl rfl rfl hh
      have hh : pm_run PT n fr lo 187 (54, [some (.ref 162), some (.int (nI (6 * rm))), some (.int 0), some (.int ((nI i) + Int32.ofInt 1))], [], (aset h 173 36 (upd Rd' (6 * rm + 1 + i) (-1))), 198, sl) = some R := hh
      rw [show nI i + Int32.ofInt 1 = nI (i + 1) from (Int32.ofNat_add i 1).symm] at hh
      exact vm_no (by omega) (by omega) hr x2 (fun j hj => by unfold upd; rw [if_neg (by omega)]; exact hb j hj) hh
    | true =>
      rw [z] at er
      have er : r1 = (some (.int (tp (7 * rm + 1 + i) - nI 48)), mset h 16 (.int (nI (7 * rm + 1 + i + 1))), 198, sl) := er
      subst er
      have x1 := pV_16 (q := 7 * rm + 1 + i + 1) x
      have hh : pm_run PT n fr lo 187 (77, [some (.ref 162), some (.int (nI (6 * rm))), some (.int 1), some (.int (nI i))], [.int (tp (7 * rm + 1 + i) - nI 48), .int (nI (6 * rm + 1 + i)), .ref 173], (mset h 16 (.int (nI (7 * rm + 1 + i + 1)))), 198, sl) = some R := hh
      generalize mset h 16 (.int (nI (7 * rm + 1 + i + 1))) = h1 at hh x1
      have hh : pm_run PT n fr lo 187 (77, [some (.ref 162), some (.int (nI (6 * rm))), some (.int 1), some (.int (nI i))], [.int (tp (7 * rm + 1 + i) - nI 48), .int (nI (6 * rm + 1 + i)), .ref 173], h1, 198, sl) = some R := hh
      obtain ⟨-, -, -, b7, b8⟩ := id x1
      obtain ⟨n, hh⟩ := rn_ism rfl b8 (hI_in (by omega) (by omega)) (by decide) hh
      rw [nI_clamp (by omega)] at hh
      have hh : pm_run PT n fr lo 187 (78, [some (.ref 162), some (.int (nI (6 * rm))), some (.int 1), some (.int (nI i))], [], (aset h1 173 36 (upd Rd' (6 * rm + 1 + i) (tp (7 * rm + 1 + i) - nI 48))), 198, sl) = some R := hh
      have x2 := pV_rd (Rd' := upd Rd' (6 * rm + 1 + i) (tp (7 * rm + 1 + i) - nI 48)) x1
      obtain ⟨-, -, -, c7, c8⟩ := id x2
      obtain ⟨n, hh⟩ := rn_i rfl rfl rfl rfl hh
      obtain ⟨n, hh⟩ := rn_gfm rfl rfl c7 hh
      obtain ⟨n, hh⟩ := rn_i rfl rfl rfl rfl hh
      obtain ⟨n, hh⟩ := rn_i rfl rfl rfl rfl hh
      obtain ⟨n, hh⟩ := rn_i rfl rfl rfl rfl hh
      obtain ⟨n, hh⟩ := rn_i rfl rfl rfl rfl hh
      obtain ⟨n, hh⟩ := rn_i rfl rfl rfl rfl hh
      have hh : pm_run PT n fr lo 187 (87, [some (.ref 162), some (.int (nI (6 * rm))), some (.int 1), some (.int (nI i))], [.int (((nI (6 * rm)) + 1) + (nI i)), .ref 173], (aset h1 173 36 (upd Rd' (6 * rm + 1 + i) (tp (7 * rm + 1 + i) - nI 48))), 198, sl) = some R := hh
      rw [ei] at hh
      obtain ⟨n, hh⟩ := rn_iam rfl c8 (hI_in (by omega) (by omega)) (by decide) hh
      rw [nI_clamp (by omega)] at hh
      rw [show upd Rd' (6 * rm + 1 + i) (tp (7 * rm + 1 + i) - nI 48) (6 * rm + 1 + i) = tp (7 * rm + 1 + i) - nI 48 by unfold upd; rw [if_pos rfl]] at hh
      have hh : pm_run PT n fr lo 187 (88, [some (.ref 162), some (.int (nI (6 * rm))), some (.int 1), some (.int (nI i))], [.int (tp (7 * rm + 1 + i) - nI 48)], (aset h1 173 36 (upd Rd' (6 * rm + 1 + i) (tp (7 * rm + 1 + i) - nI 48))), 198, sl) = some R := hh
      obtain ⟨n, hh⟩ := rn_if (cc := .lt) (off := 7) (t := 95) rfl rfl hh
      rw [show pm_cmp .lt (tp (7 * rm + 1 + i) - nI 48) 0 = false from lt0_val (dg_val z).1] at hh
      have hh : pm_run PT n fr lo 187 (91, [some (.ref 162), some (.int (nI (6 * rm))), some (.int 1), some (.int (nI i))], [], (aset h1 173 36 (upd Rd' (6 * rm + 1 + i) (tp (7 * rm + 1 + i) - nI 48))), 198, sl) = some R := hh
      obtain ⟨n, hh⟩ := rn_i rfl rfl rfl rfl hh
      obtain ⟨n, hh⟩ := rn_i rfl rfl rfl rfl hh
      obtain ⟨n, hh⟩ := rn_i rfl rfl rfl rfl hh
      obtain ⟨n, hh⟩ := rn_i rfl rfl rfl rfl hh
      obtain ⟨n, hh⟩ := rn_i rfl rfl rfl rfl hh
      have hh : pm_run PT n fr lo 187 (54, [some (.ref 162), some (.int (nI (6 * rm))), some (.int 1), some (.int ((nI i) + Int32.ofInt 1))], [], (aset h1 173 36 (upd Rd' (6 * rm + 1 + i) (tp (7 * rm + 1 + i) - nI 48))), 198, sl) = some R := hh
      rw [show nI i + Int32.ofInt 1 = nI (i + 1) from (Int32.ofNat_add i 1).symm] at hh
      refine ih (i + 1) n _ _ (by omega) x2 (fun j hj => by unfold upd; rw [if_neg (by omega)]; exact hb j hj) (fun j hj => ?_) hh
      unfold upd
      by_cases y : 6 * rm + j = 6 * rm + 1 + i
      · rw [if_pos y, show 7 * rm + j = 7 * rm + 1 + i by omega]
        exact ⟨rfl, dgt_of (dg_val z), dg_lt z⟩
      · rw [if_neg y]
        exact hv j (by omega)
theorem dgi_19 {a : Nat} (z : dgi tp a t 1 9 = true) : dgt (tp a - nI 48) := by
  have h0 := (dgi_val z).2
  unfold dgi in_b at z
  rw [Bool.and_eq_true, Bool.and_eq_true] at z
  have e1 : ¬ (9 : Int32).toInt64 < (tp a - 48).toInt64 := by simpa using z.2.2
  rw [Int64.lt_iff_toInt_lt, Int32.toInt_toInt64, Int32.toInt_toInt64, show (9 : Int32).toInt = 9 by decide] at e1
  have e1 : ¬ 9 < (tp a - nI 48).toInt := e1
  exact dgt_of ⟨h0, by omega⟩
theorem vm_reads (ht : t ≤ 80) (hl : cc + rm < 6) (x : pV g0 h tp t cc (7 * rm) rm Rd) (hh : pm_run PT n fr lo 187 (0, pm_l0 [.ref 162] 4, [], h, 198, sl) = some R) : vR g0 R tp t cc rm Rd sl := by
  obtain ⟨⟨q1, q2, q3, q4⟩, q5, q6, q7, q8⟩ := id x
  have q6 := q6.1
  obtain ⟨n, hh⟩ := rn_i rfl rfl rfl rfl hh
  obtain ⟨n, hh⟩ := rn_gfm rfl rfl q6 hh
  obtain ⟨n, hh⟩ := rn_i rfl rfl rfl rfl hh
  obtain ⟨n, hh⟩ := rn_gfm rfl rfl q5 hh
  obtain ⟨n, hh⟩ := rn_i rfl rfl rfl rfl hh
  obtain ⟨n, hh⟩ := rn_i rfl rfl rfl rfl hh
  obtain ⟨n, hh⟩ := rn_icmp (cc := .ne) (off := 5) (t := 16) rfl rfl hh
  have ec : pm_cmp .ne ((fun x y => x + y) (nI cc) (nI rm)) (Int8.ofInt 6).toInt32 = decide (¬ (cc + rm = 6)) := by
    show pm_cmp .ne (nI cc + nI rm) (nI 6) = _
    rw [nI_add]
    exact hI_ne (by omega) (by omega)
  rw [ec, decide_eq_true (by omega)] at hh
  have hh : pm_run PT n fr lo 187 (16, [some (.ref 162), none, none, none], [], h, 198, sl) = some R := hh
  obtain ⟨n, hh⟩ := rn_i rfl rfl rfl rfl hh
  obtain ⟨n, hh⟩ := rn_i rfl rfl rfl rfl hh
  obtain ⟨n, hh⟩ := rn_gfm rfl rfl q5 hh
  obtain ⟨n, hh⟩ := rn_i rfl rfl rfl rfl hh
  obtain ⟨n, hh⟩ := rn_i rfl rfl rfl rfl hh
  have e6 : (Int8.ofInt 6).toInt32 * nI rm = nI (6 * rm) := hI_mul 6 rm
  have hh : pm_run PT n fr lo 187 (24, [some (.ref 162), some (.int ((Int8.ofInt 6).toInt32 * nI rm)), none, none], [], h, 198, sl) = some R := hh
  rw [e6] at hh
  obtain ⟨n, hh⟩ := rn_i rfl rfl rfl rfl hh
  obtain ⟨n, hh⟩ := rn_gfm rfl rfl q7 hh
  obtain ⟨n, hh⟩ := rn_i rfl rfl rfl rfl hh
  obtain ⟨n, hh⟩ := rn_i rfl rfl rfl rfl hh
  obtain ⟨n, hh⟩ := rn_i rfl rfl rfl rfl hh
  obtain ⟨n, hh⟩ := rn_i rfl rfl rfl rfl hh
  obtain ⟨n, fr', lo', r1, hr1, hh⟩ := rn_call (w := 0) (t := 185) rfl rfl hh
  have er := rn_dt (F := 10) (Lo := 1000) (hd_digitIn (fr := 10) (lo := 1000) (sl := sl) q1 q2 q3 q4 ht (by omega) (by decide) (by decide) 1 9) hr1
  have hin : pm_in (nI (6 * rm)) 36 = true := hI_in (by omega) (by decide)
  have ek : (nI (6 * rm)).toNatClampNeg = 6 * rm := nI_clamp (by omega)
  cases hd : dgi tp (7 * rm) t 1 9 with
  | false =>
    rw [hd] at er
    dsimp only [cond] at er
    subst er
    have hh : pm_run PT n fr lo 187 (36, [some (.ref 162), some (.int (nI (6 * rm))), none, none], [.int (-1), .int (nI (6 * rm)), .ref 173], h, 198, sl) = some R := hh
    obtain ⟨n, hh⟩ := rn_ism rfl q8 hin (by decide) hh
    rw [ek] at hh
    have x2 := pV_rd (Rd' := upd Rd (6 * rm) (-1)) x
    obtain ⟨n, hh⟩ := rn_i rfl rfl rfl rfl hh
    obtain ⟨n, hh⟩ := rn_gfm rfl rfl x2.2.2.2.1 hh
    obtain ⟨n, hh⟩ := rn_i rfl rfl rfl rfl hh
    obtain ⟨n, hh⟩ := rn_iam rfl asR_self hin (by decide) hh
    rw [ek, show upd Rd (6 * rm) (-1) (6 * rm) = (-1 : Int32) from if_pos rfl] at hh
    obtain ⟨n, hh⟩ := rn_if (cc := .lt) (off := 7) (t := 50) rfl rfl hh
    rw [lt0_m1] at hh
    obtain ⟨n, hh⟩ := rn_i rfl rfl rfl rfl hh
    obtain ⟨n, hh⟩ := rn_i rfl rfl rfl rfl hh
    obtain ⟨n, hh⟩ := rn_i rfl rfl rfl rfl hh
    obtain ⟨n, hh⟩ := rn_i rfl rfl rfl rfl hh
    have hh : pm_run PT n fr lo 187 (54, [some (.ref 162), some (.int (nI (6 * rm))), some (.int 0), some (.int (nI 0))], [], aset h 173 36 (upd Rd (6 * rm) (-1)), 198, sl) = some R := hh
    exact vm_no (by omega) (by omega) (by omega) x2 (fun j hj => if_neg (by omega)) hh
  | true =>
    rw [hd] at er
    dsimp only [cond] at er
    subst er
    obtain ⟨v0, v1⟩ := dgi_val hd
    have x1 := pV_16 (q := 7 * rm + 1) x
    have hh : pm_run PT n fr lo 187 (36, [some (.ref 162), some (.int (nI (6 * rm))), none, none], [.int (tp (7 * rm) - 48), .int (nI (6 * rm)), .ref 173], mset h 16 (.int (nI (7 * rm + 1))), 198, sl) = some R := hh
    obtain ⟨n, hh⟩ := rn_ism rfl x1.2.2.2.2 hin (by decide) hh
    rw [ek] at hh
    have x2 := pV_rd (Rd' := upd Rd (6 * rm) (tp (7 * rm) - 48)) x1
    obtain ⟨n, hh⟩ := rn_i rfl rfl rfl rfl hh
    obtain ⟨n, hh⟩ := rn_gfm rfl rfl x2.2.2.2.1 hh
    obtain ⟨n, hh⟩ := rn_i rfl rfl rfl rfl hh
    obtain ⟨n, hh⟩ := rn_iam rfl asR_self hin (by decide) hh
    rw [ek, show upd Rd (6 * rm) (tp (7 * rm) - 48) (6 * rm) = tp (7 * rm) - 48 from if_pos rfl] at hh
    obtain ⟨n, hh⟩ := rn_if (cc := .lt) (off := 7) (t := 50) rfl rfl hh
    rw [lt0_val v1] at hh
    obtain ⟨n, hh⟩ := rn_i rfl rfl rfl rfl hh
    obtain ⟨n, hh⟩ := rn_i rfl rfl rfl rfl hh
    obtain ⟨n, hh⟩ := rn_i rfl rfl rfl rfl hh
    obtain ⟨n, hh⟩ := rn_i rfl rfl rfl rfl hh
    obtain ⟨n, hh⟩ := rn_i rfl rfl rfl rfl hh
    have hh : pm_run PT n fr lo 187 (54, [some (.ref 162), some (.int (nI (6 * rm))), some (.int 1), some (.int (nI 0))], [], aset (mset h 16 (.int (nI (7 * rm + 1)))) 173 36 (upd Rd (6 * rm) (tp (7 * rm) - 48)), 198, sl) = some R := hh
    refine vm_loop ht (by omega) 5 0 n _ _ rfl x2 (fun j hj => if_neg (by omega)) (fun j hj => ?_) hh
    have e0 : j = 0 := by omega
    subst e0
    exact ⟨if_pos rfl, dgi_19 hd, dgi_lt hd⟩
/-- the LINES: at place 60; where the flag is 1 every LINE stands in cell 173 -/
theorem vm_lines (ht : t ≤ 80) {n0 : Int32} : ∀ (k rm n : Nat) (h : pm_H) (Rd : Nat → Int32), cc + rm + k = 7 → 0 < k → pV g0 h tp t cc (7 * rm) rm Rd → (∀ r, r < rm → ∀ j, j < 6 → Rd (6 * r + j) = tp (7 * r + j) - nI 48 ∧ dgV tp t (7 * r + j)) → pm_run PT n fr lo 188 (29, [some (.ref 162), some (.int n0), some (.int 1), some (.int 1), none, none, none], [], h, 198, sl) = some R → ∃ (m : Nat) (h' : pm_H) (b : Bool) (p' rm' : Nat) (Rd' : Nat → Int32), pm_run PT m fr lo 188 (60, [some (.ref 162), some (.int n0), some (.int (cond b 1 0)), some (.int 0), none, none, none], [], h', 198, sl) = some R ∧ pV g0 h' tp t cc p' rm' Rd' ∧ cc + rm' ≤ 6 ∧ p' < 80 ∧ (b = true → ∀ r, r < rm' → ∀ j, j < 6 → Rd' (6 * r + j) = tp (7 * r + j) - nI 48 ∧ dgV tp t (7 * r + j)) := by
  have out : ∀ (n : Nat) (b : Int32) (h : pm_H), pm_run PT n fr lo 188 (29, [some (.ref 162), some (.int n0), some (.int b), some (.int 0), none, none, none], [], h, 198, sl) = some R → ∃ m, pm_run PT m fr lo 188 (60, [some (.ref 162), some (.int n0), some (.int b), some (.int 0), none, none, none], [], h, 198, sl) = some R := by
    intro n b h hh
    obtain ⟨n, hh⟩ := rn_i rfl rfl rfl rfl hh
    obtain ⟨n, hh⟩ := rn_if (cc := .eq) (off := 30) (t := 60) rfl rfl hh
    exact ⟨n, hh⟩
  intro k
  induction k with
  | zero => intro rm n h Rd hk h0; exact absurd h0 (by omega)
  | succ k ih =>
    intro rm n h Rd hk h0 x hv hh
    obtain ⟨n, hh⟩ := rn_i rfl rfl rfl rfl hh
    obtain ⟨n, hh⟩ := rn_if (cc := .eq) (off := 30) (t := 60) rfl rfl hh
    have hh : pm_run PT n fr lo 188 (33, [some (.ref 162), some (.int n0), some (.int 1), some (.int 1), none, none, none], [], h, 198, sl) = some R := hh
    obtain ⟨n, hh⟩ := rn_i rfl rfl rfl rfl hh
    obtain ⟨n, fr', lo', r1, hr1, hh⟩ := rn_call (w := 0) (t := 187) rfl rfl hh
    by_cases z : cc + rm = 6
    · obtain ⟨q0, q5, q6, -⟩ := id x
      obtain ⟨n1, hr1⟩ := rn_i rfl rfl rfl rfl hr1
      obtain ⟨n1, hr1⟩ := rn_gfm rfl rfl q6.1 hr1
      obtain ⟨n1, hr1⟩ := rn_i rfl rfl rfl rfl hr1
      obtain ⟨n1, hr1⟩ := rn_gfm rfl rfl q5 hr1
      obtain ⟨n1, hr1⟩ := rn_i rfl rfl rfl rfl hr1
      obtain ⟨n1, hr1⟩ := rn_i rfl rfl rfl rfl hr1
      obtain ⟨n1, hr1⟩ := rn_icmp (cc := .ne) (off := 5) (t := 16) rfl rfl hr1
      have ec : pm_cmp .ne ((fun x y => x + y) (nI cc) (nI rm)) (Int8.ofInt 6).toInt32 = decide (¬ (cc + rm = 6)) := by
        show pm_cmp .ne (nI cc + nI rm) (nI 6) = _
        rw [nI_add]
        exact hI_ne (by omega) (by omega)
      rw [ec, decide_eq_false (fun q => q z)] at hr1
      obtain ⟨n1, hr1⟩ := rn_i rfl rfl rfl rfl hr1
      obtain ⟨-, rfl⟩ := rn_ret rfl (Or.inr rfl) hr1
      have hh : pm_run PT n fr lo 188 (37, [some (.ref 162), some (.int n0), some (.int 1), some (.int 1), none, none, none], [.int 0], h, 198, sl) = some R := hh
      obtain ⟨n, hh⟩ := rn_i rfl rfl rfl rfl hh
      obtain ⟨n, hh⟩ := rn_i rfl rfl rfl rfl hh
      obtain ⟨n, hh⟩ := rn_if (cc := .eq) (off := 16) (t := 55) rfl rfl hh
      have hh : pm_run PT n fr lo 188 (55, [some (.ref 162), some (.int n0), some (.int 0), some (.int 1), none, none, none], [], h, 198, sl) = some R := hh
      obtain ⟨n, hh⟩ := rn_i rfl rfl rfl rfl hh
      obtain ⟨n, hh⟩ := rn_i rfl rfl rfl rfl hh
      obtain ⟨n, hh⟩ := rn_i rfl rfl rfl rfl hh
      obtain ⟨m, hm⟩ := out n 0 h hh
      exact ⟨m, h, false, _, _, _, hm, x, by omega, by omega, fun e => Bool.noConfusion e⟩
    · obtain ⟨b, p', Rd', e1, x2, e3, f0, f1, f2⟩ := vm_reads ht (by omega) x hr1
      obtain ⟨rv, h1, s1⟩ := r1
      dsimp only at e1 x2 e3
      subst e1
      subst e3
      cases b with
      | false =>
        have hh : pm_run PT n fr lo 188 (37, [some (.ref 162), some (.int n0), some (.int 1), some (.int 1), none, none, none], [.int 0], h1, 198, sl) = some R := hh
        obtain ⟨n, hh⟩ := rn_i rfl rfl rfl rfl hh
        obtain ⟨n, hh⟩ := rn_i rfl rfl rfl rfl hh
        obtain ⟨n, hh⟩ := rn_if (cc := .eq) (off := 16) (t := 55) rfl rfl hh
        have hh : pm_run PT n fr lo 188 (55, [some (.ref 162), some (.int n0), some (.int 0), some (.int 1), none, none, none], [], h1, 198, sl) = some R := hh
        obtain ⟨n, hh⟩ := rn_i rfl rfl rfl rfl hh
        obtain ⟨n, hh⟩ := rn_i rfl rfl rfl rfl hh
        obtain ⟨n, hh⟩ := rn_i rfl rfl rfl rfl hh
        obtain ⟨m, hm⟩ := out n 0 h1 hh
        exact ⟨m, h1, false, _, _, _, hm, x2, by omega, f0, fun e => Bool.noConfusion e⟩
      | true =>
        obtain ⟨f3, f4⟩ := f2 rfl
        subst f3
        have hv2 : ∀ r, r < rm + 1 → ∀ j, j < 6 → Rd' (6 * r + j) = tp (7 * r + j) - nI 48 ∧ dgV tp t (7 * r + j) := fun r hr j hj => by
          by_cases y : r = rm
          · rw [y]
            exact f4 j hj
          · rw [f1 (6 * r + j) (by omega)]
            exact hv r (by omega) j hj
        have hh : pm_run PT n fr lo 188 (37, [some (.ref 162), some (.int n0), some (.int 1), some (.int 1), none, none, none], [.int 1], h1, 198, sl) = some R := hh
        obtain ⟨n, hh⟩ := rn_i rfl rfl rfl rfl hh
        obtain ⟨n, hh⟩ := rn_i rfl rfl rfl rfl hh
        obtain ⟨n, hh⟩ := rn_if (cc := .eq) (off := 16) (t := 55) rfl rfl hh
        have hh : pm_run PT n fr lo 188 (42, [some (.ref 162), some (.int n0), some (.int 1), some (.int 1), none, none, none], [], h1, 198, sl) = some R := hh
        obtain ⟨n, hh⟩ := rn_i rfl rfl rfl rfl hh
        obtain ⟨n, hh⟩ := rn_i rfl rfl rfl rfl hh
        obtain ⟨n, fr', lo', r1, hr1, hh⟩ := rn_call (w := 0) (t := 181) rfl rfl hh
        obtain ⟨⟨q1, q2, q3, q4⟩, -⟩ := id x2
        have er := rn_dt (F := 10) (Lo := 1000) (hd_takes (fr := 10) (lo := 1000) (sl := sl) q1 q2 q3 q4 ht (by omega) (by decide) (by decide) 59) hr1
        cases y : decide (7 * rm + 6 < t ∧ tp (7 * rm + 6) = 59) with
        | false =>
          rw [y] at er
          dsimp only [cond] at er
          subst er
          have hh : pm_run PT n fr lo 188 (48, [some (.ref 162), some (.int n0), some (.int 1), some (.int 1), none, none, none], [.int 0], mset h1 16 (.int (nI (7 * rm + 6 + 0))), 198, sl) = some R := hh
          obtain ⟨n, hh⟩ := rn_if (cc := .eq) (off := 7) (t := 55) rfl rfl hh
          have hh : pm_run PT n fr lo 188 (55, [some (.ref 162), some (.int n0), some (.int 1), some (.int 1), none, none, none], [], mset h1 16 (.int (nI (7 * rm + 6 + 0))), 198, sl) = some R := hh
          obtain ⟨n, hh⟩ := rn_i rfl rfl rfl rfl hh
          obtain ⟨n, hh⟩ := rn_i rfl rfl rfl rfl hh
          obtain ⟨n, hh⟩ := rn_i rfl rfl rfl rfl hh
          obtain ⟨m, hm⟩ := out n 1 _ hh
          exact ⟨m, _, true, 7 * rm + 6, _, _, hm, pV_16 (q := 7 * rm + 6) x2, by omega, by omega, fun _ => hv2⟩
        | true =>
          rw [y] at er
          dsimp only [cond] at er
          subst er
          have hh : pm_run PT n fr lo 188 (48, [some (.ref 162), some (.int n0), some (.int 1), some (.int 1), none, none, none], [.int 1], mset h1 16 (.int (nI (7 * rm + 6 + 1))), 198, sl) = some R := hh
          obtain ⟨n, hh⟩ := rn_if (cc := .eq) (off := 7) (t := 55) rfl rfl hh
          have hh : pm_run PT n fr lo 188 (51, [some (.ref 162), some (.int n0), some (.int 1), some (.int 1), none, none, none], [], mset h1 16 (.int (nI (7 * rm + 6 + 1))), 198, sl) = some R := hh
          obtain ⟨n, hh⟩ := rn_i rfl rfl rfl rfl hh
          obtain ⟨n, hh⟩ := rn_i rfl rfl rfl rfl hh
          obtain ⟨n, hh⟩ := rn_i rfl rfl rfl rfl hh
          obtain ⟨n, hh⟩ := rn_i rfl rfl rfl rfl hh
          exact ih (rm + 1) n _ _ (by omega) (by omega) (pV_16 (q := 7 * rm + 6 + 1) x2) hv2 hh
end VAM
end MG95zzykx1
section MG95zzykx2
/-! courts of both sides, told exactly behind what they read -/
section CRT
variable {n fr lo sl n0 c r p gc cq : Nat} {q : QT} {h g0 : pm_H} {R : pm_Rs} {tp Rd : Nat → Int32}
theorem mset_w {g : Nat} {v : Value} {as : List av} (hw : WT h) (hb : wd (bB 162) = .inr (11, as)) (hg : as[g]? = some ai_top) : mset h g v = fset h 162 g v := mset_fs (wt_i hw (by decide) hb (by decide) hg)
theorem Fi_m {g : Nat} {x : Int32} (z : mF h g (.int x)) : Fi h 162 g = x := by
  obtain ⟨fs, e, e1⟩ := z
  unfold Fi
  rw [e]
  dsimp only
  rw [e1]
/-- behind the LINES -/
theorem cv_sec {b : Bool} {x3 : Int32} (hn : n0 ≤ 80) (hr : c + r ≤ 6) (hp : p < 80) (x : pV g0 h tp (min n0 41) c p r Rd) (hh : pm_run PT n fr lo 188 (60, [some (.ref 162), some (.int (nI n0)), some (.int (cond b 1 0)), some (.int x3), none, none, none], [], h, 198, sl) = some R) : (∃ F : Int32, pm_cmp .ge F 0 = false ∧ R = (some (.int F), h, 198, sl)) ∨ (b = true ∧ ∃ F x1 x2 : Int32, R = (some (.int (nI r)), (w188 q cq gc h r c F x1 x2 x3).2, 198, sl) ∧ WT (w188 q cq gc h r c F x1 x2 x3).2 ∧ frm [162, 164, 165, 169, 170] [(162, 3), (162, 5), (162, 27)] h (w188 q cq gc h r c F x1 x2 x3).2) := by
  obtain ⟨n, hh⟩ := rn_i rfl rfl rfl rfl hh
  obtain ⟨n, hh⟩ := rn_i rfl rfl rfl rfl hh
  obtain ⟨n, hh⟩ := rn_i rfl rfl rfl rfl hh
  obtain ⟨n, hh⟩ := rn_i rfl rfl rfl rfl hh
  obtain ⟨n, fr', lo', r1, hr1, hh⟩ := rn_call (w := 0) (t := 186) rfl rfl hh
  have er := fo_run (m := 41) hn (by decide) (by omega) (by omega) x.1.1 x.1.2.1 hr1
  subst er
  have hge := fO_ge (n0 := n0) (m := 41) (t := min n0 41) (at_ := p) (is := b) (by decide) (by omega)
  generalize fO n0 41 (min n0 41) p b = F at *
  have hh : pm_run PT n fr lo 188 (68, [some (.ref 162), some (.int (nI n0)), some (.int (cond b 1 0)), some (.int x3), none, none, none], [.int F], h, 198, sl) = some R := hh
  obtain ⟨n, hh⟩ := rn_i rfl rfl rfl rfl hh
  obtain ⟨n, hh⟩ := rn_i rfl rfl rfl rfl hh
  obtain ⟨n, hh⟩ := rn_if (cc := .ge) (off := 6) (t := 78) rfl rfl hh
  cases z : pm_cmp .ge F 0 with
  | false =>
    rw [z] at hh
    obtain ⟨n, hh⟩ := rn_i rfl rfl rfl rfl hh
    exact Or.inl ⟨F, z, (rn_ret rfl (Or.inl rfl) hh).2⟩
  | true =>
    rw [z] at hh
    have hh : pm_run PT n fr lo 188 (78, [some (.ref 162), some (.int (nI n0)), some (.int (cond b 1 0)), some (.int x3), some (.int F), none, none], [], h, 198, sl) = some R := hh
    obtain ⟨a1, a2, a3⟩ := w188_ok (q := q) (cc := cq) (gc := gc) x.2.2.1.2.1 hr (Fi_m x.2.1) (Fi_m x.2.2.1.1) hh
    exact Or.inr ⟨hge z, F, _, _, a1, a2, a3⟩
/-- what courts of the reference does: h1 is the heap behind what it reads -/
theorem cv_run (hn : n0 ≤ 80) (hc : c ≤ 6) (hw : WT h) (h15 : Fi h 162 15 = nI n0) (h3 : Fi h 162 3 = nI c) (hh : pm_run PT n fr lo 188 (0, pm_l0 [.ref 162] 7, [], h, 198, sl) = some R) : ∃ (h1 : pm_H) (r : Nat), WT h1 ∧ (∀ i, i ≠ 162 → i ≠ 173 → h1 i = h i) ∧ (∀ g, g ≠ 0 → g ≠ 15 → g ≠ 16 → g ≠ 17 → g ≠ 18 → g ≠ 20 → Fi h1 162 g = Fi h 162 g) ∧ c + r ≤ 6 ∧ ((∃ F : Int32, pm_cmp .ge F 0 = false ∧ R = (some (.int F), h1, 198, sl)) ∨ ((∀ k, k < r → ∀ j, j < 6 → Ar h1 173 (6 * k + j) = Ar h 172 (7 * k + j) - nI 48 ∧ dgV (Ar h 172) (min n0 41) (7 * k + j)) ∧ ∃ F x1 x2 x3 : Int32, R = (some (.int (nI r)), (w188 q cq gc h1 r c F x1 x2 x3).2, 198, sl) ∧ WT (w188 q cq gc h1 r c F x1 x2 x3).2 ∧ frm [162, 164, 165, 169, 170] [(162, 3), (162, 5), (162, 27)] h1 (w188 q cq gc h1 r c F x1 x2 x3).2)) := by
  obtain ⟨n, hh⟩ := rn_i rfl rfl rfl rfl hh
  obtain ⟨n, hh⟩ := rn_i rfl rfl rfl rfl hh
  have m0 : mF h 0 (.int (Fi h 162 0)) := wt_i hw (by decide) rfl (by decide) rfl
  obtain ⟨n, hh⟩ := rn_pfm rfl rfl rfl (by decide) m0 hh
  rw [mset_w (g := 0) hw rfl rfl] at hh
  have w0 : WT (fset h 162 0 (.int (Int32.ofInt 0))) := wt_fs rfl (by decide) rfl hw
  have f0 : ∀ g, g ≠ 0 → Fi (fset h 162 0 (.int (Int32.ofInt 0))) 162 g = Fi h 162 g := fun g hg => Fi_n (Or.inr hg)
  have c0 : ∀ i, i ≠ 162 → fset h 162 0 (.int (Int32.ofInt 0)) i = h i := fun i hi => fs_ne hi
  obtain ⟨n, hh⟩ := rn_i rfl rfl rfl rfl hh
  obtain ⟨n, hh⟩ := rn_i rfl rfl rfl rfl hh
  have hh : pm_run PT n fr lo 188 (8, [some (.ref 162), none, none, none, none, none, none], [.int (nI 41), .ref 162], fset h 162 0 (.int (Int32.ofInt 0)), 198, sl) = some R := hh
  generalize fset h 162 0 (.int (Int32.ofInt 0)) = ha at *
  have hh : pm_run PT n fr lo 188 (8, [some (.ref 162), none, none, none, none, none, none], [.int (nI 41), .ref 162], ha, 198, sl) = some R := hh
  obtain ⟨n, fr', lo', r1, hr1, hh⟩ := rn_call (w := 0) (t := 180) rfl rfl hh
  have M : ∀ {g : Nat} {as : List av}, wd (bB 162) = .inr (11, as) → as[g]? = some ai_top → mF ha g (.int (Fi ha 162 g)) := fun hb hg => wt_i w0 (by decide) hb (by decide) hg
  have g15 : mF ha 15 (.int (nI n0)) := by
    have z := M (g := 15) rfl rfl
    rw [f0 15 (by decide), h15] at z
    exact z
  have er := rn_dt (F := 10) (Lo := 1000) (hd_begins (fr := 10) (lo := 1000) (sl := sl) (m := 41) g15 (M (g := 16) rfl rfl) (M (g := 17) rfl rfl) (M (g := 18) rfl rfl) hn (by decide) (by decide) (by decide)) hr1
  subst er
  have hh : pm_run PT n fr lo 188 (11, [some (.ref 162), none, none, none, none, none, none], [.int (nI n0)], hbeg ha n0 41, 198, sl) = some R := hh
  have eb : hbeg ha n0 41 = fset (fset (fset (fset ha 162 15 (.int 0)) 162 16 (.int 0)) 162 18 (.int 0)) 162 17 (.int (nI (min n0 41))) := by
    have a1 : WT (fset ha 162 15 (.int 0)) := wt_fs rfl (by decide) rfl w0
    have a2 : WT (fset (fset ha 162 15 (.int 0)) 162 16 (.int 0)) := wt_fs rfl (by decide) rfl a1
    have a3 : WT (fset (fset (fset ha 162 15 (.int 0)) 162 16 (.int 0)) 162 18 (.int 0)) := wt_fs rfl (by decide) rfl a2
    unfold hbeg
    rw [mset_w (g := 15) w0 rfl rfl, mset_w (g := 16) a1 rfl rfl, mset_w (g := 18) a2 rfl rfl, mset_w (g := 17) a3 rfl rfl]
  rw [eb] at hh
  have b1 : WT (fset (fset (fset (fset ha 162 15 (.int 0)) 162 16 (.int 0)) 162 18 (.int 0)) 162 17 (.int (nI (min n0 41)))) := wt_fs rfl (by decide) rfl (wt_fs rfl (by decide) rfl (wt_fs rfl (by decide) rfl (wt_fs rfl (by decide) rfl w0)))
  have b2 : ∀ i, i ≠ 162 → (fset (fset (fset (fset ha 162 15 (.int 0)) 162 16 (.int 0)) 162 18 (.int 0)) 162 17 (.int (nI (min n0 41)))) i = ha i := fun i hi => (fs_ne hi).trans ((fs_ne hi).trans ((fs_ne hi).trans (fs_ne hi)))
  have b3 : ∀ g, g ≠ 15 → g ≠ 16 → g ≠ 17 → g ≠ 18 → Fi (fset (fset (fset (fset ha 162 15 (.int 0)) 162 16 (.int 0)) 162 18 (.int 0)) 162 17 (.int (nI (min n0 41)))) 162 g = Fi ha 162 g := fun g h1 h2 h3 h4 => (Fi_n (Or.inr h3)).trans ((Fi_n (Or.inr h4)).trans ((Fi_n (Or.inr h2)).trans (Fi_n (Or.inr h1))))
  have b16 : Fi (fset (fset (fset (fset ha 162 15 (.int 0)) 162 16 (.int 0)) 162 18 (.int 0)) 162 17 (.int (nI (min n0 41)))) 162 16 = nI 0 := (Fi_n (Or.inr (by decide))).trans ((Fi_n (Or.inr (by decide))).trans (Fi_s (wt_fs rfl (by decide) rfl w0) (by decide) rfl (by decide) rfl))
  have b17 : Fi (fset (fset (fset (fset ha 162 15 (.int 0)) 162 16 (.int 0)) 162 18 (.int 0)) 162 17 (.int (nI (min n0 41)))) 162 17 = nI (min n0 41) := Fi_s (wt_fs rfl (by decide) rfl (wt_fs rfl (by decide) rfl (wt_fs rfl (by decide) rfl w0))) (by decide) rfl (by decide) rfl
  generalize fset (fset (fset (fset ha 162 15 (.int 0)) 162 16 (.int 0)) 162 18 (.int 0)) 162 17 (.int (nI (min n0 41))) = hb at *
  have hh : pm_run PT n fr lo 188 (11, [some (.ref 162), none, none, none, none, none, none], [.int (nI n0)], hb, 198, sl) = some R := hh
  obtain ⟨n, hh⟩ := rn_i rfl rfl rfl rfl hh
  obtain ⟨n, hh⟩ := rn_i rfl rfl rfl rfl hh
  obtain ⟨n, hh⟩ := rn_i rfl rfl rfl rfl hh
  have m20 : mF hb 20 (.int (Fi hb 162 20)) := wt_i b1 (by decide) rfl (by decide) rfl
  obtain ⟨n, hh⟩ := rn_pfm rfl rfl rfl (by decide) m20 hh
  rw [mset_w (g := 20) b1 rfl rfl] at hh
  have d1 : WT (fset hb 162 20 (.int (nI 0))) := wt_fs rfl (by decide) rfl b1
  have d2 : ∀ i, i ≠ 162 → fset hb 162 20 (.int (nI 0)) i = h i := fun i hi => (fs_ne hi).trans ((b2 i hi).trans (c0 i hi))
  have d3 : ∀ g, g ≠ 0 → g ≠ 15 → g ≠ 16 → g ≠ 17 → g ≠ 18 → g ≠ 20 → Fi (fset hb 162 20 (.int (nI 0))) 162 g = Fi h 162 g := fun g h1 h2 h3 h4 h5 h6 => (Fi_n (Or.inr h6)).trans ((b3 g h2 h3 h4 h5).trans (f0 g h1))
  have d16 : Fi (fset hb 162 20 (.int (nI 0))) 162 16 = nI 0 := (Fi_n (Or.inr (by decide))).trans b16
  have d17 : Fi (fset hb 162 20 (.int (nI 0))) 162 17 = nI (min n0 41) := (Fi_n (Or.inr (by decide))).trans b17
  have d20 : Fi (fset hb 162 20 (.int (nI 0))) 162 20 = nI 0 := Fi_s b1 (by decide) rfl (by decide) rfl
  have hh : pm_run PT n fr lo 188 (17, [some (.ref 162), some (.int (nI n0)), none, none, none, none, none], [], fset hb 162 20 (.int (nI 0)), 198, sl) = some R := hh
  generalize fset hb 162 20 (.int (nI 0)) = hd at *
  have hh : pm_run PT n fr lo 188 (17, [some (.ref 162), some (.int (nI n0)), none, none, none, none, none], [], hd, 198, sl) = some R := hh
  have pp : pV hd hd (Ar hd 172) (min n0 41) c (7 * 0) 0 (Ar hd 173) := by
    have D : ∀ {g : Nat} {as : List av}, wd (bB 162) = .inr (11, as) → as[g]? = some ai_top → mF hd g (.int (Fi hd 162 g)) := fun hb hg => wt_i d1 (by decide) hb (by decide) hg
    have D16 := D (g := 16) rfl rfl
    have D17 := D (g := 17) rfl rfl
    have D20 := D (g := 20) rfl rfl
    have D3 := D (g := 3) rfl rfl
    rw [d16] at D16
    rw [d17] at D17
    rw [d20] at D20
    rw [d3 3 (by decide) (by decide) (by decide) (by decide) (by decide) (by decide), h3] at D3
    exact ⟨⟨D16, D17, wt_r d1 (by decide) rfl (by decide) rfl rfl, wt_a d1 (by decide) rfl (by decide)⟩, D20, ⟨D3, d1, fun _ _ _ => rfl, fun _ _ _ => rfl⟩, wt_r d1 (by decide) rfl (by decide) rfl rfl, wt_a d1 (by decide) rfl (by decide)⟩
  have et : Ar hd 172 = Ar h 172 := Ar_e (d2 172 (by decide))
  have fin : ∀ (m : Nat) (h' : pm_H) (b : Bool) (p' r' : Nat) (Rd' : Nat → Int32) (x3 : Int32), pm_run PT m fr lo 188 (60, [some (.ref 162), some (.int (nI n0)), some (.int (cond b 1 0)), some (.int x3), none, none, none], [], h', 198, sl) = some R → pV hd h' (Ar hd 172) (min n0 41) c p' r' Rd' → c + r' ≤ 6 → p' < 80 → (b = true → ∀ k, k < r' → ∀ j, j < 6 → Rd' (6 * k + j) = Ar hd 172 (7 * k + j) - nI 48 ∧ dgV (Ar hd 172) (min n0 41) (7 * k + j)) → ∃ (h1 : pm_H) (r : Nat), WT h1 ∧ (∀ i, i ≠ 162 → i ≠ 173 → h1 i = h i) ∧ (∀ g, g ≠ 0 → g ≠ 15 → g ≠ 16 → g ≠ 17 → g ≠ 18 → g ≠ 20 → Fi h1 162 g = Fi h 162 g) ∧ c + r ≤ 6 ∧ ((∃ F : Int32, pm_cmp .ge F 0 = false ∧ R = (some (.int F), h1, 198, sl)) ∨ ((∀ k, k < r → ∀ j, j < 6 → Ar h1 173 (6 * k + j) = Ar h 172 (7 * k + j) - nI 48 ∧ dgV (Ar h 172) (min n0 41) (7 * k + j)) ∧ ∃ F x1 x2 x3 : Int32, R = (some (.int (nI r)), (w188 q cq gc h1 r c F x1 x2 x3).2, 198, sl) ∧ WT (w188 q cq gc h1 r c F x1 x2 x3).2 ∧ frm [162, 164, 165, 169, 170] [(162, 3), (162, 5), (162, 27)] h1 (w188 q cq gc h1 r c F x1 x2 x3).2)) := by
    intro m h' b p' r' Rd' x3 hh x hr hp hv
    have eR : Ar h' 173 = Rd' := by
      unfold Ar
      rw [x.2.2.2.2]
    refine ⟨h', r', x.2.2.1.2.1, fun i h1 h2 => (x.2.2.1.2.2.1 i h1 h2).trans (d2 i h1), fun g h1 h2 h3 h4 h5 h6 => (x.2.2.1.2.2.2 g h3 h6).trans (d3 g h1 h2 h3 h4 h5 h6), hr, ?_⟩
    rcases cv_sec (q := q) (cq := cq) (gc := gc) hn hr hp x hh with ⟨F, z1, z2⟩ | ⟨z1, F, x1, x2, z2, z3, z4⟩
    · exact Or.inl ⟨F, z1, z2⟩
    · refine Or.inr ⟨fun k hk j hj => ?_, F, x1, x2, x3, z2, z3, z4⟩
      rw [eR, ← et]
      exact hv z1 k hk j hj
  obtain ⟨n, hh⟩ := rn_i rfl rfl rfl rfl hh
  obtain ⟨n, hh⟩ := rn_i rfl rfl rfl rfl hh
  obtain ⟨n, hh⟩ := rn_i rfl rfl rfl rfl hh
  have hh : pm_run PT n fr lo 188 (20, [some (.ref 162), some (.int (nI n0)), some (.int 1), none, none, none, none], [.int (nI n0)], hd, 198, sl) = some R := hh
  obtain ⟨n, hh⟩ := rn_if (cc := .le) (off := 7) (t := 27) rfl rfl hh
  by_cases z : n0 = 0
  · have ec : pm_cmp .le (nI n0) 0 = true := by
      rw [z]
      decide
    rw [ec] at hh
    have hh : pm_run PT n fr lo 188 (27, [some (.ref 162), some (.int (nI n0)), some (.int 1), none, none, none, none], [], hd, 198, sl) = some R := hh
    obtain ⟨n, hh⟩ := rn_i rfl rfl rfl rfl hh
    obtain ⟨n, hh⟩ := rn_i rfl rfl rfl rfl hh
    have hh : pm_run PT n fr lo 188 (29, [some (.ref 162), some (.int (nI n0)), some (.int 1), some (.int 0), none, none, none], [], hd, 198, sl) = some R := hh
    obtain ⟨n, hh⟩ := rn_i rfl rfl rfl rfl hh
    obtain ⟨n, hh⟩ := rn_if (cc := .eq) (off := 30) (t := 60) rfl rfl hh
    exact fin n hd true _ _ _ 0 hh pp (by omega) (by omega) (fun _ k hk => absurd hk (Nat.not_lt_zero k))
  · have ec : pm_cmp .le (nI n0) 0 = false := by
      have := hI_le (a := n0) (b := 0) (by omega) (by omega)
      rw [decide_eq_false (by omega)] at this
      exact this
    rw [ec] at hh
    have hh : pm_run PT n fr lo 188 (23, [some (.ref 162), some (.int (nI n0)), some (.int 1), none, none, none, none], [], hd, 198, sl) = some R := hh
    obtain ⟨n, hh⟩ := rn_i rfl rfl rfl rfl hh
    obtain ⟨n, hh⟩ := rn_i rfl rfl rfl rfl hh
    obtain ⟨n, hh⟩ := rn_i rfl rfl rfl rfl hh
    obtain ⟨m, h', b, p', r', Rd', hm, x, hr, hp, hv⟩ := vm_lines (t := min n0 41) (by omega) (7 - c) 0 n _ _ (by omega) (by omega) pp (fun k hk => absurd hk (Nat.not_lt_zero k)) hh
    exact fin m h' b p' r' Rd' 0 hm x hr hp hv
end CRT
end MG95zzykx2
section MG95zzykx3
/-! courts of the class, told exactly behind what it reads -/
section CRX
variable {n fr lo sl n0 c N gc cq : Nat} {q : QT} {h g0 : pm_H} {R : pm_Rs}
theorem cx88 (hn : n0 ≤ 80) (hc : c ≤ 6) (hw : WT h) (h11 : Fi h 1 1 = nI n0) (h50 : Fi h 5 0 = nI c) (hh : pm_run PT n fr lo 88 (0, pm_l0 [.ref 0] 3, [], h, 198, sl) = some R) : ∃ h1 : pm_H, WT h1 ∧ (∀ i, i ≠ 6 → i ≠ 7 → h1 i = h i) ∧ vI c (Ar h 2) (Ar h 6) (Ar h 7) (Ar h1 6) (Ar h1 7) 0 0 ∧ ((∃ v : Int32, pm_cmp .le v 0 = true ∧ R = (some (.int v), fset h1 1 1 (.int (nI 0)), 198, sl)) ∨ ∃ N, 1 ≤ N ∧ c + N ≤ 6 ∧ vI c (Ar h 2) (Ar h 6) (Ar h 7) (Ar h1 6) (Ar h1 7) N 0 ∧ R = (some (.int (nI N)), (w88 q cq gc h1 N c).2, 198, sl) ∧ WT (w88 q cq gc h1 N c).2 ∧ frm [0, 1, 5, 14, 15, 25] [(0, 7), (1, 1), (5, 0), (25, 2)] h1 (w88 q cq gc h1 N c).2) := by
  have i5 : ∃ rs, h 5 = .inr (3, rs) ∧ rs[0]? = some (.int (nI c)) := by
    obtain ⟨rs, a, b⟩ := wt_i (c := 5) (g := 0) hw (by decide) rfl (by decide) rfl
    rw [h50] at b
    exact ⟨rs, a, b⟩
  have px : pX h n0 c (Ar h 2) := by
    obtain ⟨fs, a1, a2⟩ := wt_r (c := 0) (g := 0) (p := 1) hw (by decide) rfl (by decide) rfl rfl
    obtain ⟨fs', a3, a4⟩ := wt_r (c := 0) (g := 2) (p := 5) hw (by decide) rfl (by decide) rfl rfl
    obtain ⟨gs, b1, b2⟩ := wt_r (c := 1) (g := 0) (p := 2) hw (by decide) rfl (by decide) rfl rfl
    obtain ⟨gs', b3, b4⟩ := wt_i (c := 1) (g := 1) hw (by decide) rfl (by decide) rfl
    rw [h11] at b4
    rw [a1] at a3
    cases a3
    rw [b1] at b3
    cases b3
    exact ⟨⟨fs, a1, a2, a4⟩, ⟨gs, b1, b2, b4⟩, wt_a hw (by decide) rfl (by decide), i5⟩
  have sx : svX h h n0 c (Ar h 2) (Ar h 6) (Ar h 7) := by
    obtain ⟨rs, a1, a2⟩ := wt_r (c := 5) (g := 2) (p := 6) hw (by decide) rfl (by decide) rfl rfl
    obtain ⟨rs', a3, a4⟩ := wt_r (c := 5) (g := 3) (p := 7) hw (by decide) rfl (by decide) rfl rfl
    rw [a1] at a3
    cases a3
    exact ⟨px, ⟨rs, a1, a2, a4, hw, fun _ _ _ => rfl⟩, wt_a hw (by decide) rfl (by decide), wt_a hw (by decide) rfl (by decide)⟩
  obtain ⟨n, hh⟩ := rn_i rfl rfl rfl rfl hh
  obtain ⟨n, fr', lo', r1, hr1, hh⟩ := rn_call (w := 0) (t := 129) rfl rfl hh
  have hz := sz_run sQ_ok _ _ _ 129 _ r1 rfl hr1
  have hv := xr_run hn hc px hr1
  obtain ⟨A', B', x1, v0, vN⟩ := vx_run hn hc sx hr1
  obtain ⟨rv, h1, s1⟩ := r1
  dsimp only at hz hv x1 vN
  subst hz
  subst hv
  obtain ⟨-, ⟨rs, -, -, -, w1, f1⟩, k6, k7⟩ := x1
  have eA : Ar h1 6 = A' := by
    unfold Ar
    rw [k6]
  have eB : Ar h1 7 = B' := by
    unfold Ar
    rw [k7]
  rw [← eA, ← eB] at v0 vN
  obtain ⟨-, hN⟩ := cm_both (f := Ar h 2) (tp := Ar h 2) hn hc (fun _ _ => rfl)
  generalize xR n0 c (Ar h 2) = v at *
  have hh : pm_run PT n fr lo 88 (4, [some (.ref 0), none, none], [.int v], h1, 198, sl) = some R := hh
  obtain ⟨n, hh⟩ := rn_i rfl rfl rfl rfl hh
  have hh : pm_run PT n fr lo 88 (5, [some (.ref 0), some (.int v), none], [], h1, 198, sl) = some R := hh
  refine ⟨h1, w1, f1, v0, ?_⟩
  have no : pm_cmp .le v 0 = true → ∃ v : Int32, pm_cmp .le v 0 = true ∧ R = (some (.int v), fset h1 1 1 (.int (nI 0)), 198, sl) := fun hle => ⟨v, hle, (w88n_ok (q := q) (cc := cq) (gc := gc) w1 hle hh).1⟩
  rcases hN with ⟨e1, e2⟩ | ⟨e1, -⟩
  · generalize cmN (Ar h 2) n0 c = N at *
    by_cases z : N = 0
    · exact Or.inl (no (by rw [e1, z]; decide))
    · subst e1
      obtain ⟨a1, a2, a3⟩ := w88_ok (q := q) (cc := cq) (gc := gc) w1 (by omega) e2 ((Fi_e (f1 5 (by decide) (by decide))).trans h50) hh
      have en : (w88 q cq gc h1 N c).1 = nI N := by
        unfold w88
        cases decide (N ≤ 0) <;> rfl
      rw [en] at a1
      exact Or.inr ⟨N, by omega, e2, vN N (by omega) (by omega) rfl, a1, a2, a3⟩
  · exact Or.inl (no e1)
end CRX
end MG95zzykx3
