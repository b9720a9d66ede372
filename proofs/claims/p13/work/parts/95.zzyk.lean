/-! readCourts of the class: what it notes -/
section VAX
variable {n fr lo sl n0 cc ln i : Nat} {h g0 : pm_H} {R : pm_Rs} {f A0 B0 A B : Nat → Int32} {d : Int32}
/-- ln whole lines and i digits of the next are noted behind the cc courts that there are -/
def vI (cc : Nat) (f A0 B0 A B : Nat → Int32) (ln i : Nat) : Prop := ((∀ c, c < cc → A c = A0 c) ∧ ∀ j, j < 5 * cc → B j = B0 j) ∧ (∀ k, k < ln → A (cc + k) = f (7 * k) - nI 48 ∧ ∀ j, j < 5 → B (5 * (cc + k) + j) = f (7 * k + 1 + j) - nI 48) ∧ (0 < i → A (cc + ln) = f (7 * ln) - nI 48) ∧ ∀ j, j + 1 < i → B (5 * (cc + ln) + j) = f (7 * ln + 1 + j) - nI 48
theorem vI_rank (v : vI cc f A0 B0 A B ln 0) : vI cc f A0 B0 (upd A (cc + ln) (f (7 * ln) - nI 48)) B ln 1 := by
  obtain ⟨⟨a1, a2⟩, a3, -, -⟩ := v
  have un : ∀ c, c ≠ cc + ln → upd A (cc + ln) (f (7 * ln) - nI 48) c = A c := fun c z => by unfold upd; rw [if_neg z]
  refine ⟨⟨fun c hc => (un c (by omega)).trans (a1 c hc), a2⟩, fun k hk => ⟨(un _ (by omega)).trans (a3 k hk).1, (a3 k hk).2⟩, fun _ => ?_, fun j hj => by omega⟩
  unfold upd
  rw [if_pos rfl]
theorem vI_taste {i : Nat} (hi : i < 5) (v : vI cc f A0 B0 A B ln (i + 1)) : vI cc f A0 B0 A (upd B (5 * (cc + ln) + i) (f (7 * ln + 1 + i) - nI 48)) ln (i + 2) := by
  obtain ⟨⟨a1, a2⟩, a3, a4, a5⟩ := v
  have un : ∀ c, c ≠ 5 * (cc + ln) + i → upd B (5 * (cc + ln) + i) (f (7 * ln + 1 + i) - nI 48) c = B c := fun c z => by unfold upd; rw [if_neg z]
  refine ⟨⟨a1, fun j hj => (un j (by omega)).trans (a2 j hj)⟩, fun k hk => ⟨(a3 k hk).1, fun j hj => (un _ (by omega)).trans ((a3 k hk).2 j hj)⟩, fun _ => a4 (by omega), fun j hj => ?_⟩
  by_cases z : j = i
  · subst z
    unfold upd
    rw [if_pos rfl]
  · exact (un _ (by omega)).trans (a5 j (by omega))
theorem vI_line (v : vI cc f A0 B0 A B ln 6) : vI cc f A0 B0 A B (ln + 1) 0 := by
  obtain ⟨a1, a3, a4, a5⟩ := v
  refine ⟨a1, fun k hk => ?_, fun q => by omega, fun j hj => by omega⟩
  by_cases z : k = ln
  · subst z
    exact ⟨a4 (by omega), fun j hj => a5 j (by omega)⟩
  · exact a3 k (by omega)
theorem vI_0 (v : vI cc f A0 B0 A B ln i) : vI cc f A0 B0 A B 0 0 := ⟨v.1, fun k hk => by omega, fun q => by omega, fun j hj => by omega⟩
def svX (g0 h : pm_H) (n0 cc : Nat) (f A B : Nat → Int32) : Prop := pX h n0 cc f ∧ (∃ rs, h 5 = .inr (3, rs) ∧ rs[2]? = some (.ref 6) ∧ rs[3]? = some (.ref 7) ∧ WT h ∧ ∀ i, i ≠ 6 → i ≠ 7 → h i = g0 i) ∧ h 6 = .inl (0, 6, .inl A) ∧ h 7 = .inl (0, 30, .inl B)
theorem pX_as {a m : Nat} {g : Nat → Int32} (h0 : a ≠ 0) (h1 : a ≠ 1) (h2 : a ≠ 2) (h5 : a ≠ 5) (x : pX h n0 cc f) : pX (aset h a m g) n0 cc f := by
  obtain ⟨⟨fs, a1, a2⟩, ⟨gs, b1, b2⟩, c1, rs, d1, d2⟩ := x
  exact ⟨⟨fs, (asR_ne (Ne.symm h0)).trans a1, a2⟩, ⟨gs, (asR_ne (Ne.symm h1)).trans b1, b2⟩, (asR_ne (Ne.symm h2)).trans c1, rs, (asR_ne (Ne.symm h5)).trans d1, d2⟩
theorem svX_6 {A' : Nat → Int32} (x : svX g0 h n0 cc f A B) : svX g0 (aset h 6 6 A') n0 cc f A' B := by
  obtain ⟨p, ⟨rs, r1, r2, r3, wt, fr⟩, -, k7⟩ := x
  exact ⟨pX_as (by decide) (by decide) (by decide) (by decide) p, ⟨rs, (asR_ne (by decide)).trans r1, r2, r3, wt_as rfl wt, fun i h6 h7 => (asR_ne h6).trans (fr i h6 h7)⟩, asR_self, (asR_ne (by decide)).trans k7⟩
theorem svX_7 {B' : Nat → Int32} (x : svX g0 h n0 cc f A B) : svX g0 (aset h 7 30 B') n0 cc f A B' := by
  obtain ⟨p, ⟨rs, r1, r2, r3, wt, fr⟩, k6, -⟩ := x
  exact ⟨pX_as (by decide) (by decide) (by decide) (by decide) p, ⟨rs, (asR_ne (by decide)).trans r1, r2, r3, wt_as rfl wt, fun i h6 h7 => (asR_ne h7).trans (fr i h6 h7)⟩, (asR_ne (by decide)).trans k6, asR_self⟩
theorem nc_0 {c : Nat} (hc : c < 1000) (x : svX g0 h n0 cc f A B) (hh : pm_run PT n fr lo 26 (0, pm_l0 [.ref 5, .int (nI c), .int (nI 0), .int d] 4, [], h, 198, sl) = some R) : R = (none, aset h 6 6 (upd A c d), 198, sl) := by
  obtain ⟨-, ⟨rs, r1, r2, r3⟩, k6, k7⟩ := x
  obtain ⟨n, hh⟩ := rn_i rfl rfl rfl rfl hh
  obtain ⟨n, hh⟩ := rn_if (cc := .ne) (off := 13) (t := 14) rfl rfl hh
  have hh : pm_run PT n fr lo 26 (4, [some (.ref 5), some (.int (nI c)), some (.int (nI 0)), some (.int d)], [], h, 198, sl) = some R := hh
  obtain ⟨n, hh⟩ := rn_i rfl rfl rfl rfl hh
  obtain ⟨n, hh⟩ := rn_gfo (g := 2) rfl rfl (by decide) r1 r2 hh
  obtain ⟨n, hh⟩ := rn_i rfl rfl rfl rfl hh
  obtain ⟨n, hh⟩ := rn_i rfl rfl rfl rfl hh
  have hh : pm_run PT n fr lo 26 (10, [some (.ref 5), some (.int (nI c)), some (.int (nI 0)), some (.int d)], [.int d, .int (nI c), .ref 6], h, 198, sl) = some R := hh
  obtain ⟨n, -, hh⟩ := en_iss rfl k6 (by decide) hh
  rw [nI_clamp (by omega)] at hh
  have hh : pm_run PT n fr lo 26 (11, [some (.ref 5), some (.int (nI c)), some (.int (nI 0)), some (.int d)], [], (aset h 6 6 (upd A c d)), 198, sl) = some R := hh
  obtain ⟨n, hh⟩ := rn_i rfl rfl rfl rfl hh
  exact rn_vret rfl rfl hh
theorem nI_sub1 (n : Nat) : nI (n + 1) - 1 = nI n := by
  rw [show nI (n + 1) = nI n + 1 from Int32.ofNat_add n 1]
  exact Int32.add_sub_cancel _ _
theorem nc_s {c i : Nat} (hc : c < 1000) (hi : i < 1000) (x : svX g0 h n0 cc f A B) (hh : pm_run PT n fr lo 26 (0, pm_l0 [.ref 5, .int (nI c), .int (nI (i + 1)), .int d] 4, [], h, 198, sl) = some R) : R = (none, aset h 7 30 (upd B (5 * c + i) d), 198, sl) := by
  obtain ⟨-, ⟨rs, r1, r2, r3⟩, k6, k7⟩ := x
  have ec : pm_cmp .ne (nI (i + 1)) 0 = true := decide_eq_true (fun e => by
    have e := congrArg Int32.toInt e
    rw [nI_toInt (by omega), show (0 : Int32).toInt = 0 by decide] at e
    omega)
  obtain ⟨n, hh⟩ := rn_i rfl rfl rfl rfl hh
  obtain ⟨n, hh⟩ := rn_if (cc := .ne) (off := 13) (t := 14) rfl rfl hh
  rw [ec] at hh
  have hh : pm_run PT n fr lo 26 (14, [some (.ref 5), some (.int (nI c)), some (.int (nI (i + 1))), some (.int d)], [], h, 198, sl) = some R := hh
  obtain ⟨n, hh⟩ := rn_i rfl rfl rfl rfl hh
  obtain ⟨n, hh⟩ := rn_gfo (g := 3) rfl rfl (by decide) r1 r3.1 hh
  obtain ⟨n, hh⟩ := rn_i rfl rfl rfl rfl hh
  obtain ⟨n, hh⟩ := rn_i rfl rfl rfl rfl hh
  obtain ⟨n, hh⟩ := rn_i rfl rfl rfl rfl hh
  obtain ⟨n, hh⟩ := rn_i rfl rfl rfl rfl hh
  obtain ⟨n, hh⟩ := rn_i rfl rfl rfl rfl hh
  obtain ⟨n, hh⟩ := rn_i rfl rfl rfl rfl hh
  obtain ⟨n, hh⟩ := rn_i rfl rfl rfl rfl hh
  obtain ⟨n, hh⟩ := rn_i rfl rfl rfl rfl hh
  have hh : pm_run PT n fr lo 26 (26, [some (.ref 5), some (.int (nI c)), some (.int (nI (i + 1))), some (.int d)], [.int d, .int ((((nI c) * 5) + (nI (i + 1))) - 1), .ref 7], h, 198, sl) = some R := hh
  have ei : nI c * 5 + nI (i + 1) - 1 = nI (5 * c + i) := by
    rw [show (5 : Int32) = nI 5 from rfl, hI_mul, nI_add, Nat.mul_comm c 5, show 5 * c + (i + 1) = 5 * c + i + 1 by omega]
    exact nI_sub1 _
  rw [ei] at hh
  obtain ⟨n, -, hh⟩ := en_iss rfl k7 (by decide) hh
  rw [nI_clamp (by omega)] at hh
  exact rn_vret rfl rfl hh
theorem m1_nN : ∀ p, p < 100 → ∀ N, N < 10 → ¬ (Int32.ofInt (-1) - nI p = nI N) := by decide +kernel
/-- what is noted when it ends: nothing of the courts that there are; all lines, if they are so many -/
def vP (g0 : pm_H) (R : pm_Rs) (n0 cc : Nat) (f A0 B0 : Nat → Int32) : Prop := ∃ A B, svX g0 R.2.1 n0 cc f A B ∧ vI cc f A0 B0 A B 0 0 ∧ ∀ N, 1 ≤ N → N < 10 → R.1 = some (.int (nI N)) → vI cc f A0 B0 A B N 0
theorem vP_no {p : Nat} {x3 x4 x5 : Option Value} (hp : p < 100) (x : svX g0 h n0 cc f A B) (v : vI cc f A0 B0 A B ln i) (e : R = (some (.int (Int32.ofInt (-1) - nI p)), h, 198, sl)) : vP g0 R n0 cc f A0 B0 := by
  rw [e]
  refine ⟨A, B, x, vI_0 v, fun N h1 h2 e2 => ?_⟩
  have e2 : Int32.ofInt (-1) - nI p = nI N := Value.int.inj (Option.some.inj e2)
  exact absurd e2 (m1_nN p hp N h2)
theorem vx_dig (hn : n0 ≤ 80) (hl : cc + ln < 6) : ∀ (k i n : Nat) (h : pm_H) (A B : Nat → Int32) (x5 : Option Value), i + k = 6 → svX g0 h n0 cc f A B → vI cc f A0 B0 A B ln i → pm_run PT n fr lo 129 (45, [some (.ref 0), some (.int (nI (7 * ln + i))), some (.int (nI ln)), some (.int (nI (cc + ln))), some (.int (nI i)), x5], [], h, 198, sl) = some R → vP g0 R n0 cc f A0 B0 ∨ ∃ q h' A' B' y5, pm_run PT q fr lo 129 (104, [some (.ref 0), some (.int (nI (7 * ln + 6))), some (.int (nI ln)), some (.int (nI (cc + ln))), some (.int (nI 6)), y5], [], h', 198, sl) = some R ∧ svX g0 h' n0 cc f A' B' ∧ vI cc f A0 B0 A' B' ln 6 := by
  intro k
  induction k with
  | zero =>
    intro i n h A B x5 hi x v hh
    obtain ⟨n, hh⟩ := rn_i rfl rfl rfl rfl hh
    obtain ⟨n, hh⟩ := rn_i rfl rfl rfl rfl hh
    have hh : pm_run PT n fr lo 129 (49, [some (.ref 0), some (.int (nI (7 * ln + i))), some (.int (nI ln)), some (.int (nI (cc + ln))), some (.int (nI i)), x5], [.int (nI 6), .int (nI i)], h, 198, sl) = some R := hh
    obtain ⟨n, hh⟩ := rn_icmp (cc := .ge) (off := 55) (t := 104) rfl rfl hh
    rw [hI_ge (by omega) (by omega), decide_eq_true (by omega)] at hh
    have hi : i = 6 := by omega
    rw [hi] at hh v
    exact Or.inr ⟨n, h, A, B, x5, hh, x, v⟩
  | succ k ih =>
    intro i n h A B x5 hi x v hh
    obtain ⟨px, -⟩ := id x
    obtain ⟨⟨fs, a1, a2, a3⟩, ⟨gs, b1, b2, b3⟩, c1, rs, d1, d2⟩ := id px
    obtain ⟨n, hh⟩ := rn_i rfl rfl rfl rfl hh
    obtain ⟨n, hh⟩ := rn_i rfl rfl rfl rfl hh
    have hh : pm_run PT n fr lo 129 (49, [some (.ref 0), some (.int (nI (7 * ln + i))), some (.int (nI ln)), some (.int (nI (cc + ln))), some (.int (nI i)), x5], [.int (nI 6), .int (nI i)], h, 198, sl) = some R := hh
    obtain ⟨n, hh⟩ := rn_icmp (cc := .ge) (off := 55) (t := 104) rfl rfl hh
    rw [hI_ge (by omega) (by omega), decide_eq_false (by omega)] at hh
    have hh : pm_run PT n fr lo 129 (52, [some (.ref 0), some (.int (nI (7 * ln + i))), some (.int (nI ln)), some (.int (nI (cc + ln))), some (.int (nI i)), x5], [], h, 198, sl) = some R := hh
    obtain ⟨n, hh⟩ := rn_i rfl rfl rfl rfl hh
    obtain ⟨n, hh⟩ := rn_gfo (g := 0) rfl rfl (by decide) a1 a2 hh
    obtain ⟨n, hh⟩ := rn_i rfl rfl rfl rfl hh
    obtain ⟨n, hh⟩ := rn_i rfl rfl rfl rfl hh
    have hh : pm_run PT n fr lo 129 (59, [some (.ref 0), some (.int (nI (7 * ln + i))), some (.int (nI ln)), some (.int (nI (cc + ln))), some (.int (nI i)), x5], [.int (nI 41), .int (nI (7 * ln + i)), .ref 1], h, 198, sl) = some R := hh
    obtain ⟨n, fr', lo', r1, hr1, hh⟩ := rn_call (w := 0) (t := 81) rfl rfl hh
    have er := dgA_run hn (by decide) (by omega) px hr1
    subst er
    have hh : pm_run PT n fr lo 129 (62, [some (.ref 0), some (.int (nI (7 * ln + i))), some (.int (nI ln)), some (.int (nI (cc + ln))), some (.int (nI i)), x5], [.int (dgA f n0 (7 * ln + i) 41)], h, 198, sl) = some R := hh
    obtain ⟨n, hh⟩ := rn_i rfl rfl rfl rfl hh
    have hh : pm_run PT n fr lo 129 (64, [some (.ref 0), some (.int (nI (7 * ln + i))), some (.int (nI ln)), some (.int (nI (cc + ln))), some (.int (nI i)), some (.int (dgA f n0 (7 * ln + i) 41))], [], h, 198, sl) = some R := hh
    have no : ∀ n : Nat, pm_run PT n fr lo 129 (79, [some (.ref 0), some (.int (nI (7 * ln + i))), some (.int (nI ln)), some (.int (nI (cc + ln))), some (.int (nI i)), some (.int (dgA f n0 (7 * ln + i) 41))], [], h, 198, sl) = some R → vP g0 R n0 cc f A0 B0 := by
      intro n hh
      obtain ⟨n, hh⟩ := rn_i rfl rfl rfl rfl hh
      obtain ⟨n, hh⟩ := rn_i rfl rfl rfl rfl hh
      obtain ⟨n, hh⟩ := rn_i rfl rfl rfl rfl hh
      exact vP_no (p := 7 * ln + i) (x3 := none) (x4 := none) (x5 := none) (by omega) x v (rn_ret rfl (Or.inl rfl) hh).2
    obtain ⟨n, hh⟩ := rn_i rfl rfl rfl rfl hh
    obtain ⟨n, hh⟩ := rn_if (cc := .lt) (off := 13) (t := 79) rfl rfl hh
    cases z : dg f (7 * ln + i) (min n0 41) with
    | false =>
      rw [show pm_cmp .lt (dgA f n0 (7 * ln + i) 41) 0 = true by rw [dgA_no z]; decide] at hh
      exact Or.inl (no n hh)
    | true =>
      have ed : dgA f n0 (7 * ln + i) 41 = f (7 * ln + i) - nI 48 := dgA_yes z
      rw [show pm_cmp .lt (dgA f n0 (7 * ln + i) 41) 0 = false by rw [ed]; exact lt0_val (dg_val z).1] at hh
      have hh : pm_run PT n fr lo 129 (69, [some (.ref 0), some (.int (nI (7 * ln + i))), some (.int (nI ln)), some (.int (nI (cc + ln))), some (.int (nI i)), some (.int (dgA f n0 (7 * ln + i) 41))], [], h, 198, sl) = some R := hh
      have note : ∀ n : Nat, pm_run PT n fr lo 129 (83, [some (.ref 0), some (.int (nI (7 * ln + i))), some (.int (nI ln)), some (.int (nI (cc + ln))), some (.int (nI i)), some (.int (dgA f n0 (7 * ln + i) 41))], [], h, 198, sl) = some R → vP g0 R n0 cc f A0 B0 ∨ ∃ q h' A' B' y5, pm_run PT q fr lo 129 (104, [some (.ref 0), some (.int (nI (7 * ln + 6))), some (.int (nI ln)), some (.int (nI (cc + ln))), some (.int (nI 6)), y5], [], h', 198, sl) = some R ∧ svX g0 h' n0 cc f A' B' ∧ vI cc f A0 B0 A' B' ln 6 := by
        intro n hh
        obtain ⟨n, hh⟩ := rn_i rfl rfl rfl rfl hh
        obtain ⟨n, hh⟩ := rn_gfo (g := 2) rfl rfl (by decide) a1 a3 hh
        obtain ⟨n, hh⟩ := rn_i rfl rfl rfl rfl hh
        obtain ⟨n, hh⟩ := rn_i rfl rfl rfl rfl hh
        obtain ⟨n, hh⟩ := rn_i rfl rfl rfl rfl hh
        have hh : pm_run PT n fr lo 129 (92, [some (.ref 0), some (.int (nI (7 * ln + i))), some (.int (nI ln)), some (.int (nI (cc + ln))), some (.int (nI i)), some (.int (dgA f n0 (7 * ln + i) 41))], [.int (dgA f n0 (7 * ln + i) 41), .int (nI i), .int (nI (cc + ln)), .ref 5], h, 198, sl) = some R := hh
        obtain ⟨n, fr', lo', r1, hr1, hh⟩ := rn_call (w := 0) (t := 26) rfl rfl hh
        rw [ed] at hr1
        have hij : i = 0 ∨ ∃ j, i = j + 1 := by
          cases i with
          | zero => exact Or.inl rfl
          | succ j => exact Or.inr ⟨j, rfl⟩
        rcases hij with rfl | ⟨j, rfl⟩
        · have er := nc_0 (by omega) x hr1
          subst er
          have hh : pm_run PT n fr lo 129 (95, [some (.ref 0), some (.int (nI (7 * ln + 0))), some (.int (nI ln)), some (.int (nI (cc + ln))), some (.int (nI 0)), some (.int (dgA f n0 (7 * ln + 0) 41))], [], (aset h 6 6 (upd A (cc + ln) (f (7 * ln + 0) - nI 48))), 198, sl) = some R := hh
          obtain ⟨n, hh⟩ := rn_i rfl rfl rfl rfl hh
          obtain ⟨n, hh⟩ := rn_i rfl rfl rfl rfl hh
          obtain ⟨n, hh⟩ := rn_i rfl rfl rfl rfl hh
          have hh : pm_run PT n fr lo 129 (45, [some (.ref 0), some (.int ((nI (7 * ln + 0)) + Int32.ofInt 1)), some (.int (nI ln)), some (.int (nI (cc + ln))), some (.int ((nI 0) + Int32.ofInt 1)), some (.int (dgA f n0 (7 * ln + 0) 41))], [], (aset h 6 6 (upd A (cc + ln) (f (7 * ln + 0) - nI 48))), 198, sl) = some R := hh
          rw [show nI (7 * ln + 0) + Int32.ofInt 1 = nI (7 * ln + 1) from (Int32.ofNat_add (7 * ln + 0) 1).symm, show nI 0 + Int32.ofInt 1 = nI 1 from rfl] at hh
          exact ih 1 n _ _ B _ (by omega) (svX_6 x) (vI_rank v) hh
        · have er := nc_s (by omega) (by omega) x hr1
          subst er
          have hh : pm_run PT n fr lo 129 (95, [some (.ref 0), some (.int (nI (7 * ln + (j + 1)))), some (.int (nI ln)), some (.int (nI (cc + ln))), some (.int (nI (j + 1))), some (.int (dgA f n0 (7 * ln + (j + 1)) 41))], [], (aset h 7 30 (upd B (5 * (cc + ln) + j) (f (7 * ln + (j + 1)) - nI 48))), 198, sl) = some R := hh
          obtain ⟨n, hh⟩ := rn_i rfl rfl rfl rfl hh
          obtain ⟨n, hh⟩ := rn_i rfl rfl rfl rfl hh
          obtain ⟨n, hh⟩ := rn_i rfl rfl rfl rfl hh
          have hh : pm_run PT n fr lo 129 (45, [some (.ref 0), some (.int ((nI (7 * ln + (j + 1))) + Int32.ofInt 1)), some (.int (nI ln)), some (.int (nI (cc + ln))), some (.int ((nI (j + 1)) + Int32.ofInt 1)), some (.int (dgA f n0 (7 * ln + (j + 1)) 41))], [], (aset h 7 30 (upd B (5 * (cc + ln) + j) (f (7 * ln + (j + 1)) - nI 48))), 198, sl) = some R := hh
          rw [show nI (7 * ln + (j + 1)) + Int32.ofInt 1 = nI (7 * ln + (j + 1 + 1)) from (Int32.ofNat_add (7 * ln + (j + 1)) 1).symm, show nI (j + 1) + Int32.ofInt 1 = nI (j + 1 + 1) from (Int32.ofNat_add (j + 1) 1).symm] at hh
          rw [show 7 * ln + (j + 1) = 7 * ln + 1 + j by omega] at hh
          exact ih (j + 1 + 1) n _ A _ _ (by omega) (svX_7 x) (vI_taste (by omega) v) hh
      obtain ⟨n, hh⟩ := rn_i rfl rfl rfl rfl hh
      obtain ⟨n, hh⟩ := rn_if (cc := .ne) (off := 12) (t := 83) rfl rfl hh
      by_cases y : i = 0
      · have e0 : pm_cmp .ne (nI i) 0 = false := by rw [y]; decide
        rw [e0] at hh
        have hh : pm_run PT n fr lo 129 (74, [some (.ref 0), some (.int (nI (7 * ln + i))), some (.int (nI ln)), some (.int (nI (cc + ln))), some (.int (nI i)), some (.int (dgA f n0 (7 * ln + i) 41))], [], h, 198, sl) = some R := hh
        obtain ⟨n, hh⟩ := rn_i rfl rfl rfl rfl hh
        obtain ⟨n, hh⟩ := rn_if (cc := .ne) (off := 7) (t := 83) rfl rfl hh
        cases y2 : pm_cmp .ne (dgA f n0 (7 * ln + i) 41) 0 with
        | true =>
          rw [y2] at hh
          exact note n hh
        | false =>
          rw [y2] at hh
          exact Or.inl (no n hh)
      · have e0 : pm_cmp .ne (nI i) 0 = true := decide_eq_true (fun e => by
          have e := congrArg Int32.toInt e
          rw [nI_toInt (by omega), show (0 : Int32).toInt = 0 by decide] at e
          omega)
        rw [e0] at hh
        exact note n hh
theorem vx_lines (hn : n0 ≤ 80) (hc : cc ≤ 6) : ∀ (k ln n : Nat) (h : pm_H) (A B : Nat → Int32) (x3 x4 x5 : Option Value), ln + k = 6 → svX g0 h n0 cc f A B → vI cc f A0 B0 A B ln 0 → pm_run PT n fr lo 129 (16, [some (.ref 0), some (.int (nI (7 * ln))), some (.int (nI ln)), x3, x4, x5], [], h, 198, sl) = some R → vP g0 R n0 cc f A0 B0 := by
  intro k
  induction k with
  | zero =>
    intro ln n h A B x3 x4 x5 hk x v hh
    obtain ⟨n, hh⟩ := rn_i rfl rfl rfl rfl hh
    obtain ⟨n, hh⟩ := rn_i rfl rfl rfl rfl hh
    have hh : pm_run PT n fr lo 129 (19, [some (.ref 0), some (.int (nI (7 * ln))), some (.int (nI ln)), x3, x4, x5], [.int (nI 6), .int (nI ln)], h, 198, sl) = some R := hh
    obtain ⟨n, hh⟩ := rn_icmp (cc := .ge) (off := 128) (t := 147) rfl rfl hh
    rw [hI_ge (by omega) (by omega), decide_eq_true (by omega)] at hh
    have hh : pm_run PT n fr lo 129 (147, [some (.ref 0), some (.int (nI (7 * ln))), some (.int (nI ln)), x3, x4, x5], [], h, 198, sl) = some R := hh
    obtain ⟨n, hh⟩ := rn_i rfl rfl rfl rfl hh
    obtain ⟨n, hh⟩ := rn_i rfl rfl rfl rfl hh
    obtain ⟨n, hh⟩ := rn_i rfl rfl rfl rfl hh
    exact vP_no (p := 7 * ln) (x3 := none) (x4 := none) (x5 := none) (by omega) x v (rn_ret rfl (Or.inl rfl) hh).2
  | succ k ih =>
    intro ln n h A B x3 x4 x5 hk x v hh
    obtain ⟨px, -⟩ := id x
    obtain ⟨⟨fs, a1, a2, a3⟩, ⟨gs, b1, b2, b3⟩, c1, rs, d1, d2⟩ := id px
    obtain ⟨n, hh⟩ := rn_i rfl rfl rfl rfl hh
    obtain ⟨n, hh⟩ := rn_i rfl rfl rfl rfl hh
    have hh : pm_run PT n fr lo 129 (19, [some (.ref 0), some (.int (nI (7 * ln))), some (.int (nI ln)), x3, x4, x5], [.int (nI 6), .int (nI ln)], h, 198, sl) = some R := hh
    obtain ⟨n, hh⟩ := rn_icmp (cc := .ge) (off := 128) (t := 147) rfl rfl hh
    rw [hI_ge (by omega) (by omega), decide_eq_false (by omega)] at hh
    have hh : pm_run PT n fr lo 129 (22, [some (.ref 0), some (.int (nI (7 * ln))), some (.int (nI ln)), x3, x4, x5], [], h, 198, sl) = some R := hh
    obtain ⟨n, hh⟩ := rn_i rfl rfl rfl rfl hh
    obtain ⟨n, hh⟩ := rn_gfo (g := 2) rfl rfl (by decide) a1 a3 hh
    obtain ⟨n, hh⟩ := rn_gfo (g := 0) rfl rfl (by decide) d1 d2 hh
    obtain ⟨n, hh⟩ := rn_i rfl rfl rfl rfl hh
    obtain ⟨n, hh⟩ := rn_i rfl rfl rfl rfl hh
    have hh : pm_run PT n fr lo 129 (31, [some (.ref 0), some (.int (nI (7 * ln))), some (.int (nI ln)), x3, x4, x5], [.int ((nI cc) + (nI ln))], h, 198, sl) = some R := hh
    rw [nI_add] at hh
    obtain ⟨n, hh⟩ := rn_i rfl rfl rfl rfl hh
    obtain ⟨n, hh⟩ := rn_i rfl rfl rfl rfl hh
    obtain ⟨n, hh⟩ := rn_i rfl rfl rfl rfl hh
    have hh : pm_run PT n fr lo 129 (35, [some (.ref 0), some (.int (nI (7 * ln))), some (.int (nI ln)), some (.int (nI (cc + ln))), x4, x5], [.int (nI 6), .int (nI (cc + ln))], h, 198, sl) = some R := hh
    obtain ⟨n, hh⟩ := rn_icmp (cc := .lt) (off := 7) (t := 42) rfl rfl hh
    rw [hI_lt (by omega) (by omega)] at hh
    by_cases z : cc + ln < 6
    · rw [decide_eq_true z] at hh
      have hh : pm_run PT n fr lo 129 (42, [some (.ref 0), some (.int (nI (7 * ln))), some (.int (nI ln)), some (.int (nI (cc + ln))), x4, x5], [], h, 198, sl) = some R := hh
      obtain ⟨n, hh⟩ := rn_i rfl rfl rfl rfl hh
      obtain ⟨n, hh⟩ := rn_i rfl rfl rfl rfl hh
      have hh : pm_run PT n fr lo 129 (45, [some (.ref 0), some (.int (nI (7 * ln))), some (.int (nI ln)), some (.int (nI (cc + ln))), some (.int 0), x5], [], h, 198, sl) = some R := hh
      have hh : pm_run PT n fr lo 129 (45, [some (.ref 0), some (.int (nI (7 * ln + 0))), some (.int (nI ln)), some (.int (nI (cc + ln))), some (.int (nI 0)), x5], [], h, 198, sl) = some R := hh
      rcases vx_dig hn z 6 0 n h A B x5 (by omega) x v hh with w | ⟨n, h2, A2, B2, y5, hh, x2, v2⟩
      · exact w
      · obtain ⟨px, -⟩ := id x2
        obtain ⟨⟨fs, a1, a2, a3⟩, ⟨gs, b1, b2, b3⟩, c1, rs, d1, d2⟩ := id px
        obtain ⟨n, hh⟩ := rn_i rfl rfl rfl rfl hh
        obtain ⟨n, hh⟩ := rn_i rfl rfl rfl rfl hh
        obtain ⟨n, hh⟩ := rn_gfo (g := 0) rfl rfl (by decide) a1 a2 hh
        obtain ⟨n, hh⟩ := rn_gfo (g := 1) rfl rfl (by decide) b1 b3 hh
        have hh : pm_run PT n fr lo 129 (112, [some (.ref 0), some (.int (nI (7 * ln + 6))), some (.int (nI ln)), some (.int (nI (cc + ln))), some (.int (nI 6)), y5], [.int (nI n0), .int (nI (7 * ln + 6))], h2, 198, sl) = some R := hh
        obtain ⟨n, hh⟩ := rn_icmp (cc := .ne) (off := 7) (t := 119) rfl rfl hh
        rw [hI_ne (by omega) (by omega)] at hh
        by_cases y : 7 * ln + 6 = n0
        · rw [decide_eq_false (fun q => q y)] at hh
          have hh : pm_run PT n fr lo 129 (115, [some (.ref 0), some (.int (nI (7 * ln + 6))), some (.int (nI ln)), some (.int (nI (cc + ln))), some (.int (nI 6)), y5], [], h2, 198, sl) = some R := hh
          obtain ⟨n, hh⟩ := rn_i rfl rfl rfl rfl hh
          obtain ⟨n, hh⟩ := rn_i rfl rfl rfl rfl hh
          obtain ⟨n, hh⟩ := rn_i rfl rfl rfl rfl hh
          have hh : pm_run PT n fr lo 129 (118, [some (.ref 0), some (.int (nI (7 * ln + 6))), some (.int (nI ln)), some (.int (nI (cc + ln))), some (.int (nI 6)), y5], [.int ((nI ln) + 1)], h2, 198, sl) = some R := hh
          rw [show nI ln + 1 = nI (ln + 1) from (Int32.ofNat_add ln 1).symm] at hh
          have e := (rn_ret rfl (Or.inl rfl) hh).2
          rw [e]
          refine ⟨A2, B2, x2, vI_0 v2, fun N h1 h2 e2 => ?_⟩
          have e2 : nI (ln + 1) = nI N := Value.int.inj (Option.some.inj e2)
          have e3 : ln + 1 = N := nI_ij (by omega) (by omega) e2
          rw [← e3]
          exact vI_line v2
        · rw [decide_eq_true y] at hh
          have hh : pm_run PT n fr lo 129 (119, [some (.ref 0), some (.int (nI (7 * ln + 6))), some (.int (nI ln)), some (.int (nI (cc + ln))), some (.int (nI 6)), y5], [], h2, 198, sl) = some R := hh
          obtain ⟨n, hh⟩ := rn_i rfl rfl rfl rfl hh
          obtain ⟨n, hh⟩ := rn_gfo (g := 0) rfl rfl (by decide) a1 a2 hh
          obtain ⟨n, hh⟩ := rn_i rfl rfl rfl rfl hh
          obtain ⟨n, hh⟩ := rn_i rfl rfl rfl rfl hh
          have hh : pm_run PT n fr lo 129 (126, [some (.ref 0), some (.int (nI (7 * ln + 6))), some (.int (nI ln)), some (.int (nI (cc + ln))), some (.int (nI 6)), y5], [.int (nI 41), .int (nI (7 * ln + 6)), .ref 1], h2, 198, sl) = some R := hh
          obtain ⟨n, fr', lo', r1, hr1, hh⟩ := rn_call (w := 0) (t := 80) rfl rfl hh
          have er := sgA_run hn (by decide) (by omega) px hr1
          subst er
          obtain ⟨n, hh⟩ := rn_i rfl rfl rfl rfl hh
          have hh : pm_run PT n fr lo 129 (131, [some (.ref 0), some (.int (nI (7 * ln + 6))), some (.int (nI ln)), some (.int (nI (cc + ln))), some (.int (nI 6)), y5], [.int 59, .int (sgA f n0 (7 * ln + 6) 41)], h2, 198, sl) = some R := hh
          obtain ⟨n, hh⟩ := rn_icmp (cc := .eq) (off := 7) (t := 138) rfl rfl hh
          cases u : pm_cmp .eq (sgA f n0 (7 * ln + 6) 41) 59 with
          | false =>
            rw [u] at hh
            have hh : pm_run PT n fr lo 129 (134, [some (.ref 0), some (.int (nI (7 * ln + 6))), some (.int (nI ln)), some (.int (nI (cc + ln))), some (.int (nI 6)), y5], [], h2, 198, sl) = some R := hh
            obtain ⟨n, hh⟩ := rn_i rfl rfl rfl rfl hh
            obtain ⟨n, hh⟩ := rn_i rfl rfl rfl rfl hh
            obtain ⟨n, hh⟩ := rn_i rfl rfl rfl rfl hh
            exact vP_no (p := 7 * ln + 6) (x3 := none) (x4 := none) (x5 := none) (by omega) x2 v2 (rn_ret rfl (Or.inl rfl) hh).2
          | true =>
            rw [u] at hh
            have hh : pm_run PT n fr lo 129 (138, [some (.ref 0), some (.int (nI (7 * ln + 6))), some (.int (nI ln)), some (.int (nI (cc + ln))), some (.int (nI 6)), y5], [], h2, 198, sl) = some R := hh
            obtain ⟨n, hh⟩ := rn_i rfl rfl rfl rfl hh
            obtain ⟨n, hh⟩ := rn_i rfl rfl rfl rfl hh
            obtain ⟨n, hh⟩ := rn_i rfl rfl rfl rfl hh
            have hh : pm_run PT n fr lo 129 (16, [some (.ref 0), some (.int ((nI (7 * ln + 6)) + Int32.ofInt 1)), some (.int ((nI ln) + Int32.ofInt 1)), some (.int (nI (cc + ln))), some (.int (nI 6)), y5], [], h2, 198, sl) = some R := hh
            rw [show nI (7 * ln + 6) + Int32.ofInt 1 = nI (7 * (ln + 1)) from (Int32.ofNat_add (7 * ln + 6) 1).symm, show nI ln + Int32.ofInt 1 = nI (ln + 1) from (Int32.ofNat_add ln 1).symm] at hh
            exact ih (ln + 1) n h2 A2 B2 _ _ _ (by omega) x2 (vI_line v2) hh
    · rw [decide_eq_false z] at hh
      have hh : pm_run PT n fr lo 129 (38, [some (.ref 0), some (.int (nI (7 * ln))), some (.int (nI ln)), some (.int (nI (cc + ln))), x4, x5], [], h, 198, sl) = some R := hh
      obtain ⟨n, hh⟩ := rn_i rfl rfl rfl rfl hh
      obtain ⟨n, hh⟩ := rn_i rfl rfl rfl rfl hh
      obtain ⟨n, hh⟩ := rn_i rfl rfl rfl rfl hh
      exact vP_no (p := 7 * ln) (x3 := none) (x4 := none) (x5 := none) (by omega) x v (rn_ret rfl (Or.inl rfl) hh).2
theorem vx_run (hn : n0 ≤ 80) (hc : cc ≤ 6) (x : svX g0 h n0 cc f A B) (hh : pm_run PT n fr lo 129 (0, pm_l0 [.ref 0] 6, [], h, 198, sl) = some R) : vP g0 R n0 cc f A B := by
  obtain ⟨px, -⟩ := id x
  obtain ⟨⟨fs, a1, a2, a3⟩, ⟨gs, b1, b2, b3⟩, c1, rs, d1, d2⟩ := id px
  have v0 : vI cc f A B A B 0 0 := ⟨⟨fun _ _ => rfl, fun _ _ => rfl⟩, fun k hk => by omega, fun q => by omega, fun j hj => by omega⟩
  obtain ⟨n, hh⟩ := rn_i rfl rfl rfl rfl hh
  obtain ⟨n, hh⟩ := rn_gfo (g := 0) rfl rfl (by decide) a1 a2 hh
  obtain ⟨n, hh⟩ := rn_gfo (g := 1) rfl rfl (by decide) b1 b3 hh
  have hh : pm_run PT n fr lo 129 (7, [some (.ref 0), none, none, none, none, none], [.int (nI n0)], h, 198, sl) = some R := hh
  obtain ⟨n, hh⟩ := rn_if (cc := .ne) (off := 5) (t := 12) rfl rfl hh
  cases z : pm_cmp .ne (nI n0) 0 with
  | false =>
    rw [z] at hh
    obtain ⟨n, hh⟩ := rn_i rfl rfl rfl rfl hh
    have e := (rn_ret rfl (Or.inl rfl) hh).2
    rw [e]
    refine ⟨A, B, x, v0, fun N h1 h2 e2 => ?_⟩
    have e2 : nI 0 = nI N := Value.int.inj (Option.some.inj e2)
    have e3 : 0 = N := nI_ij (by omega) (by omega) e2
    omega
  | true =>
    rw [z] at hh
    have hh : pm_run PT n fr lo 129 (12, [some (.ref 0), none, none, none, none, none], [], h, 198, sl) = some R := hh
    obtain ⟨n, hh⟩ := rn_i rfl rfl rfl rfl hh
    obtain ⟨n, hh⟩ := rn_i rfl rfl rfl rfl hh
    obtain ⟨n, hh⟩ := rn_i rfl rfl rfl rfl hh
    obtain ⟨n, hh⟩ := rn_i rfl rfl rfl rfl hh
    have hh : pm_run PT n fr lo 129 (16, [some (.ref 0), some (.int 0), some (.int 0), none, none, none], [], h, 198, sl) = some R := hh
    have hh : pm_run PT n fr lo 129 (16, [some (.ref 0), some (.int (nI (7 * 0))), some (.int (nI 0)), none, none, none], [], h, 198, sl) = some R := hh
    exact vx_lines hn hc 6 0 n h A B _ _ _ (by omega) x v0 hh
end VAX
