/-! sign: the same four signs come behind both texts -/
section SGN
variable {n fr lo sl n0 k pc : Nat} {h h' : pm_H} {R : pm_Rs} {f : Nat → Int32} {L : pm_L} {r : List Value} {v s : Int32}
/-- a sign as the class writes it, as the reference does -/
def chX (v s : Int32) : Int32 := vp_nar .char ((((v.toUInt32 >>> (s.toUInt32 &&& Int32.toUInt32 31)).toInt32 &&& (Int16.ofInt 255).toInt32).toUInt32 % 65536).toInt32)
def chM (v : Int32) (s : Int32) : Int32 := (v >>> (s &&& 31)) &&& (Int16.ofInt 255).toInt32
def pT (h : pm_H) (n0 : Nat) (f : Nat → Int32) : Prop := (∃ gs, h 1 = .inr (8, gs) ∧ gs[0]? = some (.ref 2) ∧ gs[1]? = some (.int (nI n0))) ∧ h 2 = .inl (1, 80, .inl f)
theorem rn_csm {a m : Nat} {i x : Int32} {g : Nat → Int32} (hi : pm_ins PT k pc = some (.castore, 1)) (ha : h a = .inl (1, m, .inl g)) (hin : pm_in i m = true) (hl : a < 198) (hh : pm_run PT n fr lo k (pc, L, .int x :: .int i :: .ref a :: r, h, 198, sl) = some R) : ∃ q, pm_run PT q fr lo k (pc + 1, L, r, va_up h a (.inl (1, m, .inl (upd g i.toNatClampNeg (vp_nar .char x)))), 198, sl) = some R := by
  refine rn_i hi rfl rfl ?_ hh
  show pm_iS PT .char (fun x => vp_nar .char x) pc L (.int x :: .int i :: .ref a :: r) h 198 sl = _
  unfold pm_iS
  dsimp only
  have e : pm_iar PT .char h 198 a = some (1, m, g) := by
    unfold pm_iar
    rw [if_pos hl, ha]
    exact if_pos rfl
  rw [e]
  dsimp only
  rw [if_pos hin]
theorem ad_step (hs : pm_cmp .lt s 0 = false) (hn : n0 < 80) (x : pT h n0 f) (hh : pm_run PT n fr lo 79 (16, [some (.ref 1), some (.int v), some (.int s)], [], h, 198, sl) = some R) : ∃ m h', pT h' (n0 + 1) (upd f n0 (chX v s)) ∧ pm_run PT m fr lo 79 (16, [some (.ref 1), some (.int v), some (.int (s + Int32.ofInt (-8)))], [], h', 198, sl) = some R := by
  obtain ⟨⟨gs, g1, g2, g3⟩, c1⟩ := x
  obtain ⟨n, hh⟩ := rn_i rfl rfl rfl rfl hh
  obtain ⟨n, hh⟩ := rn_if (cc := .lt) (off := 36) (t := 53) rfl rfl hh
  rw [hs] at hh
  obtain ⟨n, hh⟩ := rn_i rfl rfl rfl rfl hh
  obtain ⟨n, hh⟩ := rn_gfo (g := 0) rfl rfl (by decide) g1 g2 hh
  obtain ⟨n, hh⟩ := rn_i rfl rfl rfl rfl hh
  obtain ⟨n, hh⟩ := rn_gfo (g := 1) rfl rfl (by decide) g1 g3 hh
  obtain ⟨n, hh⟩ := rn_i rfl rfl rfl rfl hh
  obtain ⟨n, hh⟩ := rn_i rfl rfl rfl rfl hh
  obtain ⟨n, hh⟩ := rn_i rfl rfl rfl rfl hh
  obtain ⟨n, hh⟩ := rn_i rfl rfl rfl rfl hh
  obtain ⟨n, hh⟩ := rn_i rfl rfl rfl rfl hh
  obtain ⟨n, hh⟩ := rn_i rfl rfl rfl rfl hh
  obtain ⟨n, hh⟩ := rn_csm rfl c1 (hI_in hn (by decide)) (by decide) hh
  rw [nI_clamp (by omega)] at hh
  have g1' : va_up h 2 (.inl (1, 80, .inl (upd f n0 (chX v s)))) 1 = .inr (8, gs) := by simp [va_up, g1]
  have hh : pm_run PT n fr lo 79 (37, [some (.ref 1), some (.int v), some (.int s)], [], va_up h 2 (.inl (1, 80, .inl (upd f n0 (chX v s)))), 198, sl) = some R := hh
  obtain ⟨n, hh⟩ := rn_i rfl rfl rfl rfl hh
  obtain ⟨n, hh⟩ := rn_i rfl rfl rfl rfl hh
  obtain ⟨n, hh⟩ := rn_gfo (g := 1) rfl rfl (by decide) g1' g3 hh
  obtain ⟨n, hh⟩ := rn_i rfl rfl rfl rfl hh
  obtain ⟨n, hh⟩ := rn_i rfl rfl rfl rfl hh
  obtain ⟨n, hh⟩ := rn_i rfl rfl rfl (pf_eq (f := 1) rfl rfl (by decide) (by decide) g1' g3) hh
  obtain ⟨n, hh⟩ := rn_i rfl rfl rfl rfl hh
  obtain ⟨n, hh⟩ := rn_i rfl rfl rfl rfl hh
  have e1 : nI n0 + Int32.ofInt 1 = nI (n0 + 1) := (Int32.ofNat_add n0 1).symm
  have hh : pm_run PT n fr lo 79 (16, [some (.ref 1), some (.int v), some (.int (s + Int32.ofInt (-8)))], [], va_up (va_up h 2 (.inl (1, 80, .inl (upd f n0 (chX v s))))) 1 (.inr (8, gs.set 1 (.int (nI n0 + Int32.ofInt 1)))), 198, sl) = some R := hh
  rw [e1] at hh
  refine ⟨n, _, ⟨⟨gs.set 1 (.int (nI (n0 + 1))), by simp [va_up], ?_, ?_⟩, by simp [va_up]⟩, hh⟩
  · rw [List.getElem?_set_ne (by decide)]; exact g2
  · rw [List.getElem?_set_self (List.getElem?_eq_some_iff.mp g3).1]
/-- the class's addFour -/
theorem ad_run (hn : n0 ≤ 80) (x : pT h n0 f) (hh : pm_run PT n fr lo 79 (0, pm_l0 [.ref 1, .int v] 3, [], h, 198, sl) = some R) : cond (decide (n0 ≤ 76)) (R.1 = some (.int 1) ∧ R.2.2 = (198, sl) ∧ pT R.2.1 (n0 + 4) (upd (upd (upd (upd f n0 (chX v 24)) (n0 + 1) (chX v 16)) (n0 + 2) (chX v 8)) (n0 + 3) (chX v 0))) (R = (some (.int (Int32.ofInt 0)), h, 198, sl)) := by
  obtain ⟨⟨gs, g1, g2, g3⟩, c1⟩ := id x
  obtain ⟨n, hh⟩ := rn_i rfl rfl rfl rfl hh
  obtain ⟨n, hh⟩ := rn_gfo (g := 1) rfl rfl (by decide) g1 g3 hh
  obtain ⟨n, hh⟩ := rn_i rfl rfl rfl rfl hh
  obtain ⟨n, hh⟩ := rn_i rfl rfl rfl rfl hh
  obtain ⟨n, hh⟩ := rn_i rfl rfl rfl rfl hh
  obtain ⟨n, hh⟩ := rn_icmp (cc := .le) (off := 5) (t := 13) rfl rfl hh
  have e4 : nI n0 + Int32.ofInt 4 = nI (n0 + 4) := (Int32.ofNat_add n0 4).symm
  have hh : pm_run PT n fr lo 79 (cond (pm_cmp .le (nI n0 + Int32.ofInt 4) (nI 80)) 13 11, [some (.ref 1), some (.int v), none], [], h, 198, sl) = some R := hh
  rw [e4, hI_le (by omega) (by omega)] at hh
  by_cases z : n0 ≤ 76
  · rw [decide_eq_true (show n0 + 4 ≤ 80 by omega)] at hh
    rw [decide_eq_true z]
    obtain ⟨n, hh⟩ := rn_i rfl rfl rfl rfl hh
    obtain ⟨n, hh⟩ := rn_i rfl rfl rfl rfl hh
    have hh : pm_run PT n fr lo 79 (16, [some (.ref 1), some (.int v), some (.int 24)], [], h, 198, sl) = some R := hh
    obtain ⟨n, h1, x1, hh⟩ := ad_step (by decide) (by omega) x hh
    have hh : pm_run PT n fr lo 79 (16, [some (.ref 1), some (.int v), some (.int 16)], [], h1, 198, sl) = some R := hh
    obtain ⟨n, h2, x2, hh⟩ := ad_step (by decide) (by omega) x1 hh
    have hh : pm_run PT n fr lo 79 (16, [some (.ref 1), some (.int v), some (.int 8)], [], h2, 198, sl) = some R := hh
    obtain ⟨n, h3, x3, hh⟩ := ad_step (by decide) (by omega) x2 hh
    have hh : pm_run PT n fr lo 79 (16, [some (.ref 1), some (.int v), some (.int 0)], [], h3, 198, sl) = some R := hh
    obtain ⟨n, h4, x4, hh⟩ := ad_step (by decide) (by omega) x3 hh
    have hh : pm_run PT n fr lo 79 (16, [some (.ref 1), some (.int v), some (.int (-8))], [], h4, 198, sl) = some R := hh
    obtain ⟨n, hh⟩ := rn_i rfl rfl rfl rfl hh
    obtain ⟨n, hh⟩ := rn_if (cc := .lt) (off := 36) (t := 53) rfl rfl hh
    have hh : pm_run PT n fr lo 79 (53, [some (.ref 1), some (.int v), some (.int (-8))], [], h4, 198, sl) = some R := hh
    obtain ⟨n, hh⟩ := rn_i rfl rfl rfl rfl hh
    have e := (rn_ret rfl (Or.inr rfl) hh).2
    subst e
    exact ⟨rfl, rfl, x4⟩
  · rw [decide_eq_false (show ¬ n0 + 4 ≤ 80 by omega)] at hh
    rw [decide_eq_false z]
    obtain ⟨n, hh⟩ := rn_i rfl rfl rfl rfl hh
    exact (rn_ret rfl (Or.inr rfl) hh).2
end SGN
