/-! runs told exactly, written by ext.py -/
section EE4
def v241_2b (q : QT) (cc gc : Nat) (h : pm_H) (m1 : Nat) (i : Nat) : (pm_H) ⊕ (Int32 × pm_H) := cond (pm_cmp .eq ((((Ar (v219t q cc gc h) 171) 94) &&& (((Ar h 171) 94) ^^^ (Int32.ofInt (-1)))) &&& (v174 q cc gc (Ar (v219t q cc gc h) 171) m1)) 0) (.inl (fset (v219t q cc gc h) 162 41 (.int ((((Ar (v219t q cc gc h) 171) 94) &&& (((Ar h 171) 94) ^^^ (Int32.ofInt (-1)))) &&& (v174 q cc gc (Ar (v219t q cc gc h) 171) m1))))) (.inr (nI i, fset (v219t q cc gc h) 162 41 (.int ((((Ar (v219t q cc gc h) 171) 94) &&& (((Ar h 171) 94) ^^^ (Int32.ofInt (-1)))) &&& (v174 q cc gc (Ar (v219t q cc gc h) 171) m1)))))
def v241_2 (q : QT) (cc gc : Nat) (m1 : Nat) (j i : Nat) (a : pm_H) : (pm_H) ⊕ (Int32 × pm_H) := lpE (fun i a => v241_2b q cc gc a m1 i) j i a
theorem v241_2_e {n fr lo sl cc gc : Nat} {q : QT} {h : pm_H} {R : pm_Rs} {m1 : Nat} {i : Nat} {o3 : Option Value} (hw : HC q cc gc h) (h_m1 : m1 < 10000) (hi : 100 ≤ i) (hI : i < 1000000) (hh : pm_run PT n fr lo 241 (2, [some (.ref 162), some (.int (nI m1)), some (.int (nI i)), o3], [], h, 198, sl) = some R) : ∃ m, pm_run PT m fr lo 241 (64, [some (.ref 162), some (.int (nI m1)), some (.int (nI i)), o3], [], h, 198, sl) = some R := by
  have hcc := hw.cb
  have hgc := hw.gb
  have hzr := hw.zr
  obtain ⟨n, hh⟩ := rn_i rfl rfl rfl rfl hh
  obtain ⟨n, hh⟩ := rn_i rfl rfl rfl rfl hh
  have hh : pm_run PT n fr lo 241 (5, [some (.ref 162), some (.int (nI m1)), some (.int (nI i)), o3], [.int (nI 99), .int (nI i)], h, 198, sl) = some R := hh
  obtain ⟨n, hh⟩ := en_cn (cc := .gt) (off := 59) (t := 64) (b := decide (99 < i)) (hI_gt (by omega) (by omega)) rfl rfl hh
  have hh := en_t (show decide (99 < i) = true from decide_eq_true (by omega)) hh
  have hh : pm_run PT n fr lo 241 (64, [some (.ref 162), some (.int (nI m1)), some (.int (nI i)), o3], [], h, 198, sl) = some R := hh
  exact ⟨n, hh⟩
theorem v241_2_s {n fr lo sl cc gc : Nat} {q : QT} {h : pm_H} {R : pm_Rs} {m1 : Nat} {i : Nat} {o3 : Option Value} (hw : HC q cc gc h) (h_m1 : m1 < 10000) (hi : i < 100) (hI : i < 1000000) (hh : pm_run PT n fr lo 241 (2, [some (.ref 162), some (.int (nI m1)), some (.int (nI i)), o3], [], h, 198, sl) = some R) : (∃ m, ∃ a : pm_H, ∃ w3, v241_2b q cc gc h m1 i = .inl a ∧ HC q cc gc (a) ∧ frm [162, 171] [(162, 41)] h (a) ∧ pm_run PT m fr lo 241 (2, [some (.ref 162), some (.int (nI m1)), some (.int (nI (i + 1))), w3], [], a, 198, sl) = some R) ∨ (∃ r : Int32 × pm_H, v241_2b q cc gc h m1 i = .inr r ∧ HC q cc gc r.2 ∧ frm [162, 171] [(162, 41)] h r.2 ∧ R = (some (.int r.1), r.2, 198, sl)) := by
  have hcc := hw.cb
  have hgc := hw.gb
  have hzr := hw.zr
  obtain ⟨n, hh⟩ := rn_i rfl rfl rfl rfl hh
  obtain ⟨n, hh⟩ := rn_i rfl rfl rfl rfl hh
  have hh : pm_run PT n fr lo 241 (5, [some (.ref 162), some (.int (nI m1)), some (.int (nI i)), o3], [.int (nI 99), .int (nI i)], h, 198, sl) = some R := hh
  obtain ⟨n, hh⟩ := en_cn (cc := .gt) (off := 59) (t := 64) (b := decide (99 < i)) (hI_gt (by omega) (by omega)) rfl rfl hh
  have hh := en_f (show decide (99 < i) = false from decide_eq_false (by omega)) hh
  have hh : pm_run PT n fr lo 241 (8, [some (.ref 162), some (.int (nI m1)), some (.int (nI i)), o3], [], h, 198, sl) = some R := hh
  obtain ⟨n, hh⟩ := rn_i rfl rfl rfl rfl hh
  have hh : pm_run PT n fr lo 241 (9, [some (.ref 162), some (.int (nI m1)), some (.int (nI i)), o3], [.ref 162], h, 198, sl) = some R := hh
  obtain ⟨n, hh⟩ := rn_gr hw.wt rfl rfl (by decide) rfl (by decide) (show _ = some (2, ((171 : Nat) : Int), 1) from rfl) rfl hh
  obtain ⟨n, hh⟩ := rn_i rfl rfl rfl rfl hh
  have hh : pm_run PT n fr lo 241 (14, [some (.ref 162), some (.int (nI m1)), some (.int (nI i)), o3], [.int (nI 94), .ref 171], h, 198, sl) = some R := hh
  obtain ⟨n, hx1, hh⟩ := en_lu (t := 94) (f := Ar h 171) (w := (Ar h 171) 94) (nI_clamp (by omega)) hw.wt rfl (by decide) rfl (by decide) rfl (fun _ => rfl) hh
  obtain ⟨n, hh⟩ := rn_i rfl rfl rfl rfl hh
  obtain ⟨n, hh⟩ := rn_i rfl rfl rfl rfl hh
  obtain ⟨n, hh⟩ := rn_i rfl rfl rfl rfl hh
  have hh : pm_run PT n fr lo 241 (18, [some (.ref 162), some (.int (nI m1)), some (.int (nI i)), some (.int ((Ar h 171) 94))], [.ref 162, .ref 162], h, 198, sl) = some R := hh
  obtain ⟨n, hh⟩ := rn_gr hw.wt rfl rfl (by decide) rfl (by decide) (show _ = some (2, ((171 : Nat) : Int), 1) from rfl) rfl hh
  have hh : pm_run PT n fr lo 241 (21, [some (.ref 162), some (.int (nI m1)), some (.int (nI i)), some (.int ((Ar h 171) 94))], [.ref 171, .ref 162], h, 198, sl) = some R := hh
  obtain ⟨n, fr1, lo1, r1, hh1, hh⟩ := rn_call (w := 0) (t := 219) rfl rfl hh
  obtain ⟨er2, hc3, hf4⟩ := v219t_ok hw hh1
  subst er2
  obtain ⟨n, hh⟩ := rn_i rfl rfl rfl rfl hh
  obtain ⟨n, hh⟩ := rn_i rfl rfl rfl rfl hh
  have hh : pm_run PT n fr lo 241 (26, [some (.ref 162), some (.int (nI m1)), some (.int (nI i)), some (.int ((Ar h 171) 94))], [.ref 162, .ref 162], v219t q cc gc h, 198, sl) = some R := hh
  obtain ⟨n, hh⟩ := rn_gr hc3.wt rfl rfl (by decide) rfl (by decide) (show _ = some (2, ((171 : Nat) : Int), 1) from rfl) rfl hh
  obtain ⟨n, hh⟩ := rn_i rfl rfl rfl rfl hh
  have hh : pm_run PT n fr lo 241 (31, [some (.ref 162), some (.int (nI m1)), some (.int (nI i)), some (.int ((Ar h 171) 94))], [.int (nI 94), .ref 171, .ref 162], v219t q cc gc h, 198, sl) = some R := hh
  obtain ⟨n, hx5, hh⟩ := en_lu (t := 94) (f := Ar (v219t q cc gc h) 171) (w := (Ar (v219t q cc gc h) 171) 94) (nI_clamp (by omega)) hc3.wt rfl (by decide) rfl (by decide) rfl (fun _ => rfl) hh
  obtain ⟨n, hh⟩ := rn_i rfl rfl rfl rfl hh
  obtain ⟨n, hh⟩ := rn_i rfl rfl rfl rfl hh
  obtain ⟨n, hh⟩ := rn_i rfl rfl rfl rfl hh
  obtain ⟨n, hh⟩ := rn_i rfl rfl rfl rfl hh
  obtain ⟨n, hh⟩ := rn_i rfl rfl rfl rfl hh
  obtain ⟨n, hh⟩ := rn_i rfl rfl rfl rfl hh
  have hh : pm_run PT n fr lo 241 (38, [some (.ref 162), some (.int (nI m1)), some (.int (nI i)), some (.int ((Ar h 171) 94))], [.ref 162, .ref 162, .int (((Ar (v219t q cc gc h) 171) 94) &&& (((Ar h 171) 94) ^^^ (Int32.ofInt (-1)))), .ref 162], v219t q cc gc h, 198, sl) = some R := hh
  obtain ⟨n, hh⟩ := rn_gr hc3.wt rfl rfl (by decide) rfl (by decide) (show _ = some (2, ((171 : Nat) : Int), 1) from rfl) rfl hh
  obtain ⟨n, hh⟩ := rn_i rfl rfl rfl rfl hh
  have hh : pm_run PT n fr lo 241 (42, [some (.ref 162), some (.int (nI m1)), some (.int (nI i)), some (.int ((Ar h 171) 94))], [.int (nI m1), .ref 171, .ref 162, .int (((Ar (v219t q cc gc h) 171) 94) &&& (((Ar h 171) 94) ^^^ (Int32.ofInt (-1)))), .ref 162], v219t q cc gc h, 198, sl) = some R := hh
  obtain ⟨n, fr1, lo1, r1, hh1, hh⟩ := rn_call (w := 0) (t := 174) rfl rfl hh
  have er6 := v174t_ok (c := m1) hc3 (by omega) hh1
  subst er6
  obtain ⟨n, hh⟩ := rn_i rfl rfl rfl rfl hh
  have hh : pm_run PT n fr lo 241 (46, [some (.ref 162), some (.int (nI m1)), some (.int (nI i)), some (.int ((Ar h 171) 94))], [.int ((((Ar (v219t q cc gc h) 171) 94) &&& (((Ar h 171) 94) ^^^ (Int32.ofInt (-1)))) &&& (v174 q cc gc (Ar (v219t q cc gc h) 171) m1)), .ref 162], v219t q cc gc h, 198, sl) = some R := hh
  obtain ⟨n, hh⟩ := rn_pi hc3.wt rfl rfl (by decide) rfl (by decide) rfl hh
  obtain ⟨n, hh⟩ := rn_i rfl rfl rfl rfl hh
  have hh : pm_run PT n fr lo 241 (50, [some (.ref 162), some (.int (nI m1)), some (.int (nI i)), some (.int ((Ar h 171) 94))], [.ref 162], fset (v219t q cc gc h) 162 41 (.int ((((Ar (v219t q cc gc h) 171) 94) &&& (((Ar h 171) 94) ^^^ (Int32.ofInt (-1)))) &&& (v174 q cc gc (Ar (v219t q cc gc h) 171) m1))), 198, sl) = some R := hh
  obtain ⟨n, hh⟩ := rn_gi (x := (((Ar (v219t q cc gc h) 171) 94) &&& (((Ar h 171) 94) ^^^ (Int32.ofInt (-1)))) &&& (v174 q cc gc (Ar (v219t q cc gc h) 171) m1)) (hc_f rfl rfl (by decide) rfl hc3).wt rfl rfl (by decide) rfl (by decide) rfl (Fi_s hc3.wt (by decide) rfl (by decide) rfl) hh
  have hh : pm_run PT n fr lo 241 (53, [some (.ref 162), some (.int (nI m1)), some (.int (nI i)), some (.int ((Ar h 171) 94))], [.int ((((Ar (v219t q cc gc h) 171) 94) &&& (((Ar h 171) 94) ^^^ (Int32.ofInt (-1)))) &&& (v174 q cc gc (Ar (v219t q cc gc h) 171) m1))], fset (v219t q cc gc h) 162 41 (.int ((((Ar (v219t q cc gc h) 171) 94) &&& (((Ar h 171) 94) ^^^ (Int32.ofInt (-1)))) &&& (v174 q cc gc (Ar (v219t q cc gc h) 171) m1))), 198, sl) = some R := hh
  obtain ⟨n, hh⟩ := en_zn (cc := .eq) (off := 5) (t := 58) (b := pm_cmp .eq ((((Ar (v219t q cc gc h) 171) 94) &&& (((Ar h 171) 94) ^^^ (Int32.ofInt (-1)))) &&& (v174 q cc gc (Ar (v219t q cc gc h) 171) m1)) 0) rfl rfl rfl hh
  cases z7 : pm_cmp .eq ((((Ar (v219t q cc gc h) 171) 94) &&& (((Ar h 171) 94) ^^^ (Int32.ofInt (-1)))) &&& (v174 q cc gc (Ar (v219t q cc gc h) 171) m1)) 0 with
  | true =>
    have hh := en_t z7 hh
    have hh : pm_run PT n fr lo 241 (58, [some (.ref 162), some (.int (nI m1)), some (.int (nI i)), some (.int ((Ar h 171) 94))], [], fset (v219t q cc gc h) 162 41 (.int ((((Ar (v219t q cc gc h) 171) 94) &&& (((Ar h 171) 94) ^^^ (Int32.ofInt (-1)))) &&& (v174 q cc gc (Ar (v219t q cc gc h) 171) m1))), 198, sl) = some R := hh
    have hh : pm_run PT n fr lo 241 (58, [some (.ref 162), some (.int (nI m1)), some (.int (nI i)), some (.int ((Ar h 171) 94))], [], fset (v219t q cc gc h) 162 41 (.int ((((Ar (v219t q cc gc h) 171) 94) &&& (((Ar h 171) 94) ^^^ (Int32.ofInt (-1)))) &&& (v174 q cc gc (Ar (v219t q cc gc h) 171) m1))), 198, sl) = some R := hh
    obtain ⟨n, hh⟩ := en_inc (x := i) (c := 1) (j := 2) rfl rfl (by decide) hh
    have hh : pm_run PT n fr lo 241 (61, [some (.ref 162), some (.int (nI m1)), some (.int (nI (i + 1))), some (.int ((Ar h 171) 94))], [], fset (v219t q cc gc h) 162 41 (.int ((((Ar (v219t q cc gc h) 171) 94) &&& (((Ar h 171) 94) ^^^ (Int32.ofInt (-1)))) &&& (v174 q cc gc (Ar (v219t q cc gc h) 171) m1))), 198, sl) = some R := hh
    obtain ⟨n, hh⟩ := rn_i rfl rfl rfl rfl hh
    have ed : v241_2b q cc gc h m1 i = .inl (fset (v219t q cc gc h) 162 41 (.int ((((Ar (v219t q cc gc h) 171) 94) &&& (((Ar h 171) 94) ^^^ (Int32.ofInt (-1)))) &&& (v174 q cc gc (Ar (v219t q cc gc h) 171) m1)))) := (ct z7).trans rfl
    exact Or.inl ⟨n, _, some (.int ((Ar h 171) 94)), ed, (hc_f rfl rfl (by decide) rfl hc3), (fr_f rfl rfl (fr_g rfl rfl hf4 fr_0)), hh⟩
  | false =>
    have hh := en_f z7 hh
    have hh : pm_run PT n fr lo 241 (56, [some (.ref 162), some (.int (nI m1)), some (.int (nI i)), some (.int ((Ar h 171) 94))], [], fset (v219t q cc gc h) 162 41 (.int ((((Ar (v219t q cc gc h) 171) 94) &&& (((Ar h 171) 94) ^^^ (Int32.ofInt (-1)))) &&& (v174 q cc gc (Ar (v219t q cc gc h) 171) m1))), 198, sl) = some R := hh
    obtain ⟨n, hh⟩ := rn_i rfl rfl rfl rfl hh
    have hh : pm_run PT n fr lo 241 (57, [some (.ref 162), some (.int (nI m1)), some (.int (nI i)), some (.int ((Ar h 171) 94))], [.int (nI i)], fset (v219t q cc gc h) 162 41 (.int ((((Ar (v219t q cc gc h) 171) 94) &&& (((Ar h 171) 94) ^^^ (Int32.ofInt (-1)))) &&& (v174 q cc gc (Ar (v219t q cc gc h) 171) m1))), 198, sl) = some R := hh
    have er8 : R = (some (.int (nI i)), fset (v219t q cc gc h) 162 41 (.int ((((Ar (v219t q cc gc h) 171) 94) &&& (((Ar h 171) 94) ^^^ (Int32.ofInt (-1)))) &&& (v174 q cc gc (Ar (v219t q cc gc h) 171) m1))), 198, sl) := (rn_ret rfl (Or.inl rfl) hh).2
    have ed : v241_2b q cc gc h m1 i = .inr (nI i, fset (v219t q cc gc h) 162 41 (.int ((((Ar (v219t q cc gc h) 171) 94) &&& (((Ar h 171) 94) ^^^ (Int32.ofInt (-1)))) &&& (v174 q cc gc (Ar (v219t q cc gc h) 171) m1)))) := (cf z7).trans rfl
    exact Or.inr ⟨_, ed, (hc_f rfl rfl (by decide) rfl hc3), (fr_f rfl rfl (fr_g rfl rfl hf4 fr_0)), er8⟩
theorem v241_2_ok {fr lo sl cc gc : Nat} {q : QT} {R : pm_Rs} {m1 : Nat} : ∀ {j i : Nat} {o3 : Option Value} {h : pm_H} {n : Nat}, 100 - i = j → i + j < 1000000 → HC q cc gc h → m1 < 10000 → pm_run PT n fr lo 241 (2, [some (.ref 162), some (.int (nI m1)), some (.int (nI i)), o3], [], h, 198, sl) = some R → (∃ m, ∃ a : pm_H, ∃ wc w3, v241_2 q cc gc m1 j i h = .inl a ∧ HC q cc gc (a) ∧ frm [162, 171] [(162, 41)] h (a) ∧ pm_run PT m fr lo 241 (64, [some (.ref 162), some (.int (nI m1)), wc, w3], [], a, 198, sl) = some R) ∨ (∃ r : Int32 × pm_H, v241_2 q cc gc m1 j i h = .inr r ∧ HC q cc gc r.2 ∧ frm [162, 171] [(162, 41)] h r.2 ∧ R = (some (.int r.1), r.2, 198, sl)) := by
  intro j
  induction j with
  | zero =>
    intro i o3 h n e eI hw h_m1 hh
    obtain ⟨n, hh⟩ := v241_2_e hw h_m1 (by omega) (by omega) hh
    exact Or.inl ⟨n, _, _, o3, rfl, hw, fr_0, hh⟩
  | succ j ih =>
    intro i o3 h n e eI hw h_m1 hh
    rcases v241_2_s hw h_m1 (by omega) (by omega) hh with ⟨n, a, w3, e1, hc, hf, hh⟩ | ⟨r, e1, hc, hf, er⟩
    · rcases ih (by omega) (by omega) hc h_m1 hh with ⟨n, b, wc, v3, e2, hc2, hf2, hh⟩ | ⟨r, e2, hc2, hf2, er⟩
      · exact Or.inl ⟨n, b, wc, v3, (lpE_l e1).trans e2, hc2, fr_t hf2 hf, hh⟩
      · exact Or.inr ⟨r, (lpE_l e1).trans e2, hc2, fr_t hf2 hf, er⟩
    · exact Or.inr ⟨r, lpE_r e1, hc, hf, er⟩
def v241 (q : QT) (cc gc : Nat) (h : pm_H) (c : Nat) : Int32 × pm_H := Sum.elim (fun a3 => ((Int32.ofInt (-1)), a3)) (fun r4 => (r4.1, r4.2)) (v241_2 q cc gc c (100 - 1) 1 h)
theorem v241_ok {n fr lo sl cc gc : Nat} {q : QT} {h : pm_H} {R : pm_Rs} {c : Nat} (hw : HC q cc gc h) (h_c : c < 10000) (hh : pm_run PT n fr lo 241 (0, pm_l0 [.ref 162, .int (nI c)] 4, [], h, 198, sl) = some R) : R = (some (.int ((v241 q cc gc h c).1)), (v241 q cc gc h c).2, 198, sl) ∧ HC q cc gc ((v241 q cc gc h c).2) ∧ frm [162, 171] [(162, 41)] h ((v241 q cc gc h c).2) := by
  have hcc := hw.cb
  have hgc := hw.gb
  have hzr := hw.zr
  obtain ⟨n, hh⟩ := rn_i rfl rfl rfl rfl hh
  obtain ⟨n, hh⟩ := rn_i rfl rfl rfl rfl hh
  have hh : pm_run PT n fr lo 241 (2, [some (.ref 162), some (.int (nI c)), some (.int (nI 1)), none], [], h, 198, sl) = some R := hh
  rcases v241_2_ok (m1 := c)  (i := 1) (o3 := none) (j := (100 - 1)) (by omega) (by omega) hw (by omega) hh with ⟨n, a3, u2, u1, hs5, hc_a3, hf_a3, hh⟩ | ⟨r4, hs5, hc_r4, hf_r4, er_r4⟩
  ·
    have hh : pm_run PT n fr lo 241 (64, [some (.ref 162), some (.int (nI c)), u2, u1], [], a3, 198, sl) = some R := hh
    obtain ⟨n, hh⟩ := rn_i rfl rfl rfl rfl hh
    have hh : pm_run PT n fr lo 241 (65, [some (.ref 162), some (.int (nI c)), u2, u1], [.int (Int32.ofInt (-1))], a3, 198, sl) = some R := hh
    have er6 : R = (some (.int (Int32.ofInt (-1))), a3, 198, sl) := (rn_ret rfl (Or.inl rfl) hh).2
    have ed : v241 q cc gc h c = ((Int32.ofInt (-1)), a3) := (se_l hs5).trans rfl
    refine ⟨?_, ?_, ?_⟩ <;> rw [ed]
    · exact er6
    · exact hc_a3
    · exact (fr_g rfl rfl hf_a3 fr_0)
  ·
    have ed : v241 q cc gc h c = (r4.1, r4.2) := (se_r hs5).trans rfl
    refine ⟨?_, ?_, ?_⟩ <;> rw [ed]
    · exact er_r4
    · exact hc_r4
    · exact (fr_g rfl rfl hf_r4 fr_0)
end EE4
