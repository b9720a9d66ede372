/-! runs told exactly, written by ext.py -/
section EE4
def v241_2b (q : QT) (cc gc : Nat) (h : pm_H) (m1 : Nat) (i : Nat) : (pm_H) ⊕ (Int32 × pm_H) := cond (pm_cmp .eq ((((Ar (v219t q cc gc h) 171) 94) &&& (((Ar h 171) 94) ^^^ (Int32.ofInt (-1)))) &&& (v174 q cc gc (Ar (v219t q cc gc h) 171) m1)) 0) (.inl (fset (v219t q cc gc h) 162 41 (.int ((((Ar (v219t q cc gc h) 171) 94) &&& (((Ar h 171) 94) ^^^ (Int32.ofInt (-1)))) &&& (v174 q cc gc (Ar (v219t q cc gc h) 171) m1))))) (.inr (nI i, fset (v219t q cc gc h) 162 41 (.int ((((Ar (v219t q cc gc h) 171) 94) &&& (((Ar h 171) 94) ^^^ (Int32.ofInt (-1)))) &&& (v174 q cc gc (Ar (v219t q cc gc h) 171) m1)))))
def v241_2 (q : QT) (cc gc : Nat) (m1 : Nat) (j i : Nat) (a : pm_H) : (pm_H) ⊕ (Int32 × pm_H) := lpE (fun i a => v241_2b q cc gc a m1 i) j i a
theorem v241_2_e {n fr lo sl cc gc : Nat} {q : QT} {h : pm_H} {R : pm_Rs} {m1 : Nat} {i : Nat} {o3 : Option Value} (hw : HC q cc gc h) (h_m1 : m1 < 10000) (hi : 100 ≤ i) (hI : i < 1000000) (hh : pm_run PT n fr lo 241 (2, [some (.ref 162), some (.int (nI m1)), some (.int (nI i)), o3], [], h, 198, sl) = some R) : ∃ m, pm_run PT m fr lo 241 (64, [some (.ref 162), some (.int (nI m1)), some (.int (nI i)), o3], [], h, 198, sl) = some R := by
  have hcc := hw.cb
  have hgc := hw.gb
  have hzr := hw.zr
  obtain ⟨n, hh⟩ := rn_i rfl rfl rfl rfl hh
  obtain ⟨n, hh⟩ := rn_i rfl rfl rfl rfl hh
  have hh : pm_run PT n fr lo 241 (5, [some (.ref 162), some (.int (nI m1)), some (.int (nI i)), o3], [.int (nI 99), .int (nI i)], h, 198, sl) = some R := hh
  obtain ⟨n, hh⟩ := en_cn (cc := .gt) (off := 59) (t := 64) (b := decide (99 < i)) (hI_gt (by omega) (by omega)) rfl rfl hh
  have hh := en_t (show decide (99 < i) = true from decide_eq_true (by omega)) hh
  have hh : pm_run PT n fr lo 241 (64, [some (.ref 162), some (.int (nI m1)), some (.int (nI i)), o3], [], h, 198, sl) = some R := hh
  exact ⟨n, hh⟩
theorem v241_2_s {n fr lo sl cc gc : Nat} {q : QT} {h : pm_H} {R : pm_Rs} {m1 : Nat} {i : Nat} {o3 : Option Value} (hw : HC q cc gc h) (h_m1 : m1 < 10000) (hi : i < 100) (hI : i < 1000000) (hh : pm_run PT n fr lo 241 (2, [some (.ref 162), some (.int (nI m1)), some (.int (nI i)), o3], [], h, 198, sl) = some R) : (∃ m, ∃ a : pm_H, ∃ w3, v241_2b q cc gc h m1 i = .inl a ∧ HC q cc gc (a) ∧ frm [162, 171] [(162, 41)] h (a) ∧ pm_run PT m fr lo 241 (2, [some (.ref 162), some (.int (nI m1)), some (.int (nI (i + 1))), w3], [], a, 198, sl) = some R) ∨ (∃ r : Int32 × pm_H, v241_2b q cc gc h m1 i = .inr r ∧ HC q cc gc r.2 ∧ frm [162, 171] [(162, 41)] h r.2 ∧ R = (some (.int r.1), r.2, 198, sl)) := by
  have hcc := hw.cb
  have hgc := hw.gb
  have hzr := hw.zr
  obtain ⟨n, hh⟩ := rn_i rfl rfl rfl rfl hh
  obtain ⟨n, hh⟩ := rn_i rfl rfl rfl rfl hh
  have hh : pm_run PT n fr lo 241 (5, [some (.ref 162), some (.int (nI m1)), some (.int (nI i)), o3], [.int (nI 99), .int (nI i)], h, 198, sl) = some R := hh
  obtain ⟨n, hh⟩ := en_cn (cc := .gt) (off := 59) (t := 64) (b := decide (99 < i)) (hI_gt (by omega) (by omega)) rfl rfl hh
  have hh := en_f (show decide (99 < i) = false from decide_eq_false (by omega)) hh
  have hh : pm_run PT n fr lo 241 (8, [some (.ref 162), some (.int (nI m1)), some (.int (nI i)), o3], [], h, 198, sl) = some R := hh
  obtain ⟨n, hh⟩ := rn_i rfl rfl rfl rfl hh
  have hh : pm_run PT n fr lo 241 (9, [some (.ref 162), some (.int (nI m1)), some (.int (nI i)), o3], [.ref 162], h, 198, sl) = some R := hh
  obtain ⟨n, hh⟩ := rn_gr hw.wt rfl rfl (by decide) rfl (by decide) (show _ = some (2, ((171 : Nat) : Int), 1) from rfl) rfl hh
  obtain ⟨n, hh⟩ := rn_i rfl rfl rfl rfl hh
  have hh : pm_run PT n fr lo 241 (14, [some (.ref 162), some (.int (nI m1)), some (.int (nI i)), o3], [.int (nI 94), .ref 171], h, 198, sl) = some R := hh
  obtain ⟨n, hx1, hh⟩ := en_lu (t := 94) (f := Ar h 171) (w := (Ar h 171) 94) (nI_clamp (by omega)) hw.wt rfl (by decide) rfl (by decide) rfl (fun _ => rfl) hh
  obtain ⟨n, hh⟩ := rn_i rfl rfl rfl rfl hh
  obtain ⟨n, hh⟩ := rn_i rfl rfl rfl rfl hh
  obtain ⟨n, hh⟩ := rn_i rfl rfl rfl rfl hh
  have hh : pm_run PT n fr lo 241 (18, [some (.ref 162), some (.int (nI m1)), some (.int (nI i)), some (.int ((Ar h 171) 94))], [.ref 162, .ref 162], h, 198, sl) = some R := hh
  obtain ⟨n, hh⟩ := rn_gr hw.wt rfl rfl (by decide) rfl (by decide) (show _ = some (2, ((171 : Nat) : Int), 1) from rfl) rfl hh
  have hh : pm_run PT n fr lo 241 (21, [some (.ref 162), some (.int (nI m1)), some (.int (nI i)), some (.int ((Ar h 171) 94))], [.ref 171, .ref 162], h, 198, sl) = some R := hh
  obtain ⟨n, fr1, lo1, r1, hh1, hh⟩ := rn_call (w := 0) (t := 219) rfl rfl hh
  obtain ⟨er2, hc3, hf4⟩ := v219t_ok hw hh1
  subst er2
  obtain ⟨n, hh⟩ := rn_i rfl rfl rfl rfl hh
  obtain ⟨n, hh⟩ := rn_i rfl rfl rfl rfl hh
  have hh : pm_run PT n fr lo 241 (26, [some (.ref 162), some (.int (nI m1)), some (.int (nI i)), some (.int ((Ar h 171) 94))], [.ref 162, .ref 162], v219t q cc gc h, 198, sl) = some R := hh
  obtain ⟨n, hh⟩ := rn_gr hc3.wt rfl rfl (by decide) rfl (by decide) (show _ = some (2, ((171 : Nat) : Int), 1) from rfl) rfl hh
  obtain ⟨n, hh⟩ := rn_i rfl rfl rfl rfl hh
  have hh : pm_run PT n fr lo 241 (31, [some (.ref 162), some (.int (nI m1)), some (.int (nI i)), some (.int ((Ar h 171) 94))], [.int (nI 94), .ref 171, .ref 162], v219t q cc gc h, 198, sl) = some R := hh
  obtain ⟨n, hx5, hh⟩ := en_lu (t := 94) (f := Ar (v219t q cc gc h) 171) (w := (Ar (v219t q cc gc h) 171) 94) (nI_clamp (by omega)) hc3.wt rfl (by decide) rfl (by decide) rfl (fun _ => rfl) hh
  obtain ⟨n, hh⟩ := rn_i rfl rfl rfl rfl hh
  obtain ⟨n, hh⟩ := rn_i rfl rfl rfl rfl hh
  obtain ⟨n, hh⟩ := rn_i rfl rfl rfl rfl hh
  obtain ⟨n, hh⟩ := rn_i rfl rfl rfl rfl hh
  obtain ⟨n, hh⟩ := rn_i rfl rfl rfl rfl hh
  obtain ⟨n, hh⟩ := rn_i rfl rfl rfl rfl hh
  have hh : pm_run PT n fr lo 241 (38, [some (.ref 162), some (.int (nI m1)), some (.int (nI i)), some (.int ((Ar h 171) 94))], [.ref 162, .ref 162, .int (((Ar (v219t q cc gc h) 171) 94) &&& (((Ar h 171) 94) ^^^ (Int32.ofInt (-1)))), .ref 162], v219t q cc gc h, 198, sl) = some R := hh
  obtain ⟨n, hh⟩ := rn_gr hc3.wt rfl rfl (by decide) rfl (by decide) (show _ = some (2, ((171 : Nat) : Int), 1) from rfl) rfl hh
  obtain ⟨n, hh⟩ := rn_i rfl rfl rfl rfl hh
  have hh : pm_run PT n fr lo 241 (42, [some (.ref 162), some (.int (nI m1)), some (.int (nI i)), some (.int ((Ar h 171) 94))], [.int (nI m1), .ref 171, .ref 162, .int (((Ar (v219t q cc gc h) 171) 94) &&& (((Ar h 171) 94) ^^^ (Int32.ofInt (-1)))), .ref 162], v219t q cc gc h, 198, sl) = some R := hh
  obtain ⟨n, fr1, lo1, r1, hh1, hh⟩ := rn_call (w := 0) (t := 174) rfl rfl hh
  have er6 := v174t_ok (c := m1) hc3 (by omega) hh1
  subst er6
  obtain ⟨n, hh⟩ := rn_i rfl rfl rfl rfl hh
  have hh : pm_run PT n fr lo 241 (46, [some (.ref 162), some (.int (nI m1)), some (.int (nI i)), some (.int ((Ar h 171) 94))], [.int ((((Ar (v219t q cc gc h) 171) 94) &&& (((Ar h 171) 94) ^^^ (Int32.ofInt (-1)))) &&& (v174 q cc gc (Ar (v219t q cc gc h) 171) m1)), .ref 162], v219t q cc gc h, 198, sl) = some R := hh
  obtain ⟨n, hh⟩ := rn_pi hc3.wt rfl rfl (by decide) rfl (by decide) rfl hh
  obtain ⟨n, hh⟩ := rn_i rfl rfl rfl rfl hh
  have hh : pm_run PT n fr lo 241 (50, [some (.ref 162), some (.int (nI m1)), some (.int (nI i)), some (.int ((Ar h 171) 94))], [.ref 162], fset (v219t q cc gc h) 162 41 (.int ((((Ar (v219t q cc gc h) 171) 94) &&& (((Ar h 171) 94) ^^^ (Int32.ofInt (-1)))) &&& (v174 q cc gc (Ar (v219t q cc gc h) 171) m1))), 198, sl) = some R := hh
  obtain ⟨n, hh⟩ := rn_gi (x := (((Ar (v219t q cc gc h) 171) 94) &&& (((Ar h 171) 94) ^^^ (Int32.ofInt (-1)))) &&& (v174 q cc gc (Ar (v219t q cc gc h) 171) m1)) (hc_f rfl rfl (by decide) rfl hc3).wt rfl rfl (by decide) rfl (by decide) rfl (Fi_s hc3.wt (by decide) rfl (by decide) rfl) hh
  have hh : pm_run PT n fr lo 241 (53, [some (.ref 162), some (.int (nI m1)), some (.int (nI i)), some (.int ((Ar h 171) 94))], [.int ((((Ar (v219t q cc gc h) 171) 94) &&& (((Ar h 171) 94) ^^^ (Int32.ofInt (-1)))) &&& (v174 q cc gc (Ar (v219t q cc gc h) 171) m1))], fset (v219t q cc gc h) 162 41 (.int ((((Ar (v219t q cc gc h) 171) 94) &&& (((Ar h 171) 94) ^^^ (Int32.ofInt (-1)))) &&& (v174 q cc gc (Ar (v219t q cc gc h) 171) m1))), 198, sl) = some R := hh
  obtain ⟨n, hh⟩ := en_zn (cc := .eq) (off := 5) (t := 58) (b := pm_cmp .eq ((((Ar (v219t q cc gc h) 171) 94) &&& (((Ar h 171) 94) ^^^ (Int32.ofInt (-1)))) &&& (v174 q cc gc (Ar (v219t q cc gc h) 171) m1)) 0) rfl rfl rfl hh
  cases z7 : pm_cmp .eq ((((Ar (v219t q cc gc h) 171) 94) &&& (((Ar h 171) 94) ^^^ (Int32.ofInt (-1)))) &&& (v174 q cc gc (Ar (v219t q cc gc h) 171) m1)) 0 with
  | true =>
    have hh := en_t z7 hh
    have hh : pm_run PT n fr lo 241 (58, [some (.ref 162), some (.int (nI m1)), some (.int (nI i)), some (.int ((Ar h 171) 94))], [], fset (v219t q cc gc h) 162 41 (.int ((((Ar (v219t q cc gc h) 171) 94) &&& (((Ar h 171) 94) ^^^ (Int32.ofInt (-1)))) &&& (v174 q cc gc (Ar (v219t q cc gc h) 171) m1))), 198, sl) = some R := hh
    have hh : pm_run PT n fr lo 241 (58, [some (.ref 162), some (.int (nI m1)), some (.int (nI i)), some (.int ((Ar h 171) 94))], [], fset (v219t q cc gc h) 162 41 (.int ((((Ar (v219t q cc gc h) 171) 94) &&& (((Ar h 171) 94) ^^^ (Int32.ofInt (-1)))) &&& (v174 q cc gc (Ar (v219t q cc gc h) 171) m1))), 198, sl) = some R := hh
    obtain ⟨n, hh⟩ := en_inc (x := i) (c := 1) (j := 2) rfl rfl (by decide) hh
    have hh : pm_run PT n fr lo 241 (61, [some (.ref 162), some (.int (nI m1)), some (.int (nI (i + 1))), some (.int ((Ar h 171) 94))], [], fset (v219t q cc gc h) 162 41 (.int ((((Ar (v219t q cc gc h) 171) 94) &&& (((Ar h 171) 94) ^^^ (Int32.ofInt (-1)))) &&& (v174 q cc gc (Ar (v219t q cc gc h) 171) m1))), 198, sl) = some R := hh
    obtain ⟨n, hh⟩ := rn_i rfl rfl rfl rfl hh
    have ed : v241_2b q cc gc h m1 i = .inl (fset (v219t q cc gc h) 162 41 (.int ((((Ar (v219t q cc gc h) 171) 94) &&& (((Ar h 171) 94) ^^^ (Int32.ofInt (-1)))) &&& (v174 q cc gc (Ar (v219t q cc gc h) 171) m1)))) := (ct z7).trans rfl
    exact Or.inl ⟨n, _, some (.int ((Ar h 171) 94)), ed, (hc_f rfl rfl (by decide) rfl hc3), (fr_f rfl rfl (fr_g rfl rfl hf4 fr_0)), hh⟩
  | false =>
    have hh := en_f z7 hh
    have hh : pm_run PT n fr lo 241 (56, [some (.ref 162), some (.int (nI m1)), some (.int (nI i)), some (.int ((Ar h 171) 94))], [], fset (v219t q cc gc h) 162 41 (.int ((((Ar (v219t q cc gc h) 171) 94) &&& (((Ar h 171) 94) ^^^ (Int32.ofInt (-1)))) &&& (v174 q cc gc (Ar (v219t q cc gc h) 171) m1))), 198, sl) = some R := hh
    obtain ⟨n, hh⟩ := rn_i rfl rfl rfl rfl hh
    have hh : pm_run PT n fr lo 241 (57, [some (.ref 162), some (.int (nI m1)), some (.int (nI i)), some (.int ((Ar h 171) 94))], [.int (nI i)], fset (v219t q cc gc h) 162 41 (.int ((((Ar (v219t q cc gc h) 171) 94) &&& (((Ar h 171) 94) ^^^ (Int32.ofInt (-1)))) &&& (v174 q cc gc (Ar (v219t q cc gc h) 171) m1))), 198, sl) = some R := hh
    have er8 : R = (some (.int (nI i)), fset (v219t q cc gc h) 162 41 (.int ((((Ar (v219t q cc gc h) 171) 94) &&& (((Ar h 171) 94) ^^^ (Int32.ofInt (-1)))) &&& (v174 q cc gc (Ar (v219t q cc gc h) 171) m1))), 198, sl) := (rn_ret rfl (Or.inl rfl) hh).2
    have ed : v241_2b q cc gc h m1 i = .inr (nI i, fset (v219t q cc gc h) 162 41 (.int ((((Ar (v219t q cc gc h) 171) 94) &&& (((Ar h 171) 94) ^^^ (Int32.ofInt (-1)))) &&& (v174 q cc gc (Ar (v219t q cc gc h) 171) m1)))) := (cf z7).trans rfl
    exact Or.inr ⟨_, ed, (hc_f rfl rfl (by decide) rfl hc3), (fr_f rfl rfl (fr_g rfl rfl hf4 fr_0)), er8⟩
theorem v241_2_ok {fr lo sl cc gc : Nat} {q : QT} {R : pm_Rs} {m1 : Nat} : ∀ {j i : Nat} {o3 : Option Value} {h : pm_H} {n : Nat}, 100 - i = j → i + j < 1000000 → HC q cc gc h → m1 < 10000 → pm_run PT n fr lo 241 (2, [some (.ref 162), some (.int (nI m1)), some (.int (nI i)), o3], [], h, 198, sl) = some R → (∃ m, ∃ a : pm_H, ∃ wc w3, v241_2 q cc gc m1 j i h = .inl a ∧ HC q cc gc (a) ∧ frm [162, 171] [(162, 41)] h (a) ∧ pm_run PT m fr lo 241 (64, [some (.ref 162), some (.int (nI m1)), wc, w3], [], a, 198, sl) = some R) ∨ (∃ r : Int32 × pm_H, v241_2 q cc gc m1 j i h = .inr r ∧ HC q cc gc r.2 ∧ frm [162, 171] [(162, 41)] h r.2 ∧ R = (some (.int r.1), r.2, 198, sl)) := by
  intro j
  induction j with
  | zero =>
    intro i o3 h n e eI hw h_m1 hh
    obtain ⟨n, hh⟩ := v241_2_e hw h_m1 (by omega) (by omega) hh
    exact Or.inl ⟨n, _, _, o3, rfl, hw, fr_0, hh⟩
  | succ j ih =>
    intro i o3 h n e eI hw h_m1 hh
    rcases v241_2_s hw h_m1 (by omega) (by omega) hh with ⟨n, a, w3, e1, hc, hf, hh⟩ | ⟨r, e1, hc, hf, er⟩
    · rcases ih (by omega) (by omega) hc h_m1 hh with ⟨n, b, wc, v3, e2, hc2, hf2, hh⟩ | ⟨r, e2, hc2, hf2, er⟩
      · exact Or.inl ⟨n, b, wc, v3, (lpE_l e1).trans e2, hc2, fr_t hf2 hf, hh⟩
      · exact Or.inr ⟨r, (lpE_l e1).trans e2, hc2, fr_t hf2 hf, er⟩
    · exact Or.inr ⟨r, lpE_r e1, hc, hf, er⟩
theorem v241_2_fb {cc gc : Nat} {q : QT} {h : pm_H} {m1 : Nat} {i : Nat} (hw : HC q cc gc h) : (∀ b, v241_2b q cc gc h m1 i = .inl b → HC q cc gc (b) ∧ frm [162, 171] [(162, 41)] h (b)) ∧ ∀ b, v241_2b q cc gc h m1 i = .inr b → HC q cc gc b.2 ∧ frm [162, 171] [(162, 41)] h b.2 := by
  unfold v241_2b
  refine cd_s (P := fun (p : (pm_H) ⊕ (Int32 × pm_H)) => (∀ b, p = .inl b → HC q cc gc (b) ∧ frm [162, 171] [(162, 41)] h (b)) ∧ ∀ b, p = .inr b → HC q cc gc b.2 ∧ frm [162, 171] [(162, 41)] h b.2) (b := pm_cmp .eq ((((Ar (v219t q cc gc h) 171) 94) &&& (((Ar h 171) 94) ^^^ (Int32.ofInt (-1)))) &&& (v174 q cc gc (Ar (v219t q cc gc h) 171) m1)) 0) (fun _ => ?_) (fun _ => ?_)
  · exact ⟨fun b e => by cases e; exact ⟨(hc_f rfl rfl (by decide) rfl (v219t_fr hw).1), (fr_f rfl rfl (fr_g rfl rfl (v219t_fr hw).2 fr_0))⟩, fun b e => (by cases e)⟩
  · exact ⟨fun b e => (by cases e), fun b e => by cases e; exact ⟨(hc_f rfl rfl (by decide) rfl (v219t_fr hw).1), (fr_f rfl rfl (fr_g rfl rfl (v219t_fr hw).2 fr_0))⟩⟩
theorem v241_2_fr {cc gc : Nat} {q : QT} {m1 : Nat} : ∀ {j i : Nat} {h : pm_H}, HC q cc gc h → (∀ b, v241_2 q cc gc m1 j i h = .inl b → HC q cc gc (b) ∧ frm [162, 171] [(162, 41)] h (b)) ∧ ∀ b, v241_2 q cc gc m1 j i h = .inr b → HC q cc gc b.2 ∧ frm [162, 171] [(162, 41)] h b.2 := by
  intro j
  induction j with
  | zero =>
    intro i h hw
    exact ⟨fun b e => by cases e; exact ⟨hw, fr_0⟩, fun b e => (by cases e)⟩
  | succ j ih =>
    intro i h hw
    have hb := v241_2_fb (i := i) (m1 := m1) hw
    cases e : v241_2b q cc gc h m1 i with
    | inl b =>
      obtain ⟨a1, a2⟩ := hb.1 b e
      have h2 := ih (i := i + 1) a1
      exact ⟨fun r e2 => ⟨(h2.1 r ((lpE_l e).symm.trans e2)).1, fr_t (h2.1 r ((lpE_l e).symm.trans e2)).2 a2⟩, fun r e2 => ⟨(h2.2 r ((lpE_l e).symm.trans e2)).1, fr_t (h2.2 r ((lpE_l e).symm.trans e2)).2 a2⟩⟩
    | inr b =>
      exact ⟨fun r e2 => (by have e3 := (lpE_r e).symm.trans e2; cases e3), fun r e2 => (by have e3 := (lpE_r e).symm.trans e2; cases e3; exact hb.2 _ e)⟩
def v241 (q : QT) (cc gc : Nat) (h : pm_H) (c : Nat) : Int32 × pm_H := Sum.elim (fun a3 => ((Int32.ofInt (-1)), a3)) (fun r4 => (r4.1, r4.2)) (v241_2 q cc gc c (100 - 1) 1 h)
theorem v241_ok {n fr lo sl cc gc : Nat} {q : QT} {h : pm_H} {R : pm_Rs} {c : Nat} (hw : HC q cc gc h) (h_c : c < 10000) (hh : pm_run PT n fr lo 241 (0, pm_l0 [.ref 162, .int (nI c)] 4, [], h, 198, sl) = some R) : R = (some (.int ((v241 q cc gc h c).1)), (v241 q cc gc h c).2, 198, sl) ∧ HC q cc gc ((v241 q cc gc h c).2) ∧ frm [162, 171] [(162, 41)] h ((v241 q cc gc h c).2) := by
  have hcc := hw.cb
  have hgc := hw.gb
  have hzr := hw.zr
  obtain ⟨n, hh⟩ := rn_i rfl rfl rfl rfl hh
  obtain ⟨n, hh⟩ := rn_i rfl rfl rfl rfl hh
  have hh : pm_run PT n fr lo 241 (2, [some (.ref 162), some (.int (nI c)), some (.int (nI 1)), none], [], h, 198, sl) = some R := hh
  rcases v241_2_ok (m1 := c)  (i := 1) (o3 := none) (j := (100 - 1)) (by omega) (by omega) hw (by omega) hh with ⟨n, a3, u2, u1, hs5, hc_a3, hf_a3, hh⟩ | ⟨r4, hs5, hc_r4, hf_r4, er_r4⟩
  ·
    have hh : pm_run PT n fr lo 241 (64, [some (.ref 162), some (.int (nI c)), u2, u1], [], a3, 198, sl) = some R := hh
    obtain ⟨n, hh⟩ := rn_i rfl rfl rfl rfl hh
    have hh : pm_run PT n fr lo 241 (65, [some (.ref 162), some (.int (nI c)), u2, u1], [.int (Int32.ofInt (-1))], a3, 198, sl) = some R := hh
    have er6 : R = (some (.int (Int32.ofInt (-1))), a3, 198, sl) := (rn_ret rfl (Or.inl rfl) hh).2
    have ed : v241 q cc gc h c = ((Int32.ofInt (-1)), a3) := (se_l hs5).trans rfl
    refine ⟨?_, ?_, ?_⟩ <;> rw [ed]
    · exact er6
    · exact hc_a3
    · exact (fr_g rfl rfl hf_a3 fr_0)
  ·
    have ed : v241 q cc gc h c = (r4.1, r4.2) := (se_r hs5).trans rfl
    refine ⟨?_, ?_, ?_⟩ <;> rw [ed]
    · exact er_r4
    · exact hc_r4
    · exact (fr_g rfl rfl hf_r4 fr_0)
theorem v241_fr {cc gc : Nat} {q : QT} {h : pm_H} {c : Nat} (hw : HC q cc gc h) : HC q cc gc ((v241 q cc gc h c).2) ∧ frm [162, 171] [(162, 41)] h ((v241 q cc gc h c).2) := by
  unfold v241
  have hp_a3 := v241_2_fr (m1 := c) (j := (100 - 1)) (i := 1) hw
  cases hs_a3 : v241_2 q cc gc c (100 - 1) 1 h with
  | inl a3 =>
    obtain ⟨hc_a3, hf_a3⟩ := hp_a3.1 _ hs_a3
    show HC q cc gc (a3) ∧ frm [162, 171] [(162, 41)] h (a3)
    exact ⟨hc_a3, (fr_g rfl rfl hf_a3 fr_0)⟩
  | inr r4 =>
    obtain ⟨hc_r4, hf_r4⟩ := hp_a3.2 _ hs_a3
    show HC q cc gc (r4.2) ∧ frm [162, 171] [(162, 41)] h (r4.2)
    exact ⟨hc_r4, (fr_g rfl rfl hf_r4 fr_0)⟩
def v250_39b (q : QT) (cc gc : Nat) (d0 : Nat → Int32) (t1 : Int32) (m2 : Nat) (i : Nat) (x3 : Int32) : (Int32) ⊕ (Int32) := cond (pm_cmp .eq x3 0) (.inr x3) (.inl (cond (cond (v164 q cc gc (nI m2) (nI i)) (cond (pm_cmp .ne (((nI m2) &&& ((nI (2 ^ i)) ^^^ (Int32.ofInt (-1)))) &&& ((v202 q cc gc (d0) i) ^^^ (Int32.ofInt (-1)))) 0) false true) true) 1 0))
def v250_39 (q : QT) (cc gc : Nat) (d0 : Nat → Int32) (t1 : Int32) (m2 : Nat) (j i : Nat) (a : Int32) : (Int32) ⊕ (Int32) := lpE (fun i a => v250_39b q cc gc d0 t1 m2 i a) j i a
theorem v250_39_e {n fr lo sl cc gc : Nat} {q : QT} {h : pm_H} {R : pm_Rs} {t1 : Int32} {m2 : Nat} {i : Nat} {x3 : Int32} (hw : HC q cc gc h) (h_m2 : m2 < 10000) (hi : cc ≤ i) (hI : i < 1000000) (hh : pm_run PT n fr lo 250 (39, [some (.ref 162), some (.int t1), some (.int (nI m2)), some (.int x3), some (.int (nI i))], [], h, 198, sl) = some R) : ∃ m, pm_run PT m fr lo 250 (93, [some (.ref 162), some (.int t1), some (.int (nI m2)), some (.int x3), some (.int (nI i))], [], h, 198, sl) = some R := by
  have hcc := hw.cb
  have hgc := hw.gb
  have hzr := hw.zr
  obtain ⟨n, hh⟩ := rn_i rfl rfl rfl rfl hh
  obtain ⟨n, hh⟩ := rn_i rfl rfl rfl rfl hh
  have hh : pm_run PT n fr lo 250 (42, [some (.ref 162), some (.int t1), some (.int (nI m2)), some (.int x3), some (.int (nI i))], [.ref 162, .int (nI i)], h, 198, sl) = some R := hh
  obtain ⟨n, hh⟩ := rn_gi (x := nI cc) hw.wt rfl rfl (by decide) rfl (by decide) rfl hw.m3 hh
  have hh : pm_run PT n fr lo 250 (45, [some (.ref 162), some (.int t1), some (.int (nI m2)), some (.int x3), some (.int (nI i))], [.int (nI cc), .int (nI i)], h, 198, sl) = some R := hh
  obtain ⟨n, hh⟩ := en_cn (cc := .ge) (off := 48) (t := 93) (b := decide (cc ≤ i)) (hI_ge (by omega) (by omega)) rfl rfl hh
  have hh := en_t (show decide (cc ≤ i) = true from decide_eq_true (by omega)) hh
  have hh : pm_run PT n fr lo 250 (93, [some (.ref 162), some (.int t1), some (.int (nI m2)), some (.int x3), some (.int (nI i))], [], h, 198, sl) = some R := hh
  exact ⟨n, hh⟩
theorem v250_39_s {n fr lo sl cc gc : Nat} {q : QT} {h : pm_H} {R : pm_Rs} {t1 : Int32} {m2 : Nat} {i : Nat} {x3 : Int32} (hw : HC q cc gc h) (h_m2 : m2 < 10000) (hi : i < cc) (hI : i < 1000000) (hh : pm_run PT n fr lo 250 (39, [some (.ref 162), some (.int t1), some (.int (nI m2)), some (.int x3), some (.int (nI i))], [], h, 198, sl) = some R) : (∃ m, ∃ a : Int32, ∃ _u : Unit, v250_39b q cc gc (Ar h 170) t1 m2 i x3 = .inl a ∧ pm_run PT m fr lo 250 (39, [some (.ref 162), some (.int t1), some (.int (nI m2)), some (.int a), some (.int (nI (i + 1)))], [], h, 198, sl) = some R) ∨ (∃ m, ∃ a : Int32, ∃ wc, v250_39b q cc gc (Ar h 170) t1 m2 i x3 = .inr a ∧ pm_run PT m fr lo 250 (93, [some (.ref 162), some (.int t1), some (.int (nI m2)), some (.int a), wc], [], h, 198, sl) = some R) := by
  have hcc := hw.cb
  have hgc := hw.gb
  have hzr := hw.zr
  obtain ⟨n, hh⟩ := rn_i rfl rfl rfl rfl hh
  obtain ⟨n, hh⟩ := rn_i rfl rfl rfl rfl hh
  have hh : pm_run PT n fr lo 250 (42, [some (.ref 162), some (.int t1), some (.int (nI m2)), some (.int x3), some (.int (nI i))], [.ref 162, .int (nI i)], h, 198, sl) = some R := hh
  obtain ⟨n, hh⟩ := rn_gi (x := nI cc) hw.wt rfl rfl (by decide) rfl (by decide) rfl hw.m3 hh
  have hh : pm_run PT n fr lo 250 (45, [some (.ref 162), some (.int t1), some (.int (nI m2)), some (.int x3), some (.int (nI i))], [.int (nI cc), .int (nI i)], h, 198, sl) = some R := hh
  obtain ⟨n, hh⟩ := en_cn (cc := .ge) (off := 48) (t := 93) (b := decide (cc ≤ i)) (hI_ge (by omega) (by omega)) rfl rfl hh
  have hh := en_f (show decide (cc ≤ i) = false from decide_eq_false (by omega)) hh
  have hh : pm_run PT n fr lo 250 (48, [some (.ref 162), some (.int t1), some (.int (nI m2)), some (.int x3), some (.int (nI i))], [], h, 198, sl) = some R := hh
  obtain ⟨n, hh⟩ := rn_i rfl rfl rfl rfl hh
  have hh : pm_run PT n fr lo 250 (49, [some (.ref 162), some (.int t1), some (.int (nI m2)), some (.int x3), some (.int (nI i))], [.int x3], h, 198, sl) = some R := hh
  obtain ⟨n, hh⟩ := en_zn (cc := .eq) (off := 44) (t := 93) (b := pm_cmp .eq x3 0) rfl rfl rfl hh
  cases z7 : pm_cmp .eq x3 0 with
  | true =>
    have hh := en_t z7 hh
    have hh : pm_run PT n fr lo 250 (93, [some (.ref 162), some (.int t1), some (.int (nI m2)), some (.int x3), some (.int (nI i))], [], h, 198, sl) = some R := hh
    have ed : v250_39b q cc gc (Ar h 170) t1 m2 i x3 = .inr x3 := (ct z7).trans rfl
    exact Or.inr ⟨n, _, some (.int (nI i)), ed, hh⟩
  | false =>
    have hh := en_f z7 hh
    have hh : pm_run PT n fr lo 250 (52, [some (.ref 162), some (.int t1), some (.int (nI m2)), some (.int x3), some (.int (nI i))], [], h, 198, sl) = some R := hh
    obtain ⟨n, hh⟩ := rn_i rfl rfl rfl rfl hh
    obtain ⟨n, hh⟩ := rn_i rfl rfl rfl rfl hh
    have hh : pm_run PT n fr lo 250 (55, [some (.ref 162), some (.int t1), some (.int (nI m2)), some (.int x3), some (.int (nI i))], [.int (nI i), .int (nI m2)], h, 198, sl) = some R := hh
    obtain ⟨n, fr1, lo1, r1, hh1, hh⟩ := rn_call (w := 2) (t := 164) rfl rfl hh
    have er8 := v164_ok (a := (nI m2)) (b := (nI i)) hw hh1
    subst er8
    have hh : pm_run PT n fr lo 250 (58, [some (.ref 162), some (.int t1), some (.int (nI m2)), some (.int x3), some (.int (nI i))], [.int (cond (v164 q cc gc (nI m2) (nI i)) 1 0)], h, 198, sl) = some R := hh
    obtain ⟨n, hh⟩ := en_zn (cc := .eq) (off := 23) (t := 81) (b := !(v164 q cc gc (nI m2) (nI i))) eb_eq rfl rfl hh
    have hj14 : ∃ mJ, pm_run PT mJ fr lo 250 (cond (v164 q cc gc (nI m2) (nI i)) (86, [some (.ref 162), some (.int t1), some (.int (nI m2)), some (.int x3), some (.int (nI i))], [.int (cond (cond (pm_cmp .ne (((nI m2) &&& ((nI (2 ^ i)) ^^^ (Int32.ofInt (-1)))) &&& ((v202 q cc gc (Ar h 170) i) ^^^ (Int32.ofInt (-1)))) 0) false true) 1 0)], h, 198, sl) (86, [some (.ref 162), some (.int t1), some (.int (nI m2)), some (.int x3), some (.int (nI i))], [.int (nI 1)], h, 198, sl)) = some R := en_J (fun z9 => by
        have hh := en_nt z9 hh
        have hh : pm_run PT n fr lo 250 (61, [some (.ref 162), some (.int t1), some (.int (nI m2)), some (.int x3), some (.int (nI i))], [], h, 198, sl) = some R := hh
        obtain ⟨n, hh⟩ := rn_i rfl rfl rfl rfl hh
        obtain ⟨n, hh⟩ := rn_i rfl rfl rfl rfl hh
        obtain ⟨n, hh⟩ := rn_i rfl rfl rfl rfl hh
        have hh : pm_run PT n fr lo 250 (65, [some (.ref 162), some (.int t1), some (.int (nI m2)), some (.int x3), some (.int (nI i))], [.int (nI i), .int (nI 1), .int (nI m2)], h, 198, sl) = some R := hh
        have hb10 := en_pw (show i ≤ 8 by omega)
        obtain ⟨n, hh⟩ := en_shl (y := i) (by omega) rfl hh
        have hh : pm_run PT n fr lo 250 (66, [some (.ref 162), some (.int t1), some (.int (nI m2)), some (.int x3), some (.int (nI i))], [.int (nI (2 ^ i)), .int (nI m2)], h, 198, sl) = some R := hh
        obtain ⟨n, hh⟩ := rn_i rfl rfl rfl rfl hh
        obtain ⟨n, hh⟩ := rn_i rfl rfl rfl rfl hh
        obtain ⟨n, hh⟩ := rn_i rfl rfl rfl rfl hh
        obtain ⟨n, hh⟩ := rn_i rfl rfl rfl rfl hh
        obtain ⟨n, hh⟩ := rn_i rfl rfl rfl rfl hh
        have hh : pm_run PT n fr lo 250 (72, [some (.ref 162), some (.int t1), some (.int (nI m2)), some (.int x3), some (.int (nI i))], [.int (nI i), .ref 162, .int ((nI m2) &&& ((nI (2 ^ i)) ^^^ (Int32.ofInt (-1))))], h, 198, sl) = some R := hh
        obtain ⟨n, fr1, lo1, r1, hh1, hh⟩ := rn_call (w := 0) (t := 202) rfl rfl hh
        have er11 := v202_ok (c := i) hw (by omega) hh1
        subst er11
        obtain ⟨n, hh⟩ := rn_i rfl rfl rfl rfl hh
        obtain ⟨n, hh⟩ := rn_i rfl rfl rfl rfl hh
        obtain ⟨n, hh⟩ := rn_i rfl rfl rfl rfl hh
        have hh : pm_run PT n fr lo 250 (78, [some (.ref 162), some (.int t1), some (.int (nI m2)), some (.int x3), some (.int (nI i))], [.int (((nI m2) &&& ((nI (2 ^ i)) ^^^ (Int32.ofInt (-1)))) &&& ((v202 q cc gc (Ar h 170) i) ^^^ (Int32.ofInt (-1))))], h, 198, sl) = some R := hh
        obtain ⟨n, hh⟩ := en_zn (cc := .ne) (off := 7) (t := 85) (b := pm_cmp .ne (((nI m2) &&& ((nI (2 ^ i)) ^^^ (Int32.ofInt (-1)))) &&& ((v202 q cc gc (Ar h 170) i) ^^^ (Int32.ofInt (-1)))) 0) rfl rfl rfl hh
        have hj13 : ∃ mJ, pm_run PT mJ fr lo 250 (cond (pm_cmp .ne (((nI m2) &&& ((nI (2 ^ i)) ^^^ (Int32.ofInt (-1)))) &&& ((v202 q cc gc (Ar h 170) i) ^^^ (Int32.ofInt (-1)))) 0) (86, [some (.ref 162), some (.int t1), some (.int (nI m2)), some (.int x3), some (.int (nI i))], [.int (nI 0)], h, 198, sl) (86, [some (.ref 162), some (.int t1), some (.int (nI m2)), some (.int x3), some (.int (nI i))], [.int (nI 1)], h, 198, sl)) = some R := en_J (fun z12 => by
            have hh := en_t z12 hh
            have hh : pm_run PT n fr lo 250 (85, [some (.ref 162), some (.int t1), some (.int (nI m2)), some (.int x3), some (.int (nI i))], [], h, 198, sl) = some R := hh
            obtain ⟨n, hh⟩ := rn_i rfl rfl rfl rfl hh
            exact ⟨n, hh⟩) (fun z12 => by
            have hh := en_f z12 hh
            have hh : pm_run PT n fr lo 250 (81, [some (.ref 162), some (.int t1), some (.int (nI m2)), some (.int x3), some (.int (nI i))], [], h, 198, sl) = some R := hh
            obtain ⟨n, hh⟩ := rn_i rfl rfl rfl rfl hh
            obtain ⟨n, hh⟩ := rn_i rfl rfl rfl rfl hh
            exact ⟨n, hh⟩)
        obtain ⟨n, hh⟩ := hj13
        rw [show (cond (pm_cmp .ne (((nI m2) &&& ((nI (2 ^ i)) ^^^ (Int32.ofInt (-1)))) &&& ((v202 q cc gc (Ar h 170) i) ^^^ (Int32.ofInt (-1)))) 0) (86, [some (.ref 162), some (.int t1), some (.int (nI m2)), some (.int x3), some (.int (nI i))], [.int (nI 0)], h, 198, sl) (86, [some (.ref 162), some (.int t1), some (.int (nI m2)), some (.int x3), some (.int (nI i))], [.int (nI 1)], h, 198, sl) : pm_St) = (86, [some (.ref 162), some (.int t1), some (.int (nI m2)), some (.int x3), some (.int (nI i))], [.int (cond (cond (pm_cmp .ne (((nI m2) &&& ((nI (2 ^ i)) ^^^ (Int32.ofInt (-1)))) &&& ((v202 q cc gc (Ar h 170) i) ^^^ (Int32.ofInt (-1)))) 0) false true) 1 0)], h, 198, sl) from by cases (pm_cmp .ne (((nI m2) &&& ((nI (2 ^ i)) ^^^ (Int32.ofInt (-1)))) &&& ((v202 q cc gc (Ar h 170) i) ^^^ (Int32.ofInt (-1)))) 0) <;> rfl] at hh
        exact ⟨n, hh⟩) (fun z9 => by
        have hh := en_nf z9 hh
        have hh : pm_run PT n fr lo 250 (81, [some (.ref 162), some (.int t1), some (.int (nI m2)), some (.int x3), some (.int (nI i))], [], h, 198, sl) = some R := hh
        obtain ⟨n, hh⟩ := rn_i rfl rfl rfl rfl hh
        obtain ⟨n, hh⟩ := rn_i rfl rfl rfl rfl hh
        exact ⟨n, hh⟩)
    obtain ⟨n, hh⟩ := hj14
    rw [show (cond (v164 q cc gc (nI m2) (nI i)) (86, [some (.ref 162), some (.int t1), some (.int (nI m2)), some (.int x3), some (.int (nI i))], [.int (cond (cond (pm_cmp .ne (((nI m2) &&& ((nI (2 ^ i)) ^^^ (Int32.ofInt (-1)))) &&& ((v202 q cc gc (Ar h 170) i) ^^^ (Int32.ofInt (-1)))) 0) false true) 1 0)], h, 198, sl) (86, [some (.ref 162), some (.int t1), some (.int (nI m2)), some (.int x3), some (.int (nI i))], [.int (nI 1)], h, 198, sl) : pm_St) = (86, [some (.ref 162), some (.int t1), some (.int (nI m2)), some (.int x3), some (.int (nI i))], [.int (cond (cond (v164 q cc gc (nI m2) (nI i)) (cond (pm_cmp .ne (((nI m2) &&& ((nI (2 ^ i)) ^^^ (Int32.ofInt (-1)))) &&& ((v202 q cc gc (Ar h 170) i) ^^^ (Int32.ofInt (-1)))) 0) false true) true) 1 0)], h, 198, sl) from by cases (v164 q cc gc (nI m2) (nI i)) <;> rfl] at hh
    obtain ⟨n, hh⟩ := rn_i rfl rfl rfl rfl hh
    have hh : pm_run PT n fr lo 250 (87, [some (.ref 162), some (.int t1), some (.int (nI m2)), some (.int (cond (cond (v164 q cc gc (nI m2) (nI i)) (cond (pm_cmp .ne (((nI m2) &&& ((nI (2 ^ i)) ^^^ (Int32.ofInt (-1)))) &&& ((v202 q cc gc (Ar h 170) i) ^^^ (Int32.ofInt (-1)))) 0) false true) true) 1 0)), some (.int (nI i))], [], h, 198, sl) = some R := hh
    obtain ⟨n, hh⟩ := en_inc (x := i) (c := 1) (j := 4) rfl rfl (by decide) hh
    have hh : pm_run PT n fr lo 250 (90, [some (.ref 162), some (.int t1), some (.int (nI m2)), some (.int (cond (cond (v164 q cc gc (nI m2) (nI i)) (cond (pm_cmp .ne (((nI m2) &&& ((nI (2 ^ i)) ^^^ (Int32.ofInt (-1)))) &&& ((v202 q cc gc (Ar h 170) i) ^^^ (Int32.ofInt (-1)))) 0) false true) true) 1 0)), some (.int (nI (i + 1)))], [], h, 198, sl) = some R := hh
    obtain ⟨n, hh⟩ := rn_i rfl rfl rfl rfl hh
    have ed : v250_39b q cc gc (Ar h 170) t1 m2 i x3 = .inl (cond (cond (v164 q cc gc (nI m2) (nI i)) (cond (pm_cmp .ne (((nI m2) &&& ((nI (2 ^ i)) ^^^ (Int32.ofInt (-1)))) &&& ((v202 q cc gc (Ar h 170) i) ^^^ (Int32.ofInt (-1)))) 0) false true) true) 1 0) := (cf z7).trans rfl
    exact Or.inl ⟨n, _, (), ed, hh⟩
theorem v250_39_ok {fr lo sl cc gc : Nat} {q : QT} {R : pm_Rs} {t1 : Int32} {m2 : Nat} : ∀ {j i : Nat} {x3 : Int32} {h : pm_H} {n : Nat}, cc - i = j → i + j < 1000000 → HC q cc gc h → m2 < 10000 → pm_run PT n fr lo 250 (39, [some (.ref 162), some (.int t1), some (.int (nI m2)), some (.int x3), some (.int (nI i))], [], h, 198, sl) = some R → (∃ m, ∃ a : Int32, ∃ wc, v250_39 q cc gc (Ar h 170) t1 m2 j i x3 = .inl a ∧ pm_run PT m fr lo 250 (93, [some (.ref 162), some (.int t1), some (.int (nI m2)), some (.int a), wc], [], h, 198, sl) = some R) ∨ (∃ m, ∃ a : Int32, ∃ wc, v250_39 q cc gc (Ar h 170) t1 m2 j i x3 = .inr a ∧ pm_run PT m fr lo 250 (93, [some (.ref 162), some (.int t1), some (.int (nI m2)), some (.int a), wc], [], h, 198, sl) = some R) := by
  intro j
  induction j with
  | zero =>
    intro i x3 h n e eI hw h_m2 hh
    obtain ⟨n, hh⟩ := v250_39_e hw h_m2 (by omega) (by omega) hh
    exact Or.inl ⟨n, _, _, rfl, hh⟩
  | succ j ih =>
    intro i x3 h n e eI hw h_m2 hh
    rcases v250_39_s hw h_m2 (by omega) (by omega) hh with ⟨n, a, _, e1, hh⟩ | ⟨n, a, wc, e1, hh⟩
    · rcases ih (by omega) (by omega) hw h_m2 hh with ⟨n, b, wc, e2, hh⟩ | ⟨n, b, wc, e2, hh⟩
      · exact Or.inl ⟨n, b, wc, (lpE_l e1).trans e2, hh⟩
      · exact Or.inr ⟨n, b, wc, (lpE_l e1).trans e2, hh⟩
    · exact Or.inr ⟨n, a, wc, lpE_r e1, hh⟩
def v250_9b (q : QT) (cc gc : Nat) (d0 : Nat → Int32) (i : Nat) (x1 : Int32) : Int32 := Sum.elim (fun a8 => cond (pm_cmp .eq a8 0) x1 (nI i)) (fun r9 => cond (pm_cmp .eq r9 0) x1 (nI i)) (v250_39 q cc gc (d0) x1 i cc 0 (cond (cond (pm_cmp .le (v270 q cc gc (nI i)) (v270 q cc gc x1)) false true) 1 0))
def v250_9 (q : QT) (cc gc : Nat) (d0 : Nat → Int32) (j i : Nat) (a : Int32) : Int32 := lp (fun i a => v250_9b q cc gc d0 i a) j i a
theorem v250_9_e {n fr lo sl cc gc : Nat} {q : QT} {h : pm_H} {R : pm_Rs} {i : Nat} {x1 : Int32} {o3 : Option Value} {o4 : Option Value} (hw : HC q cc gc h) (hi : 2 ^ cc ≤ i) (hI : i < 1000000) (hh : pm_run PT n fr lo 250 (9, [some (.ref 162), some (.int x1), some (.int (nI i)), o3, o4], [], h, 198, sl) = some R) : ∃ m, pm_run PT m fr lo 250 (109, [some (.ref 162), some (.int x1), some (.int (nI i)), o3, o4], [], h, 198, sl) = some R := by
  have hcc := hw.cb
  have hgc := hw.gb
  have hzr := hw.zr
  obtain ⟨n, hh⟩ := rn_i rfl rfl rfl rfl hh
  obtain ⟨n, hh⟩ := rn_i rfl rfl rfl rfl hh
  obtain ⟨n, hh⟩ := rn_i rfl rfl rfl rfl hh
  have hh : pm_run PT n fr lo 250 (12, [some (.ref 162), some (.int x1), some (.int (nI i)), o3, o4], [.ref 162, .int (nI 1), .int (nI i)], h, 198, sl) = some R := hh
  obtain ⟨n, hh⟩ := rn_gi (x := nI cc) hw.wt rfl rfl (by decide) rfl (by decide) rfl hw.m3 hh
  have hh : pm_run PT n fr lo 250 (15, [some (.ref 162), some (.int x1), some (.int (nI i)), o3, o4], [.int (nI cc), .int (nI 1), .int (nI i)], h, 198, sl) = some R := hh
  have hb1 := en_pw (show cc ≤ 8 by omega)
  obtain ⟨n, hh⟩ := en_shl (y := cc) (by omega) rfl hh
  have hh : pm_run PT n fr lo 250 (16, [some (.ref 162), some (.int x1), some (.int (nI i)), o3, o4], [.int (nI (2 ^ cc)), .int (nI i)], h, 198, sl) = some R := hh
  have hh : pm_run PT n fr lo 250 (16, [some (.ref 162), some (.int x1), some (.int (nI i)), o3, o4], [.int (nI (2 ^ cc)), .int (nI i)], h, 198, sl) = some R := hh
  obtain ⟨n, hh⟩ := en_cn (cc := .ge) (off := 93) (t := 109) (b := decide (2 ^ cc ≤ i)) (hI_ge (by omega) (by omega)) rfl rfl hh
  have hh := en_t (show decide (2 ^ cc ≤ i) = true from decide_eq_true (by omega)) hh
  have hh : pm_run PT n fr lo 250 (109, [some (.ref 162), some (.int x1), some (.int (nI i)), o3, o4], [], h, 198, sl) = some R := hh
  exact ⟨n, hh⟩
theorem v250_9_s {n fr lo sl cc gc : Nat} {q : QT} {h : pm_H} {R : pm_Rs} {i : Nat} {x1 : Int32} {o3 : Option Value} {o4 : Option Value} (hw : HC q cc gc h) (hi : i < 2 ^ cc) (hI : i < 1000000) (hh : pm_run PT n fr lo 250 (9, [some (.ref 162), some (.int x1), some (.int (nI i)), o3, o4], [], h, 198, sl) = some R) : ∃ m w3 w4, pm_run PT m fr lo 250 (9, [some (.ref 162), some (.int (v250_9b q cc gc (Ar h 170) i x1)), some (.int (nI (i + 1))), w3, w4], [], h, 198, sl) = some R := by
  have hcc := hw.cb
  have hgc := hw.gb
  have hzr := hw.zr
  obtain ⟨n, hh⟩ := rn_i rfl rfl rfl rfl hh
  obtain ⟨n, hh⟩ := rn_i rfl rfl rfl rfl hh
  obtain ⟨n, hh⟩ := rn_i rfl rfl rfl rfl hh
  have hh : pm_run PT n fr lo 250 (12, [some (.ref 162), some (.int x1), some (.int (nI i)), o3, o4], [.ref 162, .int (nI 1), .int (nI i)], h, 198, sl) = some R := hh
  obtain ⟨n, hh⟩ := rn_gi (x := nI cc) hw.wt rfl rfl (by decide) rfl (by decide) rfl hw.m3 hh
  have hh : pm_run PT n fr lo 250 (15, [some (.ref 162), some (.int x1), some (.int (nI i)), o3, o4], [.int (nI cc), .int (nI 1), .int (nI i)], h, 198, sl) = some R := hh
  have hb2 := en_pw (show cc ≤ 8 by omega)
  obtain ⟨n, hh⟩ := en_shl (y := cc) (by omega) rfl hh
  have hh : pm_run PT n fr lo 250 (16, [some (.ref 162), some (.int x1), some (.int (nI i)), o3, o4], [.int (nI (2 ^ cc)), .int (nI i)], h, 198, sl) = some R := hh
  have hh : pm_run PT n fr lo 250 (16, [some (.ref 162), some (.int x1), some (.int (nI i)), o3, o4], [.int (nI (2 ^ cc)), .int (nI i)], h, 198, sl) = some R := hh
  obtain ⟨n, hh⟩ := en_cn (cc := .ge) (off := 93) (t := 109) (b := decide (2 ^ cc ≤ i)) (hI_ge (by omega) (by omega)) rfl rfl hh
  have hh := en_f (show decide (2 ^ cc ≤ i) = false from decide_eq_false (by omega)) hh
  have hh : pm_run PT n fr lo 250 (19, [some (.ref 162), some (.int x1), some (.int (nI i)), o3, o4], [], h, 198, sl) = some R := hh
  obtain ⟨n, hh⟩ := rn_i rfl rfl rfl rfl hh
  have hh : pm_run PT n fr lo 250 (20, [some (.ref 162), some (.int x1), some (.int (nI i)), o3, o4], [.int (nI i)], h, 198, sl) = some R := hh
  obtain ⟨n, fr1, lo1, r1, hh1, hh⟩ := rn_call (w := 2) (t := 270) rfl rfl hh
  have er3 := v270_ok (a := (nI i)) hw hh1
  subst er3
  obtain ⟨n, hh⟩ := rn_i rfl rfl rfl rfl hh
  have hh : pm_run PT n fr lo 250 (24, [some (.ref 162), some (.int x1), some (.int (nI i)), o3, o4], [.int x1, .int (v270 q cc gc (nI i))], h, 198, sl) = some R := hh
  obtain ⟨n, fr1, lo1, r1, hh1, hh⟩ := rn_call (w := 2) (t := 270) rfl rfl hh
  have er4 := v270_ok (a := x1) hw hh1
  subst er4
  have hh : pm_run PT n fr lo 250 (27, [some (.ref 162), some (.int x1), some (.int (nI i)), o3, o4], [.int (v270 q cc gc x1), .int (v270 q cc gc (nI i))], h, 198, sl) = some R := hh
  obtain ⟨n, hh⟩ := en_cn (cc := .le) (off := 7) (t := 34) (b := pm_cmp .le (v270 q cc gc (nI i)) (v270 q cc gc x1)) rfl rfl rfl hh
  have hj6 : ∃ mJ, pm_run PT mJ fr lo 250 (cond (pm_cmp .le (v270 q cc gc (nI i)) (v270 q cc gc x1)) (35, [some (.ref 162), some (.int x1), some (.int (nI i)), o3, o4], [.int (nI 0)], h, 198, sl) (35, [some (.ref 162), some (.int x1), some (.int (nI i)), o3, o4], [.int (nI 1)], h, 198, sl)) = some R := en_J (fun z5 => by
      have hh := en_t z5 hh
      have hh : pm_run PT n fr lo 250 (34, [some (.ref 162), some (.int x1), some (.int (nI i)), o3, o4], [], h, 198, sl) = some R := hh
      obtain ⟨n, hh⟩ := rn_i rfl rfl rfl rfl hh
      exact ⟨n, hh⟩) (fun z5 => by
      have hh := en_f z5 hh
      have hh : pm_run PT n fr lo 250 (30, [some (.ref 162), some (.int x1), some (.int (nI i)), o3, o4], [], h, 198, sl) = some R := hh
      obtain ⟨n, hh⟩ := rn_i rfl rfl rfl rfl hh
      obtain ⟨n, hh⟩ := rn_i rfl rfl rfl rfl hh
      exact ⟨n, hh⟩)
  obtain ⟨n, hh⟩ := hj6
  rw [show (cond (pm_cmp .le (v270 q cc gc (nI i)) (v270 q cc gc x1)) (35, [some (.ref 162), some (.int x1), some (.int (nI i)), o3, o4], [.int (nI 0)], h, 198, sl) (35, [some (.ref 162), some (.int x1), some (.int (nI i)), o3, o4], [.int (nI 1)], h, 198, sl) : pm_St) = (35, [some (.ref 162), some (.int x1), some (.int (nI i)), o3, o4], [.int (cond (cond (pm_cmp .le (v270 q cc gc (nI i)) (v270 q cc gc x1)) false true) 1 0)], h, 198, sl) from by cases (pm_cmp .le (v270 q cc gc (nI i)) (v270 q cc gc x1)) <;> rfl] at hh
  obtain ⟨n, hh⟩ := rn_i rfl rfl rfl rfl hh
  obtain ⟨n, hh⟩ := rn_i rfl rfl rfl rfl hh
  obtain ⟨n, hh⟩ := rn_i rfl rfl rfl rfl hh
  have hh : pm_run PT n fr lo 250 (39, [some (.ref 162), some (.int x1), some (.int (nI i)), some (.int (cond (cond (pm_cmp .le (v270 q cc gc (nI i)) (v270 q cc gc x1)) false true) 1 0)), some (.int (nI 0))], [], h, 198, sl) = some R := hh
  rcases v250_39_ok (t1 := x1) (m2 := i)  (i := 0) (x3 := (cond (cond (pm_cmp .le (v270 q cc gc (nI i)) (v270 q cc gc x1)) false true) 1 0)) (j := cc) (by omega) (by omega) hw (by omega) hh with ⟨n, a8, u7, hs10, hh⟩ | ⟨n, r9, u7, hs10, hh⟩
  ·
    have hh : pm_run PT n fr lo 250 (93, [some (.ref 162), some (.int x1), some (.int (nI i)), some (.int a8), u7], [], h, 198, sl) = some R := hh
    obtain ⟨n, hh⟩ := rn_i rfl rfl rfl rfl hh
    have hh : pm_run PT n fr lo 250 (94, [some (.ref 162), some (.int x1), some (.int (nI i)), some (.int a8), u7], [.int a8], h, 198, sl) = some R := hh
    obtain ⟨n, hh⟩ := en_zn (cc := .eq) (off := 7) (t := 101) (b := pm_cmp .eq a8 0) rfl rfl rfl hh
    have hj12 : ∃ mJ, pm_run PT mJ fr lo 250 (cond (pm_cmp .eq a8 0) (102, [some (.ref 162), some (.int x1), some (.int (nI i)), some (.int a8), u7], [.int x1], h, 198, sl) (102, [some (.ref 162), some (.int x1), some (.int (nI i)), some (.int a8), u7], [.int (nI i)], h, 198, sl)) = some R := en_J (fun z11 => by
        have hh := en_t z11 hh
        have hh : pm_run PT n fr lo 250 (101, [some (.ref 162), some (.int x1), some (.int (nI i)), some (.int a8), u7], [], h, 198, sl) = some R := hh
        obtain ⟨n, hh⟩ := rn_i rfl rfl rfl rfl hh
        exact ⟨n, hh⟩) (fun z11 => by
        have hh := en_f z11 hh
        have hh : pm_run PT n fr lo 250 (97, [some (.ref 162), some (.int x1), some (.int (nI i)), some (.int a8), u7], [], h, 198, sl) = some R := hh
        obtain ⟨n, hh⟩ := rn_i rfl rfl rfl rfl hh
        obtain ⟨n, hh⟩ := rn_i rfl rfl rfl rfl hh
        exact ⟨n, hh⟩)
    obtain ⟨n, hh⟩ := hj12
    rw [show (cond (pm_cmp .eq a8 0) (102, [some (.ref 162), some (.int x1), some (.int (nI i)), some (.int a8), u7], [.int x1], h, 198, sl) (102, [some (.ref 162), some (.int x1), some (.int (nI i)), some (.int a8), u7], [.int (nI i)], h, 198, sl) : pm_St) = (102, [some (.ref 162), some (.int x1), some (.int (nI i)), some (.int a8), u7], [.int (cond (pm_cmp .eq a8 0) x1 (nI i))], h, 198, sl) from by cases (pm_cmp .eq a8 0) <;> rfl] at hh
    obtain ⟨n, hh⟩ := rn_i rfl rfl rfl rfl hh
    have hh : pm_run PT n fr lo 250 (103, [some (.ref 162), some (.int (cond (pm_cmp .eq a8 0) x1 (nI i))), some (.int (nI i)), some (.int a8), u7], [], h, 198, sl) = some R := hh
    obtain ⟨n, hh⟩ := en_inc (x := i) (c := 1) (j := 2) rfl rfl (by decide) hh
    have hh : pm_run PT n fr lo 250 (106, [some (.ref 162), some (.int (cond (pm_cmp .eq a8 0) x1 (nI i))), some (.int (nI (i + 1))), some (.int a8), u7], [], h, 198, sl) = some R := hh
    obtain ⟨n, hh⟩ := rn_i rfl rfl rfl rfl hh
    have ed : v250_9b q cc gc (Ar h 170) i x1 = cond (pm_cmp .eq a8 0) x1 (nI i) := (se_l hs10).trans rfl
    rw [ed]
    exact ⟨n, some (.int a8), u7, hh⟩
  ·
    have hh : pm_run PT n fr lo 250 (93, [some (.ref 162), some (.int x1), some (.int (nI i)), some (.int r9), u7], [], h, 198, sl) = some R := hh
    obtain ⟨n, hh⟩ := rn_i rfl rfl rfl rfl hh
    have hh : pm_run PT n fr lo 250 (94, [some (.ref 162), some (.int x1), some (.int (nI i)), some (.int r9), u7], [.int r9], h, 198, sl) = some R := hh
    obtain ⟨n, hh⟩ := en_zn (cc := .eq) (off := 7) (t := 101) (b := pm_cmp .eq r9 0) rfl rfl rfl hh
    have hj14 : ∃ mJ, pm_run PT mJ fr lo 250 (cond (pm_cmp .eq r9 0) (102, [some (.ref 162), some (.int x1), some (.int (nI i)), some (.int r9), u7], [.int x1], h, 198, sl) (102, [some (.ref 162), some (.int x1), some (.int (nI i)), some (.int r9), u7], [.int (nI i)], h, 198, sl)) = some R := en_J (fun z13 => by
        have hh := en_t z13 hh
        have hh : pm_run PT n fr lo 250 (101, [some (.ref 162), some (.int x1), some (.int (nI i)), some (.int r9), u7], [], h, 198, sl) = some R := hh
        obtain ⟨n, hh⟩ := rn_i rfl rfl rfl rfl hh
        exact ⟨n, hh⟩) (fun z13 => by
        have hh := en_f z13 hh
        have hh : pm_run PT n fr lo 250 (97, [some (.ref 162), some (.int x1), some (.int (nI i)), some (.int r9), u7], [], h, 198, sl) = some R := hh
        obtain ⟨n, hh⟩ := rn_i rfl rfl rfl rfl hh
        obtain ⟨n, hh⟩ := rn_i rfl rfl rfl rfl hh
        exact ⟨n, hh⟩)
    obtain ⟨n, hh⟩ := hj14
    rw [show (cond (pm_cmp .eq r9 0) (102, [some (.ref 162), some (.int x1), some (.int (nI i)), some (.int r9), u7], [.int x1], h, 198, sl) (102, [some (.ref 162), some (.int x1), some (.int (nI i)), some (.int r9), u7], [.int (nI i)], h, 198, sl) : pm_St) = (102, [some (.ref 162), some (.int x1), some (.int (nI i)), some (.int r9), u7], [.int (cond (pm_cmp .eq r9 0) x1 (nI i))], h, 198, sl) from by cases (pm_cmp .eq r9 0) <;> rfl] at hh
    obtain ⟨n, hh⟩ := rn_i rfl rfl rfl rfl hh
    have hh : pm_run PT n fr lo 250 (103, [some (.ref 162), some (.int (cond (pm_cmp .eq r9 0) x1 (nI i))), some (.int (nI i)), some (.int r9), u7], [], h, 198, sl) = some R := hh
    obtain ⟨n, hh⟩ := en_inc (x := i) (c := 1) (j := 2) rfl rfl (by decide) hh
    have hh : pm_run PT n fr lo 250 (106, [some (.ref 162), some (.int (cond (pm_cmp .eq r9 0) x1 (nI i))), some (.int (nI (i + 1))), some (.int r9), u7], [], h, 198, sl) = some R := hh
    obtain ⟨n, hh⟩ := rn_i rfl rfl rfl rfl hh
    have ed : v250_9b q cc gc (Ar h 170) i x1 = cond (pm_cmp .eq r9 0) x1 (nI i) := (se_r hs10).trans rfl
    rw [ed]
    exact ⟨n, some (.int r9), u7, hh⟩
theorem v250_9_ok {fr lo sl cc gc : Nat} {q : QT} {R : pm_Rs} : ∀ {j i : Nat} {x1 : Int32} {o3 : Option Value} {o4 : Option Value} {h : pm_H} {n : Nat}, 2 ^ cc - i = j → i + j < 1000000 → HC q cc gc h → pm_run PT n fr lo 250 (9, [some (.ref 162), some (.int x1), some (.int (nI i)), o3, o4], [], h, 198, sl) = some R → ∃ m wc w3 w4, pm_run PT m fr lo 250 (109, [some (.ref 162), some (.int (v250_9 q cc gc (Ar h 170) j i x1)), wc, w3, w4], [], h, 198, sl) = some R := by
  intro j
  induction j with
  | zero =>
    intro i x1 o3 o4 h n e eI hw hh
    obtain ⟨n, hh⟩ := v250_9_e hw (by omega) (by omega) hh
    exact ⟨n, _, o3, o4, hh⟩
  | succ j ih =>
    intro i x1 o3 o4 h n e eI hw hh
    obtain ⟨n, w3, w4, hh⟩ := v250_9_s hw (by omega) (by omega) hh
    obtain ⟨n, wc, v3, v4, hh⟩ := ih (by omega) (by omega) hw hh
    exact ⟨n, wc, v3, v4, hh⟩
def v250 (q : QT) (cc gc : Nat) (h : pm_H) : Int32 × pm_H := (v270 q cc gc (v250_9 q cc gc (Ar h 170) (2 ^ cc) 0 (nI 0)), v167 q cc gc (fset (fset h 162 0 (.int (nI 0))) 162 1 (.int (nI 0))) (((v250_9 q cc gc (Ar h 170) (2 ^ cc) 0 (nI 0))).toInt64))
theorem v250_ok {n fr lo sl cc gc : Nat} {q : QT} {h : pm_H} {R : pm_Rs} (hw : HC q cc gc h) (hh : pm_run PT n fr lo 250 (0, pm_l0 [.ref 162] 5, [], h, 198, sl) = some R) : R = (some (.int ((v250 q cc gc h).1)), (v250 q cc gc h).2, 198, sl) ∧ HC q cc gc ((v250 q cc gc h).2) ∧ frm [162, 163] [(162, 0), (162, 1)] h ((v250 q cc gc h).2) := by
  have hcc := hw.cb
  have hgc := hw.gb
  have hzr := hw.zr
  obtain ⟨n, hh⟩ := rn_i rfl rfl rfl rfl hh
  obtain ⟨n, hh⟩ := rn_i rfl rfl rfl rfl hh
  have hh : pm_run PT n fr lo 250 (2, [some (.ref 162), none, none, none, none], [.int (nI 0), .ref 162], h, 198, sl) = some R := hh
  obtain ⟨n, hh⟩ := rn_pi hw.wt rfl rfl (by decide) rfl (by decide) rfl hh
  obtain ⟨n, hh⟩ := rn_i rfl rfl rfl rfl hh
  obtain ⟨n, hh⟩ := rn_i rfl rfl rfl rfl hh
  obtain ⟨n, hh⟩ := rn_i rfl rfl rfl rfl hh
  obtain ⟨n, hh⟩ := rn_i rfl rfl rfl rfl hh
  have hh : pm_run PT n fr lo 250 (9, [some (.ref 162), some (.int (nI 0)), some (.int (nI 0)), none, none], [], fset h 162 0 (.int (nI 0)), 198, sl) = some R := hh
  have hb1 := en_pw (show cc ≤ 8 by omega)
  have hb2 := Nat.two_pow_pos cc
  have hl6 := v250_9_ok  (i := 0) (x1 := (nI 0)) (o3 := none) (o4 := none) (j := 2 ^ cc) (by omega) (by omega) (hc_f rfl rfl (by decide) rfl hw) hh
  rw [show Ar (fset h 162 0 (.int (nI 0))) 170 = Ar h 170 from (Ar_f.trans rfl)] at hl6
  obtain ⟨n, u5, u3, u4, hh⟩ := hl6
  have hh : pm_run PT n fr lo 250 (109, [some (.ref 162), some (.int (v250_9 q cc gc (Ar h 170) (2 ^ cc) 0 (nI 0))), u5, u3, u4], [], fset h 162 0 (.int (nI 0)), 198, sl) = some R := hh
  obtain ⟨n, hh⟩ := rn_i rfl rfl rfl rfl hh
  obtain ⟨n, hh⟩ := rn_i rfl rfl rfl rfl hh
  have hh : pm_run PT n fr lo 250 (111, [some (.ref 162), some (.int (v250_9 q cc gc (Ar h 170) (2 ^ cc) 0 (nI 0))), u5, u3, u4], [.int (nI 0), .ref 162], fset h 162 0 (.int (nI 0)), 198, sl) = some R := hh
  obtain ⟨n, hh⟩ := rn_pi (hc_f rfl rfl (by decide) rfl hw).wt rfl rfl (by decide) rfl (by decide) rfl hh
  obtain ⟨n, hh⟩ := rn_i rfl rfl rfl rfl hh
  obtain ⟨n, hh⟩ := rn_i rfl rfl rfl rfl hh
  obtain ⟨n, hh⟩ := rn_i rfl rfl rfl rfl hh
  have hh : pm_run PT n fr lo 250 (117, [some (.ref 162), some (.int (v250_9 q cc gc (Ar h 170) (2 ^ cc) 0 (nI 0))), u5, u3, u4], [.long (((v250_9 q cc gc (Ar h 170) (2 ^ cc) 0 (nI 0))).toInt64), .ref 162], fset (fset h 162 0 (.int (nI 0))) 162 1 (.int (nI 0)), 198, sl) = some R := hh
  obtain ⟨n, fr1, lo1, r1, hh1, hh⟩ := rn_call (w := 0) (t := 167) rfl rfl hh
  obtain ⟨er7, hc8, hf9⟩ := v167_ok (v := (((v250_9 q cc gc (Ar h 170) (2 ^ cc) 0 (nI 0))).toInt64)) (hc_f rfl rfl (by decide) rfl (hc_f rfl rfl (by decide) rfl hw)) hh1
  subst er7
  obtain ⟨n, hh⟩ := rn_i rfl rfl rfl rfl hh
  have hh : pm_run PT n fr lo 250 (121, [some (.ref 162), some (.int (v250_9 q cc gc (Ar h 170) (2 ^ cc) 0 (nI 0))), u5, u3, u4], [.int (v250_9 q cc gc (Ar h 170) (2 ^ cc) 0 (nI 0))], v167 q cc gc (fset (fset h 162 0 (.int (nI 0))) 162 1 (.int (nI 0))) (((v250_9 q cc gc (Ar h 170) (2 ^ cc) 0 (nI 0))).toInt64), 198, sl) = some R := hh
  obtain ⟨n, fr1, lo1, r1, hh1, hh⟩ := rn_call (w := 2) (t := 270) rfl rfl hh
  have er10 := v270_ok (a := (v250_9 q cc gc (Ar h 170) (2 ^ cc) 0 (nI 0))) hc8 hh1
  subst er10
  have hh : pm_run PT n fr lo 250 (124, [some (.ref 162), some (.int (v250_9 q cc gc (Ar h 170) (2 ^ cc) 0 (nI 0))), u5, u3, u4], [.int (v270 q cc gc (v250_9 q cc gc (Ar h 170) (2 ^ cc) 0 (nI 0)))], v167 q cc gc (fset (fset h 162 0 (.int (nI 0))) 162 1 (.int (nI 0))) (((v250_9 q cc gc (Ar h 170) (2 ^ cc) 0 (nI 0))).toInt64), 198, sl) = some R := hh
  have er11 : R = (some (.int (v270 q cc gc (v250_9 q cc gc (Ar h 170) (2 ^ cc) 0 (nI 0)))), v167 q cc gc (fset (fset h 162 0 (.int (nI 0))) 162 1 (.int (nI 0))) (((v250_9 q cc gc (Ar h 170) (2 ^ cc) 0 (nI 0))).toInt64), 198, sl) := (rn_ret rfl (Or.inl rfl) hh).2
  have ed : v250 q cc gc h = (v270 q cc gc (v250_9 q cc gc (Ar h 170) (2 ^ cc) 0 (nI 0)), v167 q cc gc (fset (fset h 162 0 (.int (nI 0))) 162 1 (.int (nI 0))) (((v250_9 q cc gc (Ar h 170) (2 ^ cc) 0 (nI 0))).toInt64)) := rfl
  refine ⟨?_, ?_, ?_⟩ <;> rw [ed]
  · exact er11
  · exact hc8
  · exact (fr_g rfl rfl hf9 (fr_f rfl rfl (fr_f rfl rfl fr_0)))
theorem v250_fr {cc gc : Nat} {q : QT} {h : pm_H} (hw : HC q cc gc h) : HC q cc gc ((v250 q cc gc h).2) ∧ frm [162, 163] [(162, 0), (162, 1)] h ((v250 q cc gc h).2) := by
  unfold v250
  show HC q cc gc (v167 q cc gc (fset (fset h 162 0 (.int (nI 0))) 162 1 (.int (nI 0))) (((v250_9 q cc gc (Ar h 170) (2 ^ cc) 0 (nI 0))).toInt64)) ∧ frm [162, 163] [(162, 0), (162, 1)] h (v167 q cc gc (fset (fset h 162 0 (.int (nI 0))) 162 1 (.int (nI 0))) (((v250_9 q cc gc (Ar h 170) (2 ^ cc) 0 (nI 0))).toInt64))
  exact ⟨(v167_fr (v := (((v250_9 q cc gc (Ar h 170) (2 ^ cc) 0 (nI 0))).toInt64)) (hc_f rfl rfl (by decide) rfl (hc_f rfl rfl (by decide) rfl hw))).1, (fr_g rfl rfl (v167_fr (v := (((v250_9 q cc gc (Ar h 170) (2 ^ cc) 0 (nI 0))).toInt64)) (hc_f rfl rfl (by decide) rfl (hc_f rfl rfl (by decide) rfl hw))).2 (fr_f rfl rfl (fr_f rfl rfl fr_0)))⟩
def v237_2b (q : QT) (cc gc : Nat) (h : pm_H) (m1 : Nat) (i : Nat) : pm_H := aset h 185 6 (upd (Ar h 185) i (cond (decide (¬ i = m1)) (nI 1000000) (nI 0)))
def v237_2 (q : QT) (cc gc : Nat) (m1 : Nat) (j i : Nat) (a : pm_H) : pm_H := lp (fun i a => v237_2b q cc gc a m1 i) j i a
theorem v237_2_e {n fr lo sl cc gc : Nat} {q : QT} {h : pm_H} {R : pm_Rs} {m1 : Nat} {i : Nat} (hw : HC q cc gc h) (h_m1 : m1 < 10000) (hi : cc ≤ i) (hI : i < 1000000) (hh : pm_run PT n fr lo 237 (2, [some (.ref 162), some (.int (nI m1)), some (.int (nI i)), none, none, none], [], h, 198, sl) = some R) : ∃ m, pm_run PT m fr lo 237 (34, [some (.ref 162), some (.int (nI m1)), some (.int (nI i)), none, none, none], [], h, 198, sl) = some R := by
  have hcc := hw.cb
  have hgc := hw.gb
  have hzr := hw.zr
  obtain ⟨n, hh⟩ := rn_i rfl rfl rfl rfl hh
  obtain ⟨n, hh⟩ := rn_i rfl rfl rfl rfl hh
  have hh : pm_run PT n fr lo 237 (4, [some (.ref 162), some (.int (nI m1)), some (.int (nI i)), none, none, none], [.ref 162, .int (nI i)], h, 198, sl) = some R := hh
  obtain ⟨n, hh⟩ := rn_gi (x := nI cc) hw.wt rfl rfl (by decide) rfl (by decide) rfl hw.m3 hh
  have hh : pm_run PT n fr lo 237 (7, [some (.ref 162), some (.int (nI m1)), some (.int (nI i)), none, none, none], [.int (nI cc), .int (nI i)], h, 198, sl) = some R := hh
  obtain ⟨n, hh⟩ := en_cn (cc := .ge) (off := 27) (t := 34) (b := decide (cc ≤ i)) (hI_ge (by omega) (by omega)) rfl rfl hh
  have hh := en_t (show decide (cc ≤ i) = true from decide_eq_true (by omega)) hh
  have hh : pm_run PT n fr lo 237 (34, [some (.ref 162), some (.int (nI m1)), some (.int (nI i)), none, none, none], [], h, 198, sl) = some R := hh
  exact ⟨n, hh⟩
theorem v237_2_s {n fr lo sl cc gc : Nat} {q : QT} {h : pm_H} {R : pm_Rs} {m1 : Nat} {i : Nat} (hw : HC q cc gc h) (h_m1 : m1 < 10000) (hi : i < cc) (hI : i < 1000000) (hh : pm_run PT n fr lo 237 (2, [some (.ref 162), some (.int (nI m1)), some (.int (nI i)), none, none, none], [], h, 198, sl) = some R) : ∃ m, HC q cc gc ((v237_2b q cc gc h m1 i)) ∧ frm [185] [] h ((v237_2b q cc gc h m1 i)) ∧ pm_run PT m fr lo 237 (2, [some (.ref 162), some (.int (nI m1)), some (.int (nI (i + 1))), none, none, none], [], (v237_2b q cc gc h m1 i), 198, sl) = some R := by
  have hcc := hw.cb
  have hgc := hw.gb
  have hzr := hw.zr
  obtain ⟨n, hh⟩ := rn_i rfl rfl rfl rfl hh
  obtain ⟨n, hh⟩ := rn_i rfl rfl rfl rfl hh
  have hh : pm_run PT n fr lo 237 (4, [some (.ref 162), some (.int (nI m1)), some (.int (nI i)), none, none, none], [.ref 162, .int (nI i)], h, 198, sl) = some R := hh
  obtain ⟨n, hh⟩ := rn_gi (x := nI cc) hw.wt rfl rfl (by decide) rfl (by decide) rfl hw.m3 hh
  have hh : pm_run PT n fr lo 237 (7, [some (.ref 162), some (.int (nI m1)), some (.int (nI i)), none, none, none], [.int (nI cc), .int (nI i)], h, 198, sl) = some R := hh
  obtain ⟨n, hh⟩ := en_cn (cc := .ge) (off := 27) (t := 34) (b := decide (cc ≤ i)) (hI_ge (by omega) (by omega)) rfl rfl hh
  have hh := en_f (show decide (cc ≤ i) = false from decide_eq_false (by omega)) hh
  have hh : pm_run PT n fr lo 237 (10, [some (.ref 162), some (.int (nI m1)), some (.int (nI i)), none, none, none], [], h, 198, sl) = some R := hh
  obtain ⟨n, hh⟩ := rn_i rfl rfl rfl rfl hh
  have hh : pm_run PT n fr lo 237 (11, [some (.ref 162), some (.int (nI m1)), some (.int (nI i)), none, none, none], [.ref 162], h, 198, sl) = some R := hh
  obtain ⟨n, hh⟩ := rn_gr hw.wt rfl rfl (by decide) rfl (by decide) (show _ = some (2, ((185 : Nat) : Int), 1) from rfl) rfl hh
  obtain ⟨n, hh⟩ := rn_i rfl rfl rfl rfl hh
  obtain ⟨n, hh⟩ := rn_i rfl rfl rfl rfl hh
  obtain ⟨n, hh⟩ := rn_i rfl rfl rfl rfl hh
  have hh : pm_run PT n fr lo 237 (17, [some (.ref 162), some (.int (nI m1)), some (.int (nI i)), none, none, none], [.int (nI m1), .int (nI i), .int (nI i), .ref 185], h, 198, sl) = some R := hh
  obtain ⟨n, hh⟩ := en_cn (cc := .ne) (off := 7) (t := 24) (b := decide (¬ i = m1)) (hI_ne (by omega) (by omega)) rfl rfl hh
  have hj2 : ∃ mJ, pm_run PT mJ fr lo 237 (cond (decide (¬ i = m1)) (27, [some (.ref 162), some (.int (nI m1)), some (.int (nI i)), none, none, none], [.int (nI 1000000), .int (nI i), .ref 185], h, 198, sl) (27, [some (.ref 162), some (.int (nI m1)), some (.int (nI i)), none, none, none], [.int (nI 0), .int (nI i), .ref 185], h, 198, sl)) = some R := en_J (fun z1 => by
      have hh := en_t z1 hh
      have hh : pm_run PT n fr lo 237 (24, [some (.ref 162), some (.int (nI m1)), some (.int (nI i)), none, none, none], [.int (nI i), .ref 185], h, 198, sl) = some R := hh
      have y_z1 := of_decide_eq_true z1
      obtain ⟨n, hh⟩ := rn_i rfl rfl rfl rfl hh
      exact ⟨n, hh⟩) (fun z1 => by
      have hh := en_f z1 hh
      have hh : pm_run PT n fr lo 237 (20, [some (.ref 162), some (.int (nI m1)), some (.int (nI i)), none, none, none], [.int (nI i), .ref 185], h, 198, sl) = some R := hh
      have y_z1 := of_decide_eq_false z1
      obtain ⟨n, hh⟩ := rn_i rfl rfl rfl rfl hh
      obtain ⟨n, hh⟩ := rn_i rfl rfl rfl rfl hh
      exact ⟨n, hh⟩)
  obtain ⟨n, hh⟩ := hj2
  rw [show (cond (decide (¬ i = m1)) (27, [some (.ref 162), some (.int (nI m1)), some (.int (nI i)), none, none, none], [.int (nI 1000000), .int (nI i), .ref 185], h, 198, sl) (27, [some (.ref 162), some (.int (nI m1)), some (.int (nI i)), none, none, none], [.int (nI 0), .int (nI i), .ref 185], h, 198, sl) : pm_St) = (27, [some (.ref 162), some (.int (nI m1)), some (.int (nI i)), none, none, none], [.int (cond (decide (¬ i = m1)) (nI 1000000) (nI 0)), .int (nI i), .ref 185], h, 198, sl) from by cases (decide (¬ i = m1)) <;> rfl] at hh
  have hh : pm_run PT n fr lo 237 (27, [some (.ref 162), some (.int (nI m1)), some (.int (nI i)), none, none, none], [.int (cond (decide (¬ i = m1)) (nI 1000000) (nI 0)), .int (nI i), .ref 185], h, 198, sl) = some R := hh
  obtain ⟨n, hx3, hh⟩ := en_st (t := i) (f := Ar h 185) (nI_clamp (by omega)) hw.wt rfl (by decide) rfl (by decide) rfl hh
  have hh : pm_run PT n fr lo 237 (28, [some (.ref 162), some (.int (nI m1)), some (.int (nI i)), none, none, none], [], aset h 185 6 (upd (Ar h 185) i (cond (decide (¬ i = m1)) (nI 1000000) (nI 0))), 198, sl) = some R := hh
  obtain ⟨n, hh⟩ := en_inc (x := i) (c := 1) (j := 2) rfl rfl (by decide) hh
  have hh : pm_run PT n fr lo 237 (31, [some (.ref 162), some (.int (nI m1)), some (.int (nI (i + 1))), none, none, none], [], aset h 185 6 (upd (Ar h 185) i (cond (decide (¬ i = m1)) (nI 1000000) (nI 0))), 198, sl) = some R := hh
  obtain ⟨n, hh⟩ := rn_i rfl rfl rfl rfl hh
  have ed : v237_2b q cc gc h m1 i = aset h 185 6 (upd (Ar h 185) i (cond (decide (¬ i = m1)) (nI 1000000) (nI 0))) := rfl
  rw [ed]
  exact ⟨n, (hc_a rfl rfl hw), (fr_a rfl rfl fr_0), hh⟩
theorem v237_2_ok {fr lo sl cc gc : Nat} {q : QT} {R : pm_Rs} {m1 : Nat} : ∀ {j i : Nat} {h : pm_H} {n : Nat}, cc - i = j → i + j < 1000000 → HC q cc gc h → m1 < 10000 → pm_run PT n fr lo 237 (2, [some (.ref 162), some (.int (nI m1)), some (.int (nI i)), none, none, none], [], h, 198, sl) = some R → ∃ m wc, HC q cc gc ((v237_2 q cc gc m1 j i h)) ∧ frm [185] [] h ((v237_2 q cc gc m1 j i h)) ∧ pm_run PT m fr lo 237 (34, [some (.ref 162), some (.int (nI m1)), wc, none, none, none], [], (v237_2 q cc gc m1 j i h), 198, sl) = some R := by
  intro j
  induction j with
  | zero =>
    intro i h n e eI hw h_m1 hh
    obtain ⟨n, hh⟩ := v237_2_e hw h_m1 (by omega) (by omega) hh
    exact ⟨n, _, hw, fr_0, hh⟩
  | succ j ih =>
    intro i h n e eI hw h_m1 hh
    obtain ⟨n, hc, hf, hh⟩ := v237_2_s hw h_m1 (by omega) (by omega) hh
    obtain ⟨n, wc, hc2, hf2, hh⟩ := ih (by omega) (by omega) hc h_m1 hh
    exact ⟨n, wc, hc2, fr_t hf2 hf, hh⟩
theorem v237_2_fb {cc gc : Nat} {q : QT} {h : pm_H} {m1 : Nat} {i : Nat} (hw : HC q cc gc h) : HC q cc gc ((v237_2b q cc gc h m1 i)) ∧ frm [185] [] h ((v237_2b q cc gc h m1 i)) := by
  unfold v237_2b
  show HC q cc gc (aset h 185 6 (upd (Ar h 185) i (cond (decide (¬ i = m1)) (nI 1000000) (nI 0)))) ∧ frm [185] [] h (aset h 185 6 (upd (Ar h 185) i (cond (decide (¬ i = m1)) (nI 1000000) (nI 0))))
  exact ⟨(hc_a rfl rfl hw), (fr_a rfl rfl fr_0)⟩
theorem v237_2_fr {cc gc : Nat} {q : QT} {m1 : Nat} : ∀ {j i : Nat} {h : pm_H}, HC q cc gc h → HC q cc gc ((v237_2 q cc gc m1 j i h)) ∧ frm [185] [] h ((v237_2 q cc gc m1 j i h)) := by
  intro j
  induction j with
  | zero =>
    intro i h hw
    exact ⟨hw, fr_0⟩
  | succ j ih =>
    intro i h hw
    obtain ⟨a1, a2⟩ := v237_2_fb (i := i) (m1 := m1) hw
    obtain ⟨b1, b2⟩ := ih (i := i + 1) a1
    exact ⟨b1, fr_t b2 a2⟩
def v237_57b (q : QT) (cc gc : Nat) (h : pm_H) (m1 : Nat) (m2 : Nat) (m3 : Nat) (i : Nat) : pm_H := aset h 185 6 (upd (Ar h 185) m3 (cond (pm_cmp .le ((Ar h 169) (6 * m3 + i)) 0) ((Ar h 185) m3) (imin ((Ar h 185) m3) (((Ar h 185) i) + ((Ar h 169) (6 * m3 + i))))))
def v237_57 (q : QT) (cc gc : Nat) (m1 : Nat) (m2 : Nat) (m3 : Nat) (j i : Nat) (a : pm_H) : pm_H := lp (fun i a => v237_57b q cc gc a m1 m2 m3 i) j i a
theorem v237_57_e {n fr lo sl cc gc : Nat} {q : QT} {h : pm_H} {R : pm_Rs} {m1 : Nat} {m2 : Nat} {m3 : Nat} {i : Nat} {o5 : Option Value} (hw : HC q cc gc h) (h_m1 : m1 < 10000) (h_m2 : m2 < 10000) (h_m3 : m3 < 10000) (hi : cc ≤ i) (hI : i < 1000000) (hh : pm_run PT n fr lo 237 (57, [some (.ref 162), some (.int (nI m1)), some (.int (nI m2)), some (.int (nI m3)), some (.int (nI i)), o5], [], h, 198, sl) = some R) : ∃ m, pm_run PT m fr lo 237 (125, [some (.ref 162), some (.int (nI m1)), some (.int (nI m2)), some (.int (nI m3)), some (.int (nI i)), o5], [], h, 198, sl) = some R := by
  have hcc := hw.cb
  have hgc := hw.gb
  have hzr := hw.zr
  obtain ⟨n, hh⟩ := rn_i rfl rfl rfl rfl hh
  obtain ⟨n, hh⟩ := rn_i rfl rfl rfl rfl hh
  have hh : pm_run PT n fr lo 237 (60, [some (.ref 162), some (.int (nI m1)), some (.int (nI m2)), some (.int (nI m3)), some (.int (nI i)), o5], [.ref 162, .int (nI i)], h, 198, sl) = some R := hh
  obtain ⟨n, hh⟩ := rn_gi (x := nI cc) hw.wt rfl rfl (by decide) rfl (by decide) rfl hw.m3 hh
  have hh : pm_run PT n fr lo 237 (63, [some (.ref 162), some (.int (nI m1)), some (.int (nI m2)), some (.int (nI m3)), some (.int (nI i)), o5], [.int (nI cc), .int (nI i)], h, 198, sl) = some R := hh
  obtain ⟨n, hh⟩ := en_cn (cc := .ge) (off := 62) (t := 125) (b := decide (cc ≤ i)) (hI_ge (by omega) (by omega)) rfl rfl hh
  have hh := en_t (show decide (cc ≤ i) = true from decide_eq_true (by omega)) hh
  have hh : pm_run PT n fr lo 237 (125, [some (.ref 162), some (.int (nI m1)), some (.int (nI m2)), some (.int (nI m3)), some (.int (nI i)), o5], [], h, 198, sl) = some R := hh
  exact ⟨n, hh⟩
theorem v237_57_s {n fr lo sl cc gc : Nat} {q : QT} {h : pm_H} {R : pm_Rs} {m1 : Nat} {m2 : Nat} {m3 : Nat} {i : Nat} {o5 : Option Value} (hw : HC q cc gc h) (h_m1 : m1 < 10000) (h_m2 : m2 < 10000) (h_m3 : m3 < 10000) (hi : i < cc) (hI : i < 1000000) (hh : pm_run PT n fr lo 237 (57, [some (.ref 162), some (.int (nI m1)), some (.int (nI m2)), some (.int (nI m3)), some (.int (nI i)), o5], [], h, 198, sl) = some R) : ∃ m w5, HC q cc gc ((v237_57b q cc gc h m1 m2 m3 i)) ∧ frm [185] [] h ((v237_57b q cc gc h m1 m2 m3 i)) ∧ pm_run PT m fr lo 237 (57, [some (.ref 162), some (.int (nI m1)), some (.int (nI m2)), some (.int (nI m3)), some (.int (nI (i + 1))), w5], [], (v237_57b q cc gc h m1 m2 m3 i), 198, sl) = some R := by
  have hcc := hw.cb
  have hgc := hw.gb
  have hzr := hw.zr
  obtain ⟨n, hh⟩ := rn_i rfl rfl rfl rfl hh
  obtain ⟨n, hh⟩ := rn_i rfl rfl rfl rfl hh
  have hh : pm_run PT n fr lo 237 (60, [some (.ref 162), some (.int (nI m1)), some (.int (nI m2)), some (.int (nI m3)), some (.int (nI i)), o5], [.ref 162, .int (nI i)], h, 198, sl) = some R := hh
  obtain ⟨n, hh⟩ := rn_gi (x := nI cc) hw.wt rfl rfl (by decide) rfl (by decide) rfl hw.m3 hh
  have hh : pm_run PT n fr lo 237 (63, [some (.ref 162), some (.int (nI m1)), some (.int (nI m2)), some (.int (nI m3)), some (.int (nI i)), o5], [.int (nI cc), .int (nI i)], h, 198, sl) = some R := hh
  obtain ⟨n, hh⟩ := en_cn (cc := .ge) (off := 62) (t := 125) (b := decide (cc ≤ i)) (hI_ge (by omega) (by omega)) rfl rfl hh
  have hh := en_f (show decide (cc ≤ i) = false from decide_eq_false (by omega)) hh
  have hh : pm_run PT n fr lo 237 (66, [some (.ref 162), some (.int (nI m1)), some (.int (nI m2)), some (.int (nI m3)), some (.int (nI i)), o5], [], h, 198, sl) = some R := hh
  obtain ⟨n, hh⟩ := rn_i rfl rfl rfl rfl hh
  have hh : pm_run PT n fr lo 237 (67, [some (.ref 162), some (.int (nI m1)), some (.int (nI m2)), some (.int (nI m3)), some (.int (nI i)), o5], [.ref 162], h, 198, sl) = some R := hh
  obtain ⟨n, hh⟩ := rn_gr hw.wt rfl rfl (by decide) rfl (by decide) (show _ = some (2, ((169 : Nat) : Int), 1) from rfl) rfl hh
  obtain ⟨n, hh⟩ := rn_i rfl rfl rfl rfl hh
  obtain ⟨n, hh⟩ := rn_i rfl rfl rfl rfl hh
  have hh : pm_run PT n fr lo 237 (73, [some (.ref 162), some (.int (nI m1)), some (.int (nI m2)), some (.int (nI m3)), some (.int (nI i)), o5], [.int (nI m3), .int (nI 6), .ref 169], h, 198, sl) = some R := hh
  obtain ⟨n, hh⟩ := en_mul rfl hh
  have hh : pm_run PT n fr lo 237 (74, [some (.ref 162), some (.int (nI m1)), some (.int (nI m2)), some (.int (nI m3)), some (.int (nI i)), o5], [.int (nI (6 * m3)), .ref 169], h, 198, sl) = some R := hh
  obtain ⟨n, hh⟩ := rn_i rfl rfl rfl rfl hh
  have hh : pm_run PT n fr lo 237 (76, [some (.ref 162), some (.int (nI m1)), some (.int (nI m2)), some (.int (nI m3)), some (.int (nI i)), o5], [.int (nI i), .int (nI (6 * m3)), .ref 169], h, 198, sl) = some R := hh
  obtain ⟨n, hh⟩ := en_add rfl hh
  have hh : pm_run PT n fr lo 237 (77, [some (.ref 162), some (.int (nI m1)), some (.int (nI m2)), some (.int (nI m3)), some (.int (nI i)), o5], [.int (nI (6 * m3 + i)), .ref 169], h, 198, sl) = some R := hh
  have hh : pm_run PT n fr lo 237 (77, [some (.ref 162), some (.int (nI m1)), some (.int (nI m2)), some (.int (nI m3)), some (.int (nI i)), o5], [.int (nI (6 * m3 + i)), .ref 169], h, 198, sl) = some R := hh
  obtain ⟨n, hx4, hh⟩ := en_lu (t := 6 * m3 + i) (f := Ar h 169) (w := (Ar h 169) (6 * m3 + i)) (nI_clamp (by omega)) hw.wt rfl (by decide) rfl (by decide) rfl (fun _ => rfl) hh
  obtain ⟨n, hh⟩ := rn_i rfl rfl rfl rfl hh
  obtain ⟨n, hh⟩ := rn_i rfl rfl rfl rfl hh
  have hh : pm_run PT n fr lo 237 (81, [some (.ref 162), some (.int (nI m1)), some (.int (nI m2)), some (.int (nI m3)), some (.int (nI i)), some (.int ((Ar h 169) (6 * m3 + i)))], [.ref 162], h, 198, sl) = some R := hh
  obtain ⟨n, hh⟩ := rn_gr hw.wt rfl rfl (by decide) rfl (by decide) (show _ = some (2, ((185 : Nat) : Int), 1) from rfl) rfl hh
  obtain ⟨n, hh⟩ := rn_i rfl rfl rfl rfl hh
  obtain ⟨n, hh⟩ := rn_i rfl rfl rfl rfl hh
  have hh : pm_run PT n fr lo 237 (87, [some (.ref 162), some (.int (nI m1)), some (.int (nI m2)), some (.int (nI m3)), some (.int (nI i)), some (.int ((Ar h 169) (6 * m3 + i)))], [.int ((Ar h 169) (6 * m3 + i)), .int (nI m3), .ref 185], h, 198, sl) = some R := hh
  obtain ⟨n, hh⟩ := en_zn (cc := .le) (off := 25) (t := 112) (b := pm_cmp .le ((Ar h 169) (6 * m3 + i)) 0) rfl rfl rfl hh
  have hj9 : ∃ mJ, pm_run PT mJ fr lo 237 (cond (pm_cmp .le ((Ar h 169) (6 * m3 + i)) 0) (118, [some (.ref 162), some (.int (nI m1)), some (.int (nI m2)), some (.int (nI m3)), some (.int (nI i)), some (.int ((Ar h 169) (6 * m3 + i)))], [.int ((Ar h 185) m3), .int (nI m3), .ref 185], h, 198, sl) (118, [some (.ref 162), some (.int (nI m1)), some (.int (nI m2)), some (.int (nI m3)), some (.int (nI i)), some (.int ((Ar h 169) (6 * m3 + i)))], [.int (imin ((Ar h 185) m3) (((Ar h 185) i) + ((Ar h 169) (6 * m3 + i)))), .int (nI m3), .ref 185], h, 198, sl)) = some R := en_J (fun z5 => by
      have hh := en_t z5 hh
      have hh : pm_run PT n fr lo 237 (112, [some (.ref 162), some (.int (nI m1)), some (.int (nI m2)), some (.int (nI m3)), some (.int (nI i)), some (.int ((Ar h 169) (6 * m3 + i)))], [.int (nI m3), .ref 185], h, 198, sl) = some R := hh
      obtain ⟨n, hh⟩ := rn_i rfl rfl rfl rfl hh
      have hh : pm_run PT n fr lo 237 (113, [some (.ref 162), some (.int (nI m1)), some (.int (nI m2)), some (.int (nI m3)), some (.int (nI i)), some (.int ((Ar h 169) (6 * m3 + i)))], [.ref 162, .int (nI m3), .ref 185], h, 198, sl) = some R := hh
      obtain ⟨n, hh⟩ := rn_gr hw.wt rfl rfl (by decide) rfl (by decide) (show _ = some (2, ((185 : Nat) : Int), 1) from rfl) rfl hh
      obtain ⟨n, hh⟩ := rn_i rfl rfl rfl rfl hh
      have hh : pm_run PT n fr lo 237 (117, [some (.ref 162), some (.int (nI m1)), some (.int (nI m2)), some (.int (nI m3)), some (.int (nI i)), some (.int ((Ar h 169) (6 * m3 + i)))], [.int (nI m3), .ref 185, .int (nI m3), .ref 185], h, 198, sl) = some R := hh
      obtain ⟨n, hx6, hh⟩ := en_lu (t := m3) (f := Ar h 185) (w := (Ar h 185) m3) (nI_clamp (by omega)) hw.wt rfl (by decide) rfl (by decide) rfl (fun _ => rfl) hh
      exact ⟨n, hh⟩) (fun z5 => by
      have hh := en_f z5 hh
      have hh : pm_run PT n fr lo 237 (90, [some (.ref 162), some (.int (nI m1)), some (.int (nI m2)), some (.int (nI m3)), some (.int (nI i)), some (.int ((Ar h 169) (6 * m3 + i)))], [.int (nI m3), .ref 185], h, 198, sl) = some R := hh
      obtain ⟨n, hh⟩ := rn_i rfl rfl rfl rfl hh
      have hh : pm_run PT n fr lo 237 (91, [some (.ref 162), some (.int (nI m1)), some (.int (nI m2)), some (.int (nI m3)), some (.int (nI i)), some (.int ((Ar h 169) (6 * m3 + i)))], [.ref 162, .int (nI m3), .ref 185], h, 198, sl) = some R := hh
      obtain ⟨n, hh⟩ := rn_gr hw.wt rfl rfl (by decide) rfl (by decide) (show _ = some (2, ((185 : Nat) : Int), 1) from rfl) rfl hh
      obtain ⟨n, hh⟩ := rn_i rfl rfl rfl rfl hh
      have hh : pm_run PT n fr lo 237 (95, [some (.ref 162), some (.int (nI m1)), some (.int (nI m2)), some (.int (nI m3)), some (.int (nI i)), some (.int ((Ar h 169) (6 * m3 + i)))], [.int (nI m3), .ref 185, .int (nI m3), .ref 185], h, 198, sl) = some R := hh
      obtain ⟨n, hx7, hh⟩ := en_lu (t := m3) (f := Ar h 185) (w := (Ar h 185) m3) (nI_clamp (by omega)) hw.wt rfl (by decide) rfl (by decide) rfl (fun _ => rfl) hh
      obtain ⟨n, hh⟩ := rn_i rfl rfl rfl rfl hh
      have hh : pm_run PT n fr lo 237 (97, [some (.ref 162), some (.int (nI m1)), some (.int (nI m2)), some (.int (nI m3)), some (.int (nI i)), some (.int ((Ar h 169) (6 * m3 + i)))], [.ref 162, .int ((Ar h 185) m3), .int (nI m3), .ref 185], h, 198, sl) = some R := hh
      obtain ⟨n, hh⟩ := rn_gr hw.wt rfl rfl (by decide) rfl (by decide) (show _ = some (2, ((185 : Nat) : Int), 1) from rfl) rfl hh
      obtain ⟨n, hh⟩ := rn_i rfl rfl rfl rfl hh
      have hh : pm_run PT n fr lo 237 (102, [some (.ref 162), some (.int (nI m1)), some (.int (nI m2)), some (.int (nI m3)), some (.int (nI i)), some (.int ((Ar h 169) (6 * m3 + i)))], [.int (nI i), .ref 185, .int ((Ar h 185) m3), .int (nI m3), .ref 185], h, 198, sl) = some R := hh
      obtain ⟨n, hx8, hh⟩ := en_lu (t := i) (f := Ar h 185) (w := (Ar h 185) i) (nI_clamp (by omega)) hw.wt rfl (by decide) rfl (by decide) rfl (fun _ => rfl) hh
      obtain ⟨n, hh⟩ := rn_i rfl rfl rfl rfl hh
      obtain ⟨n, hh⟩ := rn_i rfl rfl rfl rfl hh
      have hh : pm_run PT n fr lo 237 (106, [some (.ref 162), some (.int (nI m1)), some (.int (nI m2)), some (.int (nI m3)), some (.int (nI i)), some (.int ((Ar h 169) (6 * m3 + i)))], [.int (((Ar h 185) i) + ((Ar h 169) (6 * m3 + i))), .int ((Ar h 185) m3), .int (nI m3), .ref 185], h, 198, sl) = some R := hh
      obtain ⟨n, hh⟩ := en_min rfl rfl rfl hh
      obtain ⟨n, hh⟩ := rn_i rfl rfl rfl rfl hh
      exact ⟨n, hh⟩)
  obtain ⟨n, hh⟩ := hj9
  rw [show (cond (pm_cmp .le ((Ar h 169) (6 * m3 + i)) 0) (118, [some (.ref 162), some (.int (nI m1)), some (.int (nI m2)), some (.int (nI m3)), some (.int (nI i)), some (.int ((Ar h 169) (6 * m3 + i)))], [.int ((Ar h 185) m3), .int (nI m3), .ref 185], h, 198, sl) (118, [some (.ref 162), some (.int (nI m1)), some (.int (nI m2)), some (.int (nI m3)), some (.int (nI i)), some (.int ((Ar h 169) (6 * m3 + i)))], [.int (imin ((Ar h 185) m3) (((Ar h 185) i) + ((Ar h 169) (6 * m3 + i)))), .int (nI m3), .ref 185], h, 198, sl) : pm_St) = (118, [some (.ref 162), some (.int (nI m1)), some (.int (nI m2)), some (.int (nI m3)), some (.int (nI i)), some (.int ((Ar h 169) (6 * m3 + i)))], [.int (cond (pm_cmp .le ((Ar h 169) (6 * m3 + i)) 0) ((Ar h 185) m3) (imin ((Ar h 185) m3) (((Ar h 185) i) + ((Ar h 169) (6 * m3 + i))))), .int (nI m3), .ref 185], h, 198, sl) from by cases (pm_cmp .le ((Ar h 169) (6 * m3 + i)) 0) <;> rfl] at hh
  have hh : pm_run PT n fr lo 237 (118, [some (.ref 162), some (.int (nI m1)), some (.int (nI m2)), some (.int (nI m3)), some (.int (nI i)), some (.int ((Ar h 169) (6 * m3 + i)))], [.int (cond (pm_cmp .le ((Ar h 169) (6 * m3 + i)) 0) ((Ar h 185) m3) (imin ((Ar h 185) m3) (((Ar h 185) i) + ((Ar h 169) (6 * m3 + i))))), .int (nI m3), .ref 185], h, 198, sl) = some R := hh
  obtain ⟨n, hx10, hh⟩ := en_st (t := m3) (f := Ar h 185) (nI_clamp (by omega)) hw.wt rfl (by decide) rfl (by decide) rfl hh
  have hh : pm_run PT n fr lo 237 (119, [some (.ref 162), some (.int (nI m1)), some (.int (nI m2)), some (.int (nI m3)), some (.int (nI i)), some (.int ((Ar h 169) (6 * m3 + i)))], [], aset h 185 6 (upd (Ar h 185) m3 (cond (pm_cmp .le ((Ar h 169) (6 * m3 + i)) 0) ((Ar h 185) m3) (imin ((Ar h 185) m3) (((Ar h 185) i) + ((Ar h 169) (6 * m3 + i)))))), 198, sl) = some R := hh
  obtain ⟨n, hh⟩ := en_inc (x := i) (c := 1) (j := 4) rfl rfl (by decide) hh
  have hh : pm_run PT n fr lo 237 (122, [some (.ref 162), some (.int (nI m1)), some (.int (nI m2)), some (.int (nI m3)), some (.int (nI (i + 1))), some (.int ((Ar h 169) (6 * m3 + i)))], [], aset h 185 6 (upd (Ar h 185) m3 (cond (pm_cmp .le ((Ar h 169) (6 * m3 + i)) 0) ((Ar h 185) m3) (imin ((Ar h 185) m3) (((Ar h 185) i) + ((Ar h 169) (6 * m3 + i)))))), 198, sl) = some R := hh
  obtain ⟨n, hh⟩ := rn_i rfl rfl rfl rfl hh
  have ed : v237_57b q cc gc h m1 m2 m3 i = aset h 185 6 (upd (Ar h 185) m3 (cond (pm_cmp .le ((Ar h 169) (6 * m3 + i)) 0) ((Ar h 185) m3) (imin ((Ar h 185) m3) (((Ar h 185) i) + ((Ar h 169) (6 * m3 + i)))))) := rfl
  rw [ed]
  exact ⟨n, some (.int ((Ar h 169) (6 * m3 + i))), (hc_a rfl rfl hw), (fr_a rfl rfl fr_0), hh⟩
theorem v237_57_ok {fr lo sl cc gc : Nat} {q : QT} {R : pm_Rs} {m1 : Nat} {m2 : Nat} {m3 : Nat} : ∀ {j i : Nat} {o5 : Option Value} {h : pm_H} {n : Nat}, cc - i = j → i + j < 1000000 → HC q cc gc h → m1 < 10000 → m2 < 10000 → m3 < 10000 → pm_run PT n fr lo 237 (57, [some (.ref 162), some (.int (nI m1)), some (.int (nI m2)), some (.int (nI m3)), some (.int (nI i)), o5], [], h, 198, sl) = some R → ∃ m wc w5, HC q cc gc ((v237_57 q cc gc m1 m2 m3 j i h)) ∧ frm [185] [] h ((v237_57 q cc gc m1 m2 m3 j i h)) ∧ pm_run PT m fr lo 237 (125, [some (.ref 162), some (.int (nI m1)), some (.int (nI m2)), some (.int (nI m3)), wc, w5], [], (v237_57 q cc gc m1 m2 m3 j i h), 198, sl) = some R := by
  intro j
  induction j with
  | zero =>
    intro i o5 h n e eI hw h_m1 h_m2 h_m3 hh
    obtain ⟨n, hh⟩ := v237_57_e hw h_m1 h_m2 h_m3 (by omega) (by omega) hh
    exact ⟨n, _, o5, hw, fr_0, hh⟩
  | succ j ih =>
    intro i o5 h n e eI hw h_m1 h_m2 h_m3 hh
    obtain ⟨n, w5, hc, hf, hh⟩ := v237_57_s hw h_m1 h_m2 h_m3 (by omega) (by omega) hh
    obtain ⟨n, wc, v5, hc2, hf2, hh⟩ := ih (by omega) (by omega) hc h_m1 h_m2 h_m3 hh
    exact ⟨n, wc, v5, hc2, fr_t hf2 hf, hh⟩
theorem v237_57_fb {cc gc : Nat} {q : QT} {h : pm_H} {m1 : Nat} {m2 : Nat} {m3 : Nat} {i : Nat} (hw : HC q cc gc h) : HC q cc gc ((v237_57b q cc gc h m1 m2 m3 i)) ∧ frm [185] [] h ((v237_57b q cc gc h m1 m2 m3 i)) := by
  unfold v237_57b
  show HC q cc gc (aset h 185 6 (upd (Ar h 185) m3 (cond (pm_cmp .le ((Ar h 169) (6 * m3 + i)) 0) ((Ar h 185) m3) (imin ((Ar h 185) m3) (((Ar h 185) i) + ((Ar h 169) (6 * m3 + i))))))) ∧ frm [185] [] h (aset h 185 6 (upd (Ar h 185) m3 (cond (pm_cmp .le ((Ar h 169) (6 * m3 + i)) 0) ((Ar h 185) m3) (imin ((Ar h 185) m3) (((Ar h 185) i) + ((Ar h 169) (6 * m3 + i)))))))
  exact ⟨(hc_a rfl rfl hw), (fr_a rfl rfl fr_0)⟩
theorem v237_57_fr {cc gc : Nat} {q : QT} {m1 : Nat} {m2 : Nat} {m3 : Nat} : ∀ {j i : Nat} {h : pm_H}, HC q cc gc h → HC q cc gc ((v237_57 q cc gc m1 m2 m3 j i h)) ∧ frm [185] [] h ((v237_57 q cc gc m1 m2 m3 j i h)) := by
  intro j
  induction j with
  | zero =>
    intro i h hw
    exact ⟨hw, fr_0⟩
  | succ j ih =>
    intro i h hw
    obtain ⟨a1, a2⟩ := v237_57_fb (i := i) (m1 := m1) (m2 := m2) (m3 := m3) hw
    obtain ⟨b1, b2⟩ := ih (i := i + 1) a1
    exact ⟨b1, fr_t b2 a2⟩
def v237_46b (q : QT) (cc gc : Nat) (h : pm_H) (m1 : Nat) (m2 : Nat) (i : Nat) : pm_H := (v237_57 q cc gc m1 m2 i cc 0 h)
def v237_46 (q : QT) (cc gc : Nat) (m1 : Nat) (m2 : Nat) (j i : Nat) (a : pm_H) : pm_H := lp (fun i a => v237_46b q cc gc a m1 m2 i) j i a
theorem v237_46_e {n fr lo sl cc gc : Nat} {q : QT} {h : pm_H} {R : pm_Rs} {m1 : Nat} {m2 : Nat} {i : Nat} {o4 : Option Value} {o5 : Option Value} (hw : HC q cc gc h) (h_m1 : m1 < 10000) (h_m2 : m2 < 10000) (hi : cc ≤ i) (hI : i < 1000000) (hh : pm_run PT n fr lo 237 (46, [some (.ref 162), some (.int (nI m1)), some (.int (nI m2)), some (.int (nI i)), o4, o5], [], h, 198, sl) = some R) : ∃ m, pm_run PT m fr lo 237 (131, [some (.ref 162), some (.int (nI m1)), some (.int (nI m2)), some (.int (nI i)), o4, o5], [], h, 198, sl) = some R := by
  have hcc := hw.cb
  have hgc := hw.gb
  have hzr := hw.zr
  obtain ⟨n, hh⟩ := rn_i rfl rfl rfl rfl hh
  obtain ⟨n, hh⟩ := rn_i rfl rfl rfl rfl hh
  have hh : pm_run PT n fr lo 237 (48, [some (.ref 162), some (.int (nI m1)), some (.int (nI m2)), some (.int (nI i)), o4, o5], [.ref 162, .int (nI i)], h, 198, sl) = some R := hh
  obtain ⟨n, hh⟩ := rn_gi (x := nI cc) hw.wt rfl rfl (by decide) rfl (by decide) rfl hw.m3 hh
  have hh : pm_run PT n fr lo 237 (51, [some (.ref 162), some (.int (nI m1)), some (.int (nI m2)), some (.int (nI i)), o4, o5], [.int (nI cc), .int (nI i)], h, 198, sl) = some R := hh
  obtain ⟨n, hh⟩ := en_cn (cc := .ge) (off := 80) (t := 131) (b := decide (cc ≤ i)) (hI_ge (by omega) (by omega)) rfl rfl hh
  have hh := en_t (show decide (cc ≤ i) = true from decide_eq_true (by omega)) hh
  have hh : pm_run PT n fr lo 237 (131, [some (.ref 162), some (.int (nI m1)), some (.int (nI m2)), some (.int (nI i)), o4, o5], [], h, 198, sl) = some R := hh
  exact ⟨n, hh⟩
theorem v237_46_s {n fr lo sl cc gc : Nat} {q : QT} {h : pm_H} {R : pm_Rs} {m1 : Nat} {m2 : Nat} {i : Nat} {o4 : Option Value} {o5 : Option Value} (hw : HC q cc gc h) (h_m1 : m1 < 10000) (h_m2 : m2 < 10000) (hi : i < cc) (hI : i < 1000000) (hh : pm_run PT n fr lo 237 (46, [some (.ref 162), some (.int (nI m1)), some (.int (nI m2)), some (.int (nI i)), o4, o5], [], h, 198, sl) = some R) : ∃ m w4 w5, HC q cc gc ((v237_46b q cc gc h m1 m2 i)) ∧ frm [185] [] h ((v237_46b q cc gc h m1 m2 i)) ∧ pm_run PT m fr lo 237 (46, [some (.ref 162), some (.int (nI m1)), some (.int (nI m2)), some (.int (nI (i + 1))), w4, w5], [], (v237_46b q cc gc h m1 m2 i), 198, sl) = some R := by
  have hcc := hw.cb
  have hgc := hw.gb
  have hzr := hw.zr
  obtain ⟨n, hh⟩ := rn_i rfl rfl rfl rfl hh
  obtain ⟨n, hh⟩ := rn_i rfl rfl rfl rfl hh
  have hh : pm_run PT n fr lo 237 (48, [some (.ref 162), some (.int (nI m1)), some (.int (nI m2)), some (.int (nI i)), o4, o5], [.ref 162, .int (nI i)], h, 198, sl) = some R := hh
  obtain ⟨n, hh⟩ := rn_gi (x := nI cc) hw.wt rfl rfl (by decide) rfl (by decide) rfl hw.m3 hh
  have hh : pm_run PT n fr lo 237 (51, [some (.ref 162), some (.int (nI m1)), some (.int (nI m2)), some (.int (nI i)), o4, o5], [.int (nI cc), .int (nI i)], h, 198, sl) = some R := hh
  obtain ⟨n, hh⟩ := en_cn (cc := .ge) (off := 80) (t := 131) (b := decide (cc ≤ i)) (hI_ge (by omega) (by omega)) rfl rfl hh
  have hh := en_f (show decide (cc ≤ i) = false from decide_eq_false (by omega)) hh
  have hh : pm_run PT n fr lo 237 (54, [some (.ref 162), some (.int (nI m1)), some (.int (nI m2)), some (.int (nI i)), o4, o5], [], h, 198, sl) = some R := hh
  obtain ⟨n, hh⟩ := rn_i rfl rfl rfl rfl hh
  obtain ⟨n, hh⟩ := rn_i rfl rfl rfl rfl hh
  have hh : pm_run PT n fr lo 237 (57, [some (.ref 162), some (.int (nI m1)), some (.int (nI m2)), some (.int (nI i)), some (.int (nI 0)), o5], [], h, 198, sl) = some R := hh
  obtain ⟨n, u5, u4, hc6, hf7, hh⟩ := v237_57_ok (m1 := m1) (m2 := m2) (m3 := i)  (i := 0) (o5 := o5) (j := cc) (by omega) (by omega) hw (by omega) (by omega) (by omega) hh
  have hh : pm_run PT n fr lo 237 (125, [some (.ref 162), some (.int (nI m1)), some (.int (nI m2)), some (.int (nI i)), u5, u4], [], (v237_57 q cc gc m1 m2 i cc 0 h), 198, sl) = some R := hh
  have hh : pm_run PT n fr lo 237 (125, [some (.ref 162), some (.int (nI m1)), some (.int (nI m2)), some (.int (nI i)), u5, u4], [], (v237_57 q cc gc m1 m2 i cc 0 h), 198, sl) = some R := hh
  obtain ⟨n, hh⟩ := en_inc (x := i) (c := 1) (j := 3) rfl rfl (by decide) hh
  have hh : pm_run PT n fr lo 237 (128, [some (.ref 162), some (.int (nI m1)), some (.int (nI m2)), some (.int (nI (i + 1))), u5, u4], [], (v237_57 q cc gc m1 m2 i cc 0 h), 198, sl) = some R := hh
  obtain ⟨n, hh⟩ := rn_i rfl rfl rfl rfl hh
  have ed : v237_46b q cc gc h m1 m2 i = (v237_57 q cc gc m1 m2 i cc 0 h) := rfl
  rw [ed]
  exact ⟨n, u5, u4, hc6, (fr_g rfl rfl hf7 fr_0), hh⟩
theorem v237_46_ok {fr lo sl cc gc : Nat} {q : QT} {R : pm_Rs} {m1 : Nat} {m2 : Nat} : ∀ {j i : Nat} {o4 : Option Value} {o5 : Option Value} {h : pm_H} {n : Nat}, cc - i = j → i + j < 1000000 → HC q cc gc h → m1 < 10000 → m2 < 10000 → pm_run PT n fr lo 237 (46, [some (.ref 162), some (.int (nI m1)), some (.int (nI m2)), some (.int (nI i)), o4, o5], [], h, 198, sl) = some R → ∃ m wc w4 w5, HC q cc gc ((v237_46 q cc gc m1 m2 j i h)) ∧ frm [185] [] h ((v237_46 q cc gc m1 m2 j i h)) ∧ pm_run PT m fr lo 237 (131, [some (.ref 162), some (.int (nI m1)), some (.int (nI m2)), wc, w4, w5], [], (v237_46 q cc gc m1 m2 j i h), 198, sl) = some R := by
  intro j
  induction j with
  | zero =>
    intro i o4 o5 h n e eI hw h_m1 h_m2 hh
    obtain ⟨n, hh⟩ := v237_46_e hw h_m1 h_m2 (by omega) (by omega) hh
    exact ⟨n, _, o4, o5, hw, fr_0, hh⟩
  | succ j ih =>
    intro i o4 o5 h n e eI hw h_m1 h_m2 hh
    obtain ⟨n, w4, w5, hc, hf, hh⟩ := v237_46_s hw h_m1 h_m2 (by omega) (by omega) hh
    obtain ⟨n, wc, v4, v5, hc2, hf2, hh⟩ := ih (by omega) (by omega) hc h_m1 h_m2 hh
    exact ⟨n, wc, v4, v5, hc2, fr_t hf2 hf, hh⟩
theorem v237_46_fb {cc gc : Nat} {q : QT} {h : pm_H} {m1 : Nat} {m2 : Nat} {i : Nat} (hw : HC q cc gc h) : HC q cc gc ((v237_46b q cc gc h m1 m2 i)) ∧ frm [185] [] h ((v237_46b q cc gc h m1 m2 i)) := by
  unfold v237_46b
  show HC q cc gc ((v237_57 q cc gc m1 m2 i cc 0 h)) ∧ frm [185] [] h ((v237_57 q cc gc m1 m2 i cc 0 h))
  exact ⟨(v237_57_fr (m1 := m1) (m2 := m2) (m3 := i) (j := cc) (i := 0) hw).1, (fr_g rfl rfl (v237_57_fr (m1 := m1) (m2 := m2) (m3 := i) (j := cc) (i := 0) hw).2 fr_0)⟩
theorem v237_46_fr {cc gc : Nat} {q : QT} {m1 : Nat} {m2 : Nat} : ∀ {j i : Nat} {h : pm_H}, HC q cc gc h → HC q cc gc ((v237_46 q cc gc m1 m2 j i h)) ∧ frm [185] [] h ((v237_46 q cc gc m1 m2 j i h)) := by
  intro j
  induction j with
  | zero =>
    intro i h hw
    exact ⟨hw, fr_0⟩
  | succ j ih =>
    intro i h hw
    obtain ⟨a1, a2⟩ := v237_46_fb (i := i) (m1 := m1) (m2 := m2) hw
    obtain ⟨b1, b2⟩ := ih (i := i + 1) a1
    exact ⟨b1, fr_t b2 a2⟩
def v237_36b (q : QT) (cc gc : Nat) (h : pm_H) (m1 : Nat) (i : Nat) : pm_H := (v237_46 q cc gc m1 i cc 0 h)
def v237_36 (q : QT) (cc gc : Nat) (m1 : Nat) (j i : Nat) (a : pm_H) : pm_H := lp (fun i a => v237_36b q cc gc a m1 i) j i a
theorem v237_36_e {n fr lo sl cc gc : Nat} {q : QT} {h : pm_H} {R : pm_Rs} {m1 : Nat} {i : Nat} {o3 : Option Value} {o4 : Option Value} {o5 : Option Value} (hw : HC q cc gc h) (h_m1 : m1 < 10000) (hi : cc ≤ i) (hI : i < 1000000) (hh : pm_run PT n fr lo 237 (36, [some (.ref 162), some (.int (nI m1)), some (.int (nI i)), o3, o4, o5], [], h, 198, sl) = some R) : ∃ m, pm_run PT m fr lo 237 (137, [some (.ref 162), some (.int (nI m1)), some (.int (nI i)), o3, o4, o5], [], h, 198, sl) = some R := by
  have hcc := hw.cb
  have hgc := hw.gb
  have hzr := hw.zr
  obtain ⟨n, hh⟩ := rn_i rfl rfl rfl rfl hh
  obtain ⟨n, hh⟩ := rn_i rfl rfl rfl rfl hh
  have hh : pm_run PT n fr lo 237 (38, [some (.ref 162), some (.int (nI m1)), some (.int (nI i)), o3, o4, o5], [.ref 162, .int (nI i)], h, 198, sl) = some R := hh
  obtain ⟨n, hh⟩ := rn_gi (x := nI cc) hw.wt rfl rfl (by decide) rfl (by decide) rfl hw.m3 hh
  have hh : pm_run PT n fr lo 237 (41, [some (.ref 162), some (.int (nI m1)), some (.int (nI i)), o3, o4, o5], [.int (nI cc), .int (nI i)], h, 198, sl) = some R := hh
  obtain ⟨n, hh⟩ := en_cn (cc := .ge) (off := 96) (t := 137) (b := decide (cc ≤ i)) (hI_ge (by omega) (by omega)) rfl rfl hh
  have hh := en_t (show decide (cc ≤ i) = true from decide_eq_true (by omega)) hh
  have hh : pm_run PT n fr lo 237 (137, [some (.ref 162), some (.int (nI m1)), some (.int (nI i)), o3, o4, o5], [], h, 198, sl) = some R := hh
  exact ⟨n, hh⟩
theorem v237_36_s {n fr lo sl cc gc : Nat} {q : QT} {h : pm_H} {R : pm_Rs} {m1 : Nat} {i : Nat} {o3 : Option Value} {o4 : Option Value} {o5 : Option Value} (hw : HC q cc gc h) (h_m1 : m1 < 10000) (hi : i < cc) (hI : i < 1000000) (hh : pm_run PT n fr lo 237 (36, [some (.ref 162), some (.int (nI m1)), some (.int (nI i)), o3, o4, o5], [], h, 198, sl) = some R) : ∃ m w3 w4 w5, HC q cc gc ((v237_36b q cc gc h m1 i)) ∧ frm [185] [] h ((v237_36b q cc gc h m1 i)) ∧ pm_run PT m fr lo 237 (36, [some (.ref 162), some (.int (nI m1)), some (.int (nI (i + 1))), w3, w4, w5], [], (v237_36b q cc gc h m1 i), 198, sl) = some R := by
  have hcc := hw.cb
  have hgc := hw.gb
  have hzr := hw.zr
  obtain ⟨n, hh⟩ := rn_i rfl rfl rfl rfl hh
  obtain ⟨n, hh⟩ := rn_i rfl rfl rfl rfl hh
  have hh : pm_run PT n fr lo 237 (38, [some (.ref 162), some (.int (nI m1)), some (.int (nI i)), o3, o4, o5], [.ref 162, .int (nI i)], h, 198, sl) = some R := hh
  obtain ⟨n, hh⟩ := rn_gi (x := nI cc) hw.wt rfl rfl (by decide) rfl (by decide) rfl hw.m3 hh
  have hh : pm_run PT n fr lo 237 (41, [some (.ref 162), some (.int (nI m1)), some (.int (nI i)), o3, o4, o5], [.int (nI cc), .int (nI i)], h, 198, sl) = some R := hh
  obtain ⟨n, hh⟩ := en_cn (cc := .ge) (off := 96) (t := 137) (b := decide (cc ≤ i)) (hI_ge (by omega) (by omega)) rfl rfl hh
  have hh := en_f (show decide (cc ≤ i) = false from decide_eq_false (by omega)) hh
  have hh : pm_run PT n fr lo 237 (44, [some (.ref 162), some (.int (nI m1)), some (.int (nI i)), o3, o4, o5], [], h, 198, sl) = some R := hh
  obtain ⟨n, hh⟩ := rn_i rfl rfl rfl rfl hh
  obtain ⟨n, hh⟩ := rn_i rfl rfl rfl rfl hh
  have hh : pm_run PT n fr lo 237 (46, [some (.ref 162), some (.int (nI m1)), some (.int (nI i)), some (.int (nI 0)), o4, o5], [], h, 198, sl) = some R := hh
  obtain ⟨n, u6, u4, u5, hc7, hf8, hh⟩ := v237_46_ok (m1 := m1) (m2 := i)  (i := 0) (o4 := o4) (o5 := o5) (j := cc) (by omega) (by omega) hw (by omega) (by omega) hh
  have hh : pm_run PT n fr lo 237 (131, [some (.ref 162), some (.int (nI m1)), some (.int (nI i)), u6, u4, u5], [], (v237_46 q cc gc m1 i cc 0 h), 198, sl) = some R := hh
  have hh : pm_run PT n fr lo 237 (131, [some (.ref 162), some (.int (nI m1)), some (.int (nI i)), u6, u4, u5], [], (v237_46 q cc gc m1 i cc 0 h), 198, sl) = some R := hh
  obtain ⟨n, hh⟩ := en_inc (x := i) (c := 1) (j := 2) rfl rfl (by decide) hh
  have hh : pm_run PT n fr lo 237 (134, [some (.ref 162), some (.int (nI m1)), some (.int (nI (i + 1))), u6, u4, u5], [], (v237_46 q cc gc m1 i cc 0 h), 198, sl) = some R := hh
  obtain ⟨n, hh⟩ := rn_i rfl rfl rfl rfl hh
  have ed : v237_36b q cc gc h m1 i = (v237_46 q cc gc m1 i cc 0 h) := rfl
  rw [ed]
  exact ⟨n, u6, u4, u5, hc7, (fr_g rfl rfl hf8 fr_0), hh⟩
theorem v237_36_ok {fr lo sl cc gc : Nat} {q : QT} {R : pm_Rs} {m1 : Nat} : ∀ {j i : Nat} {o3 : Option Value} {o4 : Option Value} {o5 : Option Value} {h : pm_H} {n : Nat}, cc - i = j → i + j < 1000000 → HC q cc gc h → m1 < 10000 → pm_run PT n fr lo 237 (36, [some (.ref 162), some (.int (nI m1)), some (.int (nI i)), o3, o4, o5], [], h, 198, sl) = some R → ∃ m wc w3 w4 w5, HC q cc gc ((v237_36 q cc gc m1 j i h)) ∧ frm [185] [] h ((v237_36 q cc gc m1 j i h)) ∧ pm_run PT m fr lo 237 (137, [some (.ref 162), some (.int (nI m1)), wc, w3, w4, w5], [], (v237_36 q cc gc m1 j i h), 198, sl) = some R := by
  intro j
  induction j with
  | zero =>
    intro i o3 o4 o5 h n e eI hw h_m1 hh
    obtain ⟨n, hh⟩ := v237_36_e hw h_m1 (by omega) (by omega) hh
    exact ⟨n, _, o3, o4, o5, hw, fr_0, hh⟩
  | succ j ih =>
    intro i o3 o4 o5 h n e eI hw h_m1 hh
    obtain ⟨n, w3, w4, w5, hc, hf, hh⟩ := v237_36_s hw h_m1 (by omega) (by omega) hh
    obtain ⟨n, wc, v3, v4, v5, hc2, hf2, hh⟩ := ih (by omega) (by omega) hc h_m1 hh
    exact ⟨n, wc, v3, v4, v5, hc2, fr_t hf2 hf, hh⟩
theorem v237_36_fb {cc gc : Nat} {q : QT} {h : pm_H} {m1 : Nat} {i : Nat} (hw : HC q cc gc h) : HC q cc gc ((v237_36b q cc gc h m1 i)) ∧ frm [185] [] h ((v237_36b q cc gc h m1 i)) := by
  unfold v237_36b
  show HC q cc gc ((v237_46 q cc gc m1 i cc 0 h)) ∧ frm [185] [] h ((v237_46 q cc gc m1 i cc 0 h))
  exact ⟨(v237_46_fr (m1 := m1) (m2 := i) (j := cc) (i := 0) hw).1, (fr_g rfl rfl (v237_46_fr (m1 := m1) (m2 := i) (j := cc) (i := 0) hw).2 fr_0)⟩
theorem v237_36_fr {cc gc : Nat} {q : QT} {m1 : Nat} : ∀ {j i : Nat} {h : pm_H}, HC q cc gc h → HC q cc gc ((v237_36 q cc gc m1 j i h)) ∧ frm [185] [] h ((v237_36 q cc gc m1 j i h)) := by
  intro j
  induction j with
  | zero =>
    intro i h hw
    exact ⟨hw, fr_0⟩
  | succ j ih =>
    intro i h hw
    obtain ⟨a1, a2⟩ := v237_36_fb (i := i) (m1 := m1) hw
    obtain ⟨b1, b2⟩ := ih (i := i + 1) a1
    exact ⟨b1, fr_t b2 a2⟩
def v237 (q : QT) (cc gc : Nat) (h : pm_H) (c : Nat) : pm_H := (v237_36 q cc gc c cc 0 (v237_2 q cc gc c cc 0 h))
theorem v237_ok {n fr lo sl cc gc : Nat} {q : QT} {h : pm_H} {R : pm_Rs} {c : Nat} (hw : HC q cc gc h) (h_c : c < 10000) (hh : pm_run PT n fr lo 237 (0, pm_l0 [.ref 162, .int (nI c)] 6, [], h, 198, sl) = some R) : R = (none, v237 q cc gc h c, 198, sl) ∧ HC q cc gc (v237 q cc gc h c) ∧ frm [185] [] h (v237 q cc gc h c) := by
  have hcc := hw.cb
  have hgc := hw.gb
  have hzr := hw.zr
  obtain ⟨n, hh⟩ := rn_i rfl rfl rfl rfl hh
  obtain ⟨n, hh⟩ := rn_i rfl rfl rfl rfl hh
  have hh : pm_run PT n fr lo 237 (2, [some (.ref 162), some (.int (nI c)), some (.int (nI 0)), none, none, none], [], h, 198, sl) = some R := hh
  obtain ⟨n, u1, hc2, hf3, hh⟩ := v237_2_ok (m1 := c)  (i := 0) (j := cc) (by omega) (by omega) hw (by omega) hh
  have hh : pm_run PT n fr lo 237 (34, [some (.ref 162), some (.int (nI c)), u1, none, none, none], [], (v237_2 q cc gc c cc 0 h), 198, sl) = some R := hh
  obtain ⟨n, hh⟩ := rn_i rfl rfl rfl rfl hh
  obtain ⟨n, hh⟩ := rn_i rfl rfl rfl rfl hh
  have hh : pm_run PT n fr lo 237 (36, [some (.ref 162), some (.int (nI c)), some (.int (nI 0)), none, none, none], [], (v237_2 q cc gc c cc 0 h), 198, sl) = some R := hh
  obtain ⟨n, u7, u4, u5, u6, hc8, hf9, hh⟩ := v237_36_ok (m1 := c)  (i := 0) (o3 := none) (o4 := none) (o5 := none) (j := cc) (by omega) (by omega) hc2 (by omega) hh
  have hh : pm_run PT n fr lo 237 (137, [some (.ref 162), some (.int (nI c)), u7, u4, u5, u6], [], (v237_36 q cc gc c cc 0 (v237_2 q cc gc c cc 0 h)), 198, sl) = some R := hh
  have er10 : R = (none, (v237_36 q cc gc c cc 0 (v237_2 q cc gc c cc 0 h)), 198, sl) := rn_vret rfl rfl hh
  have ed : v237 q cc gc h c = (v237_36 q cc gc c cc 0 (v237_2 q cc gc c cc 0 h)) := rfl
  refine ⟨?_, ?_, ?_⟩ <;> rw [ed]
  · exact er10
  · exact hc8
  · exact (fr_g rfl rfl hf9 (fr_g rfl rfl hf3 fr_0))
theorem v237_fr {cc gc : Nat} {q : QT} {h : pm_H} {c : Nat} (hw : HC q cc gc h) : HC q cc gc (v237 q cc gc h c) ∧ frm [185] [] h (v237 q cc gc h c) := by
  unfold v237
  show HC q cc gc ((v237_36 q cc gc c cc 0 (v237_2 q cc gc c cc 0 h))) ∧ frm [185] [] h ((v237_36 q cc gc c cc 0 (v237_2 q cc gc c cc 0 h)))
  exact ⟨(v237_36_fr (m1 := c) (j := cc) (i := 0) (v237_2_fr (m1 := c) (j := cc) (i := 0) hw).1).1, (fr_g rfl rfl (v237_36_fr (m1 := c) (j := cc) (i := 0) (v237_2_fr (m1 := c) (j := cc) (i := 0) hw).1).2 (fr_g rfl rfl (v237_2_fr (m1 := c) (j := cc) (i := 0) hw).2 fr_0))⟩
end EE4
