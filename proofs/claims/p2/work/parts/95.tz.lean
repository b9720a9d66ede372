/-! THE TEXT is empty behind courts, gifts, rule, year, law of the class -/
section ZCX
variable {n fr lo sl k pc j f t a ci : Nat} {h : pm_H} {L : pm_L} {r fs : List Value} {R : pm_Rs} {Q : pm_Rs → Prop}
def asT : List av := match bB 1 with
  | .inr (_, as) => as
  | _ => []
theorem asT_eq : bB 1 = .inr (8, asT) := rfl
theorem asT_1 : asT[1]? = some (0, 0, 80) := by decide +kernel
def zO : ah := [(1, .inr (8, asT.set 1 (0, 0, 0)))]
theorem gf_eq {v : Value} (hf : pm_fld PT (pm_o PT k) j = some (ci, f, t)) (ha : a < 198) (e : h a = .inr (ci, fs)) (e1 : fs[f]? = some v) : pm_simple PT fr lo k (.getfield j) pc L (.ref a :: r) h 198 sl = some (pc + 3, L, v :: r, h, 198, sl) := by
  show pm_gf PT k j pc L (.ref a :: r) h 198 sl = _
  unfold pm_gf pm_obj
  dsimp only
  rw [if_pos ha, e]
  dsimp only
  rw [hf]
  dsimp only
  rw [if_pos rfl, e1]
theorem pf_eq {v w : Value} (hf : pm_fld PT (pm_o PT k) j = some (ci, f, t)) (ht : pm_fits (t % 10) v = true) (ht2 : t < 10) (ha : a < 198) (e : h a = .inr (ci, fs)) (e1 : fs[f]? = some w) : pm_simple PT fr lo k (.putfield j) pc L (v :: .ref a :: r) h 198 sl = some (pc + 3, L, r, va_up h a (.inr (ci, fs.set f v)), 198, sl) := by
  show pm_pf PT k j pc L (v :: .ref a :: r) h 198 sl = _
  unfold pm_pf pm_obj
  dsimp only
  rw [if_pos ha, e]
  dsimp only
  rw [hf]
  dsimp only
  rw [if_pos ⟨rfl, (List.getElem?_eq_some_iff.mp e1).1, ht, Or.inl ht2⟩]
/-- the class's object has its text; the text's length -/
def x0 (h : pm_H) : Prop := ∃ fs, h 0 = .inr (10, fs) ∧ fs[0]? = some (.ref 1)
def cT (h : pm_H) (v : Value) : Prop := ∃ gs, h 1 = .inr (8, gs) ∧ gs[1]? = some v
theorem cT_fm {h' : pm_H} {v : Value} (q : fm (sfF sP) h h') (z : cT h v) : cT h' v := by
  obtain ⟨gs, e1, e2⟩ := z
  obtain ⟨gs', a1, -, a2⟩ := q.2 1 8 gs e1
  exact ⟨gs', a1, (a2 1 rfl).trans e2⟩
theorem x0_fm {h' : pm_H} (q : fm (sfF sP) h h') (z : x0 h) : x0 h' := by
  obtain ⟨gs, e1, e2⟩ := z
  obtain ⟨gs', a1, -, a2⟩ := q.2 0 10 gs e1
  exact ⟨gs', a1, (a2 0 rfl).trans e2⟩
theorem cT_up {v w : Value} (z : cT h w) : ∃ gs, h 1 = .inr (8, gs) ∧ gs[1]? = some w ∧ cT (va_up h 1 (.inr (8, gs.set 1 v))) v := by
  obtain ⟨gs, e1, e2⟩ := z
  refine ⟨gs, e1, e2, gs.set 1 v, by simp [va_up], ?_⟩
  rw [List.getElem?_set_self (List.getElem?_eq_some_iff.mp e2).1]
theorem zr_88 : sfr_ok sP sfK 88 13 := sfr_of (by decide +kernel)
theorem zr_89 : sfr_ok sP sfK 89 13 := sfr_of (by decide +kernel)
theorem zr_90 : sfr_ok sP sfK 90 16 := sfr_of (by decide +kernel)
theorem zr_122 : sfr_ok sP sfK 122 16 := sfr_of (by decide +kernel)
theorem zx_courts {w : Value} (h0 : x0 h) (h1 : cT h w) (hh : pm_run PT n fr lo 88 (0, pm_l0 [.ref 0] 3, [], h, 198, sl) = some R) : cT R.2.1 (.int 0) := by
  obtain ⟨n, hh⟩ := rn_i rfl rfl rfl rfl hh
  obtain ⟨n, fr', lo', r1, hr1, hh⟩ := rn_call (w := 0) (t := 129) rfl rfl hh
  have q := sf_run sfK_ok _ _ _ 129 _ r1 rfl hr1
  obtain ⟨v, ev⟩ := pm_run_ty _ _ _ _ _ _ (Or.inl rfl) hr1
  obtain ⟨rv, hp, sz1, sl1⟩ := r1
  dsimp only at ev q hh
  subst ev
  have hsz := sz_run sfK_ok _ _ _ _ _ _ rfl hr1
  dsimp only at hsz
  cases hsz
  obtain ⟨fs, e0, e0'⟩ := x0_fm q h0
  obtain ⟨gs, g1, g2, g3⟩ := cT_up (v := .int (Int32.ofInt 0)) (cT_fm q h1)
  obtain ⟨n, hh⟩ := rn_i rfl rfl rfl rfl hh
  obtain ⟨n, hh⟩ := rn_i rfl rfl rfl rfl hh
  obtain ⟨n, hh⟩ := rn_i rfl rfl rfl (gf_eq (f := 0) rfl (by decide) e0 e0') hh
  obtain ⟨n, hh⟩ := rn_i rfl rfl rfl rfl hh
  obtain ⟨n, hh⟩ := rn_i rfl rfl rfl (pf_eq (f := 1) rfl rfl (by decide) (by decide) g1 g2) hh
  exact cT_fm (sfr_run sfK_ok zr_88 n fr lo _ R (Nat.le_of_ble_eq_true rfl) hh) g3
theorem zx_gifts {w : Value} (h0 : x0 h) (h1 : cT h w) (hh : pm_run PT n fr lo 89 (0, pm_l0 [.ref 0] 2, [], h, 198, sl) = some R) : cT R.2.1 (.int 0) := by
  obtain ⟨n, hh⟩ := rn_i rfl rfl rfl rfl hh
  obtain ⟨n, fr', lo', r1, hr1, hh⟩ := rn_call (w := 0) (t := 130) rfl rfl hh
  have q := sf_run sfK_ok _ _ _ 130 _ r1 rfl hr1
  obtain ⟨v, ev⟩ := pm_run_ty _ _ _ _ _ _ (Or.inl rfl) hr1
  obtain ⟨rv, hp, sz1, sl1⟩ := r1
  dsimp only at ev q hh
  subst ev
  have hsz := sz_run sfK_ok _ _ _ _ _ _ rfl hr1
  dsimp only at hsz
  cases hsz
  obtain ⟨fs, e0, e0'⟩ := x0_fm q h0
  obtain ⟨gs, g1, g2, g3⟩ := cT_up (v := .int (Int32.ofInt 0)) (cT_fm q h1)
  obtain ⟨n, hh⟩ := rn_i rfl rfl rfl rfl hh
  obtain ⟨n, hh⟩ := rn_i rfl rfl rfl rfl hh
  obtain ⟨n, hh⟩ := rn_i rfl rfl rfl (gf_eq (f := 0) rfl (by decide) e0 e0') hh
  obtain ⟨n, hh⟩ := rn_i rfl rfl rfl rfl hh
  obtain ⟨n, hh⟩ := rn_i rfl rfl rfl (pf_eq (f := 1) rfl rfl (by decide) (by decide) g1 g2) hh
  exact cT_fm (sfr_run sfK_ok zr_89 n fr lo _ R (Nat.le_of_ble_eq_true rfl) hh) g3
theorem zx_rule {w : Value} (h0 : x0 h) {q : Value} (h9 : ∃ fs, h 0 = .inr (10, fs) ∧ fs[9]? = some q) (h1 : cT h w) (hh : pm_run PT n fr lo 90 (0, pm_l0 [.ref 0] 3, [], h, 198, sl) = some R) : cT R.2.1 (.int 0) := by
  obtain ⟨n, hh⟩ := rn_i rfl rfl rfl rfl hh
  obtain ⟨fs9, e9, e9'⟩ := h9
  obtain ⟨n, hh⟩ := rn_i rfl rfl rfl (gf_eq (f := 9) rfl (by decide) e9 e9') hh
  obtain ⟨n, fr', lo', r1, hr1, hh⟩ := rn_call (w := 0) (t := 58) rfl rfl hh
  have q := sf_run sfK_ok _ _ _ 58 _ r1 rfl hr1
  obtain ⟨v, ev⟩ := pm_run_ty _ _ _ _ _ _ (Or.inl rfl) hr1
  obtain ⟨rv, hp, sz1, sl1⟩ := r1
  dsimp only at ev q hh
  subst ev
  have hsz := sz_run sfK_ok _ _ _ _ _ _ rfl hr1
  dsimp only at hsz
  cases hsz
  obtain ⟨fs, e0, e0'⟩ := x0_fm q h0
  obtain ⟨gs, g1, g2, g3⟩ := cT_up (v := .int (Int32.ofInt 0)) (cT_fm q h1)
  obtain ⟨n, hh⟩ := rn_i rfl rfl rfl rfl hh
  obtain ⟨n, hh⟩ := rn_i rfl rfl rfl rfl hh
  obtain ⟨n, hh⟩ := rn_i rfl rfl rfl (gf_eq (f := 0) rfl (by decide) e0 e0') hh
  obtain ⟨n, hh⟩ := rn_i rfl rfl rfl rfl hh
  obtain ⟨n, hh⟩ := rn_i rfl rfl rfl (pf_eq (f := 1) rfl rfl (by decide) (by decide) g1 g2) hh
  exact cT_fm (sfr_run sfK_ok zr_90 n fr lo _ R (Nat.le_of_ble_eq_true rfl) hh) g3
theorem zx_law {w : Value} (h0 : x0 h) {q : Value} (h9 : ∃ fs, h 0 = .inr (10, fs) ∧ fs[9]? = some q) (h1 : cT h w) (hh : pm_run PT n fr lo 122 (0, pm_l0 [.ref 0] 4, [], h, 198, sl) = some R) : cT R.2.1 (.int 0) := by
  obtain ⟨n, hh⟩ := rn_i rfl rfl rfl rfl hh
  obtain ⟨fs9, e9, e9'⟩ := h9
  obtain ⟨n, hh⟩ := rn_i rfl rfl rfl (gf_eq (f := 9) rfl (by decide) e9 e9') hh
  obtain ⟨n, fr', lo', r1, hr1, hh⟩ := rn_call (w := 0) (t := 58) rfl rfl hh
  have q := sf_run sfK_ok _ _ _ 58 _ r1 rfl hr1
  obtain ⟨v, ev⟩ := pm_run_ty _ _ _ _ _ _ (Or.inl rfl) hr1
  obtain ⟨rv, hp, sz1, sl1⟩ := r1
  dsimp only at ev q hh
  subst ev
  have hsz := sz_run sfK_ok _ _ _ _ _ _ rfl hr1
  dsimp only at hsz
  cases hsz
  obtain ⟨fs, e0, e0'⟩ := x0_fm q h0
  obtain ⟨gs, g1, g2, g3⟩ := cT_up (v := .int (Int32.ofInt 0)) (cT_fm q h1)
  obtain ⟨n, hh⟩ := rn_i rfl rfl rfl rfl hh
  obtain ⟨n, hh⟩ := rn_i rfl rfl rfl rfl hh
  obtain ⟨n, hh⟩ := rn_i rfl rfl rfl (gf_eq (f := 0) rfl (by decide) e0 e0') hh
  obtain ⟨n, hh⟩ := rn_i rfl rfl rfl rfl hh
  obtain ⟨n, hh⟩ := rn_i rfl rfl rfl (pf_eq (f := 1) rfl rfl (by decide) (by decide) g1 g2) hh
  exact cT_fm (sfr_run sfK_ok zr_122 n fr lo _ R (Nat.le_of_ble_eq_true rfl) hh) g3
end ZCX
