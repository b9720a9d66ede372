/-! turns that keep both texts and both numbers of COURTS alike -/
section TR4
variable {P : pm_St → Prop} {sl bS Ln i pc n fr lo : Nat} {xs : Nat → Int32} {L : pm_L} {h h1 h2 : pm_H} {R : pm_Rs}
theorem REL_x (q : fm cxF h h1) (p : fm (sfF sQ) h h1 ∧ akp 1 h h1) (r : REL4 h) : REL4 h1 := by
  obtain ⟨n0, cc, f, g, r1, r2, ⟨x1, x2⟩, ⟨y1, y2, y3⟩, hj⟩ := r
  exact ⟨n0, cc, f, g, r1, r2, ⟨pT_fm p.1 p.2 x1, rC_fm rfl p.1 x2⟩, ⟨mF_hi q y1, (q.1 172 rfl).trans y2, mF_hi q y3⟩, hj⟩
theorem REL_m (q : ∀ i, i < 162 → h2 i = h1 i) (p : fm (sfF sM) h1 h2 ∧ h2 172 = h1 172) (r : REL4 h1) : REL4 h2 := by
  obtain ⟨n0, cc, f, g, r1, r2, ⟨x1, x2⟩, ⟨y1, y2, y3⟩, hj⟩ := r
  exact ⟨n0, cc, f, g, r1, r2, ⟨pT_lo q x1, rC_lo q x2⟩, ⟨fm_mF p.1 rfl y1, p.2.trans y2, fm_mF p.1 rfl y3⟩, hj⟩
/-- what both calls do -/
def twoWP4 (sl : Nat) (h : pm_H) (kx km : Nat) (As : List Value) : Prop := pm_WP PT 2047 (84000 - (19 + pm_max PT kx)) kx (0, pm_l0 (.ref 0 :: As) (pm_max PT kx), [], h, 198, sl) (fun q => q.2.2 = (198, sl) ∧ ∃ v : Int32, q.1 = some (.int v) ∧ (∃ f2, q.2.1 162 = .inr (11, f2)) ∧ pm_WP PT 2047 (84000 - (19 + pm_max PT km)) km (0, pm_l0 (.ref 162 :: As) (pm_max PT km), [], q.2) (fun y => y.1 = some (.int v) ∧ y.2.2 = (198, sl) ∧ LI4 y.2.1))
theorem ty_gs (hh : ah_ok bB 198 [] h) : ∃ gs w, h 1 = .inr (8, gs) ∧ gs[0]? = some (.ref 2) ∧ gs[1]? = some w := by
  have h0 := hh 1 (by decide)
  obtain ⟨fs, ef, hl, hg⟩ := aE_obj (ci := 8) (as := asT) h0 (by decide)
  have hlf : 0 < fs.length := by rw [hl]; exact Nat.le_of_ble_eq_true rfl
  have hlf1 : 1 < fs.length := by rw [hl]; exact Nat.le_of_ble_eq_true rfl
  have ev : fs[0]? = some fs[0] := List.getElem?_eq_getElem hlf
  have hv := hg 0 _ (2, 2, 1) ev rfl
  have hr : fs[0] = .ref 2 := by
    cases e : fs[0] with
    | ref p =>
      rw [e] at hv
      have := hv.2
      rw [show p = 2 from List.mem_singleton.mp this]
    | null => rw [e] at hv; exact absurd (show (2 : Nat) = 3 from hv) (by decide)
    | _ => rw [e] at hv; first | exact hv.elim | (cases hv.1)
  exact ⟨fs, fs[1], ef, by rw [ev, hr], List.getElem?_eq_getElem hlf1⟩
def asCh : av := match bB 2 with
  | .inl (_, _, a) => a
  | _ => (0, 0, 0)
def asTp : av := match bB 172 with
  | .inl (_, _, a) => a
  | _ => (0, 0, 0)
def asRd : List av := match bB 173 with
  | .inr (_, as) => as
  | _ => []
theorem ty_2 (hh : ah_ok bB 198 [] h) : ∃ f, h 2 = .inl (1, 80, .inl f) := by
  obtain ⟨f, e, -⟩ := aE_int (kd := 1) (n := 80) (a := asCh) (hh 2 (by decide)) rfl (by decide)
  exact ⟨f, e⟩
theorem ty_172 (hh : ah_ok bB 198 [] h) : ∃ f, h 172 = .inl (0, 80, .inl f) := by
  obtain ⟨f, e, -⟩ := aE_int (kd := 0) (n := 80) (a := asTp) (hh 172 (by decide)) rfl (by decide)
  exact ⟨f, e⟩
theorem ac_ely {e : pm_E} {kd : Nat} {as : List av} (q : ac_ok e (.inr (1000 + kd, as))) : ∃ f, e = .inl (kd, as.length, .inl f) := by
  obtain ⟨k, m, f | f | f | f | f⟩ | ⟨ci, fs⟩ := e
  · obtain ⟨h1, h2, -⟩ := q
    have : k = kd := by omega
    subst this
    subst h2
    exact ⟨f, rfl⟩
  · exact q.elim
  · exact q.elim
  · exact q.elim
  · exact q.elim
  · obtain ⟨⟨h1, h2⟩, -⟩ := q
    exact absurd h2 (by omega)
theorem ty_173 (hh : ah_ok bB 198 [] h) : ∃ f, h 173 = .inl (0, 36, .inl f) := by
  obtain ⟨f, e⟩ := ac_ely (kd := 0) (as := asRd) (hh 173 (by decide))
  exact ⟨f, e⟩
theorem ty_mi (hh : ah_ok bB 198 [] h) (g : Nat) (hg : Nat.beq ((asM.getD g (3, 0, 0)).1) 0 = true) (hl : g < asM.length) : ∃ w : Int32, mF h g (.int w) := by
  have e : asM[g]? = some (asM.getD g (3, 0, 0)) := by rw [List.getD_eq_getElem?_getD, List.getElem?_eq_getElem hl]; rfl
  obtain ⟨v, m, a⟩ := ob_fld (o := []) hh asM_eq e
  obtain ⟨x, rfl, -⟩ := av_int (Nat.eq_of_beq_eq_true hg) a
  exact ⟨x, m⟩
theorem ty_mr (hh : ah_ok bB 198 [] h) {g c : Nat} (e : asM[g]? = some (2, (c : Int), 1)) (hc : av_ids (2, (c : Int), 1) = [c]) : mF h g (.ref c) := by
  obtain ⟨v, m, a⟩ := ob_fld (o := []) hh asM_eq e
  cases v with
  | ref p =>
    have := a.2
    rw [hc] at this
    rw [List.mem_singleton.mp this] at m
    exact m
  | null => exact absurd (show (2 : Nat) = 3 from a) (by decide)
  | _ => first | exact a.elim | (cases a.1)
theorem ty_m14 (hh : ah_ok bB 198 [] h) : mF h 14 (.ref 172) := ty_mr (c := 172) hh rfl rfl
theorem ty_m19 (hh : ah_ok bB 198 [] h) : mF h 19 (.ref 173) := ty_mr (c := 173) hh rfl rfl
end TR4
