/-! turns that keep both texts and both numbers of COURTS alike -/
section TR4
variable {P : pm_St → Prop} {sl bS Ln i pc n fr lo : Nat} {xs : Nat → Int32} {L : pm_L} {h h1 h2 : pm_H} {R : pm_Rs}
theorem REL_x (q : fm cxF h h1) (p : fm (sfF sQ) h h1 ∧ akp 1 h h1) (r : REL4 h) : REL4 h1 := by
  obtain ⟨n0, cc, f, g, r1, r2, ⟨x1, x2⟩, ⟨y1, y2, y3⟩, hj⟩ := r
  exact ⟨n0, cc, f, g, r1, r2, ⟨pT_fm p.1 p.2 x1, rC_fm rfl p.1 x2⟩, ⟨mF_hi q y1, (q.1 172 rfl).trans y2, mF_hi q y3⟩, hj⟩
theorem REL_m (q : ∀ i, i < 162 → h2 i = h1 i) (p : fm (sfF sM) h1 h2 ∧ h2 172 = h1 172) (r : REL4 h1) : REL4 h2 := by
  obtain ⟨n0, cc, f, g, r1, r2, ⟨x1, x2⟩, ⟨y1, y2, y3⟩, hj⟩ := r
  exact ⟨n0, cc, f, g, r1, r2, ⟨pT_lo q x1, rC_lo q x2⟩, ⟨fm_mF p.1 rfl y1, p.2.trans y2, fm_mF p.1 rfl y3⟩, hj⟩
/-- one turn: two calls, their answers thrown away, the relation kept -/
theorem op_pairR4 (H : lc_Cl 198 sl bS Ln xs P) {n kx km pe : Nat} (hc : lc_twp pc n kx km pe = true) (hL : lc_L bS i L) (hb : i + 1 + n ≤ Ln) (hI : LI4 h) {c : con} (hx : con_ok PT bB 198 cxF cxQ c) (ek : c.1 = kx) (ec : cx_int c n = true) {A : Option Value → Prop} (hA : ∀ v, A v → ∃ x : Int32, v = some (.int x)) (hm : ∀ h1, mInv h1 → pm_WP PT 2047 (84000 - (19 + pm_max PT km)) km (0, pm_l0 (.ref 162 :: (lc_vals xs i n 1).map Value.int) (pm_max PT km), [], h1, 198, sl) (mPost A h1 sl)) (sx : sQK kx = true) (sm : sMK km = true) (kk : ∀ h2, LI4 h2 → P (pe, L, [], h2, 198, sl)) : P (pc, L, [], h, 198, sl) := by
  subst ek
  unfold cx_int at ec
  simp only [Bool.and_eq_true] at ec
  obtain ⟨e1, e2, e3, e4, e5, e6, e7, e8⟩ := ec
  have e1 := of_decide_eq_true e1
  have e2 := of_decide_eq_true e2
  have e4 := of_decide_eq_true e4
  have e5 := Nat.le_of_ble_eq_true e5
  have e6 := Nat.le_of_ble_eq_true e6
  have e8 := Nat.le_of_ble_eq_true e8
  have e7 : c.2.2.2.2.2.2.2 = false := by simpa using e7
  obtain ⟨f1, o1⟩ := ty_0 hI.1.1
  have hlen := lc_vals_len xs i n 1
  refine lc_twp_ok H hc hL hb (by decide) o1 (wp_mono (wp_runs (Z := fun r => fm (sfF sQ) h r.2.1 ∧ akp 1 h r.2.1) (hx (.ref 0 :: (lc_vals xs i n 1).map Value.int) h 2047 (84000 - (19 + pm_max PT c.1)) sl ?_ ?_ trivial e5 (by omega)) (fun m r hh => ⟨sf_run sQ_ok m _ _ _ _ r sx hh, ak_run (by decide) sQ_ak m _ _ _ _ r sx hh⟩)) ?_)
  · rw [e1]
    refine ⟨⟨rfl, List.mem_singleton_self _⟩, ?_⟩
    have := as_top (lc_vals xs i n 1)
    rw [hlen] at this
    exact this
  · rw [e2]; exact hI.1.1
  · rintro ⟨rv, h1, s1⟩ ⟨⟨⟨a, ha, hv⟩, q1, ⟨q2, -⟩, q3⟩, q4⟩
    rw [e7, e4] at q3
    dsimp only [cond] at hv q1 q2 q3 q4
    cases q1
    have hI1 := cx_inv hI.1 q2 q3
    refine ⟨rfl, ?_, ty_162 hI1.1, wp_mono (wp_runs (Z := fun r => fm (sfF sM) h1 r.2.1 ∧ r.2.1 172 = h1 172) (hm h1 hI1) (fun m r hh => m_keeps sm hI1 (nrS_ints _) hh)) ?_⟩
    · have ea := List.all_eq_true.mp e3 a ha
      cases a with
      | none => cases ea
      | some b =>
        cases rv with
        | none => exact hv.elim
        | some v =>
          obtain ⟨x, rfl, -⟩ := av_int (Nat.eq_of_beq_eq_true ea) hv
          exact ⟨x, rfl⟩
    · rintro ⟨rv2, h2, s2⟩ ⟨⟨p1, p2, p3, p4⟩, p5⟩
      dsimp only at p1 p2 p3 p4 p5
      cases p2
      exact ⟨hA _ p1, rfl, kk h2 ⟨p4, REL_m p3 p5 (REL_x q2 q4 hI.2)⟩⟩
/-- what both calls do -/
def twoWP4 (sl : Nat) (h : pm_H) (kx km : Nat) (As : List Value) : Prop := pm_WP PT 2047 (84000 - (19 + pm_max PT kx)) kx (0, pm_l0 (.ref 0 :: As) (pm_max PT kx), [], h, 198, sl) (fun q => q.2.2 = (198, sl) ∧ ∃ v : Int32, q.1 = some (.int v) ∧ (∃ f2, q.2.1 162 = .inr (11, f2)) ∧ pm_WP PT 2047 (84000 - (19 + pm_max PT km)) km (0, pm_l0 (.ref 162 :: As) (pm_max PT km), [], q.2) (fun y => y.1 = some (.int v) ∧ y.2.2 = (198, sl) ∧ LI4 y.2.1))
/-- such a turn, its answers thrown away -/
theorem two_pop4 (H : lc_Cl 198 sl bS Ln xs P) {n kx km pe : Nat} (hc : lc_twp pc n kx km pe = true) (hL : lc_L bS i L) (hb : i + 1 + n ≤ Ln) (hI : LI4 h) (q : twoWP4 sl h kx km ((lc_vals xs i n 1).map Value.int)) (kk : ∀ h2, LI4 h2 → P (pe, L, [], h2, 198, sl)) : P (pc, L, [], h, 198, sl) := by
  obtain ⟨f1, o1⟩ := ty_0 hI.1.1
  refine lc_twp_ok H hc hL hb (by decide) o1 (wp_mono q ?_)
  rintro ⟨rv, h1, s1⟩ ⟨q1, v, q2, q3, q4⟩
  cases q1
  refine ⟨rfl, ⟨v, q2⟩, q3, wp_mono q4 ?_⟩
  rintro ⟨rv2, h2, s2⟩ ⟨p1, p2, p3⟩
  cases p2
  exact ⟨⟨v, p1⟩, rfl, kk h2 p3⟩
theorem ty_gs (hh : ah_ok bB 198 [] h) : ∃ gs w, h 1 = .inr (8, gs) ∧ gs[0]? = some (.ref 2) ∧ gs[1]? = some w := by
  have h0 := hh 1 (by decide)
  obtain ⟨fs, ef, hl, hg⟩ := aE_obj (ci := 8) (as := asT) h0 (by decide)
  have hlf : 0 < fs.length := by rw [hl]; exact Nat.le_of_ble_eq_true rfl
  have hlf1 : 1 < fs.length := by rw [hl]; exact Nat.le_of_ble_eq_true rfl
  have ev : fs[0]? = some fs[0] := List.getElem?_eq_getElem hlf
  have hv := hg 0 _ (2, 2, 1) ev rfl
  have hr : fs[0] = .ref 2 := by
    cases e : fs[0] with
    | ref p =>
      rw [e] at hv
      have := hv.2
      rw [show p = 2 from List.mem_singleton.mp this]
    | null => rw [e] at hv; exact absurd (show (2 : Nat) = 3 from hv) (by decide)
    | _ => rw [e] at hv; first | exact hv.elim | (cases hv.1)
  exact ⟨fs, fs[1], ef, by rw [ev, hr], List.getElem?_eq_getElem hlf1⟩
def asCh : av := match bB 2 with
  | .inl (_, _, a) => a
  | _ => (0, 0, 0)
def asTp : av := match bB 172 with
  | .inl (_, _, a) => a
  | _ => (0, 0, 0)
def asRd : List av := match bB 173 with
  | .inr (_, as) => as
  | _ => []
theorem ty_2 (hh : ah_ok bB 198 [] h) : ∃ f, h 2 = .inl (1, 80, .inl f) := by
  obtain ⟨f, e, -⟩ := aE_int (kd := 1) (n := 80) (a := asCh) (hh 2 (by decide)) rfl (by decide)
  exact ⟨f, e⟩
theorem ty_172 (hh : ah_ok bB 198 [] h) : ∃ f, h 172 = .inl (0, 80, .inl f) := by
  obtain ⟨f, e, -⟩ := aE_int (kd := 0) (n := 80) (a := asTp) (hh 172 (by decide)) rfl (by decide)
  exact ⟨f, e⟩
theorem ac_ely {e : pm_E} {kd : Nat} {as : List av} (q : ac_ok e (.inr (1000 + kd, as))) : ∃ f, e = .inl (kd, as.length, .inl f) := by
  obtain ⟨k, m, f | f | f | f | f⟩ | ⟨ci, fs⟩ := e
  · obtain ⟨h1, h2, -⟩ := q
    have : k = kd := by omega
    subst this
    subst h2
    exact ⟨f, rfl⟩
  · exact q.elim
  · exact q.elim
  · exact q.elim
  · exact q.elim
  · obtain ⟨⟨h1, h2⟩, -⟩ := q
    exact absurd h2 (by omega)
theorem ty_173 (hh : ah_ok bB 198 [] h) : ∃ f, h 173 = .inl (0, 36, .inl f) := by
  obtain ⟨f, e⟩ := ac_ely (kd := 0) (as := asRd) (hh 173 (by decide))
  exact ⟨f, e⟩
theorem ty_mi (hh : ah_ok bB 198 [] h) (g : Nat) (hg : Nat.beq ((asM.getD g (3, 0, 0)).1) 0 = true) (hl : g < asM.length) : ∃ w : Int32, mF h g (.int w) := by
  have e : asM[g]? = some (asM.getD g (3, 0, 0)) := by rw [List.getD_eq_getElem?_getD, List.getElem?_eq_getElem hl]; rfl
  obtain ⟨v, m, a⟩ := ob_fld (o := []) hh asM_eq e
  obtain ⟨x, rfl, -⟩ := av_int (Nat.eq_of_beq_eq_true hg) a
  exact ⟨x, m⟩
theorem ty_mr (hh : ah_ok bB 198 [] h) {g c : Nat} (e : asM[g]? = some (2, (c : Int), 1)) (hc : av_ids (2, (c : Int), 1) = [c]) : mF h g (.ref c) := by
  obtain ⟨v, m, a⟩ := ob_fld (o := []) hh asM_eq e
  cases v with
  | ref p =>
    have := a.2
    rw [hc] at this
    rw [List.mem_singleton.mp this] at m
    exact m
  | null => exact absurd (show (2 : Nat) = 3 from a) (by decide)
  | _ => first | exact a.elim | (cases a.1)
theorem ty_m14 (hh : ah_ok bB 198 [] h) : mF h 14 (.ref 172) := ty_mr (c := 172) hh rfl rfl
theorem ty_m19 (hh : ah_ok bB 198 [] h) : mF h 19 (.ref 173) := ty_mr (c := 173) hh rfl rfl
end TR4
