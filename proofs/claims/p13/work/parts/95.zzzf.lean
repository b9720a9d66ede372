/-! law: SR is kept; what it answers, by the values -/
section LAW
variable {n fr lo sl cc gc n0 u : Nat} {q : QT} {h h1 h2 : pm_H} {v w r : Int32} {R : pm_Rs}
theorem HC_n2 {cc' gc' : Nat} (hc : HC q cc gc h) (w : WT h2) (a : Fi h2 5 0 = nI cc') (b : Fi h2 5 1 = nI gc') (c : Fi h2 162 3 = nI cc') (d : Fi h2 162 4 = nI gc') (e : Fi h2 162 23 = Fi h 162 23) (f : Fi h2 q.1 1 = Fi h q.1 1) (k8 : k0f 8 h h2) (h6 : cc' ≤ 6) (h8 : gc' ≤ 8) : HC q cc' gc' h2 := by
  obtain ⟨_, _, ⟨m3, m4, m23, rs⟩, ⟨_, _, b3, b4⟩, ⟨fs, r1, r2⟩, qq⟩ := hc
  obtain ⟨fs', r1', r2'⟩ := k8 fs _ r1 r2
  exact ⟨w, ⟨a, b⟩, ⟨c, d, e.trans m23, f.trans rs⟩, ⟨h6, h8, b3, b4⟩, ⟨fs', r1', r2'⟩, qq⟩
/-- another length of the reference's code -/
theorem HC_u (hc : HC q cc gc h) (w : WT h2) (cs : ∀ i, i < 162 → h2 i = h i) (f : ∀ g, g ≠ 23 → g ≠ 1 → Fi h2 162 g = Fi h 162 g) (e : Fi h2 162 23 = nI u) (hu : u ≤ 80) : HC (q.1, q.2.1, u) cc gc h2 := by
  obtain ⟨_, ⟨x0, x1⟩, ⟨m3, m4, m23, rs⟩, ⟨b1, b2, b3, b4⟩, ⟨fs, r1, r2⟩, qq⟩ := hc
  refine ⟨w, ⟨(Fi_e (cs 5 (by decide))).trans x0, (Fi_e (cs 5 (by decide))).trans x1⟩, ⟨(f 3 (by decide) (by decide)).trans m3, (f 4 (by decide) (by decide)).trans m4, e, ?_⟩, ⟨b1, b2, b3, hu⟩, ⟨fs, (cs 0 (by decide)).trans r1, r2⟩, qq⟩
  show Fi h2 q.1 1 = nI q.2.1
  rw [Fi_e (cs q.1 (by omega))]
  exact rs
theorem typ58 {o : Nat} (ho : o = 142 ∨ o = 145) (hh : ah_ok bB 198 [] h) (hr : pm_run PT n fr lo 58 (0, pm_l0 [.ref o] 2, [], h, 198, sl) = some R) : ah_ok bB 198 [] R.2.1 ∧ fm cxF h R.2.1 := by
  rcases ho with rfl | rfl
  · have d := rn_dt (F := 170) (Lo := 13600) (cxo205 [.ref 142] h 170 13600 sl ⟨⟨rfl, by decide⟩, trivial⟩ hh trivial (Nat.le_refl _) (Nat.le_refl _)) hr
    exact ⟨d.2.2.2, d.2.2.1.1⟩
  · have d := rn_dt (F := 170) (Lo := 13600) (cxo240 [.ref 145] h 170 13600 sl ⟨⟨rfl, by decide⟩, trivial⟩ hh trivial (Nat.le_refl _) (Nat.le_refl _)) hr
    exact ⟨d.2.2.2, d.2.2.1.1⟩
theorem rule_sz (hh : ah_ok bB 198 [] h) {p : Nat} (hp : p = 142 ∨ p = 145) : ∃ z : Nat, z ≤ 40 ∧ Fi h p 1 = nI z := by
  rcases hp with rfl | rfl
  · exact hc_rule hh rfl (by decide) rfl
  · exact hc_rule hh rfl (by decide) rfl
/-- what a law's reading leaves of the class: the answer behind it -/
def lawA (q : QT) (cc gc : Nat) (h : pm_H) (z : Nat) (r : Int32) : Int32 × pm_H := if q.1 = 145 then v122a q cc gc h z r else v122b q cc gc h z r
/-- the class: the read rule stands where it isn't ruling -/
theorem law_x (hL : LI5 h) (hc : HC q cc gc h) (ot : OT q h) (hr : pm_run PT n fr lo 122 (0, pm_l0 [.ref 0] 4, [], h, 198, sl) = some R) : ∃ (n0 z : Nat) (f0 : Nat → Int32) (hB : pm_H), (n0 ≤ 80 ∧ Fi h 162 15 = nI n0 ∧ ∀ j, j < n0 → f0 j = Ar h 172 j) ∧ (HC q cc gc hB ∧ ah_ok bB 198 [] hB) ∧ (kpf SF2 h hB ∧ (Ar hB (q.1 + 1) = Ar h (q.1 + 1) ∧ hB q.1 = h q.1) ∧ OT q hB) ∧ (z ≤ 40 ∧ Fi hB (287 - q.1) 1 = nI z ∧ (zK f0 n0 = true → kX hB (287 - q.1) (dsX f0 n0))) ∧ R = (some (.int (lawA q cc gc hB z (zF f0 n0)).1), (lawA q cc gc hB z (zF f0 n0)).2, 198, sl) ∧ HC q cc gc (lawA q cc gc hB z (zF f0 n0)).2 ∧ frm [1, 3, 4, 12, 142, 144, 145, 147] [(1, 1), (3, 1), (142, 3), (145, 3)] hB (lawA q cc gc hB z (zF f0 n0)).2 := by
  have hI : mInv h := hL.1
  obtain ⟨-, ⟨n0, cc0, f0, g0, hn, hc0, ⟨x1, x2⟩, ⟨y1, y2, y3⟩, hjj⟩, -⟩ := hL
  obtain ⟨fs, a1, a2, a3⟩ := ty_x2 hI.1
  have px : pX h n0 cc0 f0 := ⟨⟨fs, a1, a2, a3⟩, x1.1, x1.2, x2⟩
  obtain ⟨fo, o1, o2⟩ := id ot
  have ho : (287 - q.1 = 142 ∧ q.1 = 145) ∨ (287 - q.1 = 145 ∧ q.1 = 142) := by
    rcases hc.qq with e | e
    · exact Or.inr ⟨by omega, e⟩
    · exact Or.inl ⟨by omega, e⟩
  have ho2 : 287 - q.1 = 142 ∨ 287 - q.1 = 145 := by
    rcases ho with e | e
    · exact Or.inl e.1
    · exact Or.inr e.1
  have hok : oOk2 (287 - q.1) := by
    rcases ho with ⟨e, -⟩ | ⟨e, -⟩
    · rw [e]
      exact ⟨⟨by decide, by decide, by decide, by decide, by decide⟩, by decide, by decide, by decide, by decide, by decide⟩
    · rw [e]
      exact ⟨⟨by decide, by decide, by decide, by decide, by decide⟩, by decide, by decide, by decide, by decide, by decide⟩
  obtain ⟨rs, w5, s1, e0, e4, e5, es, er, eC⟩ := rule_ob hI.1 ho2
  obtain ⟨n, hh⟩ := rn_i rfl rfl rfl rfl hr
  have hh : pm_run PT n fr lo 122 (1, [some (.ref 0), none, none, none], [.ref 0], h, 198, sl) = some R := hh
  obtain ⟨n, hh⟩ := rn_gfo (g := 9) rfl rfl (by decide) o1 o2 hh
  obtain ⟨n, fr', lo', r1, hr1, hh⟩ := rn_call (w := 0) (t := 58) rfl rfl hh
  obtain ⟨c1, c2, c3⟩ := rdc_run hok hn px er eC e0 e4 e5 es hr1
  have c4 := rdc_keep ho hI.1 hr1
  have c5 : fm (sfF rdP) h r1.2.1 := sf_run rd_sf _ _ _ 58 _ r1 rfl hr1
  have c6 : fm (sfF w2P) h r1.2.1 := sf_run w2_ok _ _ _ 58 _ r1 rfl hr1
  obtain ⟨t1, t2⟩ := typ58 ho2 hI.1 hr1
  obtain ⟨rv, hB, s2⟩ := r1
  dsimp only at c1 c2 c3 c4 c5 c6 t1 t2
  subst c1
  subst c2
  have kf : kpf SF2 h hB := kp2_fm hI.1 c6
  have k162 : hB 162 = h 162 := t2.1 162 rfl
  have g1 : ruA q.1 q.1 = true := by
    unfold ruA
    rw [show Nat.beq q.1 q.1 = true from Nat.beq_refl _]
    rfl
  have g2 : ruA q.1 (q.1 + 1) = true := by
    unfold ruA
    rw [show Nat.beq (q.1 + 1) (q.1 + 1) = true from Nat.beq_refl _, Bool.true_or, Bool.or_true]
  have k8 : ∀ g, g = 8 ∨ g = 9 → k0f g h hB := fun g hg fs p e e2 => by
    obtain ⟨fs', e', -, hk⟩ := c5.2 0 10 fs e
    exact ⟨fs', e', (hk g (by rcases hg with rfl | rfl <;> rfl)).trans e2⟩
  have cB : HC q cc gc hB := HC_n2 hc (wt_of t1) ((kf 5 0 rfl).trans hc.x0) ((kf 5 1 rfl).trans hc.x1) ((Fi_e k162).trans hc.m3) ((Fi_e k162).trans hc.m4) (Fi_e k162) (Fi_e (c4 _ g1)) (k8 8 (Or.inl rfl)) hc.cb hc.gb
  obtain ⟨fs9, p1, p2⟩ := k8 9 (Or.inr rfl) fo _ o1 o2
  have hh : pm_run PT n fr lo 122 (7, [some (.ref 0), none, none, none], [.int (zF f0 n0)], hB, 198, sl) = some R := hh
  obtain ⟨n, hh⟩ := rn_i rfl rfl rfl rfl hh
  have hh : pm_run PT n fr lo 122 (8, [some (.ref 0), some (.int (zF f0 n0)), none, none], [], hB, 198, sl) = some R := hh
  obtain ⟨z, hz, ez⟩ := rule_sz t1 ho2
  have e172 : g0 = Ar h 172 := (Ar_of y2).symm
  refine ⟨n0, z, f0, hB, ⟨hn, Fi_m y1, fun j hj => by rw [← e172]; exact hjj j hj⟩, ⟨cB, t1⟩, ⟨kf, ⟨Ar_e (c4 _ g2), c4 _ g1⟩, ⟨fs9, p1, p2⟩⟩, ⟨hz, ez, c3⟩, ?_⟩
  unfold lawA
  rcases ho with ⟨e1, e2⟩ | ⟨e1, e2⟩
  · rw [if_pos e2]
    rw [e1] at ez p2
    exact v122a_ok cB hz ⟨fs9, p1, p2⟩ ez (na_17 t1) hh
  · rw [if_neg (by omega)]
    rw [e1] at ez p2
    exact v122b_ok cB hz ⟨fs9, p1, p2⟩ ez (na_17 t1) hh
/-- the reference reads the law -/
theorem law_m (hI : mInv h) (hc : HC q cc gc h) (hn : n0 ≤ 80) (t15 : Fi h 162 15 = nI n0) (hr : pm_run PT n fr lo 258 (0, pm_l0 [.ref 162] 5, [], h, 198, sl) = some R) : ∃ (hC : pm_H) (n : Nat), (mInv hC ∧ HC q cc gc hC) ∧ ((∀ i, i < 162 → hC i = h i) ∧ (∀ i, i ≠ 162 → i ≠ 175 → hC i = h i) ∧ ∀ g, g ≠ 0 → g ≠ 15 → g ≠ 16 → g ≠ 17 → g ≠ 18 → g ≠ 24 → Fi hC 162 g = Fi h 162 g) ∧ (zK (Ar h 172) n0 = true → kN hC (esM (Ar h 172) n0)) ∧ pm_run PT n fr lo 258 (9, [some (.ref 162), none, none, none, none], [.int (zA (Ar h 172) n0)], hC, 198, sl) = some R := by
  obtain ⟨hh0, hq⟩ := id hI
  obtain ⟨x0, h0, -⟩ := ty_fld hh0 (g := 0) rfl
  obtain ⟨w16, h16⟩ := ty_mi hh0 16 (by decide +kernel) (by decide +kernel)
  obtain ⟨w17, h17⟩ := ty_mi hh0 17 (by decide +kernel) (by decide +kernel)
  obtain ⟨w18, h18⟩ := ty_mi hh0 18 (by decide +kernel) (by decide +kernel)
  obtain ⟨w24, h24⟩ := ty_mi hh0 24 (by decide +kernel) (by decide +kernel)
  have h15 : mF h 15 (.int (nI n0)) := by
    have z := wt_i (c := 162) (g := 15) hc.wt (by decide) rfl (by decide) rfl
    rw [t15] at z
    exact z
  have h14 := ty_m14 hh0
  have h22 := ty_ref hh0 (g := 22) (p := 175) rfl
  have hA : h 172 = .inl (0, 80, .inl (Ar h 172)) := wt_a hc.wt (by decide) rfl (by decide)
  have hR : h 175 = .inl (0, 80, .inl (Ar h 175)) := wt_a hc.wt (by decide) rfl (by decide)
  have hC0 : h 174 = .inl (0, 80, .inl (Ar h 174)) := wt_a hc.wt (by decide) rfl (by decide)
  obtain ⟨x23, h23, v23⟩ := ty_fld hh0 (g := 23) rfl
  obtain ⟨n, hh⟩ := rn_i rfl rfl rfl rfl hr
  obtain ⟨n, hh⟩ := rn_i rfl rfl rfl rfl hh
  have hh : pm_run PT n fr lo 258 (2, [some (.ref 162), none, none, none, none], [.int 0, .ref 162], h, 198, sl) = some R := hh
  obtain ⟨n, hh⟩ := rn_pfm (w := x0) rfl rfl rfl (by decide) h0 hh
  obtain ⟨n, hh⟩ := rn_i rfl rfl rfl rfl hh
  have hh : pm_run PT n fr lo 258 (6, [some (.ref 162), none, none, none, none], [.ref 162], mset h 0 (.int 0), 198, sl) = some R := hh
  obtain ⟨n, fr', lo', r1, hr1, hh⟩ := rn_call (w := 0) (t := 196) rfl rfl hh
  obtain ⟨c1, c2, c3⟩ := rdn_run (tp := Ar h 172) (mset_arr (by decide) hR) hn (mF_ne (by decide) h15) (mF_ne (by decide) h16) (mF_ne (by decide) h17) (mF_ne (by decide) h18) (mF_ne (by decide) h24) (mF_ne (by decide) h14) (mset_arr (by decide) hA) (mF_ne (by decide) h22) hr1
  obtain ⟨f, hC, a, t, nn, c, rc2, tp2, er, d2, s2, m15, ha, ht, hnn, hcn, f1, f2, f3⟩ := rn_dt (F := 400) (Lo := 10000) (hd_readsRule (fr := 400) (lo := 10000) (sl := sl) (n := n0) (mF_ne (by decide) h15) (mF_ne (by decide) h16) (mF_ne (by decide) h17) (mF_ne (by decide) h18) (mF_ne (by decide) h24) (mF_ne (by decide) h14) (mset_arr (by decide) hA) (mF_ne (by decide) h22) (mset_arr (by decide) hR) hn (by omega) (by omega)) hr1
  subst er
  dsimp only at c1 c2 c3
  have c1 : f = zA (Ar h 172) n0 := by
    injection c1 with c1
    injection c1
  subst c1
  obtain ⟨p1, p2, p3, p4, p5, p6, p7, p8⟩ := s2
  have d0 : dD ruC ruG h hC := dD_tr (dD_set rfl) (dD_mono d2 (fun i q => by unfold ruC at q; rw [Bool.or_eq_false_iff] at q; exact q.1) (fun g q => by unfold ruG at q; rw [Bool.or_eq_false_iff, Bool.or_eq_false_iff] at q; exact q.2.2))
  have m0 : mF hC 0 (.int 0) := dD_mF d2 rfl (mF_self h0)
  have m23 : mF hC 23 x23 := dD_mF d2 rfl (mF_ne (by decide) h23)
  have mC : hC 174 = .inl (0, 80, .inl (Ar h 174)) := (d2.1 174 (by decide) rfl).trans (mset_arr (by decide) hC0)
  have dq : dD rDC (fun g => Nat.beq g 0 || rDG g) h hC := dD_tr (dD_set rfl) (dD_mono d2 (fun _ q => q) (fun g q => by rw [Bool.or_eq_false_iff] at q; exact q.2))
  have hI2 : mInv hC := ⟨dD_ty hh0 d0 (fun i hi _ _ => ru_cell hi p8 mC) (fun g hg b hb => ru_fld hg hb m0 m15 p1 p2 p5 p6 m23 v23 ha ht hnn hcn), rxQ_dD dq rfl rfl rfl rfl rfl rfl hq⟩
  have l2 : ∀ i, i < 162 → hC i = h i := x_lt d0 (fun i hi => ruC_lt hi)
  have cs : ∀ i, i ≠ 162 → i ≠ 175 → hC i = h i := fun i n1 n2 => dq.1 i n1 (by
    unfold rDC
    cases y : Nat.beq i 175 with
    | false => rfl
    | true => exact absurd (Nat.eq_of_beq_eq_true y) n2)
  have fg : ∀ g, g ≠ 0 → g ≠ 15 → g ≠ 16 → g ≠ 17 → g ≠ 18 → g ≠ 24 → Fi hC 162 g = Fi h 162 g := by
    intro g n1 n2 n3 n4 n5 n6
    obtain ⟨fs, e, -⟩ := id h0
    obtain ⟨fs', e', -, hk⟩ := dq.2 fs e
    have nb : ∀ k, g ≠ k → Nat.beq g k = false := fun k hk => by
      cases y : Nat.beq g k with
      | false => rfl
      | true => exact absurd (Nat.eq_of_beq_eq_true y) hk
    have z := hk g (by
      show (Nat.beq g 0 || rDG g) = false
      unfold rDG
      rw [nb 0 n1, nb 15 n2, nb 16 n3, nb 17 n4, nb 18 n5, nb 24 n6]
      rfl)
    unfold Fi
    rw [e, e']
    dsimp only
    rw [z]
  refine ⟨hC, n, ⟨hI2, HC_n2 hc (wt_of hI2.1) ((Fi_e (l2 5 (by decide))).trans hc.x0) ((Fi_e (l2 5 (by decide))).trans hc.x1) ((fg 3 (by decide) (by decide) (by decide) (by decide) (by decide) (by decide)).trans hc.m3) ((fg 4 (by decide) (by decide) (by decide) (by decide) (by decide) (by decide)).trans hc.m4) (fg 23 (by decide) (by decide) (by decide) (by decide) (by decide) (by decide)) (Fi_e (l2 q.1 (by have := hc.qq; omega))) (fun fs p e e2 => ⟨fs, (l2 0 (by decide)).trans e, e2⟩) hc.cb hc.gb⟩, ⟨l2, cs, fg⟩, c3, hh⟩
/-- the codes laid -/
theorem w197a_ar {m : Nat} : (∀ j, j < m → Ar (w197a q cc gc h m) 174 j = Ar h 175 j) := by
  have z := lp_in (f := fun i a => w197a_7b q cc gc a m i) (P := fun i a => Ar a 175 = Ar h 175 ∧ ∀ j, j < i → Ar a 174 j = Ar h 175 j) m 0 (fset h 162 23 (.int (nI m))) ⟨Ar_f, fun j hj => absurd hj (Nat.not_lt_zero j)⟩ (fun k a _ _ p => by
    obtain ⟨p1, p2⟩ := p
    refine ⟨?_, fun j hj => ?_⟩
    · show Ar (aset a 174 80 (upd (Ar a 174) k ((Ar a 175) k))) 175 = _
      rw [Ar_n (by decide)]
      exact p1
    · show Ar (aset a 174 80 (upd (Ar a 174) k ((Ar a 175) k))) 174 j = _
      rw [Ar_s, p1]
      by_cases y : j = k
      · rw [y, up_e rfl]
      · rw [up_n y]
        exact p2 j (by omega))
  exact fun j hj => z.2 j (by omega)
theorem w197b_ar {m : Nat} : (∀ j, j < m → Ar (w197b q cc gc h m) 174 j = Ar h 193 j) := by
  have z := lp_in (f := fun i a => w197b_7b q cc gc a m i) (P := fun i a => Ar a 193 = Ar h 193 ∧ ∀ j, j < i → Ar a 174 j = Ar h 193 j) m 0 (fset h 162 23 (.int (nI m))) ⟨Ar_f, fun j hj => absurd hj (Nat.not_lt_zero j)⟩ (fun k a _ _ p => by
    obtain ⟨p1, p2⟩ := p
    refine ⟨?_, fun j hj => ?_⟩
    · show Ar (aset a 174 80 (upd (Ar a 174) k ((Ar a 193) k))) 193 = _
      rw [Ar_n (by decide)]
      exact p1
    · show Ar (aset a 174 80 (upd (Ar a 174) k ((Ar a 193) k))) 174 j = _
      rw [Ar_s, p1]
      by_cases y : j = k
      · rw [y, up_e rfl]
      · rw [up_n y]
        exact p2 j (by omega))
  exact fun j hj => z.2 j (by omega)
theorem w258_ar {m : Nat} {t1 t2 t3 : Int32} : (∀ j, j < m → Ar (w258_35 q cc gc m t1 t2 t3 m 0 h) 193 j = Ar h 174 j) := by
  have z := lp_in (f := fun i a => w258_35b q cc gc a m t1 t2 t3 i) (P := fun i a => Ar a 174 = Ar h 174 ∧ ∀ j, j < i → Ar a 193 j = Ar h 174 j) m 0 h ⟨rfl, fun j hj => absurd hj (Nat.not_lt_zero j)⟩ (fun k a _ _ p => by
    obtain ⟨p1, p2⟩ := p
    refine ⟨?_, fun j hj => ?_⟩
    · show Ar (aset a 193 80 (upd (Ar a 193) k ((Ar a 174) k))) 174 = _
      rw [Ar_n (by decide)]
      exact p1
    · show Ar (aset a 193 80 (upd (Ar a 193) k ((Ar a 174) k))) 193 j = _
      rw [Ar_s, p1]
      by_cases y : j = k
      · rw [y, up_e rfl]
      · rw [up_n y]
        exact p2 j (by omega))
  exact fun j hj => z.2 j (by omega)
theorem w197a_f {m : Nat} (hm : m ≤ 80) (hw : WT h) : Fi (w197a q cc gc h m) 162 23 = nI m := by
  have w1 : WT (fset h 162 23 (.int (nI m))) := wt_fs rfl (by decide) rfl hw
  have z := (w197a_7_fr (q := q) (cc := cc) (gc := gc) (m2 := m) hm (j := m) (i := 0) w1).2.1 162 rfl
  show Fi (w197a_7 q cc gc m m 0 (fset h 162 23 (.int (nI m)))) 162 23 = nI m
  rw [Fi_e z]
  exact Fi_s hw (by decide) rfl (by decide) rfl
theorem w197b_f {m : Nat} (hm : m ≤ 80) (hw : WT h) : Fi (w197b q cc gc h m) 162 23 = nI m := by
  have w1 : WT (fset h 162 23 (.int (nI m))) := wt_fs rfl (by decide) rfl hw
  have z := (w197b_7_fr (q := q) (cc := cc) (gc := gc) (m2 := m) hm (j := m) (i := 0) w1).2.1 162 rfl
  show Fi (w197b_7 q cc gc m m 0 (fset h 162 23 (.int (nI m)))) 162 23 = nI m
  rw [Fi_e z]
  exact Fi_s hw (by decide) rfl (by decide) rfl
theorem frm_fi {W : List Nat} {V : List (Nat × Nat)} {g : Nat} (f : frm W V h h1) (e : V.elem (162, g) = false) : Fi h1 162 g = Fi h 162 g := f.2 162 g rfl e
/-- law, behind its reading: both codes are evaluated, the old one is laid back -/
theorem law_tail (hc : HC q cc gc h) (na : NA h 170 78 86 6) (hu : u ≤ 80) (e24 : Fi h 162 24 = nI u) (hh : pm_run PT n fr lo 258 (22, [some (.ref 162), some (.int r), none, none, none], [], h, 198, sl) = some R) : ∃ (h3 h5 : pm_H) (w : Int32), R = (some (.int w), h5, 198, sl) ∧ (HC q cc gc h5 ∧ frm [162, 163, 174, 176, 177, 193] [(162, 1), (162, 23)] h h5 ∧ ∀ j, j < q.2.2 → Ar h5 174 j = Ar h 174 j) ∧ (HC (q.1, q.2.1, u) cc gc h3 ∧ frm [162, 174, 176, 177, 193] [(162, 23)] h h3 ∧ ∀ j, j < u → Ar h3 174 j = Ar h 175 j) ∧ w = (v257 (q.1, q.2.1, u) cc gc h3).1 - (v257 q cc gc h).1 := by
  have hu2 := hc.zr
  obtain ⟨n, hh⟩ := rn_i rfl rfl rfl rfl hh
  have hh : pm_run PT n fr lo 258 (23, [some (.ref 162), some (.int r), none, none, none], [.ref 162], h, 198, sl) = some R := hh
  obtain ⟨n, fr1, lo1, r1, hh1, hh⟩ := rn_call (w := 0) (t := 257) rfl rfl hh
  obtain ⟨er, c1, f1⟩ := v257_ok hc na hh1
  subst er
  have hh : pm_run PT n fr lo 258 (26, [some (.ref 162), some (.int r), none, none, none], [.int (v257 q cc gc h).1], (v257 q cc gc h).2, 198, sl) = some R := hh
  have a174 : Ar (v257 q cc gc h).2 174 = Ar h 174 := Ar_e (f1.1 174 rfl)
  have a175 : Ar (v257 q cc gc h).2 175 = Ar h 175 := Ar_e (f1.1 175 rfl)
  have na1 : NA (v257 q cc gc h).2 170 78 86 6 := NA_e (Ar_e (f1.1 170 rfl)) na
  have f1' : frm [162, 174, 176, 177, 193] [(162, 23)] h (v257 q cc gc h).2 := fr_g rfl rfl f1 fr_0
  have e24a : Fi (v257 q cc gc h).2 162 24 = nI u := (frm_fi f1' rfl).trans e24
  generalize (v257 q cc gc h).1 = V1 at *
  generalize (v257 q cc gc h).2 = hA at *
  have hh : pm_run PT n fr lo 258 (26, [some (.ref 162), some (.int r), none, none, none], [.int V1], hA, 198, sl) = some R := hh
  obtain ⟨n, hh⟩ := rn_i rfl rfl rfl rfl hh
  obtain ⟨n, hh⟩ := rn_i rfl rfl rfl rfl hh
  have hh : pm_run PT n fr lo 258 (28, [some (.ref 162), some (.int r), some (.int V1), none, none], [.ref 162], hA, 198, sl) = some R := hh
  obtain ⟨n, hh⟩ := rn_gi (x := nI q.2.2) c1.wt rfl rfl (by decide) rfl (by decide) rfl c1.m23 hh
  obtain ⟨n, hh⟩ := rn_i rfl rfl rfl rfl hh
  obtain ⟨n, hh⟩ := rn_i rfl rfl rfl rfl hh
  obtain ⟨n, hh⟩ := rn_i rfl rfl rfl rfl hh
  have hh : pm_run PT n fr lo 258 (35, [some (.ref 162), some (.int r), some (.int V1), some (.int (nI q.2.2)), some (.int (nI 0))], [], hA, 198, sl) = some R := hh
  obtain ⟨n, wc, w2, f2, e23, hh⟩ := w258_35_ok (cc := cc) (gc := gc) (q := q) (z162_23 := q.2.2) (i := 0) (j := q.2.2) (by omega) (by omega) c1.wt hu2 c1.m23 hh
  have b193 := w258_ar (q := q) (cc := cc) (gc := gc) (h := hA) (m := q.2.2) (t1 := r) (t2 := V1) (t3 := nI q.2.2)
  have b175 : Ar (w258_35 q cc gc q.2.2 r V1 (nI q.2.2) q.2.2 0 hA) 175 = Ar hA 175 := Ar_e (f2.1 175 rfl)
  have e24b : Fi (w258_35 q cc gc q.2.2 r V1 (nI q.2.2) q.2.2 0 hA) 162 24 = nI u := (Fi_e (f2.1 162 rfl)).trans e24a
  have f2' : frm [162, 174, 176, 177, 193] [(162, 23)] h (w258_35 q cc gc q.2.2 r V1 (nI q.2.2) q.2.2 0 hA) := fr_g rfl rfl f2 f1'
  generalize w258_35 q cc gc q.2.2 r V1 (nI q.2.2) q.2.2 0 hA = hB at *
  have hh : pm_run PT n fr lo 258 (64, [some (.ref 162), some (.int r), some (.int V1), some (.int (nI q.2.2)), wc], [], hB, 198, sl) = some R := hh
  obtain ⟨n, hh⟩ := rn_i rfl rfl rfl rfl hh
  obtain ⟨n, hh⟩ := rn_i rfl rfl rfl rfl hh
  have hh : pm_run PT n fr lo 258 (66, [some (.ref 162), some (.int r), some (.int V1), some (.int (nI q.2.2)), wc], [.ref 162, .ref 162], hB, 198, sl) = some R := hh
  obtain ⟨n, hh⟩ := rn_gr w2 rfl rfl (by decide) rfl (by decide) (show _ = some (2, ((175 : Nat) : Int), 1) from rfl) rfl hh
  obtain ⟨n, hh⟩ := rn_i rfl rfl rfl rfl hh
  have hh : pm_run PT n fr lo 258 (70, [some (.ref 162), some (.int r), some (.int V1), some (.int (nI q.2.2)), wc], [.ref 162, .ref 175, .ref 162], hB, 198, sl) = some R := hh
  obtain ⟨n, hh⟩ := rn_gi (x := nI u) w2 rfl rfl (by decide) rfl (by decide) rfl e24b hh
  have hh : pm_run PT n fr lo 258 (73, [some (.ref 162), some (.int r), some (.int V1), some (.int (nI q.2.2)), wc], [.int (nI u), .ref 175, .ref 162], hB, 198, sl) = some R := hh
  obtain ⟨n, fr1, lo1, r1, hh1, hh⟩ := rn_call (w := 0) (t := 197) rfl rfl hh
  obtain ⟨er, w3, f3⟩ := w197a_ok (q := q) (cc := cc) (gc := gc) w2 (by omega) hu hh1
  subst er
  have d174 := w197a_ar (q := q) (cc := cc) (gc := gc) (h := hB) (m := u)
  have e23c : Fi (w197a q cc gc hB u) 162 23 = nI u := w197a_f hu w2
  have d193 : Ar (w197a q cc gc hB u) 193 = Ar hB 193 := Ar_e (f3.1 193 rfl)
  have f3' : frm [162, 174, 176, 177, 193] [(162, 23)] h (w197a q cc gc hB u) := fr_g rfl rfl f3 f2'
  generalize w197a q cc gc hB u = hC at *
  have ne : ∀ i, i < 162 → (List.elem i [162, 174, 176, 177, 193]) = false := fun i hi => by
    cases y : List.elem i [162, 174, 176, 177, 193] with
    | false => rfl
    | true =>
      have y := List.elem_iff.mp y
      simp at y
      omega
  have nv : ∀ g, g ≠ 23 → (List.elem ((162, g) : Nat × Nat) [(162, 23)]) = false := fun g hg => by
    cases y : List.elem ((162, g) : Nat × Nat) [(162, 23)] with
    | false => rfl
    | true =>
      have y := List.elem_iff.mp y
      simp at y
      exact absurd y hg
  have c3 : HC (q.1, q.2.1, u) cc gc hC := HC_u hc w3 (fun i hi => f3'.1 i (ne i hi)) (fun g h1 _ => frm_fi f3' (nv g h1)) e23c hu
  have na3 : NA hC 170 78 86 6 := NA_e (Ar_e (f3'.1 170 rfl)) na
  have hh : pm_run PT n fr lo 258 (76, [some (.ref 162), some (.int r), some (.int V1), some (.int (nI q.2.2)), wc], [], hC, 198, sl) = some R := hh
  obtain ⟨n, hh⟩ := rn_i rfl rfl rfl rfl hh
  have hh : pm_run PT n fr lo 258 (77, [some (.ref 162), some (.int r), some (.int V1), some (.int (nI q.2.2)), wc], [.ref 162], hC, 198, sl) = some R := hh
  obtain ⟨n, fr1, lo1, r1, hh1, hh⟩ := rn_call (w := 0) (t := 257) rfl rfl hh
  obtain ⟨er, c4, f4⟩ := v257_ok c3 na3 hh1
  subst er
  have g193 : Ar (v257 (q.1, q.2.1, u) cc gc hC).2 193 = Ar hC 193 := Ar_e (f4.1 193 rfl)
  have f4' : frm [162, 174, 176, 177, 193] [(162, 23)] h (v257 (q.1, q.2.1, u) cc gc hC).2 := fr_g rfl rfl f4 f3'
  generalize (v257 (q.1, q.2.1, u) cc gc hC).2 = hD at *
  generalize hV : (v257 (q.1, q.2.1, u) cc gc hC).1 = V2 at *
  have hh : pm_run PT n fr lo 258 (80, [some (.ref 162), some (.int r), some (.int V1), some (.int (nI q.2.2)), wc], [.int V2], hD, 198, sl) = some R := hh
  obtain ⟨n, hh⟩ := rn_i rfl rfl rfl rfl hh
  obtain ⟨n, hh⟩ := rn_i rfl rfl rfl rfl hh
  obtain ⟨n, hh⟩ := rn_i rfl rfl rfl rfl hh
  have hh : pm_run PT n fr lo 258 (84, [some (.ref 162), some (.int r), some (.int V1), some (.int (nI q.2.2)), some (.int V2)], [.ref 162, .ref 162], hD, 198, sl) = some R := hh
  obtain ⟨n, hh⟩ := rn_gr c4.wt rfl rfl (by decide) rfl (by decide) (show _ = some (2, ((193 : Nat) : Int), 1) from rfl) rfl hh
  obtain ⟨n, hh⟩ := rn_i rfl rfl rfl rfl hh
  have hh : pm_run PT n fr lo 258 (88, [some (.ref 162), some (.int r), some (.int V1), some (.int (nI q.2.2)), some (.int V2)], [.int (nI q.2.2), .ref 193, .ref 162], hD, 198, sl) = some R := hh
  obtain ⟨n, fr1, lo1, r1, hh1, hh⟩ := rn_call (w := 0) (t := 197) rfl rfl hh
  obtain ⟨er, w5, f5⟩ := w197b_ok (q := q) (cc := cc) (gc := gc) c4.wt (by omega) hu2 hh1
  subst er
  have k174 := w197b_ar (q := q) (cc := cc) (gc := gc) (h := hD) (m := q.2.2)
  have e23e : Fi (w197b q cc gc hD q.2.2) 162 23 = nI q.2.2 := w197b_f hu2 c4.wt
  have f5' : frm [162, 174, 176, 177, 193] [(162, 23)] h (w197b q cc gc hD q.2.2) := fr_g rfl rfl f5 f4'
  generalize w197b q cc gc hD q.2.2 = hE at *
  have c5 : HC q cc gc hE := HC_u (q := q) hc w5 (fun i hi => f5'.1 i (ne i hi)) (fun g h1 _ => frm_fi f5' (nv g h1)) e23e hu2
  have hh : pm_run PT n fr lo 258 (91, [some (.ref 162), some (.int r), some (.int V1), some (.int (nI q.2.2)), some (.int V2)], [], hE, 198, sl) = some R := hh
  obtain ⟨er, c6, f6⟩ := v258e_ok c5 hh
  have f6' : frm [162, 163, 174, 176, 177, 193] [(162, 1), (162, 23)] h (v258e q cc gc hE r V1 (nI q.2.2) V2).2 := fr_g rfl rfl f6 (fr_g rfl rfl f5' fr_0)
  refine ⟨hC, (v258e q cc gc hE r V1 (nI q.2.2) V2).2, V2 - V1, er, ⟨c6, f6', fun j hj => ?_⟩, ⟨c3, f3', fun j hj => ?_⟩, by rw [hV]⟩
  · rw [Ar_e (f6.1 174 rfl), k174 j hj, g193, d193, b193 j hj, a174]
  · rw [d174 j hj, b175, a175]
theorem evl_cgC {f : List Int32 → Int32 → List Int32} {C D : Nat → Int32} : ∀ {k : Nat}, (∀ j, j < k → C j = D j) → evl f C k = evl f D k
  | 0, _ => rfl
  | k + 1, e => by
    show f (evl f C k) (C k) = f (evl f D k) (D k)
    rw [evl_cgC (fun j hj => e j (by omega)), e k (by omega)]
theorem VR_cgD {C D D' : Nat → Int32} (e : ∀ j, j < q.2.2 → D' j = D j) (s : VR q cc gc C D) : VR q cc gc C D' := by
  obtain ⟨V, v0, v1, v2, v3⟩ := s
  refine ⟨V, v0, v1, v2, fun z => ⟨?_, fun A => ?_⟩⟩
  · obtain ⟨⟨dn, hd⟩, -⟩ := v3 z
    exact ⟨dn, (dep_cong e).trans hd⟩
  · rw [evl_cgC e]
    exact (v3 z).2 A
theorem m1p_ge : ∀ p, p < 41 → pm_cmp .ge (Int32.ofInt (-1) - nI p) 0 = false := by decide +kernel
def kSB (W : List Nat) : Bool := SB.all (fun a => !(W.elem a))
def kS2 (V : List (Nat × Nat)) : Bool := SF2.all (fun p => isO p.1 && !(V.elem p))
theorem kpt_fr {W : List Nat} {V : List (Nat × Nat)} (f : frm W V h h1) (k : kSB W = true) : kpt SB h h1 := fun a e => Ar_e (f.1 a (nel (List.all_eq_true.mp k a (List.elem_iff.mp e))))
theorem kpf_fr {W : List Nat} {V : List (Nat × Nat)} (f : frm W V h h1) (k : kS2 V = true) : kpf SF2 h h1 := fun c g e => by
  have z := List.all_eq_true.mp k (c, g) (List.elem_iff.mp e)
  rw [Bool.and_eq_true] at z
  exact f.2 c g z.1 (nel2 z.2)
theorem SB_ne : SB.all (fun a => decide (a ≠ 162 ∧ a ≠ 175)) = true := by decide +kernel
theorem SF2_m : SF2.all (fun p => decide (p.1 < 162) || (Nat.beq p.1 162 && (decide (p.2 ≠ 0 ∧ p.2 ≠ 15 ∧ p.2 ≠ 16) && decide (p.2 ≠ 17 ∧ p.2 ≠ 18 ∧ p.2 ≠ 24)))) = true := by decide +kernel
/-- law keeps SR -/
theorem sr_law (hL : LI5 h) (pr : prun sl 122 258 [] h h1 h2 v w) (s : SR h) : SR h2 := by
  obtain ⟨q, cc, gc, hc, ⟨⟨vr, ot⟩, sc⟩⟩ := s
  obtain ⟨⟨m, r1⟩, ⟨f1, i1⟩, ⟨m2, r2⟩, lo1, i2⟩ := pr
  have hI : mInv h := hL.1
  obtain ⟨n0, z, f0, hB, ⟨hn, t15, hjj⟩, ⟨cB, tB⟩, ⟨kfB, ⟨kC, kq⟩, ⟨fs9, p1, p2⟩⟩, ⟨hz, ez, kx⟩, er, c1, g1⟩ := law_x hL hc ot r1
  injection er with b1 b2
  injection b2 with b2 b3
  rw [← b2] at c1 g1
  have fx : fm (sfF w2P) h h1 := sf_run w2_ok _ _ _ 122 _ (some (.int v), h1, 198, sl) rfl r1
  have kf1 : kpf SF2 h h1 := kp2_fm hI.1 fx
  have ka1 : kpt SB h h1 := s2x_kpt (R := (some (.int v), h1, 198, sl)) rfl rfl rfl hI f1 r1
  have eC1 : Ar h1 (q.1 + 1) = Ar h (q.1 + 1) := by
    refine Eq.trans (Ar_e (g1.1 (q.1 + 1) ?_)) kC
    rcases hc.qq with e | e <;> (rw [e]; rfl)
  have ot1 : h1 0 = .inr (10, fs9) := (g1.1 0 rfl).trans p1
  have x172 : Ar h1 172 = Ar h 172 := Ar_e (f1.1 172 rfl)
  have x174 : Ar h1 174 = Ar h 174 := Ar_e (f1.1 174 rfl)
  obtain ⟨hC, n, ⟨iC, cC⟩, ⟨l2, cs, fg⟩, kn, hh⟩ := law_m i1 c1 hn ((Fi_e (f1.1 162 rfl)).trans t15) r2
  rw [x172] at kn hh
  have kaC : kpt SB h1 hC := fun a e => by
    have y := of_decide_eq_true (List.all_eq_true.mp SB_ne a (List.elem_iff.mp e))
    exact Ar_e (cs a y.1 y.2)
  have kfC : kpf SF2 h1 hC := fun c g e => by
    have y := List.all_eq_true.mp SF2_m (c, g) (List.elem_iff.mp e)
    rw [Bool.or_eq_true, Bool.and_eq_true, Bool.and_eq_true] at y
    rcases y with y | ⟨y1, y2, y3⟩
    · exact Fi_e (l2 c (of_decide_eq_true y))
    · have y1 : c = 162 := Nat.eq_of_beq_eq_true y1
      subst y1
      have y2 := of_decide_eq_true y2
      have y3 := of_decide_eq_true y3
      exact fg g y2.1 y2.2.1 y2.2.2 y3.1 y3.2.1 y3.2.2
  have q162 : q.1 + 1 < 162 ∧ q.1 < 162 := by
    have := hc.qq
    omega
  have vrC : VR q cc gc (Ar hC (q.1 + 1)) (Ar hC 174) := by
    rw [Ar_e (l2 _ q162.1), eC1, Ar_e (cs 174 (by decide) (by decide)), x174]
    exact vr
  obtain ⟨n, hh⟩ := rn_i rfl rfl rfl rfl hh
  obtain ⟨n, hh⟩ := rn_i rfl rfl rfl rfl hh
  have hh : pm_run PT n _ _ 258 (11, [some (.ref 162), some (.int (zA (Ar h 172) n0)), none, none, none], [.int (zA (Ar h 172) n0)], hC, 198, sl) = some (some (.int w), h2, 198, sl) := hh
  obtain ⟨n, hh⟩ := rn_if (cc := .ge) (off := 11) (t := 22) rfl rfl hh
  cases hz2 : zK (Ar h 172) n0 with
  | false =>
    obtain ⟨p, p1', -, p3⟩ := zK_nF hz2
    rw [p3, m1p_ge p (by omega)] at hh
    have hh : pm_run PT n _ _ 258 (14, [some (.ref 162), some (.int (Int32.ofInt (-1) - nI p)), none, none, none], [], hC, 198, sl) = some (some (.int w), h2, 198, sl) := hh
    obtain ⟨n, hh⟩ := rn_i rfl rfl rfl rfl hh
    obtain ⟨n, hh⟩ := rn_i rfl rfl rfl rfl hh
    obtain ⟨n, hh⟩ := rn_i rfl rfl rfl rfl hh
    obtain ⟨n, hh⟩ := rn_i rfl rfl rfl rfl hh
    obtain ⟨n, hh⟩ := rn_i rfl rfl rfl rfl hh
    have e := (rn_ret rfl (Or.inl rfl) hh).2
    injection e with d1 d2
    injection d2 with d2 d3
    rw [d2]
    exact ⟨q, cc, gc, cC, ⟨vrC, ⟨fs9, (l2 0 (by decide)).trans ot1, p2⟩⟩, SRc_keep (kpt_tr ka1 kaC) (kpf_tr kf1 kfC) sc⟩
  | true =>
    rw [zK_A hz2, show pm_cmp .ge (Int32.ofInt 0) 0 = true by decide] at hh
    have hh : pm_run PT n _ _ 258 (22, [some (.ref 162), some (.int (Int32.ofInt 0)), none, none, none], [], hC, 198, sl) = some (some (.int w), h2, 198, sl) := hh
    obtain ⟨k24, D, kD, kj⟩ := kn hz2
    have hl := esM_len hz2
    obtain ⟨h3, h5, w', er5, ⟨c5, f5, g5⟩, -, -⟩ := law_tail cC (na_170 iC.1) (by omega) (Fi_m k24) hh
    injection er5 with d1 d2
    injection d2 with d2 d3
    rw [d2]
    refine ⟨q, cc, gc, c5, ⟨?_, ⟨fs9, (f5.1 0 rfl).trans ((l2 0 (by decide)).trans ot1), p2⟩⟩, SRc_keep (kpt_tr (kpt_tr ka1 kaC) (kpt_fr f5 (by decide +kernel))) (kpf_tr (kpf_tr kf1 kfC) (kpf_fr f5 (by decide +kernel))) sc⟩
    have e1 : Ar h5 (q.1 + 1) = Ar hC (q.1 + 1) := Ar_e (f5.1 (q.1 + 1) (by rcases hc.qq with e | e <;> (rw [e]; rfl)))
    rw [e1]
    exact VR_cgD (fun j hj => g5 j hj) vrC
/-- years keeps SR -/
theorem cg_pos (hI : mInv h) (hc : HC q cc gc h) : 0 < gc → 0 < cc := by
  obtain ⟨-, ⟨a, b, z1, z2, y6, y8, z3⟩, -⟩ := hI.2
  intro hg
  have h6 := hc.cb
  have h8 := hc.gb
  have e3 := nI_ij (by omega) (by omega) ((Fi_m z1).symm.trans hc.m3)
  have e4 := nI_ij (by omega) (by omega) ((Fi_m z2).symm.trans hc.m4)
  omega
theorem st_years {m : Int32} (pr : prun sl 124 263 [r, m] h h1 h2 v w) (hI : mInv h) (s : SR h) : SR h2 := by
  obtain ⟨⟨m1, r1⟩, ⟨f1, i1⟩, ⟨m2, r2⟩, -, -⟩ := pr
  obtain ⟨q, cc, gc, hc, s⟩ := s
  have b1 : pm_cmp .lt m (nI 1) = decide (m.toInt < 1) := cl_lt (c := 1) (by decide)
  have b2 : pm_cmp .le m (nI 60) = decide (m.toInt ≤ 60) := cl_le (c := 60) (by decide)
  have b3 : in_b m.toInt64 (Int64.ofNat 1) (60 : Int64) = decide (1 ≤ m.toInt ∧ m.toInt ≤ 60) := in_lh m (by decide) (by decide)
  by_cases z : 1 ≤ m.toInt ∧ m.toInt ≤ 60
  · obtain ⟨k, rfl, hk, ek⟩ := hI_of (x := m) (by omega)
    obtain ⟨a1, c1, g1⟩ := v124_ok hc (by omega) (na_17 hI.1) r1
    cases a1
    obtain ⟨a2, c2, g2⟩ := v263_ok c1 (by omega) (cg_pos i1 c1) (na_170 i1.1) r2
    cases a2
    exact ⟨q, cc, gc, c2, SR_fr c1 (SR_fr hc s g1 (by decide +kernel)) g2 (by decide +kernel)⟩
  · rw [decide_eq_false z] at b3
    by_cases y : m.toInt < 1
    · rw [decide_eq_true y] at b1
      have a1 := v124w1_ok hc b1 r1
      cases a1
      obtain ⟨a2, c2, g2⟩ := v263w_ok hc b3 r2
      cases a2
      exact ⟨q, cc, gc, c2, SR_fr hc s g2 (by decide +kernel)⟩
    · rw [decide_eq_false y] at b1
      rw [decide_eq_false (by omega)] at b2
      have a1 := v124w2_ok hc b1 b2 r1
      cases a1
      obtain ⟨a2, c2, g2⟩ := v263w_ok hc b3 r2
      cases a2
      exact ⟨q, cc, gc, c2, SR_fr hc s g2 (by decide +kernel)⟩
end LAW
