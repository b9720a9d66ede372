/-! SR behind new COURTS and new GIFTS -/
section CGS
variable {sl cc gc cc' gc' fi si n0 r N : Nat} {q : QT} {h h1 h2 X M Z : pm_H} {v w x : Int32}
theorem nI_le0 (hr : r < 2 ^ 31) (e : pm_cmp .le (nI r) 0 = true) : r = 0 := by
  have e : nI r ≤ 0 := of_decide_eq_true e
  rw [Int32.le_iff_toInt_le, nI_toInt hr, show (0 : Int32).toInt = 0 by decide] at e
  omega
theorem nI_ge0 (hr : r < 2 ^ 31) (e : pm_cmp .ge (nI r) 0 = false) : False := by
  have e : ¬ (0 : Int32) ≤ nI r := of_decide_eq_false e
  rw [Int32.le_iff_toInt_le, nI_toInt hr, show (0 : Int32).toInt = 0 by decide] at e
  omega
theorem li_text (hI : LI5 h) : ∃ n0 : Nat, n0 ≤ 80 ∧ Fi h 1 1 = nI n0 ∧ Fi h 162 15 = nI n0 ∧ ∀ j, j < n0 → Ar h 2 j = Ar h 172 j := by
  obtain ⟨-, ⟨n0, cc, f0, g0, hn, hc, ⟨⟨⟨gs, a1, a2, a3⟩, a4⟩, -⟩, ⟨⟨fs, b1, b2⟩, b3, -⟩, hjj⟩, -⟩ := hI
  refine ⟨n0, hn, ?_, ?_, fun j hj => ?_⟩
  · unfold Fi
    rw [a1]
    dsimp only
    rw [a3]
  · unfold Fi
    rw [b1]
    dsimp only
    rw [b2]
  · unfold Ar
    rw [a4, b3]
    exact hjj j hj
theorem li_cc (hI : LI5 h) : Fi h 162 3 = Fi h 5 0 ∧ Fi h 162 4 = Fi h 5 1 := by
  obtain ⟨-, ⟨n0, cc, f0, g0, hn, hc, ⟨-, ⟨rs, x2, x3⟩⟩, ⟨-, -, ⟨ms, y3, y4⟩⟩, -⟩, gc, hg, ⟨rg, z1, z2⟩, ⟨mg, z3, z4⟩⟩ := hI
  unfold Fi
  refine ⟨?_, ?_⟩
  · rw [y3, x2]
    dsimp only
    rw [y4, x3]
  · rw [z3, z1]
    dsimp only
    rw [z4, z2]
theorem HC_n (hc : HC q cc gc h) (w : WT h2) (a : Fi h2 5 0 = nI cc') (b : Fi h2 5 1 = nI gc') (c : Fi h2 162 3 = nI cc') (d : Fi h2 162 4 = nI gc') (e : Fi h2 162 23 = Fi h 162 23) (f : ∀ r, r = 142 ∨ r = 145 → Fi h2 r 1 = Fi h r 1) (k8 : k0f 8 h h2) (h6 : cc' ≤ 6) (h8 : gc' ≤ 8) : HC q cc' gc' h2 := by
  obtain ⟨_, _, ⟨m3, m4, m23, rs⟩, ⟨_, _, b3, b4⟩, ⟨fs, r1, r2⟩, qq⟩ := hc
  obtain ⟨fs', r1', r2'⟩ := k8 fs _ r1 r2
  exact ⟨w, ⟨a, b⟩, ⟨c, d, e.trans m23, (f q.1 qq).trans rs⟩, ⟨h6, h8, b3, b4⟩, ⟨fs', r1', r2'⟩, qq⟩
theorem VR_c {C D : Nat → Int32} (s : VR q cc gc C D) : VR q cc' gc' C D := by
  obtain ⟨V, v0, v1, v2, v3⟩ := s
  exact ⟨V, v0, fun A => v1 A, v2, fun z => ⟨(v3 z).1, fun A => (v3 z).2 A⟩⟩
def stN : List Nat := [27, 33, 39, 45, 51, 57, 63, 69, 75, 81, 87, 93, 99, 105, 111, 117, 124, 130, 136]
def NOC : List Nat := [1, 6, 7, 9, 10, 11, 17, 18, 162, 173]
theorem sN_in : stN.all (fun b => (List.range 6).all (fun j => !(NOC.elem (b + j)))) = true := by decide +kernel
theorem stN_p : ∀ m, m < 16 → stN.elem (27 + 6 * m) = true := by decide +kernel
theorem stN_k : ∀ m, m < 3 → stN.elem (124 + 6 * m) = true := by decide +kernel
/-- nothing came of it: what was read may stand behind what there is -/
theorem SR_no (hc : HC q cc gc h) (s : SRq q cc gc h) (w2 : WT h2) (cs : ∀ i, NOC.elem i = false → h2 i = h i) (g2 : ∀ g, (g = 3 ∨ g = 4 ∨ g = 23 ∨ g = 27 ∨ g = 47) → Fi h2 162 g = Fi h 162 g) (x6 : ∀ c, c < cc → Ar h2 6 c = Ar h 6 c) (x7 : ∀ j, j < 5 * cc → Ar h2 7 j = Ar h 7 j) (x9 : ∀ j, j < gc → Ar h2 9 j = Ar h 9 j ∧ Ar h2 10 j = Ar h 10 j ∧ Ar h2 11 j = Ar h 11 j ∧ Ar h2 17 j = Ar h 17 j ∧ Ar h2 18 j = Ar h 18 j) : SR h2 := by
  obtain ⟨⟨s4, ⟨fs, o1, o2⟩⟩, ⟨s1, s2⟩, s3, ⟨fi, si, p1, p2, ⟨p3, p4, p5⟩, p6⟩, s6, ⟨m, m1, ⟨m2, m3⟩, m4⟩⟩ := s
  have ar : ∀ a, NOC.elem a = false → Ar h2 a = Ar h a := fun a e => Ar_e (cs a e)
  have c2 : HC q cc gc h2 := HC_n hc w2 ((Fi_e (cs 5 rfl)).trans hc.x0) ((Fi_e (cs 5 rfl)).trans hc.x1) ((g2 3 (by decide)).trans hc.m3) ((g2 4 (by decide)).trans hc.m4) (g2 23 (by decide)) (fun r hr => Fi_e (cs r (by rcases hr with rfl | rfl <;> rfl))) (fun fs p e1 e2 => ⟨fs, (cs 0 rfl).trans e1, e2⟩) hc.cb hc.gb
  have rsb : ∀ (b : Nat) (r : Nat → Int32), stN.elem b = true → RSb cc gc b h r → RSb cc gc b h2 r := by
    intro b r hb w
    have z := List.all_eq_true.mp sN_in b (List.elem_iff.mp hb)
    refine RSb_e (fun i h3 h4 => cs i ?_) w
    have z := List.all_eq_true.mp z (i - b) (List.mem_range.mpr (by omega))
    rw [show b + (i - b) = i by omega] at z
    exact nel z
  have eq1 : Ar h2 (q.1 + 1) = Ar h (q.1 + 1) := by
    rcases hc.qq with e | e
    · rw [e]
      exact ar 143 rfl
    · rw [e]
      exact ar 146 rfl
  refine ⟨q, cc, gc, c2, ⟨⟨?_, ⟨fs, (cs 0 rfl).trans o1, o2⟩⟩, ⟨⟨?_, ?_⟩, ⟨fun c hcl => ?_, fun g hg => ?_⟩, ⟨fi, si, p1, p2, ⟨(Fi_e (cs 25 rfl)).trans p3, (Fi_e (cs 25 rfl)).trans p4, (g2 27 (by decide)).trans p5⟩, fun j hj => ?_⟩, fun i hi hk => ?_, ⟨m, m1, ⟨(Fi_e (cs 159 rfl)).trans m2, (g2 47 (by decide)).trans m3⟩, fun j hj => ?_⟩⟩⟩⟩
  · rw [ar 174 rfl, eq1]
    exact s4
  · rw [ar 170 rfl]
    obtain ⟨a1, a2, a3, a4, a5, a6, a7⟩ := s1
    exact ⟨fun c hc => (congrFun (ar 14 rfl) c).trans (a1 c hc), fun a b ha hb hn => (congrFun (ar 15 rfl) _).trans (a2 a b ha hb hn), fun a b ha hb => (congrFun (ar 16 rfl) _).trans (a3 a b ha hb), fun j hj => (x9 j hj).2.2.2.1.trans (a4 j hj), fun j hj => (x9 j hj).2.2.2.2.trans (a5 j hj), (Fi_e (cs 13 rfl)).trans a6, (Fi_e (cs 13 rfl)).trans a7⟩
  · rw [ar 170 rfl]
    exact s2
  · obtain ⟨⟨b1, b2⟩, b3⟩ := s3.1 c hcl
    rw [ar 164 rfl, ar 165 rfl]
    exact ⟨⟨(x6 c hcl).trans b1, b2⟩, fun k hk => (x7 _ (by omega)).trans (b3 k hk)⟩
  · obtain ⟨⟨b1, b2⟩, b3, ⟨b4, b5⟩⟩ := s3.2 g hg
    obtain ⟨y1, y2, y3, -, -⟩ := x9 g hg
    rw [ar 166 rfl, ar 167 rfl, ar 168 rfl]
    exact ⟨⟨y1.trans b1, b2⟩, y2.trans b3, ⟨y3.trans b4, b5⟩⟩
  · obtain ⟨q1, q2⟩ := p6 j hj
    rw [ar 178 rfl]
    exact ⟨rsb _ _ (stN_p _ (Nat.mod_lt _ (by decide))) q1, q2⟩
  · rw [Fi_e (cs 0 rfl)] at hk
    obtain ⟨q1, q2⟩ := s6 i hi hk
    rw [ar 196 rfl]
    exact ⟨rsb _ _ (stN_k i hi) q1, q2⟩
  · rw [ar 160 rfl, ar 161 rfl, ar 191 rfl, ar 192 rfl]
    exact m4 j hj
def NEW : List Nat := [0, 1, 5, 6, 7, 9, 10, 11, 14, 15, 17, 18, 25, 162, 164, 165, 166, 167, 168, 169, 170, 173]
/-- something came of it: nothing can be undone, nothing is kept any more -/
theorem SR_new (hc : HC q cc gc h) (s : SRq q cc gc h) (c2 : HC q cc' gc' h2) (cs : ∀ i, NEW.elem i = false → h2 i = h i) (k9 : k0f 9 h h2) (nw : RSb cc' gc' 13 h2 (Ar h2 170) ∧ RI cc' gc' (Ar h2 170)) (rm : RMm cc' gc' h2 h2) (z7 : Fi h2 0 7 = nI 0) (z1 : Fi h2 25 1 = Fi h 25 1) (z2 : Fi h2 25 2 = nI 0) (z27 : Fi h2 162 27 = nI 0) (z47 : Fi h2 162 47 = Fi h 162 47) : SR h2 := by
  obtain ⟨⟨s4, ⟨fs, o1, o2⟩⟩, -, -, ⟨fi, si, p1, p2, ⟨p3, p4, p5⟩, p6⟩, s6, ⟨m, m1, ⟨m2, m3⟩, m4⟩⟩ := s
  have ar : ∀ a, NEW.elem a = false → Ar h2 a = Ar h a := fun a e => Ar_e (cs a e)
  have eq1 : Ar h2 (q.1 + 1) = Ar h (q.1 + 1) := by
    rcases hc.qq with e | e
    · rw [e]
      exact ar 143 rfl
    · rw [e]
      exact ar 146 rfl
  refine ⟨q, cc', gc', c2, ⟨⟨?_, k9 fs _ o1 o2⟩, ⟨nw, rm, ⟨fi, 0, p1, Nat.zero_le _, ⟨z1.trans p3, z2, z27⟩, fun j hj => absurd hj (Nat.not_lt_zero j)⟩, fun i hi hk => ?_, ⟨m, m1, ⟨(Fi_e (cs 159 rfl)).trans m2, z47.trans m3⟩, fun j hj => ?_⟩⟩⟩⟩
  · rw [ar 174 rfl, eq1]
    exact VR_c s4
  · rw [z7, kf_0 i hi] at hk
    cases hk
  · rw [ar 160 rfl, ar 161 rfl, ar 191 rfl, ar 192 rfl]
    exact m4 j hj
theorem k0_f7 {g : Nat} {y : Value} (e : Z 0 = h 0) (hg : g ≠ 7) : k0f g h (fset Z 0 7 y) := by
  intro fs p e1 e2
  refine ⟨fs.set 7 y, ?_, ?_⟩
  · unfold fset
    rw [show va_up Z 0 _ 0 = _ from if_pos rfl, e, e1]
  · rw [List.getElem?_set_ne (fun z => hg z.symm)]
    exact e2
theorem k0_e {g : Nat} (e : h2 0 = h1 0) (k : k0f g h h1) : k0f g h h2 := fun fs p e1 e2 => by
  obtain ⟨fs', a, b⟩ := k fs p e1 e2
  exact ⟨fs', e.trans a, b⟩
theorem w190_0 (hw : WT M) : (∀ i, i ≠ 162 → w190 q cc gc M 0 i = M i) ∧ ∀ g, g ≠ 5 → Fi (w190 q cc gc M 0) 162 g = Fi M 162 g := by
  unfold w190
  refine ⟨fun i hi => (fs_ne hi).trans (fs_ne hi), fun g hg => (Fi_n (Or.inr hg)).trans ?_⟩
  by_cases y : g = 27
  · rw [y]
    exact Fi_s hw (by decide) rfl (by decide) rfl
  · exact Fi_n (Or.inr y)
/-- courts of the class: its fields -/
theorem w88_heap {c : Nat} (hN : 1 ≤ N) : (w88 q cc gc X N c).2 = fset (fset (w88_19 q cc gc c N N 0 (fset X 1 1 (.int (nI 0)))) 25 2 (.int (nI 0))) 0 7 (.int (nI 0)) := by
  unfold w88
  rw [decide_eq_false (show ¬ N ≤ 0 by omega)]
  rfl
theorem w88_f {c : Nat} (hN : 1 ≤ N) (h6 : c + N ≤ 6) (hw : WT X) (e5 : Fi X 5 0 = nI c) : Fi (w88 q cc gc X N c).2 5 0 = nI (c + N) ∧ Fi (w88 q cc gc X N c).2 25 2 = nI 0 ∧ Fi (w88 q cc gc X N c).2 0 7 = nI 0 ∧ ∀ g, g ≠ 7 → k0f g X (w88 q cc gc X N c).2 := by
  rw [w88_heap hN]
  have w1 : WT (fset X 1 1 (.int (nI 0))) := wt_fs rfl (by decide) rfl hw
  have e51 : Fi (fset X 1 1 (.int (nI 0))) 5 0 = nI c := (Fi_n (Or.inl (by decide))).trans e5
  have z := lp_in (f := fun i a => w88_19b q cc gc a c N i) (P := fun i a => WT a ∧ Fi a 5 0 = nI (c + i)) N 0 (fset X 1 1 (.int (nI 0))) ⟨w1, e51⟩ (fun k a _ hk p => ⟨(w88_19_fb (z5_0 := c) (m1 := N) p.1 h6).1, Fi_s (w132_fr p.1).1 (by decide) rfl (by decide) rfl⟩)
  rw [Nat.zero_add] at z
  have z : WT (w88_19 q cc gc c N N 0 (fset X 1 1 (.int (nI 0)))) ∧ Fi (w88_19 q cc gc c N N 0 (fset X 1 1 (.int (nI 0)))) 5 0 = nI (c + N) := z
  have z3 := (w88_19_fr (q := q) (cc := cc) (gc := gc) (z5_0 := c) (m1 := N) h6 (j := N) (i := 0) w1).2.1 0 rfl
  generalize w88_19 q cc gc c N N 0 (fset X 1 1 (.int (nI 0))) = K at *
  have w2 : WT (fset K 25 2 (.int (nI 0))) := wt_fs rfl (by decide) rfl z.1
  refine ⟨(Fi_n (Or.inl (by decide))).trans ((Fi_n (Or.inl (by decide))).trans z.2), (Fi_n (Or.inl (by decide))).trans (Fi_s z.1 (by decide) rfl (by decide) rfl), Fi_s w2 (by decide) rfl (by decide) rfl, fun g hg => k0_f7 ?_ hg⟩
  exact (fs_ne (by decide)).trans (z3.trans (fs_ne (by decide)))
theorem w188_27 {c : Nat} {F x1 x2 x3 : Int32} (hw : WT M) (h6 : c + r ≤ 6) (hr : 1 ≤ r) : Fi (w188 q cc gc M r c F x1 x2 x3).2 162 27 = nI 0 := by
  unfold w188 w190
  rw [decide_eq_false (show ¬ r ≤ 0 by omega)]
  exact (Fi_n (Or.inr (by decide))).trans (Fi_s (w188_81_fr (z162_20 := r) (z162_3 := c) h6 hw).1 (by decide) rfl (by decide) rfl)
theorem w192_27 {c : Nat} {F x1 x2 x3 : Int32} (hw : WT M) (h8 : c + r ≤ 8) (hr : 1 ≤ r) : Fi (w192 q cc gc M r c F x1 x2 x3).2 162 27 = nI 0 := by
  unfold w192 w190
  rw [decide_eq_false (show ¬ r ≤ 0 by omega)]
  exact (Fi_n (Or.inr (by decide))).trans (Fi_s (w192_81_fr (z162_20 := r) (z162_4 := c) h8 hw).1 (by decide) rfl (by decide) rfl)
/-- courts -/
theorem sr_courts (pr : prun sl 88 188 [] h h1 h2 v w) (hI : LI5 h) (s : SR h) : v = w ∧ SR h2 := by
  obtain ⟨evw, hI2⟩ := two_get (vs := []) (co_two5 hI) pr
  obtain ⟨⟨m1, r1⟩, ⟨f1, i1⟩, ⟨m2, r2⟩, lo2, i2⟩ := pr
  subst evw
  refine ⟨rfl, ?_⟩
  obtain ⟨q, cc, gc, fi, si, hc, s, hfi, hsi, e1, e2, e3, pa⟩ := SR_open s
  obtain ⟨n0, hn, t1, t15, hjj⟩ := li_text hI
  have h6 := hc.cb
  have hx : ∀ a, Nat.ble 162 a = true → h1 a = h a := fun a ha => f1.1 a ha
  have x162 : ∀ g, Fi h1 162 g = Fi h 162 g := fun g => Fi_e (hx 162 rfl)
  obtain ⟨X, wX, fX, v0, xr⟩ := cx88 (q := q) (cq := cc) (gc := gc) hn hc.cb hc.wt t1 hc.x0 r1
  obtain ⟨M, r, wM, fM, gM, hr, mr⟩ := cv_run (q := q) (cq := cc) (gc := gc) hn hc.cb (wt_of i1.1) ((x162 15).trans t15) ((x162 3).trans hc.m3) r2
  have no : h1 = fset X 1 1 (.int (nI 0)) → (∀ i, i ≠ 162 → h2 i = M i) → (∀ g, g ≠ 5 → Fi h2 162 g = Fi M 162 g) → SR h2 := by
    intro y1 y2 y3
    have cs : ∀ i, NOC.elem i = false → h2 i = h i := by
      intro i hi
      have ne : ∀ k, NOC.elem k = true → i ≠ k := fun k hk e => by
        rw [e, hk] at hi
        cases hi
      rw [y2 i (ne 162 rfl), fM i (ne 162 rfl) (ne 173 rfl), y1, fs_ne (ne 1 rfl), fX i (ne 6 rfl) (ne 7 rfl)]
    have cx : ∀ i, i < 162 → i ≠ 1 → h2 i = X i := fun i hi h0 => by
      rw [lo2 i hi, y1, fs_ne h0]
    refine SR_no hc s (wt_of i2.1) cs (fun g hg => ?_) (fun c hcl => ?_) (fun j hj => ?_) (fun j hj => ?_)
    · rw [y3 g (by omega), gM g (by omega) (by omega) (by omega) (by omega) (by omega) (by omega)]
      exact x162 g
    · rw [Ar_e (cx 6 (by decide) (by decide))]
      exact v0.1.1 c hcl
    · rw [Ar_e (cx 7 (by decide) (by decide))]
      exact v0.1.2 j hj
    · have e : ∀ i, i < 162 → i ≠ 1 → i ≠ 6 → i ≠ 7 → Ar h2 i = Ar h i := fun i a b c d => Ar_e ((cx i a b).trans (fX i c d))
      rw [e 9 (by decide) (by decide) (by decide) (by decide), e 10 (by decide) (by decide) (by decide) (by decide), e 11 (by decide) (by decide) (by decide) (by decide), e 17 (by decide) (by decide) (by decide) (by decide), e 18 (by decide) (by decide) (by decide) (by decide)]
      exact ⟨rfl, rfl, rfl, rfl, rfl⟩
  rcases xr with ⟨v', z1, x1⟩ | ⟨N, hN, hcN, vN, x1, wX', fX'⟩
  · injection x1 with b1 b2
    injection b1 with b1
    injection b1 with b1
    injection b2 with b2 b3
    rcases mr with ⟨F, z2, x2⟩ | ⟨hv, F, y1, y2, y3, x2, wM', fM'⟩
    · injection x2 with d1 d2
      injection d2 with d2 d3
      exact no b2 (fun i _ => by rw [d2]) (fun g _ => by rw [d2])
    · injection x2 with d1 d2
      injection d1 with d1
      injection d1 with d1
      injection d2 with d2 d3
      rw [← b1, d1] at z1
      have r0 := nI_le0 (by omega) z1
      subst r0
      have e : (w188 q cc gc M 0 cc F y1 y2 y3).2 = w190 q cc gc M 0 := rfl
      rw [e] at d2
      obtain ⟨k1, k2⟩ := w190_0 (q := q) (cc := cc) (gc := gc) wM
      exact no b2 (fun i hi => by rw [d2]; exact k1 i hi) (fun g hg => by rw [d2]; exact k2 g hg)
  · injection x1 with b1 b2
    injection b1 with b1
    injection b1 with b1
    injection b2 with b2 b3
    rcases mr with ⟨F, z2, x2⟩ | ⟨hv, F, y1, y2, y3, x2, wM', fM'⟩
    · injection x2 with d1 d2
      injection d1 with d1
      injection d1 with d1
      rw [← d1, b1] at z2
      exact (nI_ge0 (by omega) z2).elim
    · injection x2 with d1 d2
      injection d1 with d1
      injection d1 with d1
      injection d2 with d2 d3
      have hrN : r = N := nI_ij (by omega) (by omega) (d1.symm.trans b1)
      subst hrN
      have X5 : Fi X 5 0 = nI cc := (Fi_e (fX 5 (by decide) (by decide))).trans hc.x0
      obtain ⟨a50, a252, a07, k0⟩ := w88_f (q := q) (cc := cc) (gc := gc) hN hcN wX X5
      have jx := w88_ar (q := q) (cq := cc) (gc := gc) (h := X) hN hcN
      have jm := w188_ar (q := q) (cq := cc) (gc := gc) (h := M) (F := F) (x1 := y1) (x2 := y2) (x3 := y3) hr
      have m27 := w188_27 (q := q) (cc := cc) (gc := gc) (F := F) (x1 := y1) (x2 := y2) (x3 := y3) wM hr hN
      rw [← b2] at a50 a252 a07 k0 jx wX' fX'
      rw [← d2] at jm m27 wM' fM'
      have M170 : Ar M 170 = Ar h 170 := (Ar_e (fM 170 (by decide) (by decide))).trans (Ar_e (hx 170 rfl))
      have M172 : Ar h1 172 = Ar h 172 := Ar_e (hx 172 rfl)
      have s13 : RS cc gc (Ar X 14) (Ar X 15) (Ar h 16) (Ar h 17) (Ar h 18) (Fi h 13 5) (Fi h 13 6) (Ar M 170) := by
        rw [Ar_e (fX 14 (by decide) (by decide)), Ar_e (fX 15 (by decide) (by decide)), M170]
        exact s.2.1.1
      have sri : RI cc gc (Ar M 170) := by
        rw [M170]
        exact s.2.1.2
      obtain ⟨n1, n2, n3⟩ := crt_rel hcN jx jm (f := Ar h 2) (fun k hk => vN.2.1 k hk) (fun k hk j hj => by
        obtain ⟨u1, u2, u3⟩ := hv k hk j hj
        rw [M172] at u1 u2
        have e := hjj (7 * k + j) (by omega)
        rw [← e] at u1 u2
        exact ⟨u1, u2⟩) s13 sri
      -- cells of the class behind the reference's call
      have lo : ∀ i, i < 162 → h2 i = h1 i := lo2
      have hX : ∀ i, i ≠ 0 → i ≠ 1 → i ≠ 5 → i ≠ 14 → i ≠ 15 → i ≠ 25 → h1 i = X i := fun i g1 g2 g3 g4 g5 g6 => fX'.1 i (by
        cases y : List.elem i [0, 1, 5, 14, 15, 25] with
        | false => rfl
        | true =>
          have y := List.elem_iff.mp y
          simp at y
          omega)
      have hM : ∀ i, i ≠ 162 → i ≠ 164 → i ≠ 165 → i ≠ 169 → i ≠ 170 → i ≠ 173 → h2 i = h1 i := fun i g1 g2 g3 g4 g5 g6 => (fM'.1 i (by
        cases y : List.elem i [162, 164, 165, 169, 170] with
        | false => rfl
        | true =>
          have y := List.elem_iff.mp y
          simp at y
          omega)).trans (fM i g1 g6)
      have F50 : Fi h2 5 0 = nI (cc + r) := (Fi_e (lo 5 (by decide))).trans a50
      have F51 : Fi h2 5 1 = nI gc := (Fi_e (lo 5 (by decide))).trans ((fX'.2 5 1 rfl rfl).trans ((Fi_e (fX 5 (by decide) (by decide))).trans hc.x1))
      obtain ⟨l1, l2⟩ := li_cc hI2
      have c2 : HC q (cc + r) gc h2 := HC_n hc (wt_of i2.1) F50 F51 (l1.trans F50) (l2.trans F51) ((fM'.2 162 23 rfl rfl).trans ((gM 23 (by decide) (by decide) (by decide) (by decide) (by decide) (by decide)).trans (x162 23))) (fun p hp => Fi_e (by
        rcases hp with rfl | rfl
        · exact (lo 142 (by decide)).trans ((hX 142 (by decide) (by decide) (by decide) (by decide) (by decide) (by decide)).trans (fX 142 (by decide) (by decide)))
        · exact (lo 145 (by decide)).trans ((hX 145 (by decide) (by decide) (by decide) (by decide) (by decide) (by decide)).trans (fX 145 (by decide) (by decide))))) (k0_e (lo 0 (by decide)) (fun fs p e4 e5 => k0 8 (by decide) fs p ((fX 0 (by decide) (by decide)).trans e4) e5)) hcN hc.gb
      have cs : ∀ i, NEW.elem i = false → h2 i = h i := by
        intro i hi
        have ne : ∀ k, NEW.elem k = true → i ≠ k := fun k hk e => by
          rw [e, hk] at hi
          cases hi
        rw [hM i (ne 162 rfl) (ne 164 rfl) (ne 165 rfl) (ne 169 rfl) (ne 170 rfl) (ne 173 rfl), hX i (ne 0 rfl) (ne 1 rfl) (ne 5 rfl) (ne 14 rfl) (ne 15 rfl) (ne 25 rfl), fX i (ne 6 rfl) (ne 7 rfl)]
      have a6 : ∀ b, b = 6 ∨ b = 7 → Ar h2 b = Ar X b := fun b hb => Ar_e ((lo b (by omega)).trans (hX b (by omega) (by omega) (by omega) (by omega) (by omega) (by omega)))
      have a9 : ∀ b, b = 9 ∨ b = 10 ∨ b = 11 ∨ b = 16 ∨ b = 17 ∨ b = 18 → Ar h2 b = Ar h b := fun b hb => Ar_e ((lo b (by omega)).trans ((hX b (by omega) (by omega) (by omega) (by omega) (by omega) (by omega)).trans (fX b (by omega) (by omega))))
      have a166 : ∀ b, b = 166 ∨ b = 167 ∨ b = 168 → Ar h2 b = Ar h b := fun b hb => Ar_e ((hM b (by omega) (by omega) (by omega) (by omega) (by omega) (by omega)).trans (hx b (by rcases hb with rfl | rfl | rfl <;> rfl)))
      have a164 : ∀ b, b = 164 ∨ b = 165 → Ar M b = Ar h b := fun b hb => Ar_e ((fM b (by omega) (by omega)).trans (hx b (by rcases hb with rfl | rfl <;> rfl)))
      refine SR_new hc s c2 cs (k0_e (lo 0 (by decide)) (fun fs p e4 e5 => k0 9 (by decide) fs p ((fX 0 (by decide) (by decide)).trans e4) e5)) ⟨?_, n2⟩ ⟨fun c hcl => ?_, fun g hg => ?_⟩ ((Fi_e (lo 0 (by decide))).trans a07) ((Fi_e (lo 25 (by decide))).trans ((fX'.2 25 1 rfl rfl).trans (Fi_e (fX 25 (by decide) (by decide))))) ((Fi_e (lo 25 (by decide))).trans a252) m27 ((fM'.2 162 47 rfl rfl).trans ((gM 47 (by decide) (by decide) (by decide) (by decide) (by decide) (by decide)).trans (x162 47)))
      · have e13 : h2 13 = h 13 := cs 13 rfl
        show RS (cc + r) gc (Ar h2 14) (Ar h2 15) (Ar h2 16) (Ar h2 17) (Ar h2 18) (Fi h2 13 5) (Fi h2 13 6) (Ar h2 170)
        rw [Ar_e (lo 14 (by decide)), Ar_e (lo 15 (by decide)), a9 16 (by decide), a9 17 (by decide), a9 18 (by decide), Fi_e e13, Fi_e e13]
        exact n1
      · by_cases y : c < cc
        · obtain ⟨⟨o1, k, o2, o3⟩, o4⟩ := s.2.2.1.1 c y
          have u1 : Ar h2 6 c = Ar h 6 c := (congrFun (a6 6 (by decide)) c).trans (v0.1.1 c y)
          have u2 : Ar h2 164 c = Ar h 164 c := (jm.1.2.2.1 c y).trans (congrFun (a164 164 (by decide)) c)
          refine ⟨⟨?_, k, o2, u2.trans o3⟩, fun j hj => ?_⟩
          · rw [u1, u2]
            exact o1
          · rw [congrFun (a6 7 (by decide)) _, v0.1.2 _ (by omega), jm.1.2.2.2 _ (by omega), congrFun (a164 165 (by decide)) _]
            exact o4 j hj
        · obtain ⟨o1, o2⟩ := n3 (c - cc) (by omega)
          rw [show cc + (c - cc) = c by omega] at o1 o2
          obtain ⟨o1, k, o3, o4⟩ := o1
          refine ⟨⟨(congrFun (a6 6 (by decide)) c).trans o1, k, o3, o4⟩, fun j hj => ?_⟩
          rw [congrFun (a6 7 (by decide)) _]
          exact o2 j hj
      · have o := s.2.2.1.2 g hg
        rw [a9 9 (by decide), a9 10 (by decide), a9 11 (by decide), a166 166 (by decide), a166 167 (by decide), a166 168 (by decide)]
        exact o
/-- gifts of the class: its fields -/
theorem w89_heap {c : Nat} (hN : 1 ≤ N) : (w89 q cc gc X N c).2 = fset (fset (fset (fset X 1 1 (.int (nI 0))) 5 1 (.int (nI (c + N)))) 25 2 (.int (nI 0))) 0 7 (.int (nI 0)) := by
  unfold w89
  rw [decide_eq_false (show ¬ N ≤ 0 by omega)]
  rfl
theorem w89_f {c : Nat} (hN : 1 ≤ N) (hw : WT X) : Fi (w89 q cc gc X N c).2 5 1 = nI (c + N) ∧ Fi (w89 q cc gc X N c).2 25 2 = nI 0 ∧ Fi (w89 q cc gc X N c).2 0 7 = nI 0 ∧ ∀ g, g ≠ 7 → k0f g X (w89 q cc gc X N c).2 := by
  rw [w89_heap hN]
  have w1 : WT (fset X 1 1 (.int (nI 0))) := wt_fs rfl (by decide) rfl hw
  have w2 : WT (fset (fset X 1 1 (.int (nI 0))) 5 1 (.int (nI (c + N)))) := wt_fs rfl (by decide) rfl w1
  have w3 : WT (fset (fset (fset X 1 1 (.int (nI 0))) 5 1 (.int (nI (c + N)))) 25 2 (.int (nI 0))) := wt_fs rfl (by decide) rfl w2
  refine ⟨(Fi_n (Or.inl (by decide))).trans ((Fi_n (Or.inl (by decide))).trans (Fi_s w1 (by decide) rfl (by decide) rfl)), (Fi_n (Or.inl (by decide))).trans (Fi_s w2 (by decide) rfl (by decide) rfl), Fi_s w3 (by decide) rfl (by decide) rfl, fun g hg => k0_f7 ?_ hg⟩
  exact (fs_ne (by decide)).trans ((fs_ne (by decide)).trans (fs_ne (by decide)))
/-- gifts -/
theorem sr_gifts (pr : prun sl 89 192 [] h h1 h2 v w) (hI : LI5 h) (s : SR h) : v = w ∧ SR h2 := by
  obtain ⟨evw, hI2⟩ := two_get (vs := []) (gf_two5 hI) pr
  obtain ⟨⟨m1, r1⟩, ⟨f1, i1⟩, ⟨m2, r2⟩, lo2, i2⟩ := pr
  subst evw
  refine ⟨rfl, ?_⟩
  obtain ⟨q, cc, gc, fi, si, hc, s, hfi, hsi, e1, e2, e3, pa⟩ := SR_open s
  obtain ⟨n0, hn, t1, t15, hjj⟩ := li_text hI
  have h6 := hc.cb
  have h8 := hc.gb
  have hx : ∀ a, Nat.ble 162 a = true → h1 a = h a := fun a ha => f1.1 a ha
  have x162 : ∀ g, Fi h1 162 g = Fi h 162 g := fun g => Fi_e (hx 162 rfl)
  obtain ⟨X, gv0, xr⟩ := gx89 (q := q) (cq := cc) (gc := gc) hn hc.cb hc.gb hc.wt t1 hc.x0 hc.x1 r1
  have wX : WT X := gv0.1.2.2
  have fX := gv0.2.1
  have v0 := gv0.2.2.1
  obtain ⟨M, r, wM, fM, gM, mr⟩ := grun (q := q) (cq := cc) (gc := gc) hn hc.gb (wt_of i1.1) ((x162 15).trans t15) ((x162 3).trans hc.m3) ((x162 4).trans hc.m4) r2
  have no : h1 = fset X 1 1 (.int (nI 0)) → (∀ i, i ≠ 162 → h2 i = M i) → (∀ g, g ≠ 5 → Fi h2 162 g = Fi M 162 g) → SR h2 := by
    intro y1 y2 y3
    have cs : ∀ i, NOC.elem i = false → h2 i = h i := by
      intro i hi
      have ne : ∀ k, NOC.elem k = true → i ≠ k := fun k hk e => by
        rw [e, hk] at hi
        cases hi
      rw [y2 i (ne 162 rfl), fM i (ne 162 rfl) (ne 173 rfl), y1, fs_ne (ne 1 rfl), fX i (ne 9 rfl) (ne 10 rfl) (ne 11 rfl) (ne 17 rfl) (ne 18 rfl)]
    have cx : ∀ i, i < 162 → i ≠ 1 → h2 i = X i := fun i hi h0 => by
      rw [lo2 i hi, y1, fs_ne h0]
    refine SR_no hc s (wt_of i2.1) cs (fun g hg => ?_) (fun c hcl => ?_) (fun j hj => ?_) (fun j hj => ?_)
    · rw [y3 g (by omega), gM g (by omega) (by omega) (by omega) (by omega) (by omega) (by omega)]
      exact x162 g
    · rw [Ar_e ((cx 6 (by decide) (by decide)).trans (fX 6 (by decide) (by decide) (by decide) (by decide) (by decide)))]
    · rw [Ar_e ((cx 7 (by decide) (by decide)).trans (fX 7 (by decide) (by decide) (by decide) (by decide) (by decide)))]
    · rw [Ar_e (cx 9 (by decide) (by decide)), Ar_e (cx 10 (by decide) (by decide)), Ar_e (cx 11 (by decide) (by decide)), Ar_e (cx 17 (by decide) (by decide)), Ar_e (cx 18 (by decide) (by decide))]
      exact v0 j hj
  rcases xr with ⟨v', z1, x1⟩ | ⟨N, hN, hcN, gvN, x1, wX', fX'⟩
  · injection x1 with b1 b2
    injection b1 with b1
    injection b1 with b1
    injection b2 with b2 b3
    rcases mr with ⟨F, z2, x2⟩ | ⟨hr, hv, F, y1, y2, y3, x2, wM', fM'⟩
    · injection x2 with d1 d2
      injection d2 with d2 d3
      exact no b2 (fun i _ => by rw [d2]) (fun g _ => by rw [d2])
    · injection x2 with d1 d2
      injection d1 with d1
      injection d1 with d1
      injection d2 with d2 d3
      rw [← b1, d1] at z1
      have r0 := nI_le0 (by omega) z1
      subst r0
      have e : (w192 q cc gc M 0 gc F y1 y2 y3).2 = w190 q cc gc M 0 := rfl
      rw [e] at d2
      obtain ⟨k1, k2⟩ := w190_0 (q := q) (cc := cc) (gc := gc) wM
      exact no b2 (fun i hi => by rw [d2]; exact k1 i hi) (fun g hg => by rw [d2]; exact k2 g hg)
  · injection x1 with b1 b2
    injection b1 with b1
    injection b1 with b1
    injection b2 with b2 b3
    rcases mr with ⟨F, z2, x2⟩ | ⟨hr, hv, F, y1, y2, y3, x2, wM', fM'⟩
    · injection x2 with d1 d2
      injection d1 with d1
      injection d1 with d1
      rw [← d1, b1] at z2
      exact (nI_ge0 (by omega) z2).elim
    · injection x2 with d1 d2
      injection d1 with d1
      injection d1 with d1
      injection d2 with d2 d3
      have hrN : r = N := nI_ij (by omega) (by omega) (d1.symm.trans b1)
      subst hrN
      obtain ⟨a51, a252, a07, k0⟩ := w89_f (q := q) (cc := cc) (gc := gc) (c := gc) hN wX
      have jm := w192_ar (q := q) (cc := cc) (gc := gc) (h := M) (F := F) (x1 := y1) (x2 := y2) (x3 := y3) hr
      have m27 := w192_27 (q := q) (cc := cc) (gc := gc) (F := F) (x1 := y1) (x2 := y2) (x3 := y3) wM hr hN
      rw [← b2] at a51 a252 a07 k0 wX' fX'
      rw [← d2] at jm m27 wM' fM'
      have M170 : Ar M 170 = Ar h 170 := (Ar_e (fM 170 (by decide) (by decide))).trans (Ar_e (hx 170 rfl))
      have M172 : Ar h1 172 = Ar h 172 := Ar_e (hx 172 rfl)
      have MM : ∀ b, b = 166 ∨ b = 167 ∨ b = 168 → Ar M b = Ar h b := fun b hb => (Ar_e (fM b (by omega) (by omega))).trans (Ar_e (hx b (by rcases hb with rfl | rfl | rfl <;> rfl)))
      rw [M172] at hv
      obtain ⟨n1, n2, n3⟩ := gft_rel h6 hcN gvN jm hv hjj (by rw [M170]; exact s.2.1.1) (by rw [M170]; exact s.2.1.2) (by
        intro j hj
        rw [MM 166 (by decide), MM 167 (by decide), MM 168 (by decide)]
        exact s.2.2.1.2 j hj)
      have lo : ∀ i, i < 162 → h2 i = h1 i := lo2
      have hX : ∀ i, i ≠ 0 → i ≠ 1 → i ≠ 5 → i ≠ 25 → h1 i = X i := fun i g1 g2 g3 g4 => fX'.1 i (by
        cases y : List.elem i [0, 1, 5, 25] with
        | false => rfl
        | true =>
          have y := List.elem_iff.mp y
          simp at y
          omega)
      have hM : ∀ i, i ≠ 162 → i ≠ 166 → i ≠ 167 → i ≠ 168 → i ≠ 170 → i ≠ 173 → h2 i = h1 i := fun i g1 g2 g3 g4 g5 g6 => (fM'.1 i (by
        cases y : List.elem i [162, 166, 167, 168, 170] with
        | false => rfl
        | true =>
          have y := List.elem_iff.mp y
          simp at y
          omega)).trans (fM i g1 g6)
      have X5 : ∀ i, i ≠ 9 → i ≠ 10 → i ≠ 11 → i ≠ 17 → i ≠ 18 → X i = h i := fX
      have F51 : Fi h2 5 1 = nI (gc + r) := (Fi_e (lo 5 (by decide))).trans a51
      have F50 : Fi h2 5 0 = nI cc := (Fi_e (lo 5 (by decide))).trans ((fX'.2 5 0 rfl rfl).trans ((Fi_e (X5 5 (by decide) (by decide) (by decide) (by decide) (by decide))).trans hc.x0))
      obtain ⟨l1, l2⟩ := li_cc hI2
      have c2 : HC q cc (gc + r) h2 := HC_n hc (wt_of i2.1) F50 F51 (l1.trans F50) (l2.trans F51) ((fM'.2 162 23 rfl rfl).trans ((gM 23 (by decide) (by decide) (by decide) (by decide) (by decide) (by decide)).trans (x162 23))) (fun p hp => Fi_e (by
        rcases hp with rfl | rfl
        · exact (lo 142 (by decide)).trans ((hX 142 (by decide) (by decide) (by decide) (by decide)).trans (X5 142 (by decide) (by decide) (by decide) (by decide) (by decide)))
        · exact (lo 145 (by decide)).trans ((hX 145 (by decide) (by decide) (by decide) (by decide)).trans (X5 145 (by decide) (by decide) (by decide) (by decide) (by decide))))) (k0_e (lo 0 (by decide)) (fun fs p e4 e5 => k0 8 (by decide) fs p ((X5 0 (by decide) (by decide) (by decide) (by decide) (by decide)).trans e4) e5)) h6 hcN
      have cs : ∀ i, NEW.elem i = false → h2 i = h i := by
        intro i hi
        have ne : ∀ k, NEW.elem k = true → i ≠ k := fun k hk e => by
          rw [e, hk] at hi
          cases hi
        rw [hM i (ne 162 rfl) (ne 166 rfl) (ne 167 rfl) (ne 168 rfl) (ne 170 rfl) (ne 173 rfl), hX i (ne 0 rfl) (ne 1 rfl) (ne 5 rfl) (ne 25 rfl), X5 i (ne 9 rfl) (ne 10 rfl) (ne 11 rfl) (ne 17 rfl) (ne 18 rfl)]
      have aX : ∀ b, b < 162 → b ≠ 0 → b ≠ 1 → b ≠ 5 → b ≠ 25 → Ar h2 b = Ar X b := fun b g0 g1 g2 g3 g4 => Ar_e ((lo b g0).trans (hX b g1 g2 g3 g4))
      have ah : ∀ b, b < 162 → b ≠ 0 → b ≠ 1 → b ≠ 5 → b ≠ 25 → b ≠ 9 → b ≠ 10 → b ≠ 11 → b ≠ 17 → b ≠ 18 → Ar h2 b = Ar h b := fun b g0 g1 g2 g3 g4 g5 g6 g7 g8 g9 => (aX b g0 g1 g2 g3 g4).trans (Ar_e (X5 b g5 g6 g7 g8 g9))
      have a164 : ∀ b, b = 164 ∨ b = 165 → Ar h2 b = Ar h b := fun b hb => Ar_e ((hM b (by omega) (by omega) (by omega) (by omega) (by omega) (by omega)).trans (hx b (by rcases hb with rfl | rfl <;> rfl)))
      refine SR_new hc s c2 cs (k0_e (lo 0 (by decide)) (fun fs p e4 e5 => k0 9 (by decide) fs p ((X5 0 (by decide) (by decide) (by decide) (by decide) (by decide)).trans e4) e5)) ⟨?_, n2⟩ ⟨fun c hcl => ?_, fun g hg => ?_⟩ ((Fi_e (lo 0 (by decide))).trans a07) ((Fi_e (lo 25 (by decide))).trans ((fX'.2 25 1 rfl rfl).trans (Fi_e (X5 25 (by decide) (by decide) (by decide) (by decide) (by decide))))) ((Fi_e (lo 25 (by decide))).trans a252) m27 ((fM'.2 162 47 rfl rfl).trans ((gM 47 (by decide) (by decide) (by decide) (by decide) (by decide) (by decide)).trans (x162 47)))
      · have e13 : h2 13 = h 13 := cs 13 rfl
        show RS cc (gc + r) (Ar h2 14) (Ar h2 15) (Ar h2 16) (Ar h2 17) (Ar h2 18) (Fi h2 13 5) (Fi h2 13 6) (Ar h2 170)
        rw [ah 14 (by decide) (by decide) (by decide) (by decide) (by decide) (by decide) (by decide) (by decide) (by decide) (by decide), ah 15 (by decide) (by decide) (by decide) (by decide) (by decide) (by decide) (by decide) (by decide) (by decide) (by decide), ah 16 (by decide) (by decide) (by decide) (by decide) (by decide) (by decide) (by decide) (by decide) (by decide) (by decide), aX 17 (by decide) (by decide) (by decide) (by decide) (by decide), aX 18 (by decide) (by decide) (by decide) (by decide) (by decide), Fi_e e13, Fi_e e13]
        exact n1
      · have o := s.2.2.1.1 c hcl
        rw [ah 6 (by decide) (by decide) (by decide) (by decide) (by decide) (by decide) (by decide) (by decide) (by decide) (by decide), ah 7 (by decide) (by decide) (by decide) (by decide) (by decide) (by decide) (by decide) (by decide) (by decide) (by decide), a164 164 (by decide), a164 165 (by decide)]
        exact o
      · have o := n3 g hg
        rw [aX 9 (by decide) (by decide) (by decide) (by decide) (by decide), aX 10 (by decide) (by decide) (by decide) (by decide) (by decide), aX 11 (by decide) (by decide) (by decide) (by decide) (by decide)]
        exact o
end CGS
