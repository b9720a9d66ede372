/-! year: SR is kept, both sides answer alike -/
section YRF
variable {n fr lo sl n0 cc gc k t c u fi si : Nat} {q : QT} {a b h h1 h2 H X M X0 M0 hx hm hm' : pm_H} {v w : Int32} {f g : Nat → Int32} {R : pm_Rs} {W : List Nat} {V : List (Nat × Nat)}
theorem HC_fr (hc : HC q cc gc h) (w1 : WT h1) (z : frm W V h h1) (k : srF W V = true) : HC q cc gc h1 := by
  unfold srF at k
  rw [Bool.and_eq_true, Bool.and_eq_true] at k
  obtain ⟨k1, k2, k3⟩ := k
  refine HC_keep w1 (fun c g e => ?_) (fun fs p e1 e2 => ⟨fs, (z.1 0 (nel k3)).trans e1, e2⟩) hc
  have y := List.all_eq_true.mp k2 (c, g) (List.elem_iff.mp e)
  rw [Bool.and_eq_true] at y
  exact z.2 c g y.1 (nel2 y.2)
theorem VE_m2 (z : VE q cc gc hx hm) (hc : HC q cc gc hm') (ce : ∀ a, List.elem a [164, 165, 166, 167, 168, 170, 174] = true → hm' a = hm a) : VE q cc gc hx hm' := by
  obtain ⟨⟨z1, z2⟩, z3, z4, z5, z6⟩ := z
  refine ⟨⟨z1, hc⟩, ?_, ?_, ?_, ?_⟩
  · rw [Ar_e (ce 174 rfl)]
    exact z3
  · unfold RMm
    rw [Ar_e (ce 164 rfl), Ar_e (ce 165 rfl), Ar_e (ce 166 rfl), Ar_e (ce 167 rfl), Ar_e (ce 168 rfl)]
    exact z4
  · rw [Ar_e (ce 170 rfl)]
    exact z5
  · rw [Ar_e (ce 170 rfl)]
    exact z6
theorem v17_ne {i : Nat} (hi : i ≠ 25) : v17 q cc gc h fi si i = h i := by
  unfold v17
  cases decide (15 ≤ si) with
  | true => exact fs_ne hi
  | false => exact fs_ne hi
theorem fset_at {c g : Nat} {x : Value} : fset h c g x c = (match h c with
  | .inr (ci, fs) => .inr (ci, fs.set g x)
  | e => e) := if_pos rfl
theorem v17_25 (e : b 25 = a 25) : v17 q cc gc b fi si 25 = v17 q cc gc a fi si 25 := by
  unfold v17
  cases decide (15 ≤ si) with
  | true =>
    rw [cond_true, cond_true, fset_at, fset_at, e]
  | false =>
    rw [cond_false, cond_false, fset_at, fset_at, e]
/-- a commit behind something that leaves the undo list alone -/
theorem v17_cg (z : frm W V a b) (k : W.elem 25 = false) : frm W V (v17 q cc gc a fi si) (v17 q cc gc b fi si) := by
  have e25 := v17_25 (q := q) (cc := cc) (gc := gc) (fi := fi) (si := si) (z.1 25 k)
  refine ⟨fun i hi => ?_, fun c g ho hv => ?_⟩
  · by_cases y : i = 25
    · rw [y]
      exact e25
    · rw [v17_ne y, v17_ne y]
      exact z.1 i hi
  · by_cases y : c = 25
    · rw [y]
      exact Fi_e e25
    · rw [Fi_e (v17_ne y), Fi_e (v17_ne y)]
      exact z.2 c g ho hv
theorem el178 {i : Nat} (y : i ≠ 178) : List.elem i [178] = false := by
  cases z : List.elem i [178] with
  | false => rfl
  | true =>
    have z := List.elem_iff.mp z
    simp at z
    exact absurd z y
/-- a state put by, behind something that leaves the state and the rows alone -/
theorem v211_cg (ca : HC q cc gc a) (cb : HC q cc gc b) (hu : u ≤ 15) (z : frm W V a b) (k8 : W.elem 178 = false) (k0 : W.elem 170 = false) : frm W V (v211 q cc gc a u) (v211 q cc gc b u) := by
  obtain ⟨c1, f1⟩ := v211_fr (u := u) ca hu
  obtain ⟨c2, f2⟩ := v211_fr (u := u) cb hu
  obtain ⟨p1, p2, p3⟩ := v211_ar (q := q) (cc := cc) (gc := gc) (h := a) (u := u)
  obtain ⟨r1, r2, r3⟩ := v211_ar (q := q) (cc := cc) (gc := gc) (h := b) (u := u)
  have e0 : Ar b 170 = Ar a 170 := Ar_e (z.1 170 k0)
  have e8 : Ar b 178 = Ar a 178 := Ar_e (z.1 178 k8)
  have eA : Ar (v211 q cc gc b u) 178 = Ar (v211 q cc gc a u) 178 := by
    funext x
    by_cases y : x < 96 * u ∨ 96 * u + 96 ≤ x
    · rw [p3 x y, r3 x y, e8]
    · obtain ⟨k, hk, rfl⟩ : ∃ k, k < 96 ∧ x = 96 * u + k := ⟨x - 96 * u, by omega, by omega⟩
      rw [p2 k hk, r2 k hk, e0]
  have e178 : v211 q cc gc b u 178 = v211 q cc gc a u 178 := by
    rw [wt_a c1.wt (by decide) (show wd (bB 178) = .inl (0, 1536, ai_top) from rfl) (by decide), wt_a c2.wt (by decide) (show wd (bB 178) = .inl (0, 1536, ai_top) from rfl) (by decide), eA]
  refine ⟨fun i hi => ?_, fun c g ho hv => ?_⟩
  · by_cases y : i = 178
    · rw [y]
      exact e178
    · exact (f2.1 i (el178 y)).trans ((z.1 i hi).trans (f1.1 i (el178 y)).symm)
  · exact (f2.2 c g ho rfl).trans ((z.2 c g ho hv).trans (f1.2 c g ho rfl).symm)
theorem yEnd_hc {A B : Int64} (hc : HC q cc gc h) (hfi : fi < 16) (hsi : si ≤ 15) : HC q cc gc (yEnd q cc gc h fi si k A B) := by
  have c1 : HC q cc gc (fset h 1 1 (.int (nI 0))) := hc_f rfl rfl (by decide) rfl hc
  unfold yEnd
  cases decide (k ≤ 0) with
  | true =>
    rw [cond_true]
    exact (v56_fr c1).1
  | false =>
    rw [cond_false]
    exact (v56_fr (v17_fr c1 hfi hsi).1).1
theorem yMid_fr {A B : Int64} (hc : HC q cc gc h) : HC q cc gc (yMid q cc gc h A B) ∧ frm [162, 163] [(162, 1)] h (yMid q cc gc h A B) := by
  have c1 : HC q cc gc (fset h 162 1 (.int (nI 0))) := hc_f rfl rfl (by decide) rfl hc
  obtain ⟨c2, f2⟩ := v167_fr (v := A) c1
  obtain ⟨c3, f3⟩ := v167_fr (v := B) c2
  exact ⟨c3, fr_t f3 (fr_t f2 (fr_f rfl rfl fr_0))⟩
def yWb : List Nat := [1, 3, 4, 12, 13, 14, 15, 16, 17, 18, 142, 144, 145, 147, 162, 163, 170, 176, 177, 178, 179, 180, 181, 182]
def yVb : List (Nat × Nat) := [(1, 1), (3, 1), (13, 5), (13, 6), (142, 3), (145, 3), (162, 0), (162, 15), (162, 16), (162, 17), (162, 18), (162, 35), (162, 29), (162, 30), (162, 1)]
def yWc : List Nat := [1, 3, 4, 12, 13, 14, 15, 16, 17, 18, 142, 144, 145, 147]
def yVc : List (Nat × Nat) := [(1, 1), (3, 1), (13, 5), (13, 6), (142, 3), (145, 3)]
def yWd : List Nat := [162, 163, 170, 176, 177, 179, 180, 181, 182]
def yVd : List (Nat × Nat) := [(162, 0), (162, 15), (162, 16), (162, 17), (162, 18), (162, 35), (162, 29), (162, 30), (162, 1)]
theorem CK_wb : CK.all (fun a => !(yWb.elem a)) = true := by decide +kernel
theorem sl_wb : (List.range 96).all (fun j => !(yWb.elem (27 + j))) = true := by decide +kernel
/-- a year in which nothing went through -/
theorem SR_yr0 (hc : HC q cc gc h) (s : SRq q cc gc h) (hfi : fi < 16) (hsi : si ≤ 15) (e1 : Fi h 25 1 = nI fi) (e2 : Fi h 25 2 = nI si) (e3 : Fi h 162 27 = nI si) (pa : ∀ j, j < si → RSb cc gc (27 + 6 * ((fi + j) % 16)) h (fun k => Ar h 178 (96 * j + k)) ∧ RI cc gc (fun k => Ar h 178 (96 * j + k))) (c2 : HC q cc gc h2) (z : frm yWb yVb (cp73 h (27 + 6 * ((fi + si) % 16)) 13) h2) (e178 : ∀ x, x < 96 * si → Ar h2 178 x = Ar h 178 x) (nw : RSb cc gc 13 h2 (Ar h2 170) ∧ RI cc gc (Ar h2 170)) : SR h2 := by
  have out : ∀ a, (a < 27 ∨ 123 ≤ a) → yWb.elem a = false → h2 a = h a := fun a y e => (z.1 a e).trans (cp73_ne (by omega))
  have cs : ∀ a, CK.elem a = true → h2 a = h a := fun a e => out a (CK_of e).1 (nel (List.all_eq_true.mp CK_wb a (List.elem_iff.mp e)))
  have ka : kpt AK h h2 := fun a e => Ar_e (cs a (List.elem_iff.mpr (List.mem_append_left _ (List.elem_iff.mp e))))
  have i162 : cp73 h (27 + 6 * ((fi + si) % 16)) 13 162 = h 162 := cp73_ne (by omega)
  have f47 : Fi h2 162 47 = Fi h 162 47 := (z.2 162 47 rfl rfl).trans (Fi_e i162)
  have kf : kpf FK h h2 := by
    intro c g e
    have e := List.elem_iff.mp e
    simp only [FK, List.mem_cons, Prod.mk.injEq, List.not_mem_nil, or_false] at e
    rcases e with ⟨rfl, rfl⟩ | ⟨rfl, rfl⟩ | ⟨rfl, rfl⟩ | ⟨rfl, rfl⟩ | ⟨rfl, rfl⟩ | ⟨rfl, rfl⟩ | ⟨rfl, rfl⟩ | ⟨rfl, rfl⟩ | ⟨rfl, rfl⟩ | ⟨rfl, rfl⟩ | ⟨rfl, rfl⟩
    · exact Fi_e (cs 0 rfl)
    · exact Fi_e (cs 5 rfl)
    · exact Fi_e (cs 5 rfl)
    · exact Fi_e (cs 159 rfl)
    · exact f47
    · exact Fi_e (cs 124 rfl)
    · exact Fi_e (cs 124 rfl)
    · exact Fi_e (cs 130 rfl)
    · exact Fi_e (cs 130 rfl)
    · exact Fi_e (cs 136 rfl)
    · exact Fi_e (cs 136 rfl)
  have k9 : k0f 9 h h2 := fun fs p e1 e2 => ⟨fs, (cs 0 rfl).trans e1, e2⟩
  have c25 : h2 25 = h 25 := out 25 (Or.inl (by decide)) rfl
  have hs : ∀ i, 27 ≤ i → i < 123 → (i < 27 + 6 * ((fi + si) % 16) ∨ 27 + 6 * ((fi + si) % 16) + 6 ≤ i) → h2 i = h i := by
    intro i h1 h3 h4
    have e := List.all_eq_true.mp sl_wb (i - 27) (List.mem_range.mpr (by omega))
    rw [show 27 + (i - 27) = i by omega] at e
    exact (z.1 i (nel e)).trans (cp73_ne h4)
  refine SR_act c2 hc.qq s ka kf k9 nw ⟨fi, si, hfi, hsi, ⟨?_, ?_, ?_⟩, fun j hj => ?_⟩
  · exact (Fi_e c25).trans e1
  · exact (Fi_e c25).trans e2
  · exact ((z.2 162 27 rfl rfl).trans (Fi_e i162)).trans e3
  · obtain ⟨q1, q2⟩ := pa j hj
    exact ⟨RS_cg hc.cb hc.gb (fun k hk => e178 _ (by omega)) (RSb_e (fun i h1 h2 => hs i (by omega) (by omega) (by omega)) q1), RI_cg hc.cb hc.gb (fun k hk => e178 _ (by omega)) q2⟩
/-- year keeps SR; both sides answer alike -/
theorem sr_year (hL : LI5 h) (pr : prun sl 100 228 [] h h1 h2 v w) (z : SR h) : v = w ∧ SR h2 := by
  obtain ⟨q, cc, gc, fi, si, hc, s, hfi, hsi, e1, e2, e3, pa⟩ := SR_open z
  obtain ⟨⟨m1, r1⟩, ⟨f1, i1⟩, ⟨m2, r2⟩, lo1, i2⟩ := pr
  obtain ⟨n0, hn, t1, t15, hjj⟩ := li_text hL
  have hI : mInv h := hL.1
  have hx : ∀ i, i = 164 ∨ i = 165 ∨ i = 166 ∨ i = 167 ∨ i = 168 ∨ i = 170 ∨ i = 174 ∨ i = 178 ∨ i = 162 ∨ i = 172 → h1 i = h i := fun i hi => f1.1 i (by rcases hi with rfl | rfl | rfl | rfl | rfl | rfl | rfl | rfl | rfl | rfl <;> rfl)
  have e172 : Ar h1 172 = Ar h 172 := Ar_e (hx 172 (by decide))
  have eq : ∀ j, j < min n0 60 → Ar h 2 j = Ar h 172 j := fun j hj => hjj j (by omega)
  have qe : ∀ j, j < min n0 60 → Ar h 172 j = Ar h 2 j := fun j hj => (eq j hj).symm
  have eR := cg_R eq 61 0
  obtain ⟨M, c, ⟨wM, fM⟩, e35, ry⟩ := yh_run (wt_of i1.1) hn ((Fi_e (hx 162 (by decide))).trans t15) r2
  rw [e172, ← eR] at ry
  have kc := yc_run hn hc t1 (na_17 hI.1) hfi hsi e1 e2 r1
  generalize yR (Ar h 2) (min n0 60) 61 0 = r at *
  rcases kc with ⟨g0, er⟩ | ⟨g1, gk⟩
  · rcases ry with ⟨-, er2⟩ | ⟨g2, -⟩
    · injection er with b1 b2
      injection b1 with b1
      injection b1 with b1
      injection b2 with b2 b3
      injection er2 with d1 d2
      injection d1 with d1
      injection d1 with d1
      injection d2 with d2 d3
      rw [b2] at fM
      have fa : frm (1 :: yHW) ((1, 1) :: yHV) h M := fr_g rfl rfl fM (fr_f rfl rfl fr_0)
      have k : srF (1 :: yHW) ((1, 1) :: yHV) = true := by decide +kernel
      rw [b1, d1, d2]
      exact ⟨rfl, q, cc, gc, HC_fr hc wM fa k, SR_fr hc s fa k⟩
    · rw [g0] at g2
      cases g2
  · rcases ry with ⟨g2, -⟩ | ⟨-, ⟨ok, hend, td⟩, m, v1, v2, v3, hm⟩
    · rw [g1] at g2
      cases g2
    · have ok2 := cg_ok qe ok
      have hend2 : yPos (Ar h 2) (min n0 60) c = n0 := (cg_P eq c).trans hend
      have td2 := cg_told qe ok td
      have hle := yPos_le c ok2
      obtain ⟨A, B, er⟩ := gk c ok2 hend2
      obtain ⟨c0, f0⟩ := v16_fr (fi := fi) (si := si) hc hfi hsi
      have ve0 : VE q cc gc (v16 q cc gc h fi si) h := VE_x (VE_0 hc s) c0 f0 (by decide +kernel)
      have x0 : v16 q cc gc h fi si = cp73 h (27 + 6 * ((fi + si) % 16)) 13 := rfl
      obtain ⟨cX, fX⟩ := yGX_fr (f := Ar h 2) (t := min n0 60) c 0 (v16 q cc gc h fi si) c0
      injection er with b1 b2
      injection b1 with b1
      injection b1 with b1
      injection b2 with b2 b3
      have c1 : HC q cc gc h1 := by
        rw [b2]
        exact yEnd_hc cX hfi hsi
      have cM : HC q cc gc M := HC_fr c1 wM fM (by decide +kernel)
      have m27 : Fi M 162 27 = nI si := (fM.2 162 27 rfl rfl).trans ((Fi_e (hx 162 (by decide))).trans e3)
      -- the reference
      obtain ⟨m, hm⟩ := rn_i rfl rfl rfl rfl hm
      have hm : pm_run PT m _ _ 228 (58, [some (.ref 162), some (.int v1), some (.int v2), some (.int v3), none], [.ref 162], M, 198, sl) = some (some (.int w), h2, 198, sl) := hm
      obtain ⟨m, fr', lo', r1', hr1, hm⟩ := rn_call (w := 0) (t := 211) rfl rfl hm
      obtain ⟨er1, c3, f3⟩ := v211_ok cM hsi m27 hr1
      subst er1
      have a3 := v211_ar (q := q) (cc := cc) (gc := gc) (h := M) (u := si)
      have hm : pm_run PT m _ _ 228 (61, [some (.ref 162), some (.int v1), some (.int v2), some (.int v3), none], [], v211 q cc gc M si, 198, sl) = some (some (.int w), h2, 198, sl) := hm
      obtain ⟨m, hm⟩ := rn_i rfl rfl rfl rfl hm
      obtain ⟨m, hm⟩ := rn_i rfl rfl rfl rfl hm
      have hm : pm_run PT m _ _ 228 (64, [some (.ref 162), some (.int v1), some (.int v2), some (.int v3), some (.int (nI 0))], [], v211 q cc gc M si, 198, sl) = some (some (.int w), h2, 198, sl) := hm
      have fS : frm yHW yHV (fset h1 162 0 (.int (nI 0))) M := ⟨fun i hi => (fM.1 i hi).trans (fs_ne (fun e => by rw [e] at hi; cases hi)).symm, fun c' g' ho hv => (fM.2 c' g' ho hv).trans (Fi_n (Classical.byContradiction (fun y => by
        have y1 : c' = 162 := Classical.byContradiction (fun e => y (Or.inl e))
        have y2 : g' = 0 := Classical.byContradiction (fun e => y (Or.inr e))
        rw [y1, y2] at hv
        cases hv))).symm⟩
      have cS : HC q cc gc (fset h1 162 0 (.int (nI 0))) := hc_f rfl rfl (by decide) rfl c1
      have fP := v211_cg (u := si) cS cM hsi fS rfl rfl
      have fQ : frm (178 :: yHW) yHV h1 (v211 q cc gc M si) := fr_g rfl rfl f3 (fr_g rfl rfl fM fr_0)
      have mh : ∀ i, i = 164 ∨ i = 165 ∨ i = 166 ∨ i = 167 ∨ i = 168 ∨ i = 170 ∨ i = 174 → v211 q cc gc M si i = h i := fun i hi => (fQ.1 i (by rcases hi with rfl | rfl | rfl | rfl | rfl | rfl | rfl <;> rfl)).trans (hx i (by omega))
      have ve : VE q cc gc (v16 q cc gc h fi si) (v211 q cc gc M si) := VE_m2 ve0 c3 (fun i hi => mh i (by
        have hi := List.elem_iff.mp hi
        simp at hi
        omega))
      have td3 : yTold (v211 q cc gc M si) (Ar h 2) (min n0 60) c := yTold_e (fun i hi => f3.1 i (by rcases hi with rfl | rfl | rfl | rfl <;> rfl)) td2
      have na3 : NA (v211 q cc gc M si) 170 78 86 6 := NA_e (Ar_e (mh 170 (by decide))) (na_170 hI.1)
      obtain ⟨m, hm⟩ := yw_loop (v1 := v1) (v2 := v2) (v3 := v3) ok2 (by omega) c 0 m (v211 q cc gc M si) (Nat.zero_add c) c3 na3 ((f3.2 162 35 rfl rfl).trans e35) td3 hm
      obtain ⟨y1, y2⟩ := yG_rel ok2 c 0 (v16 q cc gc h fi si) (v211 q cc gc M si) (Nat.zero_add c) ve td3
      obtain ⟨cE, fE⟩ := yGM_fr ok2 c 0 (v211 q cc gc M si) (Nat.zero_add c) c3 td3
      have hk := yG_le (yMj q cc gc (Ar h 2) (min n0 60)) c 0 (v211 q cc gc M si)
      have m178 : ∀ x, x < 96 * si → Ar (v211 q cc gc M si) 178 x = Ar h 178 x := fun x hx2 => (a3.2.2 x (Or.inl hx2)).trans (congrFun ((Ar_e (fM.1 178 rfl)).trans (Ar_e (hx 178 (by decide)))) x)
      have ex : XP q cc gc fi si h (v17 q cc gc (v16 q cc gc h fi si) fi si) := by
        unfold v17
        by_cases y : 15 ≤ si
        · rw [decide_eq_true y, cond_true]
          exact xp_1 hc y hsi e2
        · rw [decide_eq_false y, cond_false]
          exact xp_0 hc y e1
      have e35e : Fi (yG (yMj q cc gc (Ar h 2) (min n0 60)) c 0 (v211 q cc gc M si)).2 162 35 = nI c := (fE.2 162 35 rfl rfl).trans ((f3.2 162 35 rfl rfl).trans e35)
      have e27e : Fi (yG (yMj q cc gc (Ar h 2) (min n0 60)) c 0 (v211 q cc gc M si)).2 162 27 = nI si := (fE.2 162 27 rfl rfl).trans ((f3.2 162 27 rfl rfl).trans m27)
      generalize yG (yXj q cc gc (Ar h 2) (min n0 60)) c 0 (v16 q cc gc h fi si) = zx at *
      obtain ⟨kx, Xe⟩ := zx
      generalize yG (yMj q cc gc (Ar h 2) (min n0 60)) c 0 (v211 q cc gc M si) = zm at *
      obtain ⟨km, Me⟩ := zm
      dsimp only at b1 b2 y1 y2 cX fX hm cE fE hk e35e e27e
      subst y1
      obtain ⟨er2, -, -⟩ := v228e_ok cE (by omega) (by omega) hsi e35e e27e hm
      obtain ⟨A2, B2, eE⟩ := v228e_is (q := q) (cc := cc) (gc := gc) (h := Me) (c := c) (u := si) (k := kx) (a := v1) (b := v2) (d := v3)
      rw [eE] at er2
      obtain ⟨cMid, fMid⟩ := yMid_fr (A := A2) (B := B2) cE
      obtain ⟨r5, r6⟩ := y2.2.2.2
      have cF : HC q cc gc (fset Xe 1 1 (.int (nI 0))) := hc_f rfl rfl (by decide) rfl cX
      have lo : ∀ i, i < 162 → yMid q cc gc Me A2 B2 i = h1 i := fun i hi => (fMid.1 i (el_ge (by decide) hi)).trans ((fE.1 i (el_ge (by decide) hi)).trans ((f3.1 i (el_ge (by decide) hi)).trans (fM.1 i (el_ge (by decide) hi))))
      have a170 : Ar (yMid q cc gc Me A2 B2) 170 = Ar Me 170 := Ar_e (fMid.1 170 rfl)
      by_cases y : kx ≤ 0
      · rw [decide_eq_true y, cond_true] at er2
        injection er2 with d1 d2
        injection d1 with d1
        injection d1 with d1
        injection d2 with d2 d3
        unfold yEnd at b2
        rw [decide_eq_true y, cond_true] at b2
        have hk0 : kx = 0 := by omega
        have fH : frm [1, 3, 4] [(1, 1), (3, 1)] Xe h1 := by
          rw [b2]
          exact fr_g rfl rfl (v56_fr cF).2 (fr_f rfl rfl fr_0)
        have hX : ∀ i, i = 13 ∨ i = 14 ∨ i = 15 ∨ i = 16 ∨ i = 17 ∨ i = 18 → h1 i = Xe i := fun i hi => fH.1 i (by rcases hi with rfl | rfl | rfl | rfl | rfl | rfl <;> rfl)
        have fz : frm yWb yVb (v16 q cc gc h fi si) (yMid q cc gc Me A2 B2) := fr_g (by decide +kernel) (by decide +kernel) fMid (fr_g (by decide +kernel) (by decide +kernel) fE (fr_g (by decide +kernel) (by decide +kernel) f3 (fr_g (by decide +kernel) (by decide +kernel) fM (fr_g (by decide +kernel) (by decide +kernel) fH (fr_g (by decide +kernel) (by decide +kernel) fX fr_0)))))
        rw [b1, d1, d2, hk0]
        refine ⟨rfl, SR_yr0 hc s hfi hsi e1 e2 e3 pa cMid fz (fun x hx2 => (congrFun ((Ar_e (fMid.1 178 rfl)).trans (Ar_e (fE.1 178 rfl))) x).trans (m178 x hx2)) ?_⟩
        rw [a170]
        refine ⟨?_, r6⟩
        unfold RSb
        rw [Ar_e ((lo (13 + 1) (by decide)).trans (hX 14 (by decide))), Ar_e ((lo (13 + 2) (by decide)).trans (hX 15 (by decide))), Ar_e ((lo (13 + 3) (by decide)).trans (hX 16 (by decide))), Ar_e ((lo (13 + 4) (by decide)).trans (hX 17 (by decide))), Ar_e ((lo (13 + 5) (by decide)).trans (hX 18 (by decide))), Fi_e ((lo 13 (by decide)).trans (hX 13 (by decide))), Fi_e ((lo 13 (by decide)).trans (hX 13 (by decide)))]
        exact r5
      · rw [decide_eq_false y, cond_false, v212_1] at er2
        injection er2 with d1 d2
        injection d1 with d1
        injection d1 with d1
        injection d2 with d2 d3
        unfold yEnd at b2
        rw [decide_eq_false y, cond_false] at b2
        have g1 : frm yWc yVc (v16 q cc gc h fi si) (fset Xe 1 1 (.int (nI 0))) := fr_f rfl rfl (fr_g rfl rfl fX fr_0)
        have cV : HC q cc gc (v17 q cc gc (fset Xe 1 1 (.int (nI 0))) fi si) := (v17_fr cF hfi hsi).1
        have fXX : frm yWc yVc (v17 q cc gc (v16 q cc gc h fi si) fi si) h1 := by
          rw [b2]
          exact fr_g rfl rfl (v56_fr cV).2 (v17_cg g1 rfl)
        have hX : ∀ i, i = 13 ∨ i = 14 ∨ i = 15 ∨ i = 16 ∨ i = 17 ∨ i = 18 → h1 i = Xe i := fun i hi => by
          rw [b2]
          exact ((v56_fr cV).2.1 i (by rcases hi with rfl | rfl | rfl | rfl | rfl | rfl <;> rfl)).trans ((v17_ne (by omega)).trans (fs_ne (by omega)))
        have fMM : frm yWd yVd (v211 q cc gc (fset h1 162 0 (.int (nI 0))) si) (yMid q cc gc Me A2 B2) := fr_g (by decide +kernel) (by decide +kernel) fMid (fr_g (by decide +kernel) (by decide +kernel) fE (fr_g (by decide +kernel) (by decide +kernel) fP fr_0))
        rw [b1, d1, d2]
        refine ⟨rfl, act_sr (W2 := []) (V2 := []) hc s hfi hsi pa ex fXX (by decide +kernel) c1 fMM (by decide +kernel) cMid fr_0 (by decide +kernel) rfl (v212_fr cMid hsi).1 ?_⟩
        rw [a170, Ar_e (hX 14 (by decide)), Ar_e (hX 15 (by decide)), Ar_e (hX 16 (by decide)), Ar_e (hX 17 (by decide)), Ar_e (hX 18 (by decide)), Fi_e (hX 13 (by decide)), Fi_e (hX 13 (by decide))]
        exact ⟨r5, r6⟩
end YRF
