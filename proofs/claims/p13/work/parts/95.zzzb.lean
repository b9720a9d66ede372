/-! the acts as pairs of calls: SR is kept, the answers are alike -/
section ACO
variable {sl cc gc fi si : Nat} {q : QT} {h h1 h2 : pm_H} {v w x y z : Int32} {W : List Nat} {V : List (Nat × Nat)}
theorem na_17 (hI : ah_ok bB 198 [] h) : NA h 17 0 8 6 := by
  intro j _ hj
  have b0 : ac_ok (h 17) (.inl (0, 8, (0, 0, 5))) := hI 17 (by decide)
  have e0 := wt_a (wt_of hI) (by decide) (show wd (bB 17) = .inl (0, 8, ai_top) from rfl) (by decide)
  rw [e0] at b0
  have b0 : 0 = 0 ∧ 8 = 8 ∧ ∀ j, j < 8 → av_ok (.int (Ar h 17 j)) (0, 0, 5) := b0
  have q := b0.2.2 j hj
  have q1 : 0 ≤ (Ar h 17 j).toInt := q.2.1
  have q2 : (Ar h 17 j).toInt ≤ 5 := q.2.2
  obtain ⟨k, ek, hk, ei⟩ := hI_of q1
  rw [ek, nI_clamp hk]
  exact ⟨rfl, by omega⟩
def asR : List av := match bB 170 with
  | .inr (_, as) => as
  | _ => []
theorem asR_all : (List.range 8).all (fun j => decide (asR[78 + j]? = some ((0, 0, 5) : av))) = true := by decide +kernel
theorem na_170 (hI : ah_ok bB 198 [] h) : NA h 170 78 86 6 := by
  intro j h1 h2
  have e0 := wt_a (wt_of hI) (by decide) (show wd (bB 170) = .inl (0, 96, ai_top) from rfl) (by decide)
  have b0 : ac_ok (h 170) (.inr (1000, asR)) := hI 170 (by decide)
  rw [e0] at b0
  have b0 : 1000 = 1000 + 0 ∧ 96 = asR.length ∧ ∀ (j : Nat) (a : av), asR[j]? = some a → av_ok (.int (Ar h 170 j)) a := b0
  have z := of_decide_eq_true (List.all_eq_true.mp asR_all (j - 78) (List.mem_range.mpr (by omega)))
  rw [show 78 + (j - 78) = j by omega] at z
  have q := b0.2.2 j _ z
  have q1 : 0 ≤ (Ar h 170 j).toInt := q.2.1
  have q2 : (Ar h 170 j).toInt ≤ 5 := q.2.2
  obtain ⟨k, ek, hk, ei⟩ := hI_of q1
  rw [ek, nI_clamp hk]
  exact ⟨rfl, by omega⟩
theorem pP_iv (e : pP cc x y = true) : ∃ a b, a < cc ∧ b < cc ∧ a ≠ b ∧ x = nI a ∧ y = nI b := by
  unfold pP at e
  rw [Bool.and_eq_true, Bool.and_eq_true] at e
  obtain ⟨e1, e2, e3⟩ := e
  obtain ⟨a, ha, ea⟩ := cB_iv e1
  obtain ⟨b, hb, eb⟩ := cB_iv e2
  refine ⟨a, b, ha, hb, fun q => ?_, ea, eb⟩
  rw [ea, eb, q, decide_eq_true rfl] at e3
  cases e3
/-- what an act takes out of SR -/
theorem SR_open (s : SR h) : ∃ (q : QT) (cc gc fi si : Nat), HC q cc gc h ∧ SRq q cc gc h ∧ fi < 16 ∧ si ≤ 15 ∧ Fi h 25 1 = nI fi ∧ Fi h 25 2 = nI si ∧ Fi h 162 27 = nI si ∧ ∀ j, j < si → RSb cc gc (27 + 6 * ((fi + j) % 16)) h (fun k => Ar h 178 (96 * j + k)) ∧ RI cc gc (fun k => Ar h 178 (96 * j + k)) := by
  obtain ⟨q, cc, gc, hc, s⟩ := s
  obtain ⟨fi, si, p1, p2, ⟨p3, p4, p5⟩, p6⟩ := s.2.2.2.1
  exact ⟨q, cc, gc, fi, si, hc, s, p1, p2, p3, p4, p5, p6⟩
def refM (W : List Nat) (V : List (Nat × Nat)) : Bool := (List.range 162).all (fun a => !(W.elem a)) && (CK.all (fun a => !(W.elem a)) && (!(V.elem (162, 47)) && !(V.elem (162, 27))))
/-- SR where nothing but what isn't read yet was written -/
theorem ref_sr (hc : HC q cc gc h) (s : SRq q cc gc h) (hfi : fi < 16) (hsi : si ≤ 15) (e1 : Fi h 25 1 = nI fi) (e2 : Fi h 25 2 = nI si) (e3 : Fi h 162 27 = nI si) (pa : ∀ j, j < si → RSb cc gc (27 + 6 * ((fi + j) % 16)) h (fun k => Ar h 178 (96 * j + k)) ∧ RI cc gc (fun k => Ar h 178 (96 * j + k))) (c2 : HC q cc gc h2) (f : frm W V h h2) (k : refM W V = true) (e170 : Ar h2 170 = Ar h 170) (e178 : ∀ x, x < 96 * si → Ar h2 178 x = Ar h 178 x) : SR h2 := by
  unfold refM at k
  rw [Bool.and_eq_true, Bool.and_eq_true, Bool.and_eq_true] at k
  obtain ⟨k1, k2, k3, k4⟩ := k
  have lo : ∀ a, a < 162 → h2 a = h a := fun a ha => f.1 a (nel (List.all_eq_true.mp k1 a (List.mem_range.mpr ha)))
  have cs : ∀ a, CK.elem a = true → h2 a = h a := fun a e => f.1 a (nel (List.all_eq_true.mp k2 a (List.elem_iff.mp e)))
  have ka : kpt AK h h2 := fun a e => Ar_e (cs a (List.elem_iff.mpr (List.mem_append_left _ (List.elem_iff.mp e))))
  have f47 : Fi h2 162 47 = Fi h 162 47 := f.2 162 47 rfl (nel2 k3)
  have kf : kpf FK h h2 := by
    intro c g e
    have e := List.elem_iff.mp e
    simp only [FK, List.mem_cons, Prod.mk.injEq, List.not_mem_nil, or_false] at e
    rcases e with ⟨rfl, rfl⟩ | ⟨rfl, rfl⟩ | ⟨rfl, rfl⟩ | ⟨rfl, rfl⟩ | ⟨rfl, rfl⟩ | ⟨rfl, rfl⟩ | ⟨rfl, rfl⟩ | ⟨rfl, rfl⟩ | ⟨rfl, rfl⟩ | ⟨rfl, rfl⟩ | ⟨rfl, rfl⟩
    · exact Fi_e (cs 0 rfl)
    · exact Fi_e (cs 5 rfl)
    · exact Fi_e (cs 5 rfl)
    · exact Fi_e (cs 159 rfl)
    · exact f47
    · exact Fi_e (cs 124 rfl)
    · exact Fi_e (cs 124 rfl)
    · exact Fi_e (cs 130 rfl)
    · exact Fi_e (cs 130 rfl)
    · exact Fi_e (cs 136 rfl)
    · exact Fi_e (cs 136 rfl)
  have k9 : k0f 9 h h2 := fun fs p e1 e2 => ⟨fs, (cs 0 rfl).trans e1, e2⟩
  obtain ⟨⟨s1, s2⟩, -⟩ := s.2
  refine SR_act c2 hc.qq s ka kf k9 ⟨?_, ?_⟩ ⟨fi, si, hfi, hsi, ⟨?_, ?_, ?_⟩, fun j hj => ?_⟩
  · rw [e170]
    exact RSb_e (fun i h1 h2 => lo i (by omega)) s1
  · rw [e170]
    exact s2
  · exact (Fi_e (lo 25 (by decide))).trans e1
  · exact (Fi_e (lo 25 (by decide))).trans e2
  · exact (f.2 162 27 rfl (nel2 k4)).trans e3
  · obtain ⟨q1, q2⟩ := pa j hj
    exact ⟨RS_cg hc.cb hc.gb (fun k hk => e178 _ (by omega)) (RSb_e (fun i h1 h2 => lo i (by omega)) q1), RI_cg hc.cb hc.gb (fun k hk => e178 _ (by omega)) q2⟩
theorem ref_0 (hc : HC q cc gc h) (s : SRq q cc gc h) (hfi : fi < 16) (hsi : si ≤ 15) (e1 : Fi h 25 1 = nI fi) (e2 : Fi h 25 2 = nI si) (e3 : Fi h 162 27 = nI si) (pa : ∀ j, j < si → RSb cc gc (27 + 6 * ((fi + j) % 16)) h (fun k => Ar h 178 (96 * j + k)) ∧ RI cc gc (fun k => Ar h 178 (96 * j + k))) : SR (fset h 162 0 (.int (nI 0))) :=
  ref_sr (W := [162]) (V := [(162, 0)]) hc s hfi hsi e1 e2 e3 pa (hc_f rfl rfl (by decide) rfl hc) (fr_f rfl rfl fr_0) (by decide +kernel) Ar_f (fun x _ => congrFun Ar_f x)
theorem ref_put (hc : HC q cc gc h) (s : SRq q cc gc h) (hfi : fi < 16) (hsi : si ≤ 15) (e1 : Fi h 25 1 = nI fi) (e2 : Fi h 25 2 = nI si) (e3 : Fi h 162 27 = nI si) (pa : ∀ j, j < si → RSb cc gc (27 + 6 * ((fi + j) % 16)) h (fun k => Ar h 178 (96 * j + k)) ∧ RI cc gc (fun k => Ar h 178 (96 * j + k))) : SR (v211 q cc gc (fset h 162 0 (.int (nI 0))) si) := by
  have cF : HC q cc gc (fset h 162 0 (.int (nI 0))) := hc_f rfl rfl (by decide) rfl hc
  obtain ⟨c0, g0⟩ := v211_fr (u := si) cF hsi
  obtain ⟨a1, a2, a3⟩ := v211_ar (q := q) (cc := cc) (gc := gc) (h := fset h 162 0 (.int (nI 0))) (u := si)
  exact ref_sr (W := [162, 178]) (V := [(162, 0)]) hc s hfi hsi e1 e2 e3 pa c0 (fr_g rfl rfl g0 (fr_f rfl rfl fr_0)) (by decide +kernel) (a1.trans Ar_f) (fun x hx => (a3 x (Or.inl hx)).trans (congrFun Ar_f x))
theorem up_id {f : Nat → Int32} {k : Nat} {a : Int32} (e : f k = a) : upd f k a = f := by
  funext i
  by_cases z : i = k
  · rw [z, up_e rfl, e]
  · rw [up_n z]
theorem v213_lt {M0 : pm_H} {u : Nat} (e : pm_cmp .ge x 0 = false) : v213 q cc gc M0 u x = (x, M0) := by
  unfold v213
  rw [e]
  rfl
theorem n2_ge : pm_cmp .ge (Int32.ofInt (-2)) 0 = false := by decide
theorem n2_lt : pm_cmp .lt (Int32.ofInt (-2)) 0 = true := by decide
theorem n1_ge : pm_cmp .ge (Int32.ofInt (-1)) 0 = false := by decide
theorem z0_ge : pm_cmp .ge (nI 0) 0 = true := by decide
theorem ne_ff {x : Int32} : pm_cmp .ne x x = false := decide_eq_false (fun z => z rfl)
theorem ne_tt {x y : Int32} (e : x ≠ y) : pm_cmp .ne x y = true := decide_eq_true e
/-- send: gift and court are there -/
theorem snd_hold {g : Nat} (s : SRq q cc gc h) (hg : g < gc) : ∃ F, F < cc ∧ Ar h 170 (78 + g) = nI F ∧ Ar h 17 g = nI F := by
  obtain ⟨F, hF, eF⟩ := s.2.1.2.2.2.2.1 g hg
  exact ⟨F, hF, eF, (s.2.1.1.2.2.2.1 g hg).trans eF⟩
theorem v222_two {M0 : pm_H} {g F : Nat} (hg : g < gc) (hF : F < cc) (h6 : cc ≤ 6) (eM : Ar M0 170 (78 + g) = nI F) (e : v211 q cc gc (fset h 162 0 (.int (nI 0))) si = M0) : v222 q cc gc h si g F = (Int32.ofInt (-2), M0) := by
  have e217 : v217 q cc gc M0 g F = (Int32.ofInt (-2), M0) := by
    unfold v217
    rw [decide_eq_true hg, decide_eq_true hF, eM, nI_clamp (by omega), decide_eq_false (fun z : ¬ F = F => z rfl)]
    rfl
  unfold v222
  rw [e, e217]
  dsimp only
  rw [v213_lt n2_ge]
  dsimp only
  rw [n2_lt]
  rfl
theorem v96_two {g F : Nat} (hg : g < gc) (hF : F < cc) (eX : Ar h 17 g = nI F) : v96 q cc gc h fi si g F = (Int32.ofInt (-2), h) := by
  have ev : v136 q cc gc (Ar h 17) g F = Int32.ofInt (-2) := by
    unfold v136
    rw [decide_eq_true hg, decide_eq_true hF, eX, ne_ff]
    rfl
  unfold v96
  rw [ev, n2_ge]
  rfl
theorem v96_good {g c F : Nat} (hc : HC q cc gc h) (hg : g < gc) (hcc : c < cc) (hF : F < cc) (eX : Ar h 17 g = nI F) (hn : F ≠ c) (hsi : si ≤ 15) (e1 : Fi h 25 1 = nI fi) (e2 : Fi h 25 2 = nI si) : ∃ H A B, XP q cc gc fi si h H ∧ v96 q cc gc h fi si g c = (Ar (v40 q cc gc (v39 q cc gc H g c).2 g c (v39 q cc gc H g c).1) 15 (c * 6 + F), v56 q cc gc (v40 q cc gc (v39 q cc gc H g c).2 g c (v39 q cc gc H g c).1) A B) := by
  have h6 := hc.cb
  have ev : v136 q cc gc (Ar h 17) g c = nI 0 := by
    unfold v136
    rw [decide_eq_true hg, decide_eq_true hcc, eX, ne_tt (fun z => hn (nI_ij (by omega) (by omega) z))]
    rfl
  unfold v96
  rw [ev, z0_ge, eX, nI_clamp (by omega)]
  by_cases z15 : 15 ≤ si
  · rw [decide_eq_true z15]
    exact ⟨_, _, _, xp_1 hc z15 hsi e2, rfl⟩
  · rw [decide_eq_false z15]
    exact ⟨_, _, _, xp_0 hc z15 e1, rfl⟩
theorem sr_send (pr : prun sl 96 222 [x, y] h h1 h2 v w) (hI : mInv h) (s : SR h) : v = w ∧ SR h2 := by
  obtain ⟨⟨m1, r1⟩, ⟨f1, i1⟩, ⟨m2, r2⟩, -, -⟩ := pr
  obtain ⟨q, cc, gc, fi, si, hc, s, hfi, hsi, e1, e2, e3, pa⟩ := SR_open s
  have hP := ref_put hc s hfi hsi e1 e2 e3 pa
  have h6 := hc.cb
  have h8 := hc.gb
  cases zx : cB gc x with
  | false =>
    have a1 := v96w1_ok hc zx r1
    cases a1
    obtain ⟨a2, -, -⟩ := v222w1_ok hc zx hsi e3 r2
    cases a2
    exact ⟨rfl, hP⟩
  | true =>
    cases zy : cB cc y with
    | false =>
      have a1 := v96w2_ok hc zx zy r1
      cases a1
      obtain ⟨a2, -, -⟩ := v222w2_ok hc zx zy hsi e3 r2
      cases a2
      exact ⟨rfl, hP⟩
    | true =>
      obtain ⟨g, hg, rfl⟩ := cB_iv zx
      obtain ⟨c, hcc, rfl⟩ := cB_iv zy
      obtain ⟨F, hF, eF, eX⟩ := snd_hold s hg
      obtain ⟨a1, c1, -⟩ := v96_ok hc (by omega) (by omega) hfi hsi e1 e2 (na_17 hI.1) r1
      by_cases hn : F = c
      · subst hn
        have eM : Ar (v211 q cc gc (fset h 162 0 (.int (nI 0))) si) 170 (78 + g) = nI F := (congrFun (v211_ar.1.trans Ar_f) _).trans eF
        have e222 := v222_two (q := q) (h := h) (si := si) hg hF h6 eM rfl
        rw [v96_two hg hF eX] at a1
        cases a1
        obtain ⟨a2, -, -⟩ := v222_ok hc (by omega) (by omega) hsi e3 (na_170 i1.1) r2
        rw [e222] at a2
        cases a2
        exact ⟨rfl, hP⟩
      · obtain ⟨H, A, B, xp, e96⟩ := v96_good hc hg hcc hF eX hn hsi e1 e2
        rw [e96] at a1 c1
        have a1 : (some (.int v), h1, 198, sl) = ((some (.int (Ar (v40 q cc gc (v39 q cc gc H g c).2 g c (v39 q cc gc H g c).1) 15 (c * 6 + F))), v56 q cc gc (v40 q cc gc (v39 q cc gc H g c).2 g c (v39 q cc gc H g c).1) A B, 198, sl) : pm_Rs) := a1
        injection a1 with b1 b2
        injection b1 with b1
        injection b1 with b1
        injection b2 with b2 b3
        have c1 : HC q cc gc h1 := by
          rw [b2]
          exact c1
        have e3' : Fi h1 162 27 = nI si := (Fi_e (f1.1 162 rfl)).trans e3
        obtain ⟨a2, c2, -⟩ := v222_ok c1 (by omega) (by omega) hsi e3' (na_170 i1.1) r2
        obtain ⟨n1, n2⟩ := snd_sr hc s hfi hsi pa xp hg hcc hF eF hn b2 c2
        injection a2 with d1 d2
        injection d1 with d1
        injection d1 with d1
        injection d2 with d2 d3
        rw [d1, d2, b1]
        exact ⟨n2.symm, n1⟩
/-- envoy -/
theorem env_in {m : Int32} {a b : Nat} (zp : pP cc (nI a) (nI b) = true) : v137 q cc gc a b m = !(in_b m.toInt64 (-9 : Int64) (9 : Int64) && pm_cmp .ne m 0) := by
  have d1 : decide (m.toInt64 < (-9 : Int64)) = pm_cmp .lt m (Int32.ofInt (-9)) := by
    refine decide_eq_decide.mpr ?_
    rw [Int64.lt_iff_toInt_lt, Int32.lt_iff_toInt_lt, Int32.toInt_toInt64, show (-9 : Int64).toInt = -9 by decide, show (Int32.ofInt (-9)).toInt = -9 by decide]
  have d2 : decide ((9 : Int64) < m.toInt64) = pm_cmp .gt m (nI 9) := by
    refine decide_eq_decide.mpr ?_
    show _ ↔ nI 9 < m
    rw [Int64.lt_iff_toInt_lt, Int32.lt_iff_toInt_lt, Int32.toInt_toInt64, show (9 : Int64).toInt = 9 by decide, show (nI 9).toInt = 9 by decide]
  unfold v137 in_b
  rw [zp, d1, d2]
  cases pm_cmp .lt m (Int32.ofInt (-9)) <;> cases pm_cmp .gt m (nI 9) <;> cases pm_cmp .ne m 0 <;> rfl
theorem v98_good {a b : Nat} {m : Int32} (hc : HC q cc gc h) (e : v137 q cc gc a b m = false) (hsi : si ≤ 15) (e1 : Fi h 25 1 = nI fi) (e2 : Fi h 25 2 = nI si) : ∃ H, XP q cc gc fi si h H ∧ v98 q cc gc h fi si a b m = (Ar (v138 q cc gc H a b m) 15 (a * 6 + b), v138 q cc gc H a b m) := by
  unfold v98
  rw [e]
  by_cases z15 : 15 ≤ si
  · rw [decide_eq_true z15]
    exact ⟨_, xp_1 hc z15 hsi e2, rfl⟩
  · rw [decide_eq_false z15]
    exact ⟨_, xp_0 hc z15 e1, rfl⟩
theorem v224_one {M0 : pm_H} {a b : Nat} {m : Int32} (zp : pP cc (nI a) (nI b) = true) (zi : (in_b m.toInt64 (-9 : Int64) (9 : Int64) && pm_cmp .ne m 0) = false) (e : v211 q cc gc (fset h 162 0 (.int (nI 0))) si = M0) : v224 q cc gc h si a b m = (Int32.ofInt (-1), M0) := by
  have e220 : v220 q cc gc M0 a b m = (Int32.ofInt (-1), M0) := by
    unfold v220
    rw [zp]
    cases z1 : in_b m.toInt64 (-9 : Int64) (9 : Int64) with
    | false => rfl
    | true =>
      rw [z1, Bool.true_and] at zi
      rw [zi]
      rfl
  unfold v224
  rw [e, e220]
  dsimp only
  rw [v213_lt n1_ge]
theorem sr_envoy (pr : prun sl 98 224 [x, y, z] h h1 h2 v w) (s : SR h) : v = w ∧ SR h2 := by
  obtain ⟨⟨m1, r1⟩, ⟨f1, i1⟩, ⟨m2, r2⟩, -, -⟩ := pr
  obtain ⟨q, cc, gc, fi, si, hc, s, hfi, hsi, e1, e2, e3, pa⟩ := SR_open s
  have hP := ref_put hc s hfi hsi e1 e2 e3 pa
  have h6 := hc.cb
  cases zp : pP cc x y with
  | false =>
    have a1 := v98w_ok hc zp r1
    cases a1
    obtain ⟨a2, -, -⟩ := v224w_ok hc zp hsi e3 r2
    cases a2
    exact ⟨rfl, hP⟩
  | true =>
    obtain ⟨a, b, ha, hb, hab, rfl, rfl⟩ := pP_iv zp
    obtain ⟨a1, c1, -⟩ := v98_ok hc (by omega) (by omega) hfi hsi e1 e2 r1
    have ei := env_in (q := q) (gc := gc) (m := z) zp
    cases zi : in_b z.toInt64 (-9 : Int64) (9 : Int64) && pm_cmp .ne z 0 with
    | false =>
      rw [zi] at ei
      have e98 : v98 q cc gc h fi si a b z = (Int32.ofInt (-1), h) := by
        unfold v98
        rw [ei]
        rfl
      have e224 := v224_one (q := q) (gc := gc) (h := h) (si := si) zp zi rfl
      rw [e98] at a1
      cases a1
      obtain ⟨a2, -, -⟩ := v224_ok hc (by omega) (by omega) hsi e3 r2
      rw [e224] at a2
      cases a2
      exact ⟨rfl, hP⟩
    | true =>
      rw [zi] at ei
      rw [Bool.and_eq_true] at zi
      obtain ⟨H, xp, e98⟩ := v98_good hc ei hsi e1 e2
      rw [e98] at a1 c1
      have a1 : (some (.int v), h1, 198, sl) = ((some (.int (Ar (v138 q cc gc H a b z) 15 (a * 6 + b))), v138 q cc gc H a b z, 198, sl) : pm_Rs) := a1
      injection a1 with b1 b2
      injection b1 with b1
      injection b1 with b1
      injection b2 with b2 b3
      have e3' : Fi h1 162 27 = nI si := (Fi_e (f1.1 162 rfl)).trans e3
      rw [b2] at e3' r2
      obtain ⟨a2, c2, -⟩ := v224_ok c1 (by omega) (by omega) hsi e3' r2
      obtain ⟨n1, n2⟩ := env_sr hc s hfi hsi pa xp ha hb hab zp zi.1 zi.2 c2
      injection a2 with d1 d2
      injection d1 with d1
      injection d1 with d1
      injection d2 with d2 d3
      rw [d1, d2, b1]
      exact ⟨n2.symm, n1⟩
/-- forgive -/
theorem v99_good {a b : Nat} (hc : HC q cc gc h) (e : v139 q cc gc (Ar h 16) a b = nI 0) (hsi : si ≤ 15) (e1 : Fi h 25 1 = nI fi) (e2 : Fi h 25 2 = nI si) : ∃ H, XP q cc gc fi si h H ∧ v99 q cc gc h fi si a b = (Ar H 16 (a * 6 + b), aset H 16 36 (upd (Ar H 16) (a * 6 + b) (nI 0))) := by
  have k : ∀ H, XP q cc gc fi si h H → Ar H 16 = Ar h 16 := fun H xp => Ar_e (xp.1.1 16 (by decide) (by decide))
  unfold v99
  rw [e, z0_ge]
  by_cases z15 : 15 ≤ si
  · rw [decide_eq_true z15]
    have xp := xp_1 (fi := fi) hc z15 hsi e2
    refine ⟨_, xp, ?_⟩
    rw [k _ xp]
    rfl
  · rw [decide_eq_false z15]
    have xp := xp_0 (fi := fi) hc z15 e1
    refine ⟨_, xp, ?_⟩
    rw [k _ xp]
    rfl
theorem sr_forgive (pr : prun sl 99 225 [x, y] h h1 h2 v w) (s : SR h) : v = w ∧ SR h2 := by
  obtain ⟨⟨m1, r1⟩, ⟨f1, i1⟩, ⟨m2, r2⟩, -, -⟩ := pr
  obtain ⟨q, cc, gc, fi, si, hc, s, hfi, hsi, e1, e2, e3, pa⟩ := SR_open s
  have hP := ref_put hc s hfi hsi e1 e2 e3 pa
  have h6 := hc.cb
  cases zp : pP cc x y with
  | false =>
    have a1 := v99w_ok hc zp r1
    cases a1
    obtain ⟨a2, -, -⟩ := v225w_ok hc zp hsi e3 r2
    cases a2
    exact ⟨rfl, hP⟩
  | true =>
    obtain ⟨a, b, ha, hb, hab, rfl, rfl⟩ := pP_iv zp
    obtain ⟨a1, c1, -⟩ := v99_ok hc (by omega) (by omega) hfi hsi e1 e2 r1
    have e16 : Ar h 16 (a * 6 + b) = Ar h 170 (42 + 6 * a + b) := s.2.1.1.2.2.1 a b (by omega) (by omega)
    cases zm : pm_cmp .ne (Ar h 16 (a * 6 + b)) 0 with
    | false =>
      have z0 : Ar h 16 (a * 6 + b) = nI 0 := by
        have z : ¬ (Ar h 16 (a * 6 + b) ≠ 0) := of_decide_eq_false zm
        exact Decidable.not_not.mp z
      have e139 : v139 q cc gc (Ar h 16) a b = Int32.ofInt (-2) := by
        unfold v139
        rw [zp, zm]
        rfl
      have e99 : v99 q cc gc h fi si a b = (Int32.ofInt (-2), h) := by
        unfold v99
        rw [e139, n2_ge]
        rfl
      have cF : HC q cc gc (fset h 162 0 (.int (nI 0))) := hc_f rfl rfl (by decide) rfl hc
      obtain ⟨c0, g0⟩ := v211_fr (u := si) cF hsi
      obtain ⟨p1, p2, p3⟩ := v211_ar (q := q) (cc := cc) (gc := gc) (h := fset h 162 0 (.int (nI 0))) (u := si)
      have eM : Ar (v211 q cc gc (fset h 162 0 (.int (nI 0))) si) 170 (42 + 6 * a + b) = nI 0 := (congrFun (p1.trans Ar_f) _).trans (e16.symm.trans z0)
      have e225 : v225 q cc gc h si a b = (Int32.ofInt (-2), aset (v211 q cc gc (fset h 162 0 (.int (nI 0))) si) 170 96 (upd (Ar (v211 q cc gc (fset h 162 0 (.int (nI 0))) si) 170) (42 + 6 * a + b) (nI 0))) := by
        unfold v225
        have e221 : v221 q cc gc (v211 q cc gc (fset h 162 0 (.int (nI 0))) si) a b = (Int32.ofInt (-2), aset (v211 q cc gc (fset h 162 0 (.int (nI 0))) si) 170 96 (upd (Ar (v211 q cc gc (fset h 162 0 (.int (nI 0))) si) 170) (42 + 6 * a + b) (nI 0))) := by
          unfold v221
          rw [zp, eM, show pm_cmp .ne (nI 0) 0 = false by decide]
          rfl
        rw [e221]
        dsimp only
        rw [v213_lt n2_ge]
      have hQ : SR (aset (v211 q cc gc (fset h 162 0 (.int (nI 0))) si) 170 96 (upd (Ar (v211 q cc gc (fset h 162 0 (.int (nI 0))) si) 170) (42 + 6 * a + b) (nI 0))) := by
        refine ref_sr (W := [162, 170, 178]) (V := [(162, 0)]) hc s hfi hsi e1 e2 e3 pa (hc_a rfl rfl c0) (fr_a rfl rfl (fr_g rfl rfl g0 (fr_f rfl rfl fr_0))) (by decide +kernel) ?_ (fun x hx => ?_)
        · rw [Ar_s, up_id eM, p1, Ar_f]
        · rw [Ar_n (by decide), p3 x (Or.inl hx), Ar_f]
      rw [e99] at a1
      cases a1
      obtain ⟨a2, -, -⟩ := v225_ok hc (by omega) (by omega) hsi e3 r2
      rw [e225] at a2
      cases a2
      exact ⟨rfl, hQ⟩
    | true =>
      have e139 : v139 q cc gc (Ar h 16) a b = nI 0 := by
        unfold v139
        rw [zp, zm]
        rfl
      obtain ⟨H, xp, e99⟩ := v99_good hc e139 hsi e1 e2
      have eH : Ar H 16 = Ar h 16 := Ar_e (xp.1.1 16 (by decide) (by decide))
      rw [e99] at a1 c1
      have a1 : (some (.int v), h1, 198, sl) = ((some (.int (Ar H 16 (a * 6 + b))), aset H 16 36 (upd (Ar H 16) (a * 6 + b) (nI 0)), 198, sl) : pm_Rs) := a1
      injection a1 with b1 b2
      injection b1 with b1
      injection b1 with b1
      injection b2 with b2 b3
      have e3' : Fi h1 162 27 = nI si := (Fi_e (f1.1 162 rfl)).trans e3
      rw [b2] at e3' r2
      obtain ⟨a2, c2, -⟩ := v225_ok c1 (by omega) (by omega) hsi e3' r2
      obtain ⟨n1, n2⟩ := fgv_sr hc s hfi hsi pa xp ha hb zp (by rw [eH]; exact zm) c2
      injection a2 with d1 d2
      injection d1 with d1
      injection d1 with d1
      injection d2 with d2 d3
      rw [d1, d2, b1]
      exact ⟨n2.symm, n1⟩
/-- months -/
theorem mon_inb : in_b x.toInt64 (Int64.ofNat 0) (60 : Int64) = (!pm_cmp .lt x 0 && pm_cmp .le x (nI 60)) := by
  have d1 : decide (x.toInt64 < Int64.ofNat 0) = pm_cmp .lt x 0 := by
    refine decide_eq_decide.mpr ?_
    rw [Int64.lt_iff_toInt_lt, Int32.lt_iff_toInt_lt, Int32.toInt_toInt64, show (Int64.ofNat 0).toInt = 0 by decide, show (0 : Int32).toInt = 0 by decide]
  have d2 : (!decide ((60 : Int64) < x.toInt64)) = pm_cmp .le x (nI 60) := by
    rw [show pm_cmp .le x (nI 60) = decide (x ≤ nI 60) from rfl, Bool.eq_iff_iff, Bool.not_eq_true', decide_eq_false_iff_not, decide_eq_true_iff, Int64.lt_iff_toInt_lt, Int32.le_iff_toInt_le, Int32.toInt_toInt64, show (60 : Int64).toInt = 60 by decide, show (nI 60).toInt = 60 by decide]
    omega
  unfold in_b
  rw [d1, d2]
theorem v97_good {m : Nat} (hc : HC q cc gc h) (hm : m ≤ 60) (hsi : si ≤ 15) (e1 : Fi h 25 1 = nI fi) (e2 : Fi h 25 2 = nI si) : ∃ H A B, XP q cc gc fi si h H ∧ v97 q cc gc h fi si m = (v270 q cc gc ((Fi (v140 q cc gc H m) 13 5) &&& ((Fi h 13 5) ^^^ (Int32.ofInt (-1)))), v56 q cc gc (v140 q cc gc H m) A B) := by
  unfold v97
  rw [decide_eq_true hm]
  by_cases z15 : 15 ≤ si
  · rw [decide_eq_true z15]
    exact ⟨_, _, _, xp_1 hc z15 hsi e2, rfl⟩
  · rw [decide_eq_false z15]
    exact ⟨_, _, _, xp_0 hc z15 e1, rfl⟩
theorem sr_months (pr : prun sl 97 223 [x] h h1 h2 v w) (s : SR h) : v = w ∧ SR h2 := by
  obtain ⟨⟨m1, r1⟩, ⟨f1, i1⟩, ⟨m2, r2⟩, -, -⟩ := pr
  obtain ⟨q, cc, gc, fi, si, hc, s, hfi, hsi, e1, e2, e3, pa⟩ := SR_open s
  have hP := ref_0 hc s hfi hsi e1 e2 e3 pa
  have ei := mon_inb (x := x)
  cases z1 : pm_cmp .lt x 0 with
  | true =>
    rw [z1] at ei
    have a1 := v97w1_ok hc z1 r1
    cases a1
    obtain ⟨a2, -, -⟩ := v223w_ok hc ei r2
    cases a2
    exact ⟨rfl, hP⟩
  | false =>
    cases z2 : pm_cmp .le x (nI 60) with
    | false =>
      rw [z1, z2] at ei
      have a1 := v97w2_ok hc z1 z2 r1
      cases a1
      obtain ⟨a2, -, -⟩ := v223w_ok hc ei r2
      cases a2
      exact ⟨rfl, hP⟩
    | true =>
      rw [z1, z2] at ei
      have y1 : ¬ x < 0 := of_decide_eq_false z1
      have y2 : x ≤ nI 60 := of_decide_eq_true z2
      rw [Int32.lt_iff_toInt_lt, show (0 : Int32).toInt = 0 by decide] at y1
      rw [Int32.le_iff_toInt_le, show (nI 60).toInt = 60 by decide] at y2
      obtain ⟨m, rfl, hm, em⟩ := hI_of (x := x) (by omega)
      have hm : m ≤ 60 := by omega
      obtain ⟨a1, c1, -⟩ := v97_ok hc (by omega) hfi hsi e1 e2 r1
      obtain ⟨H, A, B, xp, e97⟩ := v97_good hc hm hsi e1 e2
      rw [e97] at a1 c1
      have a1 : (some (.int v), h1, 198, sl) = ((some (.int (v270 q cc gc ((Fi (v140 q cc gc H m) 13 5) &&& ((Fi h 13 5) ^^^ (Int32.ofInt (-1)))))), v56 q cc gc (v140 q cc gc H m) A B, 198, sl) : pm_Rs) := a1
      injection a1 with b1 b2
      injection b1 with b1
      injection b1 with b1
      injection b2 with b2 b3
      have c1 : HC q cc gc h1 := by
        rw [b2]
        exact c1
      have e3' : Fi h1 162 27 = nI si := (Fi_e (f1.1 162 rfl)).trans e3
      obtain ⟨a2, c2, -⟩ := v223_ok c1 (by omega) hsi e3' r2
      obtain ⟨n1, n2⟩ := mon_sr hc s hfi hsi pa xp ei b2 c2
      injection a2 with d1 d2
      injection d1 with d1
      injection d1 with d1
      injection d2 with d2 d3
      rw [d1, d2, b1]
      exact ⟨n2.symm, n1⟩
/-- undo -/
theorem sr_undo (pr : prun sl 101 214 [] h h1 h2 v w) (s : SR h) : v = w ∧ SR h2 := by
  obtain ⟨⟨m1, r1⟩, ⟨f1, i1⟩, ⟨m2, r2⟩, -, -⟩ := pr
  obtain ⟨q, cc, gc, fi, si, hc, s, hfi, hsi, e1, e2, e3, pa⟩ := SR_open s
  have hP := ref_0 hc s hfi hsi e1 e2 e3 pa
  obtain ⟨a1, c1, -⟩ := v101_ok hc hfi hsi e1 e2 r1
  have e3' : Fi h1 162 27 = nI si := (Fi_e (f1.1 162 rfl)).trans e3
  by_cases z : si = 0
  · have e101 : v101 q cc gc h fi si = (Int32.ofInt (-1), h) := by
      unfold v101
      rw [decide_eq_false (fun y : ¬ si = 0 => y z)]
      rfl
    have e214 : v214 q cc gc h si = (Int32.ofInt (-1), fset h 162 0 (.int (nI 0))) := by
      unfold v214
      rw [decide_eq_false (fun y : ¬ si = 0 => y z)]
      rfl
    rw [e101] at a1
    cases a1
    obtain ⟨a2, -, -⟩ := v214_ok hc hsi e3 r2
    rw [e214] at a2
    cases a2
    exact ⟨rfl, hP⟩
  · obtain ⟨n1, n2, n3⟩ := und_sr hc s hfi hsi z e1 pa
    have a1 : (some (.int v), h1, 198, sl) = ((some (.int (v101 q cc gc h fi si).1), (v101 q cc gc h fi si).2, 198, sl) : pm_Rs) := a1
    injection a1 with b1 b2
    injection b1 with b1
    injection b1 with b1
    injection b2 with b2 b3
    rw [b2] at e3' r2
    obtain ⟨a2, c2, -⟩ := v214_ok c1 hsi e3' r2
    injection a2 with d1 d2
    injection d1 with d1
    injection d1 with d1
    injection d2 with d2 d3
    rw [d1, d2, b1, n2, n3]
    exact ⟨rfl, n1⟩
end ACO
