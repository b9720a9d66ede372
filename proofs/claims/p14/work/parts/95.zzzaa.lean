section MG95zzzaax0
/-! sheet() of both sides answers alike -/
section SHT
variable {q : QT} {cc gc sl : Nat} {h hx hm h1 h2 : pm_H} {k m e s v w : Int32}
theorem fi_of {c ci g : Nat} {fs : List Value} {x : Int32} (e : h c = .inr (ci, fs)) (e1 : fs[g]? = some (.int x)) : Fi h c g = x := by
  unfold Fi
  rw [e]
  dsimp only
  rw [e1]
def asZ (c : Nat) : List av := match bB c with
  | .inr (_, as) => as
  | _ => []
theorem hc_rule (hI : ah_ok bB 198 [] h) {p : Nat} (hb : bB p = .inr (6, asZ p)) (hp : p < 198) (h1 : (asZ p)[1]? = some (0, 0, 40)) : ∃ n : Nat, n ≤ 40 ∧ Fi h p 1 = nI n := by
  have b0 : ac_ok (h p) (bB p) := hI p hp
  rw [hb] at b0
  obtain ⟨fs, e0, hl, hv⟩ := aE_obj b0 (by decide)
  have hlt : 1 < fs.length := by
    have := (List.getElem?_eq_some_iff.mp h1).1
    omega
  have ev := List.getElem?_eq_getElem hlt
  obtain ⟨x, ex, x1, x2⟩ := av_int rfl (hv 1 _ _ ev h1)
  obtain ⟨n, rfl, -, en⟩ := hI_of (x := x) x1
  rw [ex] at ev
  refine ⟨n, ?_, fi_of e0 ev⟩
  dsimp only at x2
  omega
def sF (q : QT) (cc gc : Nat) (k m e s : Int32) (b : Bool) (i : Nat) : Int32 := cond (cond b false (cond (pm_cmp .ge (nI i) m) false true)) (imax (nI 0) (imin (nI 999) (v157t q cc gc k (e + nI i * s)))) (nI 0)
theorem sx_loop (b : Bool) : ∀ (j i : Nat) (h : pm_H) (t : Nat), Ar (v95_44 q cc gc k m e s b j i h) 14 t = if i ≤ t ∧ t < i + j then sF q cc gc k m e s b t else Ar h 14 t
  | 0, i, h, t => by
    rw [if_neg (by omega)]
    rfl
  | j + 1, i, h, t => by
    have ih := sx_loop b j (i + 1) (v95_44b q cc gc h k m e s b i) t
    have e1 : v95_44 q cc gc k m e s b (j + 1) i h = v95_44 q cc gc k m e s b j (i + 1) (v95_44b q cc gc h k m e s b i) := rfl
    rw [e1, ih]
    have e2 : Ar (v95_44b q cc gc h k m e s b i) 14 t = if t = i then sF q cc gc k m e s b i else Ar h 14 t := by
      unfold v95_44b
      rw [Ar_s]
      rfl
    rw [e2]
    by_cases h1 : t = i
    · subst h1
      rw [if_neg (by omega), if_pos rfl, if_pos (by omega)]
    · rw [if_neg h1]
      by_cases h2 : i + 1 ≤ t ∧ t < i + 1 + j
      · rw [if_pos h2, if_pos (by omega)]
      · rw [if_neg h2, if_neg (by omega)]
def shM (k m e s : Int32) (i : Nat) : Int32 := cond (pm_cmp .eq k (nI 3)) (nI 0) (cond (pm_cmp .lt (nI i) m) (imax (nI 0) (imin (nI 999) (cond (pm_cmp .ne k 0) (cond (pm_cmp .ne k (nI 1)) (e + nI i * s) ((e + nI i * s).toInt16.toInt32)) ((e + nI i * s).toInt8.toInt32)))) (nI 0))
theorem sm_loop : ∀ (j i : Nat) (x : Int32) (h : pm_H) (t : Nat), x = e + nI i * s → Ar (v210_43 q cc gc k m e s j i (x, h)).2 170 t = if i ≤ t ∧ t < i + j then shM k m e s t else Ar h 170 t
  | 0, i, x, h, t, _ => by
    rw [if_neg (by omega)]
    rfl
  | j + 1, i, x, h, t, hx => by
    have e3 : x + s = e + nI (i + 1) * s := by
      rw [hx, ← nI_add i 1, Int32.add_mul, show nI 1 = 1 from rfl, Int32.one_mul, Int32.add_assoc]
    have eb : v210_43b q cc gc h k m e s i x = (x + s, aset h 170 96 (upd (Ar h 170) i (shM k m e s i))) := by
      rw [hx]
      unfold v210_43b shM
      cases pm_cmp .ne k 0 <;> cases pm_cmp .ne k (nI 1) <;> cases pm_cmp .eq k (nI 3) <;> cases pm_cmp .lt (nI i) m <;> rfl
    have ih := sm_loop j (i + 1) (x + s) (aset h 170 96 (upd (Ar h 170) i (shM k m e s i))) t e3
    have e1 : v210_43 q cc gc k m e s (j + 1) i (x, h) = v210_43 q cc gc k m e s j (i + 1) (v210_43b q cc gc h k m e s i x) := rfl
    rw [e1, eb, ih]
    have e2 : Ar (aset h 170 96 (upd (Ar h 170) i (shM k m e s i))) 170 t = if t = i then shM k m e s i else Ar h 170 t := by
      rw [Ar_s]
      rfl
    rw [e2]
    by_cases h1 : t = i
    · subst h1
      rw [if_neg (by omega), if_pos rfl, if_pos (by omega)]
    · rw [if_neg h1]
      by_cases h2 : i + 1 ≤ t ∧ t < i + 1 + j
      · rw [if_pos h2, if_pos (by omega)]
      · rw [if_neg h2, if_neg (by omega)]
theorem i_ge (x y : Int32) : pm_cmp .ge x y = !(pm_cmp .lt x y) := by
  show decide (y ≤ x) = !(decide (x < y))
  by_cases z : x < y
  · rw [decide_eq_true z, decide_eq_false (fun z2 => by rw [Int32.lt_iff_toInt_lt] at z; rw [Int32.le_iff_toInt_le] at z2; omega)]
    rfl
  · rw [decide_eq_false z, decide_eq_true (by rw [Int32.lt_iff_toInt_lt] at z; rw [Int32.le_iff_toInt_le]; omega)]
    rfl
theorem i_ne (x y : Int32) : pm_cmp .ne x y = !(pm_cmp .eq x y) := by
  show decide (¬ x = y) = !(decide (x = y))
  by_cases z : x = y
  · rw [decide_eq_true z, decide_eq_false (fun z2 => z2 z)]
    rfl
  · rw [decide_eq_false z, decide_eq_true z]
    rfl
theorem sf_eq (i : Nat) : sF q cc gc k m e s (cond (pm_cmp .ne k (nI 3)) false true) i = shM k m e s i := by
  unfold sF shM v157t
  rw [i_ne, i_ne, i_ne, i_ge, show (0 : Int32) = nI 0 from rfl]
  cases pm_cmp .eq k (nI 3) <;> cases pm_cmp .lt (nI i) m <;> cases pm_cmp .eq k (nI 0) <;> cases pm_cmp .eq k (nI 1) <;> simp only [cond_true, cond_false, Bool.not_true, Bool.not_false]
theorem sht_in (k : Int32) : in_b k.toInt64 (Int64.ofNat 0) (3 : Int64) = (!(pm_cmp .lt k 0) && !(pm_cmp .gt k (nI 3))) := by
  unfold in_b
  have e1 : decide (k.toInt64 < Int64.ofNat 0) = pm_cmp .lt k 0 := by
    show _ = decide (k < 0)
    rw [decide_eq_decide, Int64.lt_iff_toInt_lt, Int32.lt_iff_toInt_lt, Int32.toInt_toInt64]
    exact Iff.rfl
  have e2 : decide ((3 : Int64) < k.toInt64) = pm_cmp .gt k (nI 3) := by
    show _ = decide (nI 3 < k)
    rw [decide_eq_decide, Int64.lt_iff_toInt_lt, Int32.lt_iff_toInt_lt, Int32.toInt_toInt64]
    exact Iff.rfl
  rw [e1, e2]
end SHT
end MG95zzzaax0
section MG95zzzaax1
/-! the acts as pairs of calls: SR is kept, the answers are alike -/
section ACO
variable {sl cc gc fi si : Nat} {q : QT} {h h1 h2 : pm_H} {v w x y z : Int32} {W : List Nat} {V : List (Nat × Nat)}
theorem na_17 (hI : ah_ok bB 198 [] h) : NA h 17 0 8 6 := by
  intro j _ hj
  have b0 : ac_ok (h 17) (.inl (0, 8, (0, 0, 5))) := hI 17 (by decide)
  have e0 := wt_a (wt_of hI) (by decide) (show wd (bB 17) = .inl (0, 8, ai_top) from rfl) (by decide)
  rw [e0] at b0
  have b0 : 0 = 0 ∧ 8 = 8 ∧ ∀ j, j < 8 → av_ok (.int (Ar h 17 j)) (0, 0, 5) := b0
  have q := b0.2.2 j hj
  have q1 : 0 ≤ (Ar h 17 j).toInt := q.2.1
  have q2 : (Ar h 17 j).toInt ≤ 5 := q.2.2
  obtain ⟨k, ek, hk, ei⟩ := hI_of q1
  rw [ek, nI_clamp hk]
  exact ⟨rfl, by omega⟩
def asR : List av := match bB 170 with
  | .inr (_, as) => as
  | _ => []
theorem asR_all : (List.range 8).all (fun j => decide (asR[78 + j]? = some ((0, 0, 5) : av))) = true := by decide +kernel
theorem na_170 (hI : ah_ok bB 198 [] h) : NA h 170 78 86 6 := by
  intro j h1 h2
  have e0 := wt_a (wt_of hI) (by decide) (show wd (bB 170) = .inl (0, 96, ai_top) from rfl) (by decide)
  have b0 : ac_ok (h 170) (.inr (1000, asR)) := hI 170 (by decide)
  rw [e0] at b0
  have b0 : 1000 = 1000 + 0 ∧ 96 = asR.length ∧ ∀ (j : Nat) (a : av), asR[j]? = some a → av_ok (.int (Ar h 170 j)) a := b0
  have z := of_decide_eq_true (List.all_eq_true.mp asR_all (j - 78) (List.mem_range.mpr (by omega)))
  rw [show 78 + (j - 78) = j by omega] at z
  have q := b0.2.2 j _ z
  have q1 : 0 ≤ (Ar h 170 j).toInt := q.2.1
  have q2 : (Ar h 170 j).toInt ≤ 5 := q.2.2
  obtain ⟨k, ek, hk, ei⟩ := hI_of q1
  rw [ek, nI_clamp hk]
  exact ⟨rfl, by omega⟩
theorem pP_iv (e : pP cc x y = true) : ∃ a b, a < cc ∧ b < cc ∧ a ≠ b ∧ x = nI a ∧ y = nI b := by
  unfold pP at e
  rw [Bool.and_eq_true, Bool.and_eq_true] at e
  obtain ⟨e1, e2, e3⟩ := e
  obtain ⟨a, ha, ea⟩ := cB_iv e1
  obtain ⟨b, hb, eb⟩ := cB_iv e2
  refine ⟨a, b, ha, hb, fun q => ?_, ea, eb⟩
  rw [ea, eb, q, decide_eq_true rfl] at e3
  cases e3
/-- what an act takes out of SR -/
theorem SR_open (s : SR h) : ∃ (q : QT) (cc gc fi si : Nat), HC q cc gc h ∧ SRq q cc gc h ∧ fi < 16 ∧ si ≤ 15 ∧ Fi h 25 1 = nI fi ∧ Fi h 25 2 = nI si ∧ Fi h 162 27 = nI si ∧ ∀ j, j < si → RSb cc gc (27 + 6 * ((fi + j) % 16)) h (fun k => Ar h 178 (96 * j + k)) ∧ RI cc gc (fun k => Ar h 178 (96 * j + k)) := by
  obtain ⟨q, cc, gc, hc, s⟩ := s
  obtain ⟨fi, si, p1, p2, ⟨p3, p4, p5⟩, p6⟩ := s.2.2.2.1
  exact ⟨q, cc, gc, fi, si, hc, s, p1, p2, p3, p4, p5, p6⟩
def refM (W : List Nat) (V : List (Nat × Nat)) : Bool := (List.range 162).all (fun a => !(W.elem a)) && (CK.all (fun a => !(W.elem a)) && (!(V.elem (162, 47)) && !(V.elem (162, 27))))
/-- SR where nothing but what isn't read yet was written -/
theorem ref_sr (hc : HC q cc gc h) (s : SRq q cc gc h) (hfi : fi < 16) (hsi : si ≤ 15) (e1 : Fi h 25 1 = nI fi) (e2 : Fi h 25 2 = nI si) (e3 : Fi h 162 27 = nI si) (pa : ∀ j, j < si → RSb cc gc (27 + 6 * ((fi + j) % 16)) h (fun k => Ar h 178 (96 * j + k)) ∧ RI cc gc (fun k => Ar h 178 (96 * j + k))) (c2 : HC q cc gc h2) (f : frm W V h h2) (k : refM W V = true) (e170 : Ar h2 170 = Ar h 170) (e178 : ∀ x, x < 96 * si → Ar h2 178 x = Ar h 178 x) : SR h2 := by
  unfold refM at k
  rw [Bool.and_eq_true, Bool.and_eq_true, Bool.and_eq_true] at k
  obtain ⟨k1, k2, k3, k4⟩ := k
  have lo : ∀ a, a < 162 → h2 a = h a := fun a ha => f.1 a (nel (List.all_eq_true.mp k1 a (List.mem_range.mpr ha)))
  have cs : ∀ a, CK.elem a = true → h2 a = h a := fun a e => f.1 a (nel (List.all_eq_true.mp k2 a (List.elem_iff.mp e)))
  have ka : kpt AK h h2 := fun a e => Ar_e (cs a (List.elem_iff.mpr (List.mem_append_left _ (List.elem_iff.mp e))))
  have f47 : Fi h2 162 47 = Fi h 162 47 := f.2 162 47 rfl (nel2 k3)
  have kf : kpf FK h h2 := by
    intro c g e
    have e := List.elem_iff.mp e
    simp only [FK, List.mem_cons, Prod.mk.injEq, List.not_mem_nil, or_false] at e
    rcases e with ⟨rfl, rfl⟩ | ⟨rfl, rfl⟩ | ⟨rfl, rfl⟩ | ⟨rfl, rfl⟩ | ⟨rfl, rfl⟩ | ⟨rfl, rfl⟩ | ⟨rfl, rfl⟩ | ⟨rfl, rfl⟩ | ⟨rfl, rfl⟩ | ⟨rfl, rfl⟩ | ⟨rfl, rfl⟩
    · exact Fi_e (cs 0 rfl)
    · exact Fi_e (cs 5 rfl)
    · exact Fi_e (cs 5 rfl)
    · exact Fi_e (cs 159 rfl)
    · exact f47
    · exact Fi_e (cs 124 rfl)
    · exact Fi_e (cs 124 rfl)
    · exact Fi_e (cs 130 rfl)
    · exact Fi_e (cs 130 rfl)
    · exact Fi_e (cs 136 rfl)
    · exact Fi_e (cs 136 rfl)
  have k9 : k0f 9 h h2 := fun fs p e1 e2 => ⟨fs, (cs 0 rfl).trans e1, e2⟩
  obtain ⟨⟨s1, s2⟩, -⟩ := s.2
  refine SR_act c2 hc.qq s ka kf k9 ⟨?_, ?_⟩ ⟨fi, si, hfi, hsi, ⟨?_, ?_, ?_⟩, fun j hj => ?_⟩
  · rw [e170]
    exact RSb_e (fun i h1 h2 => lo i (by omega)) s1
  · rw [e170]
    exact s2
  · exact (Fi_e (lo 25 (by decide))).trans e1
  · exact (Fi_e (lo 25 (by decide))).trans e2
  · exact (f.2 162 27 rfl (nel2 k4)).trans e3
  · obtain ⟨q1, q2⟩ := pa j hj
    exact ⟨RS_cg hc.cb hc.gb (fun k hk => e178 _ (by omega)) (RSb_e (fun i h1 h2 => lo i (by omega)) q1), RI_cg hc.cb hc.gb (fun k hk => e178 _ (by omega)) q2⟩
theorem ref_0 (hc : HC q cc gc h) (s : SRq q cc gc h) (hfi : fi < 16) (hsi : si ≤ 15) (e1 : Fi h 25 1 = nI fi) (e2 : Fi h 25 2 = nI si) (e3 : Fi h 162 27 = nI si) (pa : ∀ j, j < si → RSb cc gc (27 + 6 * ((fi + j) % 16)) h (fun k => Ar h 178 (96 * j + k)) ∧ RI cc gc (fun k => Ar h 178 (96 * j + k))) : SR (fset h 162 0 (.int (nI 0))) :=
  ref_sr (W := [162]) (V := [(162, 0)]) hc s hfi hsi e1 e2 e3 pa (hc_f rfl rfl (by decide) rfl hc) (fr_f rfl rfl fr_0) (by decide +kernel) Ar_f (fun x _ => congrFun Ar_f x)
theorem ref_put (hc : HC q cc gc h) (s : SRq q cc gc h) (hfi : fi < 16) (hsi : si ≤ 15) (e1 : Fi h 25 1 = nI fi) (e2 : Fi h 25 2 = nI si) (e3 : Fi h 162 27 = nI si) (pa : ∀ j, j < si → RSb cc gc (27 + 6 * ((fi + j) % 16)) h (fun k => Ar h 178 (96 * j + k)) ∧ RI cc gc (fun k => Ar h 178 (96 * j + k))) : SR (v211 q cc gc (fset h 162 0 (.int (nI 0))) si) := by
  have cF : HC q cc gc (fset h 162 0 (.int (nI 0))) := hc_f rfl rfl (by decide) rfl hc
  obtain ⟨c0, g0⟩ := v211_fr (u := si) cF hsi
  obtain ⟨a1, a2, a3⟩ := v211_ar (q := q) (cc := cc) (gc := gc) (h := fset h 162 0 (.int (nI 0))) (u := si)
  exact ref_sr (W := [162, 178]) (V := [(162, 0)]) hc s hfi hsi e1 e2 e3 pa c0 (fr_g rfl rfl g0 (fr_f rfl rfl fr_0)) (by decide +kernel) (a1.trans Ar_f) (fun x hx => (a3 x (Or.inl hx)).trans (congrFun Ar_f x))
theorem up_id {f : Nat → Int32} {k : Nat} {a : Int32} (e : f k = a) : upd f k a = f := by
  funext i
  by_cases z : i = k
  · rw [z, up_e rfl, e]
  · rw [up_n z]
theorem v213_lt {M0 : pm_H} {u : Nat} (e : pm_cmp .ge x 0 = false) : v213 q cc gc M0 u x = (x, M0) := by
  unfold v213
  rw [e]
  rfl
theorem n2_ge : pm_cmp .ge (Int32.ofInt (-2)) 0 = false := by decide
theorem n2_lt : pm_cmp .lt (Int32.ofInt (-2)) 0 = true := by decide
theorem n1_ge : pm_cmp .ge (Int32.ofInt (-1)) 0 = false := by decide
theorem z0_ge : pm_cmp .ge (nI 0) 0 = true := by decide
theorem ne_ff {x : Int32} : pm_cmp .ne x x = false := decide_eq_false (fun z => z rfl)
theorem ne_tt {x y : Int32} (e : x ≠ y) : pm_cmp .ne x y = true := decide_eq_true e
/-- send: gift and court are there -/
theorem snd_hold {g : Nat} (s : SRq q cc gc h) (hg : g < gc) : ∃ F, F < cc ∧ Ar h 170 (78 + g) = nI F ∧ Ar h 17 g = nI F := by
  obtain ⟨F, hF, eF⟩ := s.2.1.2.2.2.2.1 g hg
  exact ⟨F, hF, eF, (s.2.1.1.2.2.2.1 g hg).trans eF⟩
theorem v222_two {M0 : pm_H} {g F : Nat} (hg : g < gc) (hF : F < cc) (h6 : cc ≤ 6) (eM : Ar M0 170 (78 + g) = nI F) (e : v211 q cc gc (fset h 162 0 (.int (nI 0))) si = M0) : v222 q cc gc h si g F = (Int32.ofInt (-2), M0) := by
  have e217 : v217 q cc gc M0 g F = (Int32.ofInt (-2), M0) := by
    unfold v217
    rw [decide_eq_true hg, decide_eq_true hF, eM, nI_clamp (by omega), decide_eq_false (fun z : ¬ F = F => z rfl)]
    rfl
  unfold v222
  rw [e, e217]
  dsimp only
  rw [v213_lt n2_ge]
  dsimp only
  rw [n2_lt]
  rfl
theorem v96_two {g F : Nat} (hg : g < gc) (hF : F < cc) (eX : Ar h 17 g = nI F) : v96 q cc gc h fi si g F = (Int32.ofInt (-2), h) := by
  have ev : v136 q cc gc (Ar h 17) g F = Int32.ofInt (-2) := by
    unfold v136
    rw [decide_eq_true hg, decide_eq_true hF, eX, ne_ff]
    rfl
  unfold v96
  rw [ev, n2_ge]
  rfl
theorem v96_good {g c F : Nat} (hc : HC q cc gc h) (hg : g < gc) (hcc : c < cc) (hF : F < cc) (eX : Ar h 17 g = nI F) (hn : F ≠ c) (hsi : si ≤ 15) (e1 : Fi h 25 1 = nI fi) (e2 : Fi h 25 2 = nI si) : ∃ H A B, XP q cc gc fi si h H ∧ v96 q cc gc h fi si g c = (Ar (v40 q cc gc (v39 q cc gc H g c).2 g c (v39 q cc gc H g c).1) 15 (c * 6 + F), v56 q cc gc (v40 q cc gc (v39 q cc gc H g c).2 g c (v39 q cc gc H g c).1) A B) := by
  have h6 := hc.cb
  have ev : v136 q cc gc (Ar h 17) g c = nI 0 := by
    unfold v136
    rw [decide_eq_true hg, decide_eq_true hcc, eX, ne_tt (fun z => hn (nI_ij (by omega) (by omega) z))]
    rfl
  unfold v96
  rw [ev, z0_ge, eX, nI_clamp (by omega)]
  by_cases z15 : 15 ≤ si
  · rw [decide_eq_true z15]
    exact ⟨_, _, _, xp_1 hc z15 hsi e2, rfl⟩
  · rw [decide_eq_false z15]
    exact ⟨_, _, _, xp_0 hc z15 e1, rfl⟩
theorem sr_send (pr : prun sl 96 222 [x, y] h h1 h2 v w) (hI : mInv h) (s : SR h) : v = w ∧ SR h2 := by
  obtain ⟨⟨m1, r1⟩, ⟨f1, i1⟩, ⟨m2, r2⟩, -, -⟩ := pr
  obtain ⟨q, cc, gc, fi, si, hc, s, hfi, hsi, e1, e2, e3, pa⟩ := SR_open s
  have hP := ref_put hc s hfi hsi e1 e2 e3 pa
  have h6 := hc.cb
  have h8 := hc.gb
  cases zx : cB gc x with
  | false =>
    have a1 := v96w1_ok hc zx r1
    cases a1
    obtain ⟨a2, -, -⟩ := v222w1_ok hc zx hsi e3 r2
    cases a2
    exact ⟨rfl, hP⟩
  | true =>
    cases zy : cB cc y with
    | false =>
      have a1 := v96w2_ok hc zx zy r1
      cases a1
      obtain ⟨a2, -, -⟩ := v222w2_ok hc zx zy hsi e3 r2
      cases a2
      exact ⟨rfl, hP⟩
    | true =>
      obtain ⟨g, hg, rfl⟩ := cB_iv zx
      obtain ⟨c, hcc, rfl⟩ := cB_iv zy
      obtain ⟨F, hF, eF, eX⟩ := snd_hold s hg
      obtain ⟨a1, c1, -⟩ := v96_ok hc (by omega) (by omega) hfi hsi e1 e2 (na_17 hI.1) r1
      by_cases hn : F = c
      · subst hn
        have eM : Ar (v211 q cc gc (fset h 162 0 (.int (nI 0))) si) 170 (78 + g) = nI F := (congrFun (v211_ar.1.trans Ar_f) _).trans eF
        have e222 := v222_two (q := q) (h := h) (si := si) hg hF h6 eM rfl
        rw [v96_two hg hF eX] at a1
        cases a1
        obtain ⟨a2, -, -⟩ := v222_ok hc (by omega) (by omega) hsi e3 (na_170 i1.1) r2
        rw [e222] at a2
        cases a2
        exact ⟨rfl, hP⟩
      · obtain ⟨H, A, B, xp, e96⟩ := v96_good hc hg hcc hF eX hn hsi e1 e2
        rw [e96] at a1 c1
        have a1 : (some (.int v), h1, 198, sl) = ((some (.int (Ar (v40 q cc gc (v39 q cc gc H g c).2 g c (v39 q cc gc H g c).1) 15 (c * 6 + F))), v56 q cc gc (v40 q cc gc (v39 q cc gc H g c).2 g c (v39 q cc gc H g c).1) A B, 198, sl) : pm_Rs) := a1
        injection a1 with b1 b2
        injection b1 with b1
        injection b1 with b1
        injection b2 with b2 b3
        have c1 : HC q cc gc h1 := by
          rw [b2]
          exact c1
        have e3' : Fi h1 162 27 = nI si := (Fi_e (f1.1 162 rfl)).trans e3
        obtain ⟨a2, c2, -⟩ := v222_ok c1 (by omega) (by omega) hsi e3' (na_170 i1.1) r2
        obtain ⟨n1, n2⟩ := snd_sr hc s hfi hsi pa xp hg hcc hF eF hn b2 c2
        injection a2 with d1 d2
        injection d1 with d1
        injection d1 with d1
        injection d2 with d2 d3
        rw [d1, d2, b1]
        exact ⟨n2.symm, n1⟩
/-- envoy -/
theorem env_in {m : Int32} {a b : Nat} (zp : pP cc (nI a) (nI b) = true) : v137 q cc gc a b m = !(in_b m.toInt64 (-9 : Int64) (9 : Int64) && pm_cmp .ne m 0) := by
  have d1 : decide (m.toInt64 < (-9 : Int64)) = pm_cmp .lt m (Int32.ofInt (-9)) := by
    refine decide_eq_decide.mpr ?_
    rw [Int64.lt_iff_toInt_lt, Int32.lt_iff_toInt_lt, Int32.toInt_toInt64, show (-9 : Int64).toInt = -9 by decide, show (Int32.ofInt (-9)).toInt = -9 by decide]
  have d2 : decide ((9 : Int64) < m.toInt64) = pm_cmp .gt m (nI 9) := by
    refine decide_eq_decide.mpr ?_
    show _ ↔ nI 9 < m
    rw [Int64.lt_iff_toInt_lt, Int32.lt_iff_toInt_lt, Int32.toInt_toInt64, show (9 : Int64).toInt = 9 by decide, show (nI 9).toInt = 9 by decide]
  unfold v137 in_b
  rw [zp, d1, d2]
  cases pm_cmp .lt m (Int32.ofInt (-9)) <;> cases pm_cmp .gt m (nI 9) <;> cases pm_cmp .ne m 0 <;> rfl
theorem v98_good {a b : Nat} {m : Int32} (hc : HC q cc gc h) (e : v137 q cc gc a b m = false) (hsi : si ≤ 15) (e1 : Fi h 25 1 = nI fi) (e2 : Fi h 25 2 = nI si) : ∃ H, XP q cc gc fi si h H ∧ v98 q cc gc h fi si a b m = (Ar (v138 q cc gc H a b m) 15 (a * 6 + b), v138 q cc gc H a b m) := by
  unfold v98
  rw [e]
  by_cases z15 : 15 ≤ si
  · rw [decide_eq_true z15]
    exact ⟨_, xp_1 hc z15 hsi e2, rfl⟩
  · rw [decide_eq_false z15]
    exact ⟨_, xp_0 hc z15 e1, rfl⟩
theorem v224_one {M0 : pm_H} {a b : Nat} {m : Int32} (zp : pP cc (nI a) (nI b) = true) (zi : (in_b m.toInt64 (-9 : Int64) (9 : Int64) && pm_cmp .ne m 0) = false) (e : v211 q cc gc (fset h 162 0 (.int (nI 0))) si = M0) : v224 q cc gc h si a b m = (Int32.ofInt (-1), M0) := by
  have e220 : v220 q cc gc M0 a b m = (Int32.ofInt (-1), M0) := by
    unfold v220
    rw [zp]
    cases z1 : in_b m.toInt64 (-9 : Int64) (9 : Int64) with
    | false => rfl
    | true =>
      rw [z1, Bool.true_and] at zi
      rw [zi]
      rfl
  unfold v224
  rw [e, e220]
  dsimp only
  rw [v213_lt n1_ge]
theorem sr_envoy (pr : prun sl 98 224 [x, y, z] h h1 h2 v w) (s : SR h) : v = w ∧ SR h2 := by
  obtain ⟨⟨m1, r1⟩, ⟨f1, i1⟩, ⟨m2, r2⟩, -, -⟩ := pr
  obtain ⟨q, cc, gc, fi, si, hc, s, hfi, hsi, e1, e2, e3, pa⟩ := SR_open s
  have hP := ref_put hc s hfi hsi e1 e2 e3 pa
  have h6 := hc.cb
  cases zp : pP cc x y with
  | false =>
    have a1 := v98w_ok hc zp r1
    cases a1
    obtain ⟨a2, -, -⟩ := v224w_ok hc zp hsi e3 r2
    cases a2
    exact ⟨rfl, hP⟩
  | true =>
    obtain ⟨a, b, ha, hb, hab, rfl, rfl⟩ := pP_iv zp
    obtain ⟨a1, c1, -⟩ := v98_ok hc (by omega) (by omega) hfi hsi e1 e2 r1
    have ei := env_in (q := q) (gc := gc) (m := z) zp
    cases zi : in_b z.toInt64 (-9 : Int64) (9 : Int64) && pm_cmp .ne z 0 with
    | false =>
      rw [zi] at ei
      have e98 : v98 q cc gc h fi si a b z = (Int32.ofInt (-1), h) := by
        unfold v98
        rw [ei]
        rfl
      have e224 := v224_one (q := q) (gc := gc) (h := h) (si := si) zp zi rfl
      rw [e98] at a1
      cases a1
      obtain ⟨a2, -, -⟩ := v224_ok hc (by omega) (by omega) hsi e3 r2
      rw [e224] at a2
      cases a2
      exact ⟨rfl, hP⟩
    | true =>
      rw [zi] at ei
      rw [Bool.and_eq_true] at zi
      obtain ⟨H, xp, e98⟩ := v98_good hc ei hsi e1 e2
      rw [e98] at a1 c1
      have a1 : (some (.int v), h1, 198, sl) = ((some (.int (Ar (v138 q cc gc H a b z) 15 (a * 6 + b))), v138 q cc gc H a b z, 198, sl) : pm_Rs) := a1
      injection a1 with b1 b2
      injection b1 with b1
      injection b1 with b1
      injection b2 with b2 b3
      have e3' : Fi h1 162 27 = nI si := (Fi_e (f1.1 162 rfl)).trans e3
      rw [b2] at e3' r2
      obtain ⟨a2, c2, -⟩ := v224_ok c1 (by omega) (by omega) hsi e3' r2
      obtain ⟨n1, n2⟩ := env_sr hc s hfi hsi pa xp ha hb hab zp zi.1 zi.2 c2
      injection a2 with d1 d2
      injection d1 with d1
      injection d1 with d1
      injection d2 with d2 d3
      rw [d1, d2, b1]
      exact ⟨n2.symm, n1⟩
/-- forgive -/
theorem v99_good {a b : Nat} (hc : HC q cc gc h) (e : v139 q cc gc (Ar h 16) a b = nI 0) (hsi : si ≤ 15) (e1 : Fi h 25 1 = nI fi) (e2 : Fi h 25 2 = nI si) : ∃ H, XP q cc gc fi si h H ∧ v99 q cc gc h fi si a b = (Ar H 16 (a * 6 + b), aset H 16 36 (upd (Ar H 16) (a * 6 + b) (nI 0))) := by
  have k : ∀ H, XP q cc gc fi si h H → Ar H 16 = Ar h 16 := fun H xp => Ar_e (xp.1.1 16 (by decide) (by decide))
  unfold v99
  rw [e, z0_ge]
  by_cases z15 : 15 ≤ si
  · rw [decide_eq_true z15]
    have xp := xp_1 (fi := fi) hc z15 hsi e2
    refine ⟨_, xp, ?_⟩
    rw [k _ xp]
    rfl
  · rw [decide_eq_false z15]
    have xp := xp_0 (fi := fi) hc z15 e1
    refine ⟨_, xp, ?_⟩
    rw [k _ xp]
    rfl
theorem sr_forgive (pr : prun sl 99 225 [x, y] h h1 h2 v w) (s : SR h) : v = w ∧ SR h2 := by
  obtain ⟨⟨m1, r1⟩, ⟨f1, i1⟩, ⟨m2, r2⟩, -, -⟩ := pr
  obtain ⟨q, cc, gc, fi, si, hc, s, hfi, hsi, e1, e2, e3, pa⟩ := SR_open s
  have hP := ref_put hc s hfi hsi e1 e2 e3 pa
  have h6 := hc.cb
  cases zp : pP cc x y with
  | false =>
    have a1 := v99w_ok hc zp r1
    cases a1
    obtain ⟨a2, -, -⟩ := v225w_ok hc zp hsi e3 r2
    cases a2
    exact ⟨rfl, hP⟩
  | true =>
    obtain ⟨a, b, ha, hb, hab, rfl, rfl⟩ := pP_iv zp
    obtain ⟨a1, c1, -⟩ := v99_ok hc (by omega) (by omega) hfi hsi e1 e2 r1
    have e16 : Ar h 16 (a * 6 + b) = Ar h 170 (42 + 6 * a + b) := s.2.1.1.2.2.1 a b (by omega) (by omega)
    cases zm : pm_cmp .ne (Ar h 16 (a * 6 + b)) 0 with
    | false =>
      have z0 : Ar h 16 (a * 6 + b) = nI 0 := by
        have z : ¬ (Ar h 16 (a * 6 + b) ≠ 0) := of_decide_eq_false zm
        exact Decidable.not_not.mp z
      have e139 : v139 q cc gc (Ar h 16) a b = Int32.ofInt (-2) := by
        unfold v139
        rw [zp, zm]
        rfl
      have e99 : v99 q cc gc h fi si a b = (Int32.ofInt (-2), h) := by
        unfold v99
        rw [e139, n2_ge]
        rfl
      have cF : HC q cc gc (fset h 162 0 (.int (nI 0))) := hc_f rfl rfl (by decide) rfl hc
      obtain ⟨c0, g0⟩ := v211_fr (u := si) cF hsi
      obtain ⟨p1, p2, p3⟩ := v211_ar (q := q) (cc := cc) (gc := gc) (h := fset h 162 0 (.int (nI 0))) (u := si)
      have eM : Ar (v211 q cc gc (fset h 162 0 (.int (nI 0))) si) 170 (42 + 6 * a + b) = nI 0 := (congrFun (p1.trans Ar_f) _).trans (e16.symm.trans z0)
      have e225 : v225 q cc gc h si a b = (Int32.ofInt (-2), aset (v211 q cc gc (fset h 162 0 (.int (nI 0))) si) 170 96 (upd (Ar (v211 q cc gc (fset h 162 0 (.int (nI 0))) si) 170) (42 + 6 * a + b) (nI 0))) := by
        unfold v225
        have e221 : v221 q cc gc (v211 q cc gc (fset h 162 0 (.int (nI 0))) si) a b = (Int32.ofInt (-2), aset (v211 q cc gc (fset h 162 0 (.int (nI 0))) si) 170 96 (upd (Ar (v211 q cc gc (fset h 162 0 (.int (nI 0))) si) 170) (42 + 6 * a + b) (nI 0))) := by
          unfold v221
          rw [zp, eM, show pm_cmp .ne (nI 0) 0 = false by decide]
          rfl
        rw [e221]
        dsimp only
        rw [v213_lt n2_ge]
      have hQ : SR (aset (v211 q cc gc (fset h 162 0 (.int (nI 0))) si) 170 96 (upd (Ar (v211 q cc gc (fset h 162 0 (.int (nI 0))) si) 170) (42 + 6 * a + b) (nI 0))) := by
        refine ref_sr (W := [162, 170, 178]) (V := [(162, 0)]) hc s hfi hsi e1 e2 e3 pa (hc_a rfl rfl c0) (fr_a rfl rfl (fr_g rfl rfl g0 (fr_f rfl rfl fr_0))) (by decide +kernel) ?_ (fun x hx => ?_)
        · rw [Ar_s, up_id eM, p1, Ar_f]
        · rw [Ar_n (by decide), p3 x (Or.inl hx), Ar_f]
      rw [e99] at a1
      cases a1
      obtain ⟨a2, -, -⟩ := v225_ok hc (by omega) (by omega) hsi e3 r2
      rw [e225] at a2
      cases a2
      exact ⟨rfl, hQ⟩
    | true =>
      have e139 : v139 q cc gc (Ar h 16) a b = nI 0 := by
        unfold v139
        rw [zp, zm]
        rfl
      obtain ⟨H, xp, e99⟩ := v99_good hc e139 hsi e1 e2
      have eH : Ar H 16 = Ar h 16 := Ar_e (xp.1.1 16 (by decide) (by decide))
      rw [e99] at a1 c1
      have a1 : (some (.int v), h1, 198, sl) = ((some (.int (Ar H 16 (a * 6 + b))), aset H 16 36 (upd (Ar H 16) (a * 6 + b) (nI 0)), 198, sl) : pm_Rs) := a1
      injection a1 with b1 b2
      injection b1 with b1
      injection b1 with b1
      injection b2 with b2 b3
      have e3' : Fi h1 162 27 = nI si := (Fi_e (f1.1 162 rfl)).trans e3
      rw [b2] at e3' r2
      obtain ⟨a2, c2, -⟩ := v225_ok c1 (by omega) (by omega) hsi e3' r2
      obtain ⟨n1, n2⟩ := fgv_sr hc s hfi hsi pa xp ha hb zp (by rw [eH]; exact zm) c2
      injection a2 with d1 d2
      injection d1 with d1
      injection d1 with d1
      injection d2 with d2 d3
      rw [d1, d2, b1]
      exact ⟨n2.symm, n1⟩
/-- months -/
theorem mon_inb : in_b x.toInt64 (Int64.ofNat 0) (60 : Int64) = (!pm_cmp .lt x 0 && pm_cmp .le x (nI 60)) := by
  have d1 : decide (x.toInt64 < Int64.ofNat 0) = pm_cmp .lt x 0 := by
    refine decide_eq_decide.mpr ?_
    rw [Int64.lt_iff_toInt_lt, Int32.lt_iff_toInt_lt, Int32.toInt_toInt64, show (Int64.ofNat 0).toInt = 0 by decide, show (0 : Int32).toInt = 0 by decide]
  have d2 : (!decide ((60 : Int64) < x.toInt64)) = pm_cmp .le x (nI 60) := by
    rw [show pm_cmp .le x (nI 60) = decide (x ≤ nI 60) from rfl, Bool.eq_iff_iff, Bool.not_eq_true', decide_eq_false_iff_not, decide_eq_true_iff, Int64.lt_iff_toInt_lt, Int32.le_iff_toInt_le, Int32.toInt_toInt64, show (60 : Int64).toInt = 60 by decide, show (nI 60).toInt = 60 by decide]
    omega
  unfold in_b
  rw [d1, d2]
theorem v97_good {m : Nat} (hc : HC q cc gc h) (hm : m ≤ 60) (hsi : si ≤ 15) (e1 : Fi h 25 1 = nI fi) (e2 : Fi h 25 2 = nI si) : ∃ H A B, XP q cc gc fi si h H ∧ v97 q cc gc h fi si m = (v270 q cc gc ((Fi (v140 q cc gc H m) 13 5) &&& ((Fi h 13 5) ^^^ (Int32.ofInt (-1)))), v56 q cc gc (v140 q cc gc H m) A B) := by
  unfold v97
  rw [decide_eq_true hm]
  by_cases z15 : 15 ≤ si
  · rw [decide_eq_true z15]
    exact ⟨_, _, _, xp_1 hc z15 hsi e2, rfl⟩
  · rw [decide_eq_false z15]
    exact ⟨_, _, _, xp_0 hc z15 e1, rfl⟩
theorem sr_months (pr : prun sl 97 223 [x] h h1 h2 v w) (s : SR h) : v = w ∧ SR h2 := by
  obtain ⟨⟨m1, r1⟩, ⟨f1, i1⟩, ⟨m2, r2⟩, -, -⟩ := pr
  obtain ⟨q, cc, gc, fi, si, hc, s, hfi, hsi, e1, e2, e3, pa⟩ := SR_open s
  have hP := ref_0 hc s hfi hsi e1 e2 e3 pa
  have ei := mon_inb (x := x)
  cases z1 : pm_cmp .lt x 0 with
  | true =>
    rw [z1] at ei
    have a1 := v97w1_ok hc z1 r1
    cases a1
    obtain ⟨a2, -, -⟩ := v223w_ok hc ei r2
    cases a2
    exact ⟨rfl, hP⟩
  | false =>
    cases z2 : pm_cmp .le x (nI 60) with
    | false =>
      rw [z1, z2] at ei
      have a1 := v97w2_ok hc z1 z2 r1
      cases a1
      obtain ⟨a2, -, -⟩ := v223w_ok hc ei r2
      cases a2
      exact ⟨rfl, hP⟩
    | true =>
      rw [z1, z2] at ei
      have y1 : ¬ x < 0 := of_decide_eq_false z1
      have y2 : x ≤ nI 60 := of_decide_eq_true z2
      rw [Int32.lt_iff_toInt_lt, show (0 : Int32).toInt = 0 by decide] at y1
      rw [Int32.le_iff_toInt_le, show (nI 60).toInt = 60 by decide] at y2
      obtain ⟨m, rfl, hm, em⟩ := hI_of (x := x) (by omega)
      have hm : m ≤ 60 := by omega
      obtain ⟨a1, c1, -⟩ := v97_ok hc (by omega) hfi hsi e1 e2 r1
      obtain ⟨H, A, B, xp, e97⟩ := v97_good hc hm hsi e1 e2
      rw [e97] at a1 c1
      have a1 : (some (.int v), h1, 198, sl) = ((some (.int (v270 q cc gc ((Fi (v140 q cc gc H m) 13 5) &&& ((Fi h 13 5) ^^^ (Int32.ofInt (-1)))))), v56 q cc gc (v140 q cc gc H m) A B, 198, sl) : pm_Rs) := a1
      injection a1 with b1 b2
      injection b1 with b1
      injection b1 with b1
      injection b2 with b2 b3
      have c1 : HC q cc gc h1 := by
        rw [b2]
        exact c1
      have e3' : Fi h1 162 27 = nI si := (Fi_e (f1.1 162 rfl)).trans e3
      obtain ⟨a2, c2, -⟩ := v223_ok c1 (by omega) hsi e3' r2
      obtain ⟨n1, n2⟩ := mon_sr hc s hfi hsi pa xp ei b2 c2
      injection a2 with d1 d2
      injection d1 with d1
      injection d1 with d1
      injection d2 with d2 d3
      rw [d1, d2, b1]
      exact ⟨n2.symm, n1⟩
/-- undo -/
theorem sr_undo (pr : prun sl 101 214 [] h h1 h2 v w) (s : SR h) : v = w ∧ SR h2 := by
  obtain ⟨⟨m1, r1⟩, ⟨f1, i1⟩, ⟨m2, r2⟩, -, -⟩ := pr
  obtain ⟨q, cc, gc, fi, si, hc, s, hfi, hsi, e1, e2, e3, pa⟩ := SR_open s
  have hP := ref_0 hc s hfi hsi e1 e2 e3 pa
  obtain ⟨a1, c1, -⟩ := v101_ok hc hfi hsi e1 e2 r1
  have e3' : Fi h1 162 27 = nI si := (Fi_e (f1.1 162 rfl)).trans e3
  by_cases z : si = 0
  · have e101 : v101 q cc gc h fi si = (Int32.ofInt (-1), h) := by
      unfold v101
      rw [decide_eq_false (fun y : ¬ si = 0 => y z)]
      rfl
    have e214 : v214 q cc gc h si = (Int32.ofInt (-1), fset h 162 0 (.int (nI 0))) := by
      unfold v214
      rw [decide_eq_false (fun y : ¬ si = 0 => y z)]
      rfl
    rw [e101] at a1
    cases a1
    obtain ⟨a2, -, -⟩ := v214_ok hc hsi e3 r2
    rw [e214] at a2
    cases a2
    exact ⟨rfl, hP⟩
  · obtain ⟨n1, n2, n3⟩ := und_sr hc s hfi hsi z e1 pa
    have a1 : (some (.int v), h1, 198, sl) = ((some (.int (v101 q cc gc h fi si).1), (v101 q cc gc h fi si).2, 198, sl) : pm_Rs) := a1
    injection a1 with b1 b2
    injection b1 with b1
    injection b1 with b1
    injection b2 with b2 b3
    rw [b2] at e3' r2
    obtain ⟨a2, c2, -⟩ := v214_ok c1 hsi e3' r2
    injection a2 with d1 d2
    injection d1 with d1
    injection d1 with d1
    injection d2 with d2 d3
    rw [d1, d2, b1, n2, n3]
    exact ⟨rfl, n1⟩
end ACO
end MG95zzzaax1
section MG95zzzaax2
/-! SR behind new COURTS and new GIFTS -/
section CGS
variable {sl cc gc cc' gc' fi si n0 r N : Nat} {q : QT} {h h1 h2 X M Z : pm_H} {v w x : Int32}
theorem nI_le0 (hr : r < 2 ^ 31) (e : pm_cmp .le (nI r) 0 = true) : r = 0 := by
  have e : nI r ≤ 0 := of_decide_eq_true e
  rw [Int32.le_iff_toInt_le, nI_toInt hr, show (0 : Int32).toInt = 0 by decide] at e
  omega
theorem nI_ge0 (hr : r < 2 ^ 31) (e : pm_cmp .ge (nI r) 0 = false) : False := by
  have e : ¬ (0 : Int32) ≤ nI r := of_decide_eq_false e
  rw [Int32.le_iff_toInt_le, nI_toInt hr, show (0 : Int32).toInt = 0 by decide] at e
  omega
theorem li_text (hI : LI5 h) : ∃ n0 : Nat, n0 ≤ 80 ∧ Fi h 1 1 = nI n0 ∧ Fi h 162 15 = nI n0 ∧ ∀ j, j < n0 → Ar h 2 j = Ar h 172 j := by
  obtain ⟨-, ⟨n0, cc, f0, g0, hn, hc, ⟨⟨⟨gs, a1, a2, a3⟩, a4⟩, -⟩, ⟨⟨fs, b1, b2⟩, b3, -⟩, hjj⟩, -⟩ := hI
  refine ⟨n0, hn, ?_, ?_, fun j hj => ?_⟩
  · unfold Fi
    rw [a1]
    dsimp only
    rw [a3]
  · unfold Fi
    rw [b1]
    dsimp only
    rw [b2]
  · unfold Ar
    rw [a4, b3]
    exact hjj j hj
theorem li_cc (hI : LI5 h) : Fi h 162 3 = Fi h 5 0 ∧ Fi h 162 4 = Fi h 5 1 := by
  obtain ⟨-, ⟨n0, cc, f0, g0, hn, hc, ⟨-, ⟨rs, x2, x3⟩⟩, ⟨-, -, ⟨ms, y3, y4⟩⟩, -⟩, gc, hg, ⟨rg, z1, z2⟩, ⟨mg, z3, z4⟩⟩ := hI
  unfold Fi
  refine ⟨?_, ?_⟩
  · rw [y3, x2]
    dsimp only
    rw [y4, x3]
  · rw [z3, z1]
    dsimp only
    rw [z4, z2]
theorem HC_n (hc : HC q cc gc h) (w : WT h2) (a : Fi h2 5 0 = nI cc') (b : Fi h2 5 1 = nI gc') (c : Fi h2 162 3 = nI cc') (d : Fi h2 162 4 = nI gc') (e : Fi h2 162 23 = Fi h 162 23) (f : ∀ r, r = 142 ∨ r = 145 → Fi h2 r 1 = Fi h r 1) (k8 : k0f 8 h h2) (h6 : cc' ≤ 6) (h8 : gc' ≤ 8) : HC q cc' gc' h2 := by
  obtain ⟨_, _, ⟨m3, m4, m23, rs⟩, ⟨_, _, b3, b4⟩, ⟨fs, r1, r2⟩, qq⟩ := hc
  obtain ⟨fs', r1', r2'⟩ := k8 fs _ r1 r2
  exact ⟨w, ⟨a, b⟩, ⟨c, d, e.trans m23, (f q.1 qq).trans rs⟩, ⟨h6, h8, b3, b4⟩, ⟨fs', r1', r2'⟩, qq⟩
theorem VR_c {C D : Nat → Int32} (s : VR q cc gc C D) : VR q cc' gc' C D := by
  obtain ⟨V, v0, v1, v2, v3⟩ := s
  exact ⟨V, v0, fun A => v1 A, v2, fun z => ⟨(v3 z).1, fun A => (v3 z).2 A⟩⟩
def stN : List Nat := [27, 33, 39, 45, 51, 57, 63, 69, 75, 81, 87, 93, 99, 105, 111, 117, 124, 130, 136]
def NOC : List Nat := [1, 6, 7, 9, 10, 11, 17, 18, 162, 173]
theorem sN_in : stN.all (fun b => (List.range 6).all (fun j => !(NOC.elem (b + j)))) = true := by decide +kernel
theorem stN_p : ∀ m, m < 16 → stN.elem (27 + 6 * m) = true := by decide +kernel
theorem stN_k : ∀ m, m < 3 → stN.elem (124 + 6 * m) = true := by decide +kernel
/-- nothing came of it: what was read may stand behind what there is -/
theorem SR_no (hc : HC q cc gc h) (s : SRq q cc gc h) (w2 : WT h2) (cs : ∀ i, NOC.elem i = false → h2 i = h i) (g2 : ∀ g, (g = 3 ∨ g = 4 ∨ g = 23 ∨ g = 27 ∨ g = 47) → Fi h2 162 g = Fi h 162 g) (x6 : ∀ c, c < cc → Ar h2 6 c = Ar h 6 c) (x7 : ∀ j, j < 5 * cc → Ar h2 7 j = Ar h 7 j) (x9 : ∀ j, j < gc → Ar h2 9 j = Ar h 9 j ∧ Ar h2 10 j = Ar h 10 j ∧ Ar h2 11 j = Ar h 11 j ∧ Ar h2 17 j = Ar h 17 j ∧ Ar h2 18 j = Ar h 18 j) : SR h2 := by
  obtain ⟨⟨s4, ⟨fs, o1, o2⟩⟩, ⟨s1, s2⟩, s3, ⟨fi, si, p1, p2, ⟨p3, p4, p5⟩, p6⟩, s6, ⟨m, m1, ⟨m2, m3⟩, m4⟩⟩ := s
  have ar : ∀ a, NOC.elem a = false → Ar h2 a = Ar h a := fun a e => Ar_e (cs a e)
  have c2 : HC q cc gc h2 := HC_n hc w2 ((Fi_e (cs 5 rfl)).trans hc.x0) ((Fi_e (cs 5 rfl)).trans hc.x1) ((g2 3 (by decide)).trans hc.m3) ((g2 4 (by decide)).trans hc.m4) (g2 23 (by decide)) (fun r hr => Fi_e (cs r (by rcases hr with rfl | rfl <;> rfl))) (fun fs p e1 e2 => ⟨fs, (cs 0 rfl).trans e1, e2⟩) hc.cb hc.gb
  have rsb : ∀ (b : Nat) (r : Nat → Int32), stN.elem b = true → RSb cc gc b h r → RSb cc gc b h2 r := by
    intro b r hb w
    have z := List.all_eq_true.mp sN_in b (List.elem_iff.mp hb)
    refine RSb_e (fun i h3 h4 => cs i ?_) w
    have z := List.all_eq_true.mp z (i - b) (List.mem_range.mpr (by omega))
    rw [show b + (i - b) = i by omega] at z
    exact nel z
  have eq1 : Ar h2 (q.1 + 1) = Ar h (q.1 + 1) := by
    rcases hc.qq with e | e
    · rw [e]
      exact ar 143 rfl
    · rw [e]
      exact ar 146 rfl
  refine ⟨q, cc, gc, c2, ⟨⟨?_, ⟨fs, (cs 0 rfl).trans o1, o2⟩⟩, ⟨⟨?_, ?_⟩, ⟨fun c hcl => ?_, fun g hg => ?_⟩, ⟨fi, si, p1, p2, ⟨(Fi_e (cs 25 rfl)).trans p3, (Fi_e (cs 25 rfl)).trans p4, (g2 27 (by decide)).trans p5⟩, fun j hj => ?_⟩, fun i hi hk => ?_, ⟨m, m1, ⟨(Fi_e (cs 159 rfl)).trans m2, (g2 47 (by decide)).trans m3⟩, fun j hj => ?_⟩⟩⟩⟩
  · rw [ar 174 rfl, eq1]
    exact s4
  · rw [ar 170 rfl]
    obtain ⟨a1, a2, a3, a4, a5, a6, a7⟩ := s1
    exact ⟨fun c hc => (congrFun (ar 14 rfl) c).trans (a1 c hc), fun a b ha hb hn => (congrFun (ar 15 rfl) _).trans (a2 a b ha hb hn), fun a b ha hb => (congrFun (ar 16 rfl) _).trans (a3 a b ha hb), fun j hj => (x9 j hj).2.2.2.1.trans (a4 j hj), fun j hj => (x9 j hj).2.2.2.2.trans (a5 j hj), (Fi_e (cs 13 rfl)).trans a6, (Fi_e (cs 13 rfl)).trans a7⟩
  · rw [ar 170 rfl]
    exact s2
  · obtain ⟨⟨b1, b2⟩, b3⟩ := s3.1 c hcl
    rw [ar 164 rfl, ar 165 rfl]
    exact ⟨⟨(x6 c hcl).trans b1, b2⟩, fun k hk => (x7 _ (by omega)).trans (b3 k hk)⟩
  · obtain ⟨⟨b1, b2⟩, b3, ⟨b4, b5⟩⟩ := s3.2 g hg
    obtain ⟨y1, y2, y3, -, -⟩ := x9 g hg
    rw [ar 166 rfl, ar 167 rfl, ar 168 rfl]
    exact ⟨⟨y1.trans b1, b2⟩, y2.trans b3, ⟨y3.trans b4, b5⟩⟩
  · obtain ⟨q1, q2⟩ := p6 j hj
    rw [ar 178 rfl]
    exact ⟨rsb _ _ (stN_p _ (Nat.mod_lt _ (by decide))) q1, q2⟩
  · rw [Fi_e (cs 0 rfl)] at hk
    obtain ⟨q1, q2⟩ := s6 i hi hk
    rw [ar 196 rfl]
    exact ⟨rsb _ _ (stN_k i hi) q1, q2⟩
  · rw [ar 160 rfl, ar 161 rfl, ar 191 rfl, ar 192 rfl]
    exact m4 j hj
def NEW : List Nat := [0, 1, 5, 6, 7, 9, 10, 11, 14, 15, 17, 18, 25, 162, 164, 165, 166, 167, 168, 169, 170, 173]
/-- something came of it: nothing can be undone, nothing is kept any more -/
theorem SR_new (hc : HC q cc gc h) (s : SRq q cc gc h) (c2 : HC q cc' gc' h2) (cs : ∀ i, NEW.elem i = false → h2 i = h i) (k9 : k0f 9 h h2) (nw : RSb cc' gc' 13 h2 (Ar h2 170) ∧ RI cc' gc' (Ar h2 170)) (rm : RMm cc' gc' h2 h2) (z7 : Fi h2 0 7 = nI 0) (z1 : Fi h2 25 1 = Fi h 25 1) (z2 : Fi h2 25 2 = nI 0) (z27 : Fi h2 162 27 = nI 0) (z47 : Fi h2 162 47 = Fi h 162 47) : SR h2 := by
  obtain ⟨⟨s4, ⟨fs, o1, o2⟩⟩, -, -, ⟨fi, si, p1, p2, ⟨p3, p4, p5⟩, p6⟩, s6, ⟨m, m1, ⟨m2, m3⟩, m4⟩⟩ := s
  have ar : ∀ a, NEW.elem a = false → Ar h2 a = Ar h a := fun a e => Ar_e (cs a e)
  have eq1 : Ar h2 (q.1 + 1) = Ar h (q.1 + 1) := by
    rcases hc.qq with e | e
    · rw [e]
      exact ar 143 rfl
    · rw [e]
      exact ar 146 rfl
  refine ⟨q, cc', gc', c2, ⟨⟨?_, k9 fs _ o1 o2⟩, ⟨nw, rm, ⟨fi, 0, p1, Nat.zero_le _, ⟨z1.trans p3, z2, z27⟩, fun j hj => absurd hj (Nat.not_lt_zero j)⟩, fun i hi hk => ?_, ⟨m, m1, ⟨(Fi_e (cs 159 rfl)).trans m2, z47.trans m3⟩, fun j hj => ?_⟩⟩⟩⟩
  · rw [ar 174 rfl, eq1]
    exact VR_c s4
  · rw [z7, kf_0 i hi] at hk
    cases hk
  · rw [ar 160 rfl, ar 161 rfl, ar 191 rfl, ar 192 rfl]
    exact m4 j hj
theorem k0_f7 {g : Nat} {y : Value} (e : Z 0 = h 0) (hg : g ≠ 7) : k0f g h (fset Z 0 7 y) := by
  intro fs p e1 e2
  refine ⟨fs.set 7 y, ?_, ?_⟩
  · unfold fset
    rw [show va_up Z 0 _ 0 = _ from if_pos rfl, e, e1]
  · rw [List.getElem?_set_ne (fun z => hg z.symm)]
    exact e2
theorem k0_e {g : Nat} (e : h2 0 = h1 0) (k : k0f g h h1) : k0f g h h2 := fun fs p e1 e2 => by
  obtain ⟨fs', a, b⟩ := k fs p e1 e2
  exact ⟨fs', e.trans a, b⟩
theorem w190_0 (hw : WT M) : (∀ i, i ≠ 162 → w190 q cc gc M 0 i = M i) ∧ ∀ g, g ≠ 5 → Fi (w190 q cc gc M 0) 162 g = Fi M 162 g := by
  unfold w190
  refine ⟨fun i hi => (fs_ne hi).trans (fs_ne hi), fun g hg => (Fi_n (Or.inr hg)).trans ?_⟩
  by_cases y : g = 27
  · rw [y]
    exact Fi_s hw (by decide) rfl (by decide) rfl
  · exact Fi_n (Or.inr y)
/-- courts of the class: its fields -/
theorem w88_heap {c : Nat} (hN : 1 ≤ N) : (w88 q cc gc X N c).2 = fset (fset (w88_19 q cc gc c N N 0 (fset X 1 1 (.int (nI 0)))) 25 2 (.int (nI 0))) 0 7 (.int (nI 0)) := by
  unfold w88
  rw [decide_eq_false (show ¬ N ≤ 0 by omega)]
  rfl
theorem w88_f {c : Nat} (hN : 1 ≤ N) (h6 : c + N ≤ 6) (hw : WT X) (e5 : Fi X 5 0 = nI c) : Fi (w88 q cc gc X N c).2 5 0 = nI (c + N) ∧ Fi (w88 q cc gc X N c).2 25 2 = nI 0 ∧ Fi (w88 q cc gc X N c).2 0 7 = nI 0 ∧ ∀ g, g ≠ 7 → k0f g X (w88 q cc gc X N c).2 := by
  rw [w88_heap hN]
  have w1 : WT (fset X 1 1 (.int (nI 0))) := wt_fs rfl (by decide) rfl hw
  have e51 : Fi (fset X 1 1 (.int (nI 0))) 5 0 = nI c := (Fi_n (Or.inl (by decide))).trans e5
  have z := lp_in (f := fun i a => w88_19b q cc gc a c N i) (P := fun i a => WT a ∧ Fi a 5 0 = nI (c + i)) N 0 (fset X 1 1 (.int (nI 0))) ⟨w1, e51⟩ (fun k a _ hk p => ⟨(w88_19_fb (z5_0 := c) (m1 := N) p.1 h6).1, Fi_s (w132_fr p.1).1 (by decide) rfl (by decide) rfl⟩)
  rw [Nat.zero_add] at z
  have z : WT (w88_19 q cc gc c N N 0 (fset X 1 1 (.int (nI 0)))) ∧ Fi (w88_19 q cc gc c N N 0 (fset X 1 1 (.int (nI 0)))) 5 0 = nI (c + N) := z
  have z3 := (w88_19_fr (q := q) (cc := cc) (gc := gc) (z5_0 := c) (m1 := N) h6 (j := N) (i := 0) w1).2.1 0 rfl
  generalize w88_19 q cc gc c N N 0 (fset X 1 1 (.int (nI 0))) = K at *
  have w2 : WT (fset K 25 2 (.int (nI 0))) := wt_fs rfl (by decide) rfl z.1
  refine ⟨(Fi_n (Or.inl (by decide))).trans ((Fi_n (Or.inl (by decide))).trans z.2), (Fi_n (Or.inl (by decide))).trans (Fi_s z.1 (by decide) rfl (by decide) rfl), Fi_s w2 (by decide) rfl (by decide) rfl, fun g hg => k0_f7 ?_ hg⟩
  exact (fs_ne (by decide)).trans (z3.trans (fs_ne (by decide)))
theorem w188_27 {c : Nat} {F x1 x2 x3 : Int32} (hw : WT M) (h6 : c + r ≤ 6) (hr : 1 ≤ r) : Fi (w188 q cc gc M r c F x1 x2 x3).2 162 27 = nI 0 := by
  unfold w188 w190
  rw [decide_eq_false (show ¬ r ≤ 0 by omega)]
  exact (Fi_n (Or.inr (by decide))).trans (Fi_s (w188_81_fr (z162_20 := r) (z162_3 := c) h6 hw).1 (by decide) rfl (by decide) rfl)
theorem w192_27 {c : Nat} {F x1 x2 x3 : Int32} (hw : WT M) (h8 : c + r ≤ 8) (hr : 1 ≤ r) : Fi (w192 q cc gc M r c F x1 x2 x3).2 162 27 = nI 0 := by
  unfold w192 w190
  rw [decide_eq_false (show ¬ r ≤ 0 by omega)]
  exact (Fi_n (Or.inr (by decide))).trans (Fi_s (w192_81_fr (z162_20 := r) (z162_4 := c) h8 hw).1 (by decide) rfl (by decide) rfl)
/-- courts -/
theorem sr_courts (pr : prun sl 88 188 [] h h1 h2 v w) (hI : LI5 h) (s : SR h) : v = w ∧ SR h2 := by
  obtain ⟨evw, hI2⟩ := two_get (vs := []) (co_two5 hI) pr
  obtain ⟨⟨m1, r1⟩, ⟨f1, i1⟩, ⟨m2, r2⟩, lo2, i2⟩ := pr
  subst evw
  refine ⟨rfl, ?_⟩
  obtain ⟨q, cc, gc, fi, si, hc, s, hfi, hsi, e1, e2, e3, pa⟩ := SR_open s
  obtain ⟨n0, hn, t1, t15, hjj⟩ := li_text hI
  have h6 := hc.cb
  have hx : ∀ a, Nat.ble 162 a = true → h1 a = h a := fun a ha => f1.1 a ha
  have x162 : ∀ g, Fi h1 162 g = Fi h 162 g := fun g => Fi_e (hx 162 rfl)
  obtain ⟨X, wX, fX, v0, xr⟩ := cx88 (q := q) (cq := cc) (gc := gc) hn hc.cb hc.wt t1 hc.x0 r1
  obtain ⟨M, r, wM, fM, gM, hr, mr⟩ := cv_run (q := q) (cq := cc) (gc := gc) hn hc.cb (wt_of i1.1) ((x162 15).trans t15) ((x162 3).trans hc.m3) r2
  have no : h1 = fset X 1 1 (.int (nI 0)) → (∀ i, i ≠ 162 → h2 i = M i) → (∀ g, g ≠ 5 → Fi h2 162 g = Fi M 162 g) → SR h2 := by
    intro y1 y2 y3
    have cs : ∀ i, NOC.elem i = false → h2 i = h i := by
      intro i hi
      have ne : ∀ k, NOC.elem k = true → i ≠ k := fun k hk e => by
        rw [e, hk] at hi
        cases hi
      rw [y2 i (ne 162 rfl), fM i (ne 162 rfl) (ne 173 rfl), y1, fs_ne (ne 1 rfl), fX i (ne 6 rfl) (ne 7 rfl)]
    have cx : ∀ i, i < 162 → i ≠ 1 → h2 i = X i := fun i hi h0 => by
      rw [lo2 i hi, y1, fs_ne h0]
    refine SR_no hc s (wt_of i2.1) cs (fun g hg => ?_) (fun c hcl => ?_) (fun j hj => ?_) (fun j hj => ?_)
    · rw [y3 g (by omega), gM g (by omega) (by omega) (by omega) (by omega) (by omega) (by omega)]
      exact x162 g
    · rw [Ar_e (cx 6 (by decide) (by decide))]
      exact v0.1.1 c hcl
    · rw [Ar_e (cx 7 (by decide) (by decide))]
      exact v0.1.2 j hj
    · have e : ∀ i, i < 162 → i ≠ 1 → i ≠ 6 → i ≠ 7 → Ar h2 i = Ar h i := fun i a b c d => Ar_e ((cx i a b).trans (fX i c d))
      rw [e 9 (by decide) (by decide) (by decide) (by decide), e 10 (by decide) (by decide) (by decide) (by decide), e 11 (by decide) (by decide) (by decide) (by decide), e 17 (by decide) (by decide) (by decide) (by decide), e 18 (by decide) (by decide) (by decide) (by decide)]
      exact ⟨rfl, rfl, rfl, rfl, rfl⟩
  rcases xr with ⟨v', z1, x1⟩ | ⟨N, hN, hcN, vN, x1, wX', fX'⟩
  · injection x1 with b1 b2
    injection b1 with b1
    injection b1 with b1
    injection b2 with b2 b3
    rcases mr with ⟨F, z2, x2⟩ | ⟨hv, F, y1, y2, y3, x2, wM', fM'⟩
    · injection x2 with d1 d2
      injection d2 with d2 d3
      exact no b2 (fun i _ => by rw [d2]) (fun g _ => by rw [d2])
    · injection x2 with d1 d2
      injection d1 with d1
      injection d1 with d1
      injection d2 with d2 d3
      rw [← b1, d1] at z1
      have r0 := nI_le0 (by omega) z1
      subst r0
      have e : (w188 q cc gc M 0 cc F y1 y2 y3).2 = w190 q cc gc M 0 := rfl
      rw [e] at d2
      obtain ⟨k1, k2⟩ := w190_0 (q := q) (cc := cc) (gc := gc) wM
      exact no b2 (fun i hi => by rw [d2]; exact k1 i hi) (fun g hg => by rw [d2]; exact k2 g hg)
  · injection x1 with b1 b2
    injection b1 with b1
    injection b1 with b1
    injection b2 with b2 b3
    rcases mr with ⟨F, z2, x2⟩ | ⟨hv, F, y1, y2, y3, x2, wM', fM'⟩
    · injection x2 with d1 d2
      injection d1 with d1
      injection d1 with d1
      rw [← d1, b1] at z2
      exact (nI_ge0 (by omega) z2).elim
    · injection x2 with d1 d2
      injection d1 with d1
      injection d1 with d1
      injection d2 with d2 d3
      have hrN : r = N := nI_ij (by omega) (by omega) (d1.symm.trans b1)
      subst hrN
      have X5 : Fi X 5 0 = nI cc := (Fi_e (fX 5 (by decide) (by decide))).trans hc.x0
      obtain ⟨a50, a252, a07, k0⟩ := w88_f (q := q) (cc := cc) (gc := gc) hN hcN wX X5
      have jx := w88_ar (q := q) (cq := cc) (gc := gc) (h := X) hN hcN
      have jm := w188_ar (q := q) (cq := cc) (gc := gc) (h := M) (F := F) (x1 := y1) (x2 := y2) (x3 := y3) hr
      have m27 := w188_27 (q := q) (cc := cc) (gc := gc) (F := F) (x1 := y1) (x2 := y2) (x3 := y3) wM hr hN
      rw [← b2] at a50 a252 a07 k0 jx wX' fX'
      rw [← d2] at jm m27 wM' fM'
      have M170 : Ar M 170 = Ar h 170 := (Ar_e (fM 170 (by decide) (by decide))).trans (Ar_e (hx 170 rfl))
      have M172 : Ar h1 172 = Ar h 172 := Ar_e (hx 172 rfl)
      have s13 : RS cc gc (Ar X 14) (Ar X 15) (Ar h 16) (Ar h 17) (Ar h 18) (Fi h 13 5) (Fi h 13 6) (Ar M 170) := by
        rw [Ar_e (fX 14 (by decide) (by decide)), Ar_e (fX 15 (by decide) (by decide)), M170]
        exact s.2.1.1
      have sri : RI cc gc (Ar M 170) := by
        rw [M170]
        exact s.2.1.2
      obtain ⟨n1, n2, n3⟩ := crt_rel hcN jx jm (f := Ar h 2) (fun k hk => vN.2.1 k hk) (fun k hk j hj => by
        obtain ⟨u1, u2, u3⟩ := hv k hk j hj
        rw [M172] at u1 u2
        have e := hjj (7 * k + j) (by omega)
        rw [← e] at u1 u2
        exact ⟨u1, u2⟩) s13 sri
      -- cells of the class behind the reference's call
      have lo : ∀ i, i < 162 → h2 i = h1 i := lo2
      have hX : ∀ i, i ≠ 0 → i ≠ 1 → i ≠ 5 → i ≠ 14 → i ≠ 15 → i ≠ 25 → h1 i = X i := fun i g1 g2 g3 g4 g5 g6 => fX'.1 i (by
        cases y : List.elem i [0, 1, 5, 14, 15, 25] with
        | false => rfl
        | true =>
          have y := List.elem_iff.mp y
          simp at y
          omega)
      have hM : ∀ i, i ≠ 162 → i ≠ 164 → i ≠ 165 → i ≠ 169 → i ≠ 170 → i ≠ 173 → h2 i = h1 i := fun i g1 g2 g3 g4 g5 g6 => (fM'.1 i (by
        cases y : List.elem i [162, 164, 165, 169, 170] with
        | false => rfl
        | true =>
          have y := List.elem_iff.mp y
          simp at y
          omega)).trans (fM i g1 g6)
      have F50 : Fi h2 5 0 = nI (cc + r) := (Fi_e (lo 5 (by decide))).trans a50
      have F51 : Fi h2 5 1 = nI gc := (Fi_e (lo 5 (by decide))).trans ((fX'.2 5 1 rfl rfl).trans ((Fi_e (fX 5 (by decide) (by decide))).trans hc.x1))
      obtain ⟨l1, l2⟩ := li_cc hI2
      have c2 : HC q (cc + r) gc h2 := HC_n hc (wt_of i2.1) F50 F51 (l1.trans F50) (l2.trans F51) ((fM'.2 162 23 rfl rfl).trans ((gM 23 (by decide) (by decide) (by decide) (by decide) (by decide) (by decide)).trans (x162 23))) (fun p hp => Fi_e (by
        rcases hp with rfl | rfl
        · exact (lo 142 (by decide)).trans ((hX 142 (by decide) (by decide) (by decide) (by decide) (by decide) (by decide)).trans (fX 142 (by decide) (by decide)))
        · exact (lo 145 (by decide)).trans ((hX 145 (by decide) (by decide) (by decide) (by decide) (by decide) (by decide)).trans (fX 145 (by decide) (by decide))))) (k0_e (lo 0 (by decide)) (fun fs p e4 e5 => k0 8 (by decide) fs p ((fX 0 (by decide) (by decide)).trans e4) e5)) hcN hc.gb
      have cs : ∀ i, NEW.elem i = false → h2 i = h i := by
        intro i hi
        have ne : ∀ k, NEW.elem k = true → i ≠ k := fun k hk e => by
          rw [e, hk] at hi
          cases hi
        rw [hM i (ne 162 rfl) (ne 164 rfl) (ne 165 rfl) (ne 169 rfl) (ne 170 rfl) (ne 173 rfl), hX i (ne 0 rfl) (ne 1 rfl) (ne 5 rfl) (ne 14 rfl) (ne 15 rfl) (ne 25 rfl), fX i (ne 6 rfl) (ne 7 rfl)]
      have a6 : ∀ b, b = 6 ∨ b = 7 → Ar h2 b = Ar X b := fun b hb => Ar_e ((lo b (by omega)).trans (hX b (by omega) (by omega) (by omega) (by omega) (by omega) (by omega)))
      have a9 : ∀ b, b = 9 ∨ b = 10 ∨ b = 11 ∨ b = 16 ∨ b = 17 ∨ b = 18 → Ar h2 b = Ar h b := fun b hb => Ar_e ((lo b (by omega)).trans ((hX b (by omega) (by omega) (by omega) (by omega) (by omega) (by omega)).trans (fX b (by omega) (by omega))))
      have a166 : ∀ b, b = 166 ∨ b = 167 ∨ b = 168 → Ar h2 b = Ar h b := fun b hb => Ar_e ((hM b (by omega) (by omega) (by omega) (by omega) (by omega) (by omega)).trans (hx b (by rcases hb with rfl | rfl | rfl <;> rfl)))
      have a164 : ∀ b, b = 164 ∨ b = 165 → Ar M b = Ar h b := fun b hb => Ar_e ((fM b (by omega) (by omega)).trans (hx b (by rcases hb with rfl | rfl <;> rfl)))
      refine SR_new hc s c2 cs (k0_e (lo 0 (by decide)) (fun fs p e4 e5 => k0 9 (by decide) fs p ((fX 0 (by decide) (by decide)).trans e4) e5)) ⟨?_, n2⟩ ⟨fun c hcl => ?_, fun g hg => ?_⟩ ((Fi_e (lo 0 (by decide))).trans a07) ((Fi_e (lo 25 (by decide))).trans ((fX'.2 25 1 rfl rfl).trans (Fi_e (fX 25 (by decide) (by decide))))) ((Fi_e (lo 25 (by decide))).trans a252) m27 ((fM'.2 162 47 rfl rfl).trans ((gM 47 (by decide) (by decide) (by decide) (by decide) (by decide) (by decide)).trans (x162 47)))
      · have e13 : h2 13 = h 13 := cs 13 rfl
        show RS (cc + r) gc (Ar h2 14) (Ar h2 15) (Ar h2 16) (Ar h2 17) (Ar h2 18) (Fi h2 13 5) (Fi h2 13 6) (Ar h2 170)
        rw [Ar_e (lo 14 (by decide)), Ar_e (lo 15 (by decide)), a9 16 (by decide), a9 17 (by decide), a9 18 (by decide), Fi_e e13, Fi_e e13]
        exact n1
      · by_cases y : c < cc
        · obtain ⟨⟨o1, k, o2, o3⟩, o4⟩ := s.2.2.1.1 c y
          have u1 : Ar h2 6 c = Ar h 6 c := (congrFun (a6 6 (by decide)) c).trans (v0.1.1 c y)
          have u2 : Ar h2 164 c = Ar h 164 c := (jm.1.2.2.1 c y).trans (congrFun (a164 164 (by decide)) c)
          refine ⟨⟨?_, k, o2, u2.trans o3⟩, fun j hj => ?_⟩
          · rw [u1, u2]
            exact o1
          · rw [congrFun (a6 7 (by decide)) _, v0.1.2 _ (by omega), jm.1.2.2.2 _ (by omega), congrFun (a164 165 (by decide)) _]
            exact o4 j hj
        · obtain ⟨o1, o2⟩ := n3 (c - cc) (by omega)
          rw [show cc + (c - cc) = c by omega] at o1 o2
          obtain ⟨o1, k, o3, o4⟩ := o1
          refine ⟨⟨(congrFun (a6 6 (by decide)) c).trans o1, k, o3, o4⟩, fun j hj => ?_⟩
          rw [congrFun (a6 7 (by decide)) _]
          exact o2 j hj
      · have o := s.2.2.1.2 g hg
        rw [a9 9 (by decide), a9 10 (by decide), a9 11 (by decide), a166 166 (by decide), a166 167 (by decide), a166 168 (by decide)]
        exact o
/-- gifts of the class: its fields -/
theorem w89_heap {c : Nat} (hN : 1 ≤ N) : (w89 q cc gc X N c).2 = fset (fset (fset (fset X 1 1 (.int (nI 0))) 5 1 (.int (nI (c + N)))) 25 2 (.int (nI 0))) 0 7 (.int (nI 0)) := by
  unfold w89
  rw [decide_eq_false (show ¬ N ≤ 0 by omega)]
  rfl
theorem w89_f {c : Nat} (hN : 1 ≤ N) (hw : WT X) : Fi (w89 q cc gc X N c).2 5 1 = nI (c + N) ∧ Fi (w89 q cc gc X N c).2 25 2 = nI 0 ∧ Fi (w89 q cc gc X N c).2 0 7 = nI 0 ∧ ∀ g, g ≠ 7 → k0f g X (w89 q cc gc X N c).2 := by
  rw [w89_heap hN]
  have w1 : WT (fset X 1 1 (.int (nI 0))) := wt_fs rfl (by decide) rfl hw
  have w2 : WT (fset (fset X 1 1 (.int (nI 0))) 5 1 (.int (nI (c + N)))) := wt_fs rfl (by decide) rfl w1
  have w3 : WT (fset (fset (fset X 1 1 (.int (nI 0))) 5 1 (.int (nI (c + N)))) 25 2 (.int (nI 0))) := wt_fs rfl (by decide) rfl w2
  refine ⟨(Fi_n (Or.inl (by decide))).trans ((Fi_n (Or.inl (by decide))).trans (Fi_s w1 (by decide) rfl (by decide) rfl)), (Fi_n (Or.inl (by decide))).trans (Fi_s w2 (by decide) rfl (by decide) rfl), Fi_s w3 (by decide) rfl (by decide) rfl, fun g hg => k0_f7 ?_ hg⟩
  exact (fs_ne (by decide)).trans ((fs_ne (by decide)).trans (fs_ne (by decide)))
/-- gifts -/
theorem sr_gifts (pr : prun sl 89 192 [] h h1 h2 v w) (hI : LI5 h) (s : SR h) : v = w ∧ SR h2 := by
  obtain ⟨evw, hI2⟩ := two_get (vs := []) (gf_two5 hI) pr
  obtain ⟨⟨m1, r1⟩, ⟨f1, i1⟩, ⟨m2, r2⟩, lo2, i2⟩ := pr
  subst evw
  refine ⟨rfl, ?_⟩
  obtain ⟨q, cc, gc, fi, si, hc, s, hfi, hsi, e1, e2, e3, pa⟩ := SR_open s
  obtain ⟨n0, hn, t1, t15, hjj⟩ := li_text hI
  have h6 := hc.cb
  have h8 := hc.gb
  have hx : ∀ a, Nat.ble 162 a = true → h1 a = h a := fun a ha => f1.1 a ha
  have x162 : ∀ g, Fi h1 162 g = Fi h 162 g := fun g => Fi_e (hx 162 rfl)
  obtain ⟨X, gv0, xr⟩ := gx89 (q := q) (cq := cc) (gc := gc) hn hc.cb hc.gb hc.wt t1 hc.x0 hc.x1 r1
  have wX : WT X := gv0.1.2.2
  have fX := gv0.2.1
  have v0 := gv0.2.2.1
  obtain ⟨M, r, wM, fM, gM, mr⟩ := grun (q := q) (cq := cc) (gc := gc) hn hc.gb (wt_of i1.1) ((x162 15).trans t15) ((x162 3).trans hc.m3) ((x162 4).trans hc.m4) r2
  have no : h1 = fset X 1 1 (.int (nI 0)) → (∀ i, i ≠ 162 → h2 i = M i) → (∀ g, g ≠ 5 → Fi h2 162 g = Fi M 162 g) → SR h2 := by
    intro y1 y2 y3
    have cs : ∀ i, NOC.elem i = false → h2 i = h i := by
      intro i hi
      have ne : ∀ k, NOC.elem k = true → i ≠ k := fun k hk e => by
        rw [e, hk] at hi
        cases hi
      rw [y2 i (ne 162 rfl), fM i (ne 162 rfl) (ne 173 rfl), y1, fs_ne (ne 1 rfl), fX i (ne 9 rfl) (ne 10 rfl) (ne 11 rfl) (ne 17 rfl) (ne 18 rfl)]
    have cx : ∀ i, i < 162 → i ≠ 1 → h2 i = X i := fun i hi h0 => by
      rw [lo2 i hi, y1, fs_ne h0]
    refine SR_no hc s (wt_of i2.1) cs (fun g hg => ?_) (fun c hcl => ?_) (fun j hj => ?_) (fun j hj => ?_)
    · rw [y3 g (by omega), gM g (by omega) (by omega) (by omega) (by omega) (by omega) (by omega)]
      exact x162 g
    · rw [Ar_e ((cx 6 (by decide) (by decide)).trans (fX 6 (by decide) (by decide) (by decide) (by decide) (by decide)))]
    · rw [Ar_e ((cx 7 (by decide) (by decide)).trans (fX 7 (by decide) (by decide) (by decide) (by decide) (by decide)))]
    · rw [Ar_e (cx 9 (by decide) (by decide)), Ar_e (cx 10 (by decide) (by decide)), Ar_e (cx 11 (by decide) (by decide)), Ar_e (cx 17 (by decide) (by decide)), Ar_e (cx 18 (by decide) (by decide))]
      exact v0 j hj
  rcases xr with ⟨v', z1, x1⟩ | ⟨N, hN, hcN, gvN, x1, wX', fX'⟩
  · injection x1 with b1 b2
    injection b1 with b1
    injection b1 with b1
    injection b2 with b2 b3
    rcases mr with ⟨F, z2, x2⟩ | ⟨hr, hv, F, y1, y2, y3, x2, wM', fM'⟩
    · injection x2 with d1 d2
      injection d2 with d2 d3
      exact no b2 (fun i _ => by rw [d2]) (fun g _ => by rw [d2])
    · injection x2 with d1 d2
      injection d1 with d1
      injection d1 with d1
      injection d2 with d2 d3
      rw [← b1, d1] at z1
      have r0 := nI_le0 (by omega) z1
      subst r0
      have e : (w192 q cc gc M 0 gc F y1 y2 y3).2 = w190 q cc gc M 0 := rfl
      rw [e] at d2
      obtain ⟨k1, k2⟩ := w190_0 (q := q) (cc := cc) (gc := gc) wM
      exact no b2 (fun i hi => by rw [d2]; exact k1 i hi) (fun g hg => by rw [d2]; exact k2 g hg)
  · injection x1 with b1 b2
    injection b1 with b1
    injection b1 with b1
    injection b2 with b2 b3
    rcases mr with ⟨F, z2, x2⟩ | ⟨hr, hv, F, y1, y2, y3, x2, wM', fM'⟩
    · injection x2 with d1 d2
      injection d1 with d1
      injection d1 with d1
      rw [← d1, b1] at z2
      exact (nI_ge0 (by omega) z2).elim
    · injection x2 with d1 d2
      injection d1 with d1
      injection d1 with d1
      injection d2 with d2 d3
      have hrN : r = N := nI_ij (by omega) (by omega) (d1.symm.trans b1)
      subst hrN
      obtain ⟨a51, a252, a07, k0⟩ := w89_f (q := q) (cc := cc) (gc := gc) (c := gc) hN wX
      have jm := w192_ar (q := q) (cc := cc) (gc := gc) (h := M) (F := F) (x1 := y1) (x2 := y2) (x3 := y3) hr
      have m27 := w192_27 (q := q) (cc := cc) (gc := gc) (F := F) (x1 := y1) (x2 := y2) (x3 := y3) wM hr hN
      rw [← b2] at a51 a252 a07 k0 wX' fX'
      rw [← d2] at jm m27 wM' fM'
      have M170 : Ar M 170 = Ar h 170 := (Ar_e (fM 170 (by decide) (by decide))).trans (Ar_e (hx 170 rfl))
      have M172 : Ar h1 172 = Ar h 172 := Ar_e (hx 172 rfl)
      have MM : ∀ b, b = 166 ∨ b = 167 ∨ b = 168 → Ar M b = Ar h b := fun b hb => (Ar_e (fM b (by omega) (by omega))).trans (Ar_e (hx b (by rcases hb with rfl | rfl | rfl <;> rfl)))
      rw [M172] at hv
      obtain ⟨n1, n2, n3⟩ := gft_rel h6 hcN gvN jm hv hjj (by rw [M170]; exact s.2.1.1) (by rw [M170]; exact s.2.1.2) (by
        intro j hj
        rw [MM 166 (by decide), MM 167 (by decide), MM 168 (by decide)]
        exact s.2.2.1.2 j hj)
      have lo : ∀ i, i < 162 → h2 i = h1 i := lo2
      have hX : ∀ i, i ≠ 0 → i ≠ 1 → i ≠ 5 → i ≠ 25 → h1 i = X i := fun i g1 g2 g3 g4 => fX'.1 i (by
        cases y : List.elem i [0, 1, 5, 25] with
        | false => rfl
        | true =>
          have y := List.elem_iff.mp y
          simp at y
          omega)
      have hM : ∀ i, i ≠ 162 → i ≠ 166 → i ≠ 167 → i ≠ 168 → i ≠ 170 → i ≠ 173 → h2 i = h1 i := fun i g1 g2 g3 g4 g5 g6 => (fM'.1 i (by
        cases y : List.elem i [162, 166, 167, 168, 170] with
        | false => rfl
        | true =>
          have y := List.elem_iff.mp y
          simp at y
          omega)).trans (fM i g1 g6)
      have X5 : ∀ i, i ≠ 9 → i ≠ 10 → i ≠ 11 → i ≠ 17 → i ≠ 18 → X i = h i := fX
      have F51 : Fi h2 5 1 = nI (gc + r) := (Fi_e (lo 5 (by decide))).trans a51
      have F50 : Fi h2 5 0 = nI cc := (Fi_e (lo 5 (by decide))).trans ((fX'.2 5 0 rfl rfl).trans ((Fi_e (X5 5 (by decide) (by decide) (by decide) (by decide) (by decide))).trans hc.x0))
      obtain ⟨l1, l2⟩ := li_cc hI2
      have c2 : HC q cc (gc + r) h2 := HC_n hc (wt_of i2.1) F50 F51 (l1.trans F50) (l2.trans F51) ((fM'.2 162 23 rfl rfl).trans ((gM 23 (by decide) (by decide) (by decide) (by decide) (by decide) (by decide)).trans (x162 23))) (fun p hp => Fi_e (by
        rcases hp with rfl | rfl
        · exact (lo 142 (by decide)).trans ((hX 142 (by decide) (by decide) (by decide) (by decide)).trans (X5 142 (by decide) (by decide) (by decide) (by decide) (by decide)))
        · exact (lo 145 (by decide)).trans ((hX 145 (by decide) (by decide) (by decide) (by decide)).trans (X5 145 (by decide) (by decide) (by decide) (by decide) (by decide))))) (k0_e (lo 0 (by decide)) (fun fs p e4 e5 => k0 8 (by decide) fs p ((X5 0 (by decide) (by decide) (by decide) (by decide) (by decide)).trans e4) e5)) h6 hcN
      have cs : ∀ i, NEW.elem i = false → h2 i = h i := by
        intro i hi
        have ne : ∀ k, NEW.elem k = true → i ≠ k := fun k hk e => by
          rw [e, hk] at hi
          cases hi
        rw [hM i (ne 162 rfl) (ne 166 rfl) (ne 167 rfl) (ne 168 rfl) (ne 170 rfl) (ne 173 rfl), hX i (ne 0 rfl) (ne 1 rfl) (ne 5 rfl) (ne 25 rfl), X5 i (ne 9 rfl) (ne 10 rfl) (ne 11 rfl) (ne 17 rfl) (ne 18 rfl)]
      have aX : ∀ b, b < 162 → b ≠ 0 → b ≠ 1 → b ≠ 5 → b ≠ 25 → Ar h2 b = Ar X b := fun b g0 g1 g2 g3 g4 => Ar_e ((lo b g0).trans (hX b g1 g2 g3 g4))
      have ah : ∀ b, b < 162 → b ≠ 0 → b ≠ 1 → b ≠ 5 → b ≠ 25 → b ≠ 9 → b ≠ 10 → b ≠ 11 → b ≠ 17 → b ≠ 18 → Ar h2 b = Ar h b := fun b g0 g1 g2 g3 g4 g5 g6 g7 g8 g9 => (aX b g0 g1 g2 g3 g4).trans (Ar_e (X5 b g5 g6 g7 g8 g9))
      have a164 : ∀ b, b = 164 ∨ b = 165 → Ar h2 b = Ar h b := fun b hb => Ar_e ((hM b (by omega) (by omega) (by omega) (by omega) (by omega) (by omega)).trans (hx b (by rcases hb with rfl | rfl <;> rfl)))
      refine SR_new hc s c2 cs (k0_e (lo 0 (by decide)) (fun fs p e4 e5 => k0 9 (by decide) fs p ((X5 0 (by decide) (by decide) (by decide) (by decide) (by decide)).trans e4) e5)) ⟨?_, n2⟩ ⟨fun c hcl => ?_, fun g hg => ?_⟩ ((Fi_e (lo 0 (by decide))).trans a07) ((Fi_e (lo 25 (by decide))).trans ((fX'.2 25 1 rfl rfl).trans (Fi_e (X5 25 (by decide) (by decide) (by decide) (by decide) (by decide))))) ((Fi_e (lo 25 (by decide))).trans a252) m27 ((fM'.2 162 47 rfl rfl).trans ((gM 47 (by decide) (by decide) (by decide) (by decide) (by decide) (by decide)).trans (x162 47)))
      · have e13 : h2 13 = h 13 := cs 13 rfl
        show RS cc (gc + r) (Ar h2 14) (Ar h2 15) (Ar h2 16) (Ar h2 17) (Ar h2 18) (Fi h2 13 5) (Fi h2 13 6) (Ar h2 170)
        rw [ah 14 (by decide) (by decide) (by decide) (by decide) (by decide) (by decide) (by decide) (by decide) (by decide) (by decide), ah 15 (by decide) (by decide) (by decide) (by decide) (by decide) (by decide) (by decide) (by decide) (by decide) (by decide), ah 16 (by decide) (by decide) (by decide) (by decide) (by decide) (by decide) (by decide) (by decide) (by decide) (by decide), aX 17 (by decide) (by decide) (by decide) (by decide) (by decide), aX 18 (by decide) (by decide) (by decide) (by decide) (by decide), Fi_e e13, Fi_e e13]
        exact n1
      · have o := s.2.2.1.1 c hcl
        rw [ah 6 (by decide) (by decide) (by decide) (by decide) (by decide) (by decide) (by decide) (by decide) (by decide) (by decide), ah 7 (by decide) (by decide) (by decide) (by decide) (by decide) (by decide) (by decide) (by decide) (by decide) (by decide), a164 164 (by decide), a164 165 (by decide)]
        exact o
      · have o := n3 g hg
        rw [aX 9 (by decide) (by decide) (by decide) (by decide) (by decide), aX 10 (by decide) (by decide) (by decide) (by decide) (by decide), aX 11 (by decide) (by decide) (by decide) (by decide) (by decide)]
        exact o
end CGS
end MG95zzzaax2
section MG95zzzaax3
/-! sheet, and the questions that write nothing of SR: value, where, swaps, feeds, starves -/
section QSR
variable {sl cc gc g c : Nat} {q : QT} {h h1 h2 hx hm hx' hm' : pm_H} {v w x y k m e s : Int32} {W : List Nat} {V : List (Nat × Nat)}
def srF (W : List Nat) (V : List (Nat × Nat)) : Bool := SA.all (fun a => !(W.elem a)) && (SFs.all (fun p => isO p.1 && !(V.elem p)) && !(W.elem 0))
/-- SRq is kept by what writes nothing of it -/
theorem SR_fr (hc : HC q cc gc h) (s : SRq q cc gc h) (f : frm W V h h1) (k : srF W V = true) : SRq q cc gc h1 := by
  unfold srF at k
  rw [Bool.and_eq_true, Bool.and_eq_true] at k
  obtain ⟨k1, k2, k3⟩ := k
  refine SRq_keep hc.qq (fun a e => Ar_e (f.1 a (nel (List.all_eq_true.mp k1 a (List.elem_iff.mp e))))) (fun c g e => ?_) (fun fs p e1 e2 => ⟨fs, (f.1 0 (nel k3)).trans e1, e2⟩) s
  have z := List.all_eq_true.mp k2 (c, g) (List.elem_iff.mp e)
  rw [Bool.and_eq_true] at z
  exact f.2 c g z.1 (nel2 z.2)
/-- what a gift is worth is the same on both sides -/
def VE (q : QT) (cc gc : Nat) (hx hm : pm_H) : Prop := (HC q cc gc hx ∧ HC q cc gc hm) ∧ VR q cc gc (Ar hx (q.1 + 1)) (Ar hm 174) ∧ RMm cc gc hx hm ∧ RS cc gc (Ar hx 14) (Ar hx 15) (Ar hx 16) (Ar hx 17) (Ar hx 18) (Fi hx 13 5) (Fi hx 13 6) (Ar hm 170) ∧ RI cc gc (Ar hm 170)
theorem VE_0 (hc : HC q cc gc h) (s : SRq q cc gc h) : VE q cc gc h h := ⟨⟨hc, hc⟩, s.1.1, s.2.2.1, s.2.1.1, s.2.1.2⟩
def veX (W : List Nat) : Bool := [6, 7, 9, 10, 11, 13, 14, 15, 16, 17, 18, 143, 146].all (fun a => !(W.elem a))
def veM (W : List Nat) : Bool := [164, 165, 166, 167, 168, 170, 174].all (fun a => !(W.elem a))
theorem VE_x (z : VE q cc gc hx hm) (hc : HC q cc gc hx') (f : frm W V hx hx') (k : veX W = true) : VE q cc gc hx' hm := by
  obtain ⟨⟨z1, z2⟩, z3, z4, z5, z6⟩ := z
  have ce : ∀ a, List.elem a [6, 7, 9, 10, 11, 13, 14, 15, 16, 17, 18, 143, 146] = true → hx' a = hx a := fun a e => f.1 a (nel (List.all_eq_true.mp k a (List.elem_iff.mp e)))
  have eq1 : Ar hx' (q.1 + 1) = Ar hx (q.1 + 1) := by
    rcases z1.qq with e | e
    · rw [e]
      exact Ar_e (ce 143 rfl)
    · rw [e]
      exact Ar_e (ce 146 rfl)
  refine ⟨⟨hc, z2⟩, ?_, ?_, ?_, z6⟩
  · rw [eq1]
    exact z3
  · unfold RMm
    rw [Ar_e (ce 6 rfl), Ar_e (ce 7 rfl), Ar_e (ce 9 rfl), Ar_e (ce 10 rfl), Ar_e (ce 11 rfl)]
    exact z4
  · rw [Ar_e (ce 14 rfl), Ar_e (ce 15 rfl), Ar_e (ce 16 rfl), Ar_e (ce 17 rfl), Ar_e (ce 18 rfl), Fi_e (ce 13 rfl), Fi_e (ce 13 rfl)]
    exact z5
theorem VE_m (z : VE q cc gc hx hm) (hc : HC q cc gc hm') (f : frm W V hm hm') (k : veM W = true) : VE q cc gc hx hm' := by
  obtain ⟨⟨z1, z2⟩, z3, z4, z5, z6⟩ := z
  have ce : ∀ a, List.elem a [164, 165, 166, 167, 168, 170, 174] = true → hm' a = hm a := fun a e => f.1 a (nel (List.all_eq_true.mp k a (List.elem_iff.mp e)))
  refine ⟨⟨z1, hc⟩, ?_, ?_, ?_, ?_⟩
  · rw [Ar_e (ce 174 rfl)]
    exact z3
  · unfold RMm
    rw [Ar_e (ce 164 rfl), Ar_e (ce 165 rfl), Ar_e (ce 166 rfl), Ar_e (ce 167 rfl), Ar_e (ce 168 rfl)]
    exact z4
  · rw [Ar_e (ce 170 rfl)]
    exact z5
  · rw [Ar_e (ce 170 rfl)]
    exact z6
theorem VE_val (z : VE q cc gc hx hm) (hg : g < gc) (hc : c < cc) : (v39 q cc gc hx g c).1 = (v201 q cc gc hm g c).1 := val_eq z.1.1 z.1.2 z.2.1 z.2.2.1 z.2.2.2.1 z.2.2.2.2.2.2.2.1 hg hc
theorem VE_39 (z : VE q cc gc hx hm) (g c : Nat) : VE q cc gc (v39 q cc gc hx g c).2 hm := by
  obtain ⟨c1, f1⟩ := v39_fr (g := g) (c := c) z.1.1
  exact VE_x z c1 f1 rfl
theorem VE_201 (z : VE q cc gc hx hm) (g c : Nat) : VE q cc gc hx (v201 q cc gc hm g c).2 := by
  obtain ⟨c1, f1⟩ := v201_fr (g := g) (c := c) z.1.2
  exact VE_m z c1 f1 rfl
/-- from the class's call to where the reference begins -/
theorem VE_go (hc : HC q cc gc h) (s : SRq q cc gc h) (c1 : HC q cc gc h1) (f : frm W V h h1) (k : veM W = true) : VE q cc gc h (fset h1 162 0 (.int (nI 0))) := by
  have cF : HC q cc gc (fset h1 162 0 (.int (nI 0))) := hc_f rfl rfl (by decide) rfl c1
  exact VE_m (W := [162]) (V := [(162, 0)]) (VE_m (VE_0 hc s) c1 f k) cF (fr_f rfl rfl fr_0) rfl
theorem imax_c {a b : Int32} : imax a b = cond (pm_cmp .le b a) a b := by
  unfold imax
  show _ = cond (decide (b ≤ a)) a b
  by_cases z : a < b
  · rw [if_pos z, decide_eq_false (fun z2 => by rw [Int32.lt_iff_toInt_lt] at z; rw [Int32.le_iff_toInt_le] at z2; omega)]
    rfl
  · rw [if_neg z, decide_eq_true (by rw [Int32.lt_iff_toInt_lt] at z; rw [Int32.le_iff_toInt_le]; omega)]
    rfl
/-- value -/
theorem sr_value (pr : prun sl 102 230 [x, y] h h1 h2 v w) (s : SR h) : v = w ∧ SR h2 := by
  obtain ⟨⟨m1, r1⟩, ⟨f1, i1⟩, ⟨m2, r2⟩, -, -⟩ := pr
  obtain ⟨q, cc, gc, hc, s⟩ := s
  have h6 := hc.cb
  have h8 := hc.gb
  cases zx : cB gc x with
  | false =>
    have a1 := v102w1_ok hc zx r1
    cases a1
    obtain ⟨a2, c2, g2⟩ := v230w1_ok hc zx r2
    cases a2
    exact ⟨rfl, q, cc, gc, c2, SR_fr hc s g2 (by decide +kernel)⟩
  | true =>
    cases zy : cB cc y with
    | false =>
      have a1 := v102w2_ok hc zx zy r1
      cases a1
      obtain ⟨a2, c2, g2⟩ := v230w2_ok hc zx zy r2
      cases a2
      exact ⟨rfl, q, cc, gc, c2, SR_fr hc s g2 (by decide +kernel)⟩
    | true =>
      obtain ⟨g, hg, rfl⟩ := cB_iv zx
      obtain ⟨c, hcc, rfl⟩ := cB_iv zy
      obtain ⟨a1, c1, g1⟩ := v102_ok hc (by omega) (by omega) r1
      injection a1 with b1 b2
      injection b1 with b1
      injection b1 with b1
      injection b2 with b2 b3
      rw [← b2] at c1 g1
      obtain ⟨a2, c2, g2⟩ := v230_ok c1 (by omega) (by omega) r2
      injection a2 with d1 d2
      injection d1 with d1
      injection d1 with d1
      injection d2 with d2 d3
      have ve := VE_go hc s c1 g1 rfl
      have ev := VE_val ve hg hcc
      have e1 : (v102 q cc gc h g c).1 = (v39 q cc gc h g c).1 := by
        unfold v102
        rw [decide_eq_true hg, decide_eq_true hcc]
        rfl
      have e2 : (v230 q cc gc h1 g c).1 = (v201 q cc gc (fset h1 162 0 (.int (nI 0))) g c).1 := by
        unfold v230
        rw [decide_eq_true hg, decide_eq_true hcc]
        rfl
      rw [b1, d1, e1, e2, d2]
      exact ⟨ev, q, cc, gc, c2, SR_fr c1 (SR_fr hc s g1 (by decide +kernel)) g2 (by decide +kernel)⟩
/-- where -/
theorem whe_lp (z : VE q cc gc hx hm) (hg : g < gc) {a1 a2 a3 b3 : Int32} (n : Nat) (hn : n ≤ cc) : (fun (k : Nat) (a b : Int32 × Int32 × Int32 × pm_H) => a.1 = b.1 ∧ a.2.1 = b.2.1 ∧ VE q cc gc a.2.2.2 b.2.2.2) (0 + n) (v103_26 q cc gc g n 0 (a1, a2, a3, hx)) (v231_28 q cc gc g n 0 (a1, a2, b3, hm)) := by
  refine lp_rl (f := fun i a => v103_26b q cc gc a.2.2.2 g i a.1 a.2.1 a.2.2.1) (f' := fun i a => v231_28b q cc gc a.2.2.2 g i a.1 a.2.1 a.2.2.1) (P := fun k a b => a.1 = b.1 ∧ a.2.1 = b.2.1 ∧ VE q cc gc a.2.2.2 b.2.2.2) n 0 (a1, a2, a3, hx) (a1, a2, b3, hm) ⟨rfl, rfl, z⟩ (fun k a b _ hk p => ?_)
  obtain ⟨x1, x2, x3, x4⟩ := a
  obtain ⟨y1, y2, y3, y4⟩ := b
  obtain ⟨p1, p2, p3⟩ := p
  dsimp only at p1 p2 p3 ⊢
  subst p1
  subst p2
  have e17 : Ar x4 17 g = Ar y4 170 (78 + g) := p3.2.2.2.1.2.2.2.1 g hg
  have ev := VE_val (g := g) (c := k) p3 hg (by omega)
  have v1 := VE_201 (VE_39 p3 g k) g k
  unfold v103_26b v231_28b
  rw [e17]
  cases pm_cmp .eq (nI k) (Ar y4 170 (78 + g)) with
  | true =>
    dsimp only [cond]
    exact ⟨rfl, rfl, p3⟩
  | false =>
    dsimp only [cond]
    rw [ev, imax_c]
    exact ⟨rfl, rfl, v1⟩
theorem sr_where (pr : prun sl 103 231 [x] h h1 h2 v w) (s : SR h) : v = w ∧ SR h2 := by
  obtain ⟨⟨m1, r1⟩, ⟨f1, i1⟩, ⟨m2, r2⟩, -, -⟩ := pr
  obtain ⟨q, cc, gc, hc, s⟩ := s
  have h8 := hc.gb
  cases zx : cB gc x with
  | false =>
    have a1 := v103w_ok hc zx r1
    cases a1
    obtain ⟨a2, c2, g2⟩ := v231w_ok hc zx r2
    cases a2
    exact ⟨rfl, q, cc, gc, c2, SR_fr hc s g2 (by decide +kernel)⟩
  | true =>
    obtain ⟨g, hg, rfl⟩ := cB_iv zx
    obtain ⟨a1, c1, g1⟩ := v103_ok hc (by omega) r1
    injection a1 with b1 b2
    injection b1 with b1
    injection b1 with b1
    injection b2 with b2 b3
    rw [← b2] at c1 g1
    obtain ⟨a2, c2, g2⟩ := v231_ok c1 (by omega) r2
    injection a2 with d1 d2
    injection d1 with d1
    injection d1 with d1
    injection d2 with d2 d3
    have ve := VE_go hc s c1 g1 rfl
    have lp := whe_lp (a1 := Int32.ofInt (-2)) (a2 := Int32.ofInt (-1)) (a3 := nI 999) (b3 := nI 1000000) ve hg cc (Nat.le_refl _)
    obtain ⟨l1, -, -⟩ := lp
    have e1 : (v103 q cc gc h g).1 = (v103_26 q cc gc g cc 0 ((Int32.ofInt (-2)), (Int32.ofInt (-1)), (nI 999), h)).1 := by
      unfold v103
      rw [decide_eq_true hg]
      show (cond _ _ _ : Int32 × pm_H).1 = _
      cases pm_cmp .lt ((v103_26 q cc gc g cc 0 ((Int32.ofInt (-2)), (Int32.ofInt (-1)), (nI 999), h)).1) 0 <;> rfl
    have e2 : (v231 q cc gc h1 g).1 = (v231_28 q cc gc g cc 0 ((Int32.ofInt (-2)), (Int32.ofInt (-1)), (nI 1000000), fset h1 162 0 (.int (nI 0)))).1 := by
      unfold v231
      rw [decide_eq_true hg]
      show (cond _ _ _ : Int32 × pm_H).1 = _
      cases pm_cmp .lt ((v231_28 q cc gc g cc 0 ((Int32.ofInt (-2)), (Int32.ofInt (-1)), (nI 1000000), fset h1 162 0 (.int (nI 0)))).1) 0 <;> rfl
    rw [b1, d1, e1, e2, d2]
    exact ⟨l1, q, cc, gc, c2, SR_fr c1 (SR_fr hc s g1 (by decide +kernel)) g2 (by decide +kernel)⟩
/-- swaps, feeds, starves: what they leave -/
theorem st_swaps (pr : prun sl 107 236 [] h h1 h2 v w) (hI : mInv h) (s : SR h) : SR h2 := by
  obtain ⟨⟨m1, r1⟩, ⟨f1, i1⟩, ⟨m2, r2⟩, -, -⟩ := pr
  obtain ⟨q, cc, gc, hc, s⟩ := s
  obtain ⟨a1, c1, g1⟩ := v107_ok hc (na_17 hI.1) r1
  cases a1
  obtain ⟨a2, c2, g2⟩ := v236_ok c1 (na_170 i1.1) r2
  cases a2
  exact ⟨q, cc, gc, c2, SR_fr c1 (SR_fr hc s g1 (by decide +kernel)) g2 (by decide +kernel)⟩
theorem st_feeds (pr : prun sl 111 242 [x] h h1 h2 v w) (s : SR h) : SR h2 := by
  obtain ⟨⟨m1, r1⟩, ⟨f1, i1⟩, ⟨m2, r2⟩, -, -⟩ := pr
  obtain ⟨q, cc, gc, hc, s⟩ := s
  have h6 := hc.cb
  cases zx : cB cc x with
  | false =>
    have a1 := v111w_ok hc zx r1
    cases a1
    obtain ⟨a2, c2, g2⟩ := v242w_ok hc zx r2
    cases a2
    exact ⟨q, cc, gc, c2, SR_fr hc s g2 (by decide +kernel)⟩
  | true =>
    obtain ⟨c, hcc, rfl⟩ := cB_iv zx
    obtain ⟨a1, c1, g1⟩ := v111_ok hc (by omega) r1
    cases a1
    obtain ⟨a2, c2, g2⟩ := v242_ok c1 (by omega) r2
    cases a2
    exact ⟨q, cc, gc, c2, SR_fr c1 (SR_fr hc s g1 (by decide +kernel)) g2 (by decide +kernel)⟩
theorem st_starves (pr : prun sl 112 243 [x, y] h h1 h2 v w) (s : SR h) : SR h2 := by
  obtain ⟨⟨m1, r1⟩, ⟨f1, i1⟩, ⟨m2, r2⟩, -, -⟩ := pr
  obtain ⟨q, cc, gc, hc, s⟩ := s
  have h6 := hc.cb
  cases zp : pP cc x y with
  | false =>
    have a1 := v112w_ok hc zp r1
    cases a1
    obtain ⟨a2, c2, g2⟩ := v243w_ok hc zp r2
    cases a2
    exact ⟨q, cc, gc, c2, SR_fr hc s g2 (by decide +kernel)⟩
  | true =>
    obtain ⟨a, b, ha, hb, hab, rfl, rfl⟩ := pP_iv zp
    obtain ⟨a1, c1, g1⟩ := v112_ok hc (by omega) (by omega) r1
    cases a1
    obtain ⟨a2, c2, g2⟩ := v243_ok c1 (by omega) (by omega) r2
    cases a2
    exact ⟨q, cc, gc, c2, SR_fr c1 (SR_fr hc s g1 (by decide +kernel)) g2 (by decide +kernel)⟩
/-- sheet -/
theorem sht_lp (s0 : ∀ t, t < 6 → Ar hx 14 t = Ar hm 170 t) (t : Nat) (ht : t < 6) : Ar (v95_44 q cc gc k m e s (cond (pm_cmp .ne k (nI 3)) false true) cc 0 hx) 14 t = Ar ((v210_43 q cc gc k m e s cc 0 (e, fset hm 162 0 (.int (nI 0)))).2) 170 t := by
  rw [sx_loop, sm_loop cc 0 e _ t (by rw [show nI 0 = 0 from rfl, Int32.zero_mul, Int32.add_zero])]
  by_cases z : 0 ≤ t ∧ t < 0 + cc
  · rw [if_pos z, if_pos z, sf_eq]
  · rw [if_neg z, if_neg z, Ar_f]
    exact s0 t ht
theorem sht_hi (h6 : cc ≤ 6) (t : Nat) (ht : 6 ≤ t) : Ar ((v210_43 q cc gc k m e s cc 0 (e, fset hm 162 0 (.int (nI 0)))).2) 170 t = Ar hm 170 t := by
  rw [sm_loop cc 0 e _ t (by rw [show nI 0 = 0 from rfl, Int32.zero_mul, Int32.add_zero]), if_neg (by omega), Ar_f]
theorem sht_st (h6 : cc ≤ 6) (s0 : ∀ t, t < 6 → Ar hx 14 t = Ar hm 170 t) : (∀ t, t < 6 → Ar (v95 q cc gc hx k m e s).2 14 t = Ar (v210 q cc gc hm k m e s).2 170 t) ∧ ∀ t, 6 ≤ t → Ar (v210 q cc gc hm k m e s).2 170 t = Ar hm 170 t := by
  have l1 := sht_lp (q := q) (cc := cc) (gc := gc) (k := k) (m := m) (e := e) (s := s) s0
  have l2 := sht_hi (q := q) (cc := cc) (gc := gc) (k := k) (m := m) (e := e) (s := s) (hm := hm) h6
  have s1 : ∀ t, t < 6 → Ar hx 14 t = Ar (fset hm 162 0 (.int (nI 0))) 170 t := fun t ht => (s0 t ht).trans (congrFun Ar_f t).symm
  have s2 : ∀ t, 6 ≤ t → Ar (fset hm 162 0 (.int (nI 0))) 170 t = Ar hm 170 t := fun t _ => congrFun Ar_f t
  unfold v95 v210
  rw [sht_in]
  generalize v36 q cc gc (Ar (v95_44 q cc gc k m e s (cond (pm_cmp .ne k (nI 3)) false true) cc 0 hx) 14) = u1
  generalize v177 q cc gc (Ar ((v210_43 q cc gc k m e s cc 0 (e, fset hm 162 0 (.int (nI 0)))).2) 170) = u2
  generalize v95_44 q cc gc k m e s (cond (pm_cmp .ne k (nI 3)) false true) cc 0 hx = L at *
  generalize (v210_43 q cc gc k m e s cc 0 (e, fset hm 162 0 (.int (nI 0)))).2 = M at *
  cases pm_cmp .lt k 0 with
  | true => exact ⟨s1, s2⟩
  | false =>
    cases pm_cmp .gt k (nI 3) with
    | true => exact ⟨s1, s2⟩
    | false =>
      cases pm_cmp .le m (nI 6) with
      | false => exact ⟨s1, s2⟩
      | true =>
        rw [i_ne]
        cases pm_cmp .eq k (nI 3) with
        | true => exact ⟨l1, l2⟩
        | false =>
          cases pm_cmp .ge m 0 with
          | true => exact ⟨l1, l2⟩
          | false => exact ⟨s1, s2⟩
theorem asR_g : (List.range 6).all (fun j => decide (asR[j]? = some ((0, 0, 999) : av))) = true := by decide +kernel
theorem ty_170 (hI : ah_ok bB 198 [] h) : ∀ (j : Nat) (a : av), asR[j]? = some a → av_ok (.int (Ar h 170 j)) a := by
  have e0 := wt_a (wt_of hI) (by decide) (show wd (bB 170) = .inl (0, 96, ai_top) from rfl) (by decide)
  have b0 : ac_ok (h 170) (.inr (1000, asR)) := hI 170 (by decide)
  rw [e0] at b0
  have b0 : 1000 = 1000 + 0 ∧ 96 = asR.length ∧ ∀ (j : Nat) (a : av), asR[j]? = some a → av_ok (.int (Ar h 170 j)) a := b0
  exact b0.2.2
theorem CK_sh : CK.all (fun a => decide (a ≠ 14 ∧ a ≠ 162 ∧ a ≠ 170)) = true := by decide +kernel
theorem sr_sheet (pr : prun sl 95 210 [k, m, e, s] h h1 h2 v w) (z : SR h) : SR h2 := by
  obtain ⟨⟨n1, r1⟩, ⟨f1, i1⟩, ⟨n2, r2⟩, -, i2⟩ := pr
  obtain ⟨q, cc, gc, fi, si, hc, z, hfi, hsi, e1, e2, e3, pa⟩ := SR_open z
  have h6 := hc.cb
  obtain ⟨a1, c1, g1⟩ := v95_ok hc r1
  injection a1 with b1 b2
  injection b2 with b2 b3
  rw [← b2] at c1 g1
  obtain ⟨a2, c2, g2⟩ := v210_ok c1 r2
  injection a2 with d1 d2
  injection d2 with d2 d3
  have s0 : ∀ t, t < 6 → Ar h 14 t = Ar h1 170 t := fun t ht => (z.2.1.1.1 t ht).trans (congrFun (Ar_e (g1.1 170 rfl)) t).symm
  obtain ⟨t1, t2⟩ := sht_st (q := q) (cc := cc) (gc := gc) (k := k) (m := m) (e := e) (s := s) (hx := h) (hm := h1) h6 s0
  rw [← d2] at t1 t2 c2 g2
  rw [← b2] at t1
  have lo : ∀ a, a ≠ 14 → a ≠ 162 → a ≠ 170 → h2 a = h a := fun a n1 n2 n3 => (g2.1 a (by
    cases y : List.elem a [162, 170] with
    | false => rfl
    | true =>
      have y := List.elem_iff.mp y
      simp at y
      omega)).trans (g1.1 a (by
    cases y : List.elem a [14] with
    | false => rfl
    | true =>
      have y := List.elem_iff.mp y
      simp at y
      omega))
  have hi : ∀ t, 6 ≤ t → Ar h2 170 t = Ar h 170 t := fun t ht => (t2 t ht).trans (congrFun (Ar_e (g1.1 170 rfl)) t)
  have s14 : ∀ t, t < 6 → Ar h2 14 t = Ar h2 170 t := fun t ht => (congrFun (Ar_e (g2.1 14 rfl)) t).trans (t1 t ht)
  have fi2 : ∀ g, g ≠ 0 → Fi h2 162 g = Fi h 162 g := fun g hg => (g2.2 162 g rfl (by
    cases y : List.elem (162, g) [(162, 0)] with
    | false => rfl
    | true =>
      have y := List.elem_iff.mp y
      simp at y
      exact absurd y hg)).trans (Fi_e (g1.1 162 rfl))
  have cs : ∀ a, CK.elem a = true → h2 a = h a := fun a e => by
    have w := of_decide_eq_true (List.all_eq_true.mp CK_sh a (List.elem_iff.mp e))
    exact lo a w.1 w.2.1 w.2.2
  have ka : kpt AK h h2 := fun a e => Ar_e (cs a (List.elem_iff.mpr (List.mem_append_left _ (List.elem_iff.mp e))))
  have kf : kpf FK h h2 := by
    intro c g e
    have e := List.elem_iff.mp e
    simp only [FK, List.mem_cons, Prod.mk.injEq, List.not_mem_nil, or_false] at e
    rcases e with ⟨rfl, rfl⟩ | ⟨rfl, rfl⟩ | ⟨rfl, rfl⟩ | ⟨rfl, rfl⟩ | ⟨rfl, rfl⟩ | ⟨rfl, rfl⟩ | ⟨rfl, rfl⟩ | ⟨rfl, rfl⟩ | ⟨rfl, rfl⟩ | ⟨rfl, rfl⟩ | ⟨rfl, rfl⟩
    · exact Fi_e (cs 0 rfl)
    · exact Fi_e (cs 5 rfl)
    · exact Fi_e (cs 5 rfl)
    · exact Fi_e (cs 159 rfl)
    · exact fi2 47 (by decide)
    · exact Fi_e (cs 124 rfl)
    · exact Fi_e (cs 124 rfl)
    · exact Fi_e (cs 130 rfl)
    · exact Fi_e (cs 130 rfl)
    · exact Fi_e (cs 136 rfl)
    · exact Fi_e (cs 136 rfl)
  obtain ⟨⟨y1, y2, y3, y4, y5, y6, y7⟩, u1, u2, u3, u4, u5⟩ := z.2.1
  have e13 := lo 13 (by decide) (by decide) (by decide)
  refine SR_act c2 hc.qq z ka kf (fun fs p e1 e2 => ⟨fs, (cs 0 rfl).trans e1, e2⟩) ⟨⟨s14, fun a b ha hb hn => ?_, fun a b ha hb => ?_, fun j hj => ?_, fun j hj => ?_, ?_, ?_⟩, ⟨fun c hcl => ?_, fun a b ha hb hn => ?_, fun a b ha hb => ?_, fun j hj => ?_, fun k hk hk2 => ?_⟩⟩ ⟨fi, si, hfi, hsi, ⟨(Fi_e (lo 25 (by decide) (by decide) (by decide))).trans e1, (Fi_e (lo 25 (by decide) (by decide) (by decide))).trans e2, (fi2 27 (by decide)).trans e3⟩, fun j hj => ?_⟩
  · rw [Ar_e (lo (13 + 2) (by decide) (by decide) (by decide)), hi _ (by omega)]
    exact y2 a b ha hb hn
  · rw [Ar_e (lo (13 + 3) (by decide) (by decide) (by decide)), hi _ (by omega)]
    exact y3 a b ha hb
  · rw [Ar_e (lo (13 + 4) (by decide) (by decide) (by decide)), hi _ (by omega)]
    exact y4 j hj
  · rw [Ar_e (lo (13 + 5) (by decide) (by decide) (by decide)), hi _ (by omega)]
    exact y5 j hj
  · rw [Fi_e e13, hi 94 (by decide)]
    exact y6
  · rw [Fi_e e13, hi 95 (by decide)]
    exact y7
  · have q1 := ty_170 i2.1 c _ (of_decide_eq_true (List.all_eq_true.mp asR_g c (List.mem_range.mpr hcl)))
    exact ⟨q1.2.1, q1.2.2⟩
  · rw [hi _ (by omega)]
    exact u2 a b ha hb hn
  · rw [hi _ (by omega)]
    exact u3 a b ha hb
  · rw [hi _ (by omega)]
    exact u4 j hj
  · rw [hi 94 (by decide)]
    exact u5 k hk hk2
  · obtain ⟨q1, q2⟩ := pa j hj
    rw [Ar_e (lo 178 (by decide) (by decide) (by decide))]
    exact ⟨RSb_e (fun i h1 h2 => lo i (by omega) (by omega) (by omega)) q1, q2⟩
end QSR
end MG95zzzaax3
