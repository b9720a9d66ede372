/-! sheet() of both sides answers alike -/
section SHT
variable {q : QT} {cc gc sl : Nat} {h hx hm h1 h2 : pm_H} {k m e s v w : Int32}
theorem fi_of {c ci g : Nat} {fs : List Value} {x : Int32} (e : h c = .inr (ci, fs)) (e1 : fs[g]? = some (.int x)) : Fi h c g = x := by
  unfold Fi
  rw [e]
  dsimp only
  rw [e1]
def asZ (c : Nat) : List av := match bB c with
  | .inr (_, as) => as
  | _ => []
theorem hc_rule (hI : ah_ok bB 198 [] h) {p : Nat} (hb : bB p = .inr (6, asZ p)) (hp : p < 198) (h1 : (asZ p)[1]? = some (0, 0, 40)) : ∃ n : Nat, n ≤ 40 ∧ Fi h p 1 = nI n := by
  have b0 : ac_ok (h p) (bB p) := hI p hp
  rw [hb] at b0
  obtain ⟨fs, e0, hl, hv⟩ := aE_obj b0 (by decide)
  have hlt : 1 < fs.length := by
    have := (List.getElem?_eq_some_iff.mp h1).1
    omega
  have ev := List.getElem?_eq_getElem hlt
  obtain ⟨x, ex, x1, x2⟩ := av_int rfl (hv 1 _ _ ev h1)
  obtain ⟨n, rfl, -, en⟩ := hI_of (x := x) x1
  rw [ex] at ev
  refine ⟨n, ?_, fi_of e0 ev⟩
  dsimp only at x2
  omega
theorem hc_LI5 (hI : LI5 h) : ∃ q cc gc, HC q cc gc h := by
  obtain ⟨hI0, ⟨n0, cc, f0, g0, hn, hc, ⟨x1, rs, x2, x3⟩, ⟨y1, y2, fm3, y3, y4⟩, hjj⟩, gc, hg, ⟨rg, z1, z2⟩, fm4, z3, z4⟩ := hI
  obtain ⟨n8, dn, f8, ⟨fm, c1, c2⟩, c3, c4, -⟩ := hI0.2.1
  have b0 : ac_ok (h 0) (.inr (10, asZ 0)) := hI0.1 0 (by decide)
  obtain ⟨fs, e0, hl, hv⟩ := aE_obj b0 (by decide)
  have hlt : 8 < fs.length := by rw [hl]; decide
  have ev := List.getElem?_eq_getElem hlt
  obtain ⟨p, ep, hp⟩ := av_ref rfl (hv 8 _ (2, 142, 3002) ev rfl)
  rw [ep] at ev
  have hp2 : p = 142 ∨ p = 145 := by
    rw [show av_ids (2, 142, 3002) = [142, 145] by decide] at hp
    simpa using hp
  have hr : ∃ n : Nat, n ≤ 40 ∧ Fi h p 1 = nI n := by
    rcases hp2 with rfl | rfl
    · exact hc_rule hI0.1 rfl (by decide) rfl
    · exact hc_rule hI0.1 rfl (by decide) rfl
  obtain ⟨n4, hn4, e4⟩ := hr
  exact ⟨(p, n4, n8), cc, gc, wt_of hI0.1, ⟨fi_of x2 x3, fi_of z1 z2⟩, ⟨fi_of y3 y4, fi_of z3 z4, fi_of c1 c2, e4⟩, ⟨hc, hg, hn4, c4⟩, ⟨fs, e0, ev⟩, hp2⟩
def sF (q : QT) (cc gc : Nat) (k m e s : Int32) (b : Bool) (i : Nat) : Int32 := cond (cond b false (cond (pm_cmp .ge (nI i) m) false true)) (imax (nI 0) (imin (nI 999) (v157t q cc gc k (e + nI i * s)))) (nI 0)
theorem sx_loop (b : Bool) : ∀ (j i : Nat) (h : pm_H) (t : Nat), Ar (v95_44 q cc gc k m e s b j i h) 14 t = if i ≤ t ∧ t < i + j then sF q cc gc k m e s b t else Ar h 14 t
  | 0, i, h, t => by
    rw [if_neg (by omega)]
    rfl
  | j + 1, i, h, t => by
    have ih := sx_loop b j (i + 1) (v95_44b q cc gc h k m e s b i) t
    have e1 : v95_44 q cc gc k m e s b (j + 1) i h = v95_44 q cc gc k m e s b j (i + 1) (v95_44b q cc gc h k m e s b i) := rfl
    rw [e1, ih]
    have e2 : Ar (v95_44b q cc gc h k m e s b i) 14 t = if t = i then sF q cc gc k m e s b i else Ar h 14 t := by
      unfold v95_44b
      rw [Ar_s]
      rfl
    rw [e2]
    by_cases h1 : t = i
    · subst h1
      rw [if_neg (by omega), if_pos rfl, if_pos (by omega)]
    · rw [if_neg h1]
      by_cases h2 : i + 1 ≤ t ∧ t < i + 1 + j
      · rw [if_pos h2, if_pos (by omega)]
      · rw [if_neg h2, if_neg (by omega)]
def shM (k m e s : Int32) (i : Nat) : Int32 := cond (pm_cmp .eq k (nI 3)) (nI 0) (cond (pm_cmp .lt (nI i) m) (imax (nI 0) (imin (nI 999) (cond (pm_cmp .ne k 0) (cond (pm_cmp .ne k (nI 1)) (e + nI i * s) ((e + nI i * s).toInt16.toInt32)) ((e + nI i * s).toInt8.toInt32)))) (nI 0))
theorem sm_loop : ∀ (j i : Nat) (x : Int32) (h : pm_H) (t : Nat), x = e + nI i * s → Ar (v210_43 q cc gc k m e s j i (x, h)).2 170 t = if i ≤ t ∧ t < i + j then shM k m e s t else Ar h 170 t
  | 0, i, x, h, t, _ => by
    rw [if_neg (by omega)]
    rfl
  | j + 1, i, x, h, t, hx => by
    have e3 : x + s = e + nI (i + 1) * s := by
      rw [hx, ← nI_add i 1, Int32.add_mul, show nI 1 = 1 from rfl, Int32.one_mul, Int32.add_assoc]
    have eb : v210_43b q cc gc h k m e s i x = (x + s, aset h 170 96 (upd (Ar h 170) i (shM k m e s i))) := by
      rw [hx]
      unfold v210_43b shM
      cases pm_cmp .ne k 0 <;> cases pm_cmp .ne k (nI 1) <;> cases pm_cmp .eq k (nI 3) <;> cases pm_cmp .lt (nI i) m <;> rfl
    have ih := sm_loop j (i + 1) (x + s) (aset h 170 96 (upd (Ar h 170) i (shM k m e s i))) t e3
    have e1 : v210_43 q cc gc k m e s (j + 1) i (x, h) = v210_43 q cc gc k m e s j (i + 1) (v210_43b q cc gc h k m e s i x) := rfl
    rw [e1, eb, ih]
    have e2 : Ar (aset h 170 96 (upd (Ar h 170) i (shM k m e s i))) 170 t = if t = i then shM k m e s i else Ar h 170 t := by
      rw [Ar_s]
      rfl
    rw [e2]
    by_cases h1 : t = i
    · subst h1
      rw [if_neg (by omega), if_pos rfl, if_pos (by omega)]
    · rw [if_neg h1]
      by_cases h2 : i + 1 ≤ t ∧ t < i + 1 + j
      · rw [if_pos h2, if_pos (by omega)]
      · rw [if_neg h2, if_neg (by omega)]
theorem sum_cg {d d' : Nat → Int32} : ∀ (j i : Nat) (a : Int32), (∀ t, i ≤ t → t < i + j → d t = d' t) → v36_4 q cc gc d j i a = v177_4 q cc gc d' j i a
  | 0, _, _, _ => rfl
  | j + 1, i, a, e => by
    show v36_4 q cc gc d j (i + 1) (a + d i) = v177_4 q cc gc d' j (i + 1) (a + d' i)
    rw [e i (Nat.le_refl _) (by omega)]
    exact sum_cg j (i + 1) _ (fun t h1 h2 => e t (by omega) (by omega))
theorem i_ge (x y : Int32) : pm_cmp .ge x y = !(pm_cmp .lt x y) := by
  show decide (y ≤ x) = !(decide (x < y))
  by_cases z : x < y
  · rw [decide_eq_true z, decide_eq_false (fun z2 => by rw [Int32.lt_iff_toInt_lt] at z; rw [Int32.le_iff_toInt_le] at z2; omega)]
    rfl
  · rw [decide_eq_false z, decide_eq_true (by rw [Int32.lt_iff_toInt_lt] at z; rw [Int32.le_iff_toInt_le]; omega)]
    rfl
theorem i_ne (x y : Int32) : pm_cmp .ne x y = !(pm_cmp .eq x y) := by
  show decide (¬ x = y) = !(decide (x = y))
  by_cases z : x = y
  · rw [decide_eq_true z, decide_eq_false (fun z2 => z2 z)]
    rfl
  · rw [decide_eq_false z, decide_eq_true z]
    rfl
theorem sf_eq (i : Nat) : sF q cc gc k m e s (cond (pm_cmp .ne k (nI 3)) false true) i = shM k m e s i := by
  unfold sF shM v157t
  rw [i_ne, i_ne, i_ne, i_ge, show (0 : Int32) = nI 0 from rfl]
  cases pm_cmp .eq k (nI 3) <;> cases pm_cmp .lt (nI i) m <;> cases pm_cmp .eq k (nI 0) <;> cases pm_cmp .eq k (nI 1) <;> simp only [cond_true, cond_false, Bool.not_true, Bool.not_false]
theorem sht_in (k : Int32) : in_b k.toInt64 (Int64.ofNat 0) (3 : Int64) = (!(pm_cmp .lt k 0) && !(pm_cmp .gt k (nI 3))) := by
  unfold in_b
  have e1 : decide (k.toInt64 < Int64.ofNat 0) = pm_cmp .lt k 0 := by
    show _ = decide (k < 0)
    rw [decide_eq_decide, Int64.lt_iff_toInt_lt, Int32.lt_iff_toInt_lt, Int32.toInt_toInt64]
    exact Iff.rfl
  have e2 : decide ((3 : Int64) < k.toInt64) = pm_cmp .gt k (nI 3) := by
    show _ = decide (nI 3 < k)
    rw [decide_eq_decide, Int64.lt_iff_toInt_lt, Int32.lt_iff_toInt_lt, Int32.toInt_toInt64]
    exact Iff.rfl
  rw [e1, e2]
theorem sht_sum : v36 q cc gc (Ar (v95_44 q cc gc k m e s (cond (pm_cmp .ne k (nI 3)) false true) cc 0 hx) 14) = v177 q cc gc (Ar ((v210_43 q cc gc k m e s cc 0 (e, fset hm 162 0 (.int (nI 0)))).2) 170) := by
  unfold v36 v177
  refine sum_cg cc 0 _ (fun t _ ht => ?_)
  rw [sx_loop, sm_loop cc 0 e _ t (by rw [show nI 0 = 0 from rfl, Int32.zero_mul, Int32.add_zero]), if_pos (by omega), if_pos (by omega), sf_eq]
theorem sheet_val : (v95 q cc gc hx k m e s).1 = (v210 q cc gc hm k m e s).1 := by
  have hs := sht_sum (q := q) (cc := cc) (gc := gc) (k := k) (m := m) (e := e) (s := s) (hx := hx) (hm := hm)
  unfold v95 v210
  rw [sht_in]
  generalize v36 q cc gc (Ar (v95_44 q cc gc k m e s (cond (pm_cmp .ne k (nI 3)) false true) cc 0 hx) 14) = a1 at hs ⊢
  generalize v177 q cc gc (Ar ((v210_43 q cc gc k m e s cc 0 (e, fset hm 162 0 (.int (nI 0)))).2) 170) = a2 at hs ⊢
  subst hs
  cases pm_cmp .lt k 0 with
  | true => rfl
  | false =>
    cases pm_cmp .gt k (nI 3) with
    | true => rfl
    | false =>
      cases pm_cmp .le m (nI 6) with
      | false => rfl
      | true =>
        rw [i_ne]
        cases pm_cmp .eq k (nI 3) with
        | true => rfl
        | false => cases pm_cmp .ge m 0 <;> rfl
theorem sheet_both (pr : prun sl 95 210 [k, m, e, s] h h1 h2 v w) (hI : LI5 h) : v = w := by
  obtain ⟨⟨n1, r1⟩, -, ⟨n2, r2⟩, -, -⟩ := pr
  obtain ⟨q, cc, gc, hc⟩ := hc_LI5 hI
  obtain ⟨e1, c1, -⟩ := v95_ok hc r1
  cases e1
  obtain ⟨e2, -, -⟩ := v210_ok c1 r2
  cases e2
  exact sheet_val
end SHT
