/-! sheet() of both sides answers alike -/
section SHT
variable {q : QT} {cc gc sl : Nat} {h hx hm h1 h2 : pm_H} {k m e s v w : Int32}
theorem fi_of {c ci g : Nat} {fs : List Value} {x : Int32} (e : h c = .inr (ci, fs)) (e1 : fs[g]? = some (.int x)) : Fi h c g = x := by
  unfold Fi
  rw [e]
  dsimp only
  rw [e1]
def asZ (c : Nat) : List av := match bB c with
  | .inr (_, as) => as
  | _ => []
theorem hc_rule (hI : ah_ok bB 198 [] h) {p : Nat} (hb : bB p = .inr (6, asZ p)) (hp : p < 198) (h1 : (asZ p)[1]? = some (0, 0, 40)) : ∃ n : Nat, n ≤ 40 ∧ Fi h p 1 = nI n := by
  have b0 : ac_ok (h p) (bB p) := hI p hp
  rw [hb] at b0
  obtain ⟨fs, e0, hl, hv⟩ := aE_obj b0 (by decide)
  have hlt : 1 < fs.length := by
    have := (List.getElem?_eq_some_iff.mp h1).1
    omega
  have ev := List.getElem?_eq_getElem hlt
  obtain ⟨x, ex, x1, x2⟩ := av_int rfl (hv 1 _ _ ev h1)
  obtain ⟨n, rfl, -, en⟩ := hI_of (x := x) x1
  rw [ex] at ev
  refine ⟨n, ?_, fi_of e0 ev⟩
  dsimp only at x2
  omega
def sF (q : QT) (cc gc : Nat) (k m e s : Int32) (b : Bool) (i : Nat) : Int32 := cond (cond b false (cond (pm_cmp .ge (nI i) m) false true)) (imax (nI 0) (imin (nI 999) (v157t q cc gc k (e + nI i * s)))) (nI 0)
theorem sx_loop (b : Bool) : ∀ (j i : Nat) (h : pm_H) (t : Nat), Ar (v95_44 q cc gc k m e s b j i h) 14 t = if i ≤ t ∧ t < i + j then sF q cc gc k m e s b t else Ar h 14 t
  | 0, i, h, t => by
    rw [if_neg (by omega)]
    rfl
  | j + 1, i, h, t => by
    have ih := sx_loop b j (i + 1) (v95_44b q cc gc h k m e s b i) t
    have e1 : v95_44 q cc gc k m e s b (j + 1) i h = v95_44 q cc gc k m e s b j (i + 1) (v95_44b q cc gc h k m e s b i) := rfl
    rw [e1, ih]
    have e2 : Ar (v95_44b q cc gc h k m e s b i) 14 t = if t = i then sF q cc gc k m e s b i else Ar h 14 t := by
      unfold v95_44b
      rw [Ar_s]
      rfl
    rw [e2]
    by_cases h1 : t = i
    · subst h1
      rw [if_neg (by omega), if_pos rfl, if_pos (by omega)]
    · rw [if_neg h1]
      by_cases h2 : i + 1 ≤ t ∧ t < i + 1 + j
      · rw [if_pos h2, if_pos (by omega)]
      · rw [if_neg h2, if_neg (by omega)]
def shM (k m e s : Int32) (i : Nat) : Int32 := cond (pm_cmp .eq k (nI 3)) (nI 0) (cond (pm_cmp .lt (nI i) m) (imax (nI 0) (imin (nI 999) (cond (pm_cmp .ne k 0) (cond (pm_cmp .ne k (nI 1)) (e + nI i * s) ((e + nI i * s).toInt16.toInt32)) ((e + nI i * s).toInt8.toInt32)))) (nI 0))
theorem sm_loop : ∀ (j i : Nat) (x : Int32) (h : pm_H) (t : Nat), x = e + nI i * s → Ar (v210_43 q cc gc k m e s j i (x, h)).2 170 t = if i ≤ t ∧ t < i + j then shM k m e s t else Ar h 170 t
  | 0, i, x, h, t, _ => by
    rw [if_neg (by omega)]
    rfl
  | j + 1, i, x, h, t, hx => by
    have e3 : x + s = e + nI (i + 1) * s := by
      rw [hx, ← nI_add i 1, Int32.add_mul, show nI 1 = 1 from rfl, Int32.one_mul, Int32.add_assoc]
    have eb : v210_43b q cc gc h k m e s i x = (x + s, aset h 170 96 (upd (Ar h 170) i (shM k m e s i))) := by
      rw [hx]
      unfold v210_43b shM
      cases pm_cmp .ne k 0 <;> cases pm_cmp .ne k (nI 1) <;> cases pm_cmp .eq k (nI 3) <;> cases pm_cmp .lt (nI i) m <;> rfl
    have ih := sm_loop j (i + 1) (x + s) (aset h 170 96 (upd (Ar h 170) i (shM k m e s i))) t e3
    have e1 : v210_43 q cc gc k m e s (j + 1) i (x, h) = v210_43 q cc gc k m e s j (i + 1) (v210_43b q cc gc h k m e s i x) := rfl
    rw [e1, eb, ih]
    have e2 : Ar (aset h 170 96 (upd (Ar h 170) i (shM k m e s i))) 170 t = if t = i then shM k m e s i else Ar h 170 t := by
      rw [Ar_s]
      rfl
    rw [e2]
    by_cases h1 : t = i
    · subst h1
      rw [if_neg (by omega), if_pos rfl, if_pos (by omega)]
    · rw [if_neg h1]
      by_cases h2 : i + 1 ≤ t ∧ t < i + 1 + j
      · rw [if_pos h2, if_pos (by omega)]
      · rw [if_neg h2, if_neg (by omega)]
theorem i_ge (x y : Int32) : pm_cmp .ge x y = !(pm_cmp .lt x y) := by
  show decide (y ≤ x) = !(decide (x < y))
  by_cases z : x < y
  · rw [decide_eq_true z, decide_eq_false (fun z2 => by rw [Int32.lt_iff_toInt_lt] at z; rw [Int32.le_iff_toInt_le] at z2; omega)]
    rfl
  · rw [decide_eq_false z, decide_eq_true (by rw [Int32.lt_iff_toInt_lt] at z; rw [Int32.le_iff_toInt_le]; omega)]
    rfl
theorem i_ne (x y : Int32) : pm_cmp .ne x y = !(pm_cmp .eq x y) := by
  show decide (¬ x = y) = !(decide (x = y))
  by_cases z : x = y
  · rw [decide_eq_true z, decide_eq_false (fun z2 => z2 z)]
    rfl
  · rw [decide_eq_false z, decide_eq_true z]
    rfl
theorem sf_eq (i : Nat) : sF q cc gc k m e s (cond (pm_cmp .ne k (nI 3)) false true) i = shM k m e s i := by
  unfold sF shM v157t
  rw [i_ne, i_ne, i_ne, i_ge, show (0 : Int32) = nI 0 from rfl]
  cases pm_cmp .eq k (nI 3) <;> cases pm_cmp .lt (nI i) m <;> cases pm_cmp .eq k (nI 0) <;> cases pm_cmp .eq k (nI 1) <;> simp only [cond_true, cond_false, Bool.not_true, Bool.not_false]
theorem sht_in (k : Int32) : in_b k.toInt64 (Int64.ofNat 0) (3 : Int64) = (!(pm_cmp .lt k 0) && !(pm_cmp .gt k (nI 3))) := by
  unfold in_b
  have e1 : decide (k.toInt64 < Int64.ofNat 0) = pm_cmp .lt k 0 := by
    show _ = decide (k < 0)
    rw [decide_eq_decide, Int64.lt_iff_toInt_lt, Int32.lt_iff_toInt_lt, Int32.toInt_toInt64]
    exact Iff.rfl
  have e2 : decide ((3 : Int64) < k.toInt64) = pm_cmp .gt k (nI 3) := by
    show _ = decide (nI 3 < k)
    rw [decide_eq_decide, Int64.lt_iff_toInt_lt, Int32.lt_iff_toInt_lt, Int32.toInt_toInt64]
    exact Iff.rfl
  rw [e1, e2]
end SHT
