/-! a MONTH goes: both sides -/
section MON
variable {cc gc : Nat} {q : QT} {g0 e d hd ha B : Nat → Int32} {x m y z : Int32} {k c : Nat}
theorem bit_or : bit (x ||| y) k = (bit x k || bit y k) := by
  unfold bit
  rw [Int32.toBitVec_or]
  exact BitVec.getLsbD_or
theorem bit_ext (h : ∀ k, k < 32 → bit x k = bit y k) : x = y := by
  apply Int32.toBitVec_inj.mp
  apply BitVec.eq_of_getLsbD_eq
  intro i hi
  exact h i hi
theorem bit_shl {j k : Nat} (hj : j < 8) (hk : k < 32) : bit (shl (nI 1) (nI j)) k = decide (k = j) := by
  have e : ∀ j, j < 8 → ∀ k, k < 32 → bit (shl (nI 1) (nI j)) k = decide (k = j) := by decide +kernel
  exact e j hj k hk
theorem bit_0 : bit (nI 0) k = false := by
  unfold bit
  rw [show (nI 0).toBitVec = 0#32 from rfl]
  exact BitVec.getLsbD_zero
theorem bit_74 {k : Nat} (hk : k < 8) : v74 q cc gc x k = bit x k := by
  have key : ∀ (s : Nat), s < 32 → (x.toBitVec.sshiftRight s).getLsbD 0 = x.toBitVec.getLsbD s := by
    intro s hs
    rw [BitVec.getLsbD_sshiftRight]
    simp [hs]
  have sh : ∀ (s : Nat) (y : Int32), s < 32 → y.toBitVec = x.toBitVec.sshiftRight s → cond (pm_cmp .eq (y &&& nI 1) 0) false true = x.toBitVec.getLsbD s := by
    intro s y hs ey
    have e : (y &&& nI 1).toBitVec = BitVec.setWidth 32 (BitVec.ofBool (y.toBitVec.getLsbD 0)) := BitVec.and_one_eq_setWidth_ofBool_getLsbD
    rw [ey, key s hs] at e
    cases z : x.toBitVec.getLsbD s with
    | false =>
      rw [z] at e
      rw [show y &&& nI 1 = 0 from Int32.toBitVec_inj.mp e]
      decide
    | true =>
      rw [z] at e
      rw [show y &&& nI 1 = nI 1 from Int32.toBitVec_inj.mp e]
      decide
  unfold v74 shr bit
  rcases (by omega : k = 0 ∨ k = 1 ∨ k = 2 ∨ k = 3 ∨ k = 4 ∨ k = 5 ∨ k = 6 ∨ k = 7) with rfl | rfl | rfl | rfl | rfl | rfl | rfl | rfl
  · exact sh 0 _ (by decide) rfl
  · exact sh 1 _ (by decide) rfl
  · exact sh 2 _ (by decide) rfl
  · exact sh 3 _ (by decide) rfl
  · exact sh 4 _ (by decide) rfl
  · exact sh 5 _ (by decide) rfl
  · exact sh 6 _ (by decide) rfl
  · exact sh 7 _ (by decide) rfl
/-- a beast, a bear -/
def kok (k : Int32) : Bool := cond (pm_cmp .eq k (nI 1)) true (cond (pm_cmp .ne k (nI 4)) false true)
theorem v41_is {kd : Nat → Int32} : v41 q cc gc kd x k = (kok (kd k) && !(v74 q cc gc x k)) := by
  unfold v41 kok
  cases pm_cmp .eq (kd k) (nI 1) <;> cases pm_cmp .ne (kd k) (nI 4) <;> cases v74 q cc gc x k <;> rfl
theorem v218_is {kd r : Nat → Int32} : v218 q cc gc kd r k = (kok (kd k) && !(v173 q cc gc r k)) := by
  unfold v218 kok
  cases pm_cmp .eq (kd k) (nI 1) <;> cases pm_cmp .ne (kd k) (nI 4) <;> cases v173 q cc gc r k <;> rfl
/-- who eats at all, what is left, who dies -/
def eat (D : Int32) (kd : Nat → Int32) (i : Nat) : Bool := kok (kd i) && !(bit D i)
def gx (D : Int32) (kd ea : Nat → Int32) (hol : Nat → Nat) (G : Nat → Int32) : Nat → Nat → Int32
  | 0, c => G c
  | i + 1, c => if hol i = c then cond (eat D kd i) (imax (nI 0) (gx D kd ea hol G i c - ea i)) (gx D kd ea hol G i c) else gx D kd ea hol G i c
def dy (D : Int32) (kd ea : Nat → Int32) (hol : Nat → Nat) (G : Nat → Int32) (i : Nat) : Bool := eat D kd i && !(pm_cmp .ge (gx D kd ea hol G i (hol i)) (ea i))
theorem sub_i {a b : Int32} (h1 : 0 ≤ a.toInt ∧ a.toInt ≤ 999) (h2 : 0 ≤ b.toInt ∧ b.toInt ≤ 9) : (a - b).toInt = a.toInt - b.toInt := by
  rw [Int32.toInt_sub, Int.bmod_eq_of_le] <;> omega
theorem eat_x {a b : Int32} (h1 : 0 ≤ a.toInt ∧ a.toInt ≤ 999) (h2 : 0 ≤ b.toInt ∧ b.toInt ≤ 9) : imax (nI 0) (a - b) = cond (pm_cmp .ge a b) (a - b) (nI 0) := by
  unfold imax
  have e : (nI 0 < a - b) ↔ b.toInt < a.toInt := by
    rw [Int32.lt_iff_toInt_lt, sub_i h1 h2, nI_toInt (by decide)]
    omega
  have e2 : pm_cmp .ge a b = decide (b.toInt ≤ a.toInt) := by
    simp only [pm_cmp]
    rw [decide_eq_decide, Int32.le_iff_toInt_le]
  rw [e2]
  by_cases z1 : b.toInt < a.toInt
  · rw [if_pos (e.mpr z1), decide_eq_true (show b.toInt ≤ a.toInt by omega)]
    rfl
  · rw [if_neg (fun y => z1 (e.mp y))]
    by_cases z2 : b.toInt ≤ a.toInt
    · rw [decide_eq_true z2]
      show nI 0 = a - b
      apply Int32.toInt_inj.mp
      rw [sub_i h1 h2, nI_toInt (by decide)]
      omega
    · rw [decide_eq_false z2]
      rfl
theorem imx_i {a b : Int32} (h1 : 0 ≤ a.toInt ∧ a.toInt ≤ 999) (h2 : 0 ≤ b.toInt ∧ b.toInt ≤ 9) : 0 ≤ (imax (nI 0) (a - b)).toInt ∧ (imax (nI 0) (a - b)).toInt ≤ 999 := by
  rw [imax_i, sub_i h1 h2, nI_toInt (by decide)]
  omega
variable {D : Int32} {kd ea G : Nat → Int32} {hol : Nat → Nat}
theorem gx_i (hG : ∀ c, c < cc → 0 ≤ (G c).toInt ∧ (G c).toInt ≤ 999) (hE : ∀ j, j < gc → 0 ≤ (ea j).toInt ∧ (ea j).toInt ≤ 9) : ∀ i c, i ≤ gc → c < cc → 0 ≤ (gx D kd ea hol G i c).toInt ∧ (gx D kd ea hol G i c).toInt ≤ 999
  | 0, c, _, hc => hG c hc
  | i + 1, c, hi, hc => by
    have h0 := gx_i hG hE i c (by omega) hc
    unfold gx
    by_cases z : hol i = c
    · rw [if_pos z]
      cases eat D kd i with
      | false => exact h0
      | true => exact imx_i h0 (hE i (by omega))
    · rw [if_neg z]
      exact h0
/-- the class's month of one court -/
theorem mon_in {hx : pm_H} (h8 : gc ≤ 8) (hw : HC q cc gc hx) (hh : ∀ j, j < gc → Ar hx 17 j = nI (hol j) ∧ hol j < 6) (hG : ∀ c, c < cc → 0 ≤ (G c).toInt ∧ (G c).toInt ≤ 999) (hE : ∀ j, j < gc → 0 ≤ (Ar hx 11 j).toInt ∧ (Ar hx 11 j).toInt ≤ 9) {c : Nat} (hc : c < cc) (hb : ∀ k, k < 32 → bit (Fi hx 13 5) k = (bit D k || (decide (k < gc) && (dy D (Ar hx 9) (Ar hx 11) hol G k && decide (hol k < c))))) : ∀ i, i ≤ gc → HC q cc gc (v43_25 q cc gc c i 0 (G c, hx)).2 ∧ frm [13] [(13, 5)] hx (v43_25 q cc gc c i 0 (G c, hx)).2 ∧ (v43_25 q cc gc c i 0 (G c, hx)).1 = gx D (Ar hx 9) (Ar hx 11) hol G i c ∧ ∀ k, k < 32 → bit (Fi (v43_25 q cc gc c i 0 (G c, hx)).2 13 5) k = (bit D k || (decide (k < gc) && (dy D (Ar hx 9) (Ar hx 11) hol G k && (decide (hol k < c) || (decide (hol k = c) && decide (k < i)))))) := by
  intro i hi
  have p := lp_in (f := fun i (a : Int32 × pm_H) => v43_25b q cc gc a.2 c i a.1) (P := fun i a => HC q cc gc a.2 ∧ frm [13] [(13, 5)] hx a.2 ∧ a.1 = gx D (Ar hx 9) (Ar hx 11) hol G i c ∧ ∀ k, k < 32 → bit (Fi a.2 13 5) k = (bit D k || (decide (k < gc) && (dy D (Ar hx 9) (Ar hx 11) hol G k && (decide (hol k < c) || (decide (hol k = c) && decide (k < i))))))) i 0 (G c, hx) ⟨hw, fr_0, rfl, fun k hk => by
      rw [hb k hk, decide_eq_false (Nat.not_lt_zero k), Bool.and_false, Bool.or_false]⟩ (fun i a _ hi2 p => by
    obtain ⟨p1, p2, p3, p4⟩ := p
    obtain ⟨x3, h'⟩ := a
    dsimp only at p1 p2 p3 p4 ⊢
    have hig : i < gc := by omega
    have a17 : Ar h' 17 = Ar hx 17 := Ar_e (p2.1 17 rfl)
    have a11 : Ar h' 11 = Ar hx 11 := Ar_e (p2.1 11 rfl)
    have a9 : Ar h' 9 = Ar hx 9 := Ar_e (p2.1 9 rfl)
    have ri := gx_i (D := D) (kd := Ar hx 9) (hol := hol) hG hE i c (by omega) hc
    have hc6 := p1.cb
    -- the bits do not change where the gift isn't the court's
    have stay : (hol i = c → dy D (Ar hx 9) (Ar hx 11) hol G i = false) → ∀ k, k < 32 → bit (Fi h' 13 5) k = (bit D k || (decide (k < gc) && (dy D (Ar hx 9) (Ar hx 11) hol G k && (decide (hol k < c) || (decide (hol k = c) && decide (k < i + 1)))))) := by
      intro hd k hk
      rw [p4 k hk]
      by_cases z : k = i
      · subst z
        by_cases y : hol k = c
        · rw [hd y, Bool.false_and, Bool.false_and]
        · rw [decide_eq_false y, Bool.false_and, Bool.false_and]
      · have : decide (k < i + 1) = decide (k < i) := by
          rw [decide_eq_decide]
          omega
        rw [this]
    unfold v43_25b
    rw [a17, a11, a9, (hh i hig).1]
    by_cases y : hol i = c
    · rw [show pm_cmp .ne (nI (hol i)) (nI c) = false from (hI_ne (by have := (hh i hig).2; omega) (by omega)).trans (decide_eq_false (fun w => w y))]
      have ev : v41 q cc gc (Ar hx 9) (Fi h' 13 5) i = eat D (Ar hx 9) i := by
        rw [v41_is, bit_74 (by omega), p4 i (by omega), decide_eq_false (Nat.lt_irrefl i), y, decide_eq_false (Nat.lt_irrefl c)]
        unfold eat
        rw [Bool.and_false, Bool.or_false, Bool.and_false, Bool.and_false, Bool.or_false]
      rw [ev]
      have eg : gx D (Ar hx 9) (Ar hx 11) hol G (i + 1) c = cond (eat D (Ar hx 9) i) (imax (nI 0) (gx D (Ar hx 9) (Ar hx 11) hol G i c - Ar hx 11 i)) (gx D (Ar hx 9) (Ar hx 11) hol G i c) := by
        show (if hol i = c then _ else _) = _
        rw [if_pos y]
      cases ze : eat D (Ar hx 9) i with
      | false =>
        refine ⟨p1, p2, by rw [eg, ze]; exact p3, stay (fun _ => ?_)⟩
        unfold dy
        rw [ze]
        rfl
      | true =>
        rw [p3]
        have ex := eat_x ri (hE i hig)
        cases zg : pm_cmp .ge (gx D (Ar hx 9) (Ar hx 11) hol G i c) (Ar hx 11 i) with
        | true =>
          refine ⟨p1, p2, by rw [eg, ze, ex, zg]; rfl, stay (fun _ => ?_)⟩
          unfold dy
          rw [y, zg, Bool.not_true, Bool.and_false]
        | false =>
          refine ⟨hc_f rfl rfl (by decide) rfl p1, fr_f rfl rfl p2, by rw [eg, ze, ex, zg]; rfl, fun k hk => ?_⟩
          show bit (Fi (fset h' 13 5 (.int (Fi h' 13 5 ||| shl (nI 1) (nI i)))) 13 5) k = _
          rw [Fi_s p1.wt (by decide) rfl (by decide) rfl, bit_or, bit_shl (by omega) hk, p4 k hk]
          by_cases z : k = i
          · subst z
            have ed : dy D (Ar hx 9) (Ar hx 11) hol G k = true := by
              unfold dy
              rw [ze, y, zg]
              rfl
            rw [ed, y, decide_eq_true (rfl : k = k), decide_eq_true hig, decide_eq_true (rfl : c = c), decide_eq_true (Nat.lt_succ_self k)]
            simp
          · have : decide (k < i + 1) = decide (k < i) := by
              rw [decide_eq_decide]
              omega
            rw [decide_eq_false z, this, Bool.or_false]
    · rw [show pm_cmp .ne (nI (hol i)) (nI c) = true from (hI_ne (by have := (hh i hig).2; omega) (by omega)).trans (decide_eq_true y)]
      refine ⟨p1, p2, ?_, stay (fun w => absurd w y)⟩
      show x3 = (if hol i = c then _ else gx D (Ar hx 9) (Ar hx 11) hol G i c)
      rw [if_neg y]
      exact p3)
  rw [Nat.zero_add] at p
  exact p
/-- all courts, one behind the other -/
theorem mon_x {hx : pm_H} (h8 : gc ≤ 8) (h6 : cc ≤ 6) (hw : HC q cc gc hx) (hh : ∀ j, j < gc → Ar hx 17 j = nI (hol j) ∧ hol j < 6) (hE : ∀ j, j < gc → 0 ≤ (Ar hx 11 j).toInt ∧ (Ar hx 11 j).toInt ≤ 9) (hR : ∀ c, c < cc → 0 ≤ (imin (nI 999) (Ar hx 14 c + nI 2 * Ar hx 6 c)).toInt ∧ (imin (nI 999) (Ar hx 14 c + nI 2 * Ar hx 6 c)).toInt ≤ 999) : HC q cc gc (v42_2 q cc gc cc 0 hx) ∧ frm [13, 14] [(13, 5)] hx (v42_2 q cc gc cc 0 hx) ∧ (∀ k, k < 6 → Ar (v42_2 q cc gc cc 0 hx) 14 k = if k < cc then gx (Fi hx 13 5) (Ar hx 9) (Ar hx 11) hol (fun c => imin (nI 999) (Ar hx 14 c + nI 2 * Ar hx 6 c)) gc k else Ar hx 14 k) ∧ ∀ k, k < 32 → bit (Fi (v42_2 q cc gc cc 0 hx) 13 5) k = (bit (Fi hx 13 5) k || (decide (k < gc) && (dy (Fi hx 13 5) (Ar hx 9) (Ar hx 11) hol (fun c => imin (nI 999) (Ar hx 14 c + nI 2 * Ar hx 6 c)) k && decide (hol k < cc)))) := by
  have p := lp_in (f := fun i (a : pm_H) => v42_2b q cc gc a i) (P := fun c a => HC q cc gc a ∧ frm [13, 14] [(13, 5)] hx a ∧ (∀ k, k < 6 → Ar a 14 k = if k < c then gx (Fi hx 13 5) (Ar hx 9) (Ar hx 11) hol (fun c => imin (nI 999) (Ar hx 14 c + nI 2 * Ar hx 6 c)) gc k else Ar hx 14 k) ∧ ∀ k, k < 32 → bit (Fi a 13 5) k = (bit (Fi hx 13 5) k || (decide (k < gc) && (dy (Fi hx 13 5) (Ar hx 9) (Ar hx 11) hol (fun c => imin (nI 999) (Ar hx 14 c + nI 2 * Ar hx 6 c)) k && decide (hol k < c))))) cc 0 hx ⟨hw, fr_0, fun k hk => (by rw [if_neg (Nat.not_lt_zero k)]), fun k hk => (by rw [decide_eq_false (Nat.not_lt_zero (hol k)), Bool.and_false, Bool.and_false, Bool.or_false])⟩ (fun c a _ hc p => by
    obtain ⟨p1, p2, p3, p4⟩ := p
    have a17 : Ar a 17 = Ar hx 17 := Ar_e (p2.1 17 rfl)
    have a11 : Ar a 11 = Ar hx 11 := Ar_e (p2.1 11 rfl)
    have a9 : Ar a 9 = Ar hx 9 := Ar_e (p2.1 9 rfl)
    have a6 : Ar a 6 = Ar hx 6 := Ar_e (p2.1 6 rfl)
    have hcc : c < cc := by omega
    obtain ⟨w1, w2, w3, w4⟩ := mon_in (hol := hol) (D := Fi hx 13 5) (G := fun c => imin (nI 999) (Ar hx 14 c + nI 2 * Ar hx 6 c)) h8 p1 (fun j hj => by rw [a17]; exact hh j hj) hR (fun j hj => by rw [a11]; exact hE j hj) hcc (by rw [a9, a11]; exact p4) gc (Nat.le_refl gc)
    rw [a9, a11] at w3 w4
    have eG : imin (nI 999) (Ar a 14 c + nI 2 * Ar a 6 c) = imin (nI 999) (Ar hx 14 c + nI 2 * Ar hx 6 c) := by
      rw [a6, p3 c (by omega), if_neg (Nat.lt_irrefl c)]
    rw [show v42_2b q cc gc a c = v43 q cc gc a c from rfl]
    unfold v43
    rw [eG]
    refine ⟨hc_a rfl rfl w1, fr_a rfl rfl (fr_g rfl rfl w2 p2), fun k hk => ?_, fun k hk => ?_⟩
    · rw [Ar_s, w3]
      by_cases z : k = c
      · rw [up_e z, if_pos (by omega), z]
      · rw [up_n z, p3 k hk]
        by_cases y : k < c
        · rw [if_pos y, if_pos (by omega)]
        · rw [if_neg y, if_neg (by omega)]
    · rw [Fi_a (by decide), w4 k hk]
      have e3 : (decide (hol k < c) || (decide (hol k = c) && decide (k < gc))) = ((decide (hol k < c + 1) && decide (k < gc)) || decide (hol k < c)) := by
        rw [Bool.eq_iff_iff]
        simp only [Bool.or_eq_true, Bool.and_eq_true, decide_eq_true_iff]
        omega
      rw [e3]
      cases z : decide (k < gc) with
      | false => rw [Bool.false_and, Bool.false_and]
      | true =>
        rw [Bool.and_true]
        have e4 : (decide (hol k < c + 1) || decide (hol k < c)) = decide (hol k < c + 1) := by
          rw [Bool.eq_iff_iff]
          simp only [Bool.or_eq_true, decide_eq_true_iff]
          omega
        rw [e4])
  rw [Nat.zero_add] at p
  exact p
/-- the reference's month -/
theorem mon_m {hm : pm_H} (h8 : gc ≤ 8) (h6 : cc ≤ 6) (hw : HC q cc gc hm) (hh : ∀ j, j < gc → Ar hm 170 (78 + j) = nI (hol j) ∧ hol j < cc) (hE : ∀ j, j < gc → 0 ≤ (Ar hm 168 j).toInt ∧ (Ar hm 168 j).toInt ≤ 9) (hR : ∀ c, c < cc → 0 ≤ (imin (nI 999) (Ar hm 170 c + nI 2 * Ar hm 164 c)).toInt ∧ (imin (nI 999) (Ar hm 170 c + nI 2 * Ar hm 164 c)).toInt ≤ 999) : HC q cc gc (v219 q cc gc hm) ∧ frm [170] [] hm (v219 q cc gc hm) ∧ (∀ k, k < 6 → Ar (v219 q cc gc hm) 170 k = if k < cc then gx (Ar hm 170 94) (Ar hm 166) (Ar hm 168) hol (fun c => imin (nI 999) (Ar hm 170 c + nI 2 * Ar hm 164 c)) gc k else Ar hm 170 k) ∧ (∀ k, 6 ≤ k → k < 94 → Ar (v219 q cc gc hm) 170 k = Ar hm 170 k) ∧ (∀ k, k < 32 → bit (Ar (v219 q cc gc hm) 170 94) k = (bit (Ar hm 170 94) k || (decide (k < gc) && dy (Ar hm 170 94) (Ar hm 166) (Ar hm 168) hol (fun c => imin (nI 999) (Ar hm 170 c + nI 2 * Ar hm 164 c)) k))) ∧ Ar (v219 q cc gc hm) 170 95 = Ar hm 170 95 + nI 1 := by
  have p := lp_in (f := fun i (a : pm_H) => v219_2b q cc gc a i) (P := fun c a => HC q cc gc a ∧ frm [170] [] hm a ∧ ∀ k, k < 96 → Ar a 170 k = if k < c then imin (nI 999) (Ar hm 170 k + nI 2 * Ar hm 164 k) else Ar hm 170 k) cc 0 hm ⟨hw, fr_0, fun k hk => (by rw [if_neg (Nat.not_lt_zero k)])⟩ (fun c a _ hc p => by
    obtain ⟨p1, p2, p3⟩ := p
    have a4 : Ar a 164 = Ar hm 164 := Ar_e (p2.1 164 rfl)
    unfold v219_2b
    refine ⟨hc_a rfl rfl p1, fr_a rfl rfl p2, fun k hk => ?_⟩
    rw [Ar_s, a4]
    by_cases z : k = c
    · rw [up_e z, if_pos (by omega), p3 c (by omega), if_neg (Nat.lt_irrefl c), z]
    · rw [up_n z, p3 k hk]
      by_cases y : k < c
      · rw [if_pos y, if_pos (by omega)]
      · rw [if_neg y, if_neg (by omega)])
  rw [Nat.zero_add] at p
  obtain ⟨p1, p2, p3⟩ := p
  have b0 : lp (fun i (a : pm_H) => v219_2b q cc gc a i) cc 0 hm = v219_2 q cc gc cc 0 hm := rfl
  rw [b0] at p1 p2 p3
  have r := lp_in (f := fun i (a : pm_H) => v219_39b q cc gc a i) (P := fun i a => HC q cc gc a ∧ frm [170] [] hm a ∧ (∀ k, k < 6 → Ar a 170 k = if k < cc then gx (Ar hm 170 94) (Ar hm 166) (Ar hm 168) hol (fun c => imin (nI 999) (Ar hm 170 c + nI 2 * Ar hm 164 c)) i k else Ar hm 170 k) ∧ (∀ k, 6 ≤ k → k < 96 → k ≠ 94 → Ar a 170 k = Ar hm 170 k) ∧ ∀ k, k < 32 → bit (Ar a 170 94) k = (bit (Ar hm 170 94) k || (decide (k < gc) && (dy (Ar hm 170 94) (Ar hm 166) (Ar hm 168) hol (fun c => imin (nI 999) (Ar hm 170 c + nI 2 * Ar hm 164 c)) k && decide (k < i))))) gc 0 (v219_2 q cc gc cc 0 hm) ⟨p1, p2, fun k hk => p3 k (by omega), fun k h1 h2 _ => (by rw [p3 k h2, if_neg (by omega)]), fun k hk => (by rw [p3 94 (by decide), if_neg (by omega), decide_eq_false (Nat.not_lt_zero k), Bool.and_false, Bool.and_false, Bool.or_false])⟩ (fun i a _ hi p => by
    obtain ⟨p1, p2, p3, p4, p5⟩ := p
    have a6 : Ar a 166 = Ar hm 166 := Ar_e (p2.1 166 rfl)
    have a8 : Ar a 168 = Ar hm 168 := Ar_e (p2.1 168 rfl)
    have hig : i < gc := by omega
    obtain ⟨e1, e2⟩ := hh i hig
    have e3 : Ar a 170 (78 + i) = nI (hol i) := (p4 (78 + i) (by omega) (by omega) (by omega)).trans e1
    have ri := gx_i (D := Ar hm 170 94) (kd := Ar hm 166) (hol := hol) hR hE i (hol i) (by omega) e2
    have ev : v218 q cc gc (Ar a 166) (Ar a 170) i = eat (Ar hm 170 94) (Ar hm 166) i := by
      rw [v218_is, a6]
      unfold v173
      rw [bt_eq, bit_74 (by omega), p5 i (by omega), decide_eq_false (Nat.lt_irrefl i), Bool.and_false, Bool.and_false, Bool.or_false]
      rfl
    have er : Ar a 170 (hol i) = gx (Ar hm 170 94) (Ar hm 166) (Ar hm 168) hol (fun c => imin (nI 999) (Ar hm 170 c + nI 2 * Ar hm 164 c)) i (hol i) := by
      rw [p3 (hol i) (by omega), if_pos e2]
    show HC q cc gc (v219_39b q cc gc a i) ∧ frm [170] [] hm (v219_39b q cc gc a i) ∧ _
    unfold v219_39b
    rw [ev, e3, nI_clamp (by omega), a8]
    have egn : ∀ k, k ≠ hol i → gx (Ar hm 170 94) (Ar hm 166) (Ar hm 168) hol (fun c => imin (nI 999) (Ar hm 170 c + nI 2 * Ar hm 164 c)) (i + 1) k = gx (Ar hm 170 94) (Ar hm 166) (Ar hm 168) hol (fun c => imin (nI 999) (Ar hm 170 c + nI 2 * Ar hm 164 c)) i k := by
      intro k hk
      show (if hol i = k then _ else _) = _
      rw [if_neg (fun y => hk y.symm)]
    have stay : dy (Ar hm 170 94) (Ar hm 166) (Ar hm 168) hol (fun c => imin (nI 999) (Ar hm 170 c + nI 2 * Ar hm 164 c)) i = false → ∀ k, k < 32 → bit (Ar a 170 94) k = (bit (Ar hm 170 94) k || (decide (k < gc) && (dy (Ar hm 170 94) (Ar hm 166) (Ar hm 168) hol (fun c => imin (nI 999) (Ar hm 170 c + nI 2 * Ar hm 164 c)) k && decide (k < i + 1)))) := by
      intro hd k hk
      rw [p5 k hk]
      by_cases z : k = i
      · subst z
        rw [hd, Bool.false_and, Bool.false_and]
      · have : decide (k < i + 1) = decide (k < i) := by
          rw [decide_eq_decide]
          omega
        rw [this]
    cases ze : eat (Ar hm 170 94) (Ar hm 166) i with
    | false =>
      refine ⟨p1, p2, fun k hk => ?_, p4, stay ?_⟩
      · show Ar a 170 k = _
        rw [p3 k hk]
        by_cases y : k < cc
        · rw [if_pos y, if_pos y]
          by_cases w : k = hol i
          · show _ = (if hol i = k then cond (eat (Ar hm 170 94) (Ar hm 166) i) _ _ else _)
            rw [if_pos w.symm, ze]
            rfl
          · rw [egn k w]
        · rw [if_neg y, if_neg y]
      · unfold dy
        rw [ze]
        rfl
    | true =>
      simp only [cond_true]
      refine ⟨hc_a rfl rfl p1, fr_a rfl rfl p2, fun k hk => ?_, fun k h1 h2 h3 => ?_, fun k hk => ?_⟩
      · rw [Ar_s]
        by_cases w : k = hol i
        · rw [up_e w, up_n (show hol i ≠ 94 by omega), if_pos (by omega), er, w]
          show _ = (if hol i = hol i then cond (eat (Ar hm 170 94) (Ar hm 166) i) _ _ else _)
          rw [if_pos rfl, ze]
          rfl
        · rw [up_n w, up_n (by omega), p3 k hk]
          by_cases y : k < cc
          · rw [if_pos y, if_pos y, egn k w]
          · rw [if_neg y, if_neg y]
      · rw [Ar_s, up_n (by omega), up_n h3]
        exact p4 k h1 h2 h3
      · rw [Ar_s, up_n (show 94 ≠ hol i by omega), up_e rfl, er, bit_or]
        cases zg : pm_cmp .ge (gx (Ar hm 170 94) (Ar hm 166) (Ar hm 168) hol (fun c => imin (nI 999) (Ar hm 170 c + nI 2 * Ar hm 164 c)) i (hol i)) (Ar hm 168 i) with
        | true =>
          show (bit (Ar a 170 94) k || bit (nI 0) k) = _
          rw [bit_0, Bool.or_false]
          refine stay ?_ k hk
          unfold dy
          rw [zg, Bool.not_true, Bool.and_false]
        | false =>
          show (bit (Ar a 170 94) k || bit (shl (nI 1) (nI i)) k) = _
          rw [bit_shl (by omega) hk, p5 k hk]
          by_cases z : k = i
          · subst z
            have ed : dy (Ar hm 170 94) (Ar hm 166) (Ar hm 168) hol (fun c => imin (nI 999) (Ar hm 170 c + nI 2 * Ar hm 164 c)) k = true := by
              unfold dy
              rw [ze, zg]
              rfl
            rw [ed, decide_eq_true (rfl : k = k), decide_eq_true hig, decide_eq_true (Nat.lt_succ_self k)]
            simp
          · have : decide (k < i + 1) = decide (k < i) := by
              rw [decide_eq_decide]
              omega
            rw [decide_eq_false z, this, Bool.or_false])
  rw [Nat.zero_add] at r
  obtain ⟨r1, r2, r3, r4, r5⟩ := r
  have b1 : lp (fun i (a : pm_H) => v219_39b q cc gc a i) gc 0 (v219_2 q cc gc cc 0 hm) = v219_39 q cc gc gc 0 (v219_2 q cc gc cc 0 hm) := rfl
  rw [b1] at r1 r2 r3 r4 r5
  unfold v219
  refine ⟨hc_a rfl rfl r1, fr_a rfl rfl r2, fun k hk => ?_, fun k h1 h2 => ?_, fun k hk => ?_, ?_⟩
  · rw [Ar_s, up_n (by omega)]
    exact r3 k hk
  · rw [Ar_s, up_n (by omega)]
    exact r4 k h1 (by omega) (by omega)
  · rw [Ar_s, up_n (by decide), r5 k hk]
    cases z : decide (k < gc) with
    | false => rw [Bool.false_and, Bool.false_and]
    | true => rw [Bool.and_true]
  · rw [Ar_s, up_e rfl, r4 95 (by decide) (by decide) (by decide)]
end MON
