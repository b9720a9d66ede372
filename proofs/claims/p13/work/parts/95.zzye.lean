/-! a GIFT IS SENT: both sides -/
section SND
variable {cc gc : Nat} {q : QT} {g0 e d hd ha B : Nat → Int32} {x m V G : Int32} {g c F : Nat} {had dead : Bool}
theorem up_e {f : Nat → Int32} {k j : Nat} {v : Int32} (z : j = k) : upd f k v j = v := if_pos z
theorem up_n {f : Nat → Int32} {k j : Nat} {v : Int32} (z : j ≠ k) : upd f k v j = f j := if_neg z
theorem imax_i {a b : Int32} : (imax a b).toInt = max a.toInt b.toInt := by
  unfold imax
  by_cases z : a < b
  · rw [if_pos z]
    rw [Int32.lt_iff_toInt_lt] at z
    omega
  · rw [if_neg z]
    rw [Int32.lt_iff_toInt_lt] at z
    omega
theorem imin_i {a b : Int32} : (imin a b).toInt = min a.toInt b.toInt := by
  unfold imin
  by_cases z : b < a
  · rw [if_pos z]
    rw [Int32.lt_iff_toInt_lt] at z
    omega
  · rw [if_neg z]
    rw [Int32.lt_iff_toInt_lt] at z
    omega
theorem clamp_i {k : Nat} {y : Int32} (hk : k < 2 ^ 31) : 0 ≤ (imax (nI 0) (imin (nI k) y)).toInt ∧ (imax (nI 0) (imin (nI k) y)).toInt ≤ (k : Int) := by
  rw [imax_i, imin_i, nI_toInt (by decide), nI_toInt hk]
  omega
/-- a bit -/
def bit (x : Int32) (k : Nat) : Bool := x.toBitVec.getLsbD k
/-- what is known of a row -/
def RI (cc gc : Nat) (B : Nat → Int32) : Prop := (∀ c, c < 6 → 0 ≤ (B c).toInt ∧ (B c).toInt ≤ 999) ∧ (∀ a b, a < cc → b < cc → a ≠ b → 0 ≤ (B (6 + 6 * a + b)).toInt ∧ (B (6 + 6 * a + b)).toInt ≤ 20) ∧ (∀ a b, a < 6 → b < 6 → (0 ≤ (B (42 + 6 * a + b)).toInt ∧ (B (42 + 6 * a + b)).toInt ≤ 9999) ∧ ((cc ≤ a ∨ cc ≤ b ∨ a = b) → B (42 + 6 * a + b) = 0)) ∧ HO cc gc B ∧ ∀ k, gc ≤ k → k < 32 → bit (B 94) k = false
/-- the reference's row, when gift g goes from F to c -/
def sndE (B : Nat → Int32) (F c : Nat) (G : Int32) : Nat → Int32 := upd B (6 + 6 * c + F) (imax (nI 0) (imin (nI 20) (B (6 + 6 * c + F) + G)))
def sndD (B : Nat → Int32) (F c : Nat) (had dead : Bool) (G V : Int32) : Nat → Int32 := cond had (sndE B F c G) (cond dead (sndE B F c G) (upd (upd (sndE B F c G) (42 + 6 * c + F) (cond (pm_cmp .le (sndE B F c G (42 + 6 * F + c)) 0) (imin (nI 9999) (sndE B F c G (42 + 6 * c + F) + V)) (sndE B F c G (42 + 6 * c + F)))) (42 + 6 * F + c) (nI 0)))
def snd (B : Nat → Int32) (F g c : Nat) (had dead : Bool) (G V : Int32) : Nat → Int32 := upd (upd (sndD B F c had dead G V) (78 + g) (nI c)) (86 + g) (upd (sndD B F c had dead G V) (78 + g) (nI c) (86 + g) ||| shl (nI 1) (nI c))
theorem sndE_n {j : Nat} (z : j ≠ 6 + 6 * c + F) : sndE B F c G j = B j := up_n z
theorem sndD_n {j : Nat} (z1 : j ≠ 6 + 6 * c + F) (z2 : j ≠ 42 + 6 * c + F) (z3 : j ≠ 42 + 6 * F + c) : sndD B F c had dead G V j = B j := by
  unfold sndD
  cases had with
  | true => exact sndE_n z1
  | false =>
    cases dead with
    | true => exact sndE_n z1
    | false => exact (up_n z3).trans ((up_n z2).trans (sndE_n z1))
theorem snd_n {j : Nat} (z1 : j ≠ 6 + 6 * c + F) (z2 : j ≠ 42 + 6 * c + F) (z3 : j ≠ 42 + 6 * F + c) (z4 : j ≠ 78 + g) (z5 : j ≠ 86 + g) : snd B F g c had dead G V j = B j := (up_n z5).trans ((up_n z4).trans (sndD_n z1 z2 z3))
/-- ESTEEM -/
theorem snd_e {j : Nat} (hj : j < 42) (hc : c < 6) (hF : F < 6) : snd B F g c had dead G V j = sndE B F c G j := by
  refine (up_n (by omega)).trans ((up_n (by omega)).trans ?_)
  unfold sndD
  cases had with
  | true => rfl
  | false =>
    cases dead with
    | true => rfl
    | false => exact (up_n (by omega)).trans (up_n (by omega))
/-- DUES -/
def dueD (D : Nat → Int32) (F c : Nat) (had dead : Bool) (V : Int32) (a b : Nat) : Int32 := cond had (D (42 + 6 * a + b)) (cond dead (D (42 + 6 * a + b)) (if a = F ∧ b = c then nI 0 else if a = c ∧ b = F then cond (pm_cmp .le (D (42 + 6 * F + c)) 0) (imin (nI 9999) (D (42 + 6 * c + F) + V)) (D (42 + 6 * c + F)) else D (42 + 6 * a + b)))
theorem snd_d {a b : Nat} (h1 : a < 6) (h2 : b < 6) (hc : c < 6) (hF : F < 6) : snd B F g c had dead G V (42 + 6 * a + b) = dueD B F c had dead V a b := by
  refine (up_n (by omega)).trans ((up_n (by omega)).trans ?_)
  unfold sndD dueD
  cases had with
  | true => exact sndE_n (by omega)
  | false =>
    cases dead with
    | true => exact sndE_n (by omega)
    | false =>
      show upd (upd (sndE B F c G) (42 + 6 * c + F) (cond (pm_cmp .le (sndE B F c G (42 + 6 * F + c)) 0) (imin (nI 9999) (sndE B F c G (42 + 6 * c + F) + V)) (sndE B F c G (42 + 6 * c + F)))) (42 + 6 * F + c) (nI 0) (42 + 6 * a + b) = (if a = F ∧ b = c then nI 0 else if a = c ∧ b = F then cond (pm_cmp .le (B (42 + 6 * F + c)) 0) (imin (nI 9999) (B (42 + 6 * c + F) + V)) (B (42 + 6 * c + F)) else B (42 + 6 * a + b))
      rw [sndE_n (show 42 + 6 * F + c ≠ 6 + 6 * c + F by omega), sndE_n (show 42 + 6 * c + F ≠ 6 + 6 * c + F by omega)]
      by_cases y1 : a = F ∧ b = c
      · rw [if_pos y1]
        exact up_e (by omega)
      · rw [if_neg y1, up_n (by omega)]
        by_cases y2 : a = c ∧ b = F
        · rw [if_pos y2]
          exact up_e (by omega)
        · rw [if_neg y2, up_n (by omega)]
          exact sndE_n (by omega)
theorem snd_h {j : Nat} (hj : j < 8) (hg : g < 8) (hc : c < 6) (hF : F < 6) : snd B F g c had dead G V (78 + j) = upd (fun j => B (78 + j)) g (nI c) j := by
  refine (up_n (by omega)).trans ?_
  by_cases z : j = g
  · rw [up_e z]
    exact up_e (by omega)
  · rw [up_n z]
    exact (up_n (by omega)).trans (sndD_n (by omega) (by omega) (by omega))
theorem snd_w {j : Nat} (hj : j < 8) (hg : g < 8) (hc : c < 6) (hF : F < 6) : snd B F g c had dead G V (86 + j) = upd (fun j => B (86 + j)) g (B (86 + g) ||| shl (nI 1) (nI c)) j := by
  by_cases z : j = g
  · rw [up_e z]
    refine (up_e (by omega)).trans ?_
    rw [up_n (show 86 + g ≠ 78 + g by omega), sndD_n (by omega) (by omega) (by omega)]
  · rw [up_n z]
    exact snd_n (by omega) (by omega) (by omega) (by omega) (by omega)
/-- a row stays one -/
theorem RI_snd (ri : RI cc gc B) (h6 : cc ≤ 6) (h8 : gc ≤ 8) (hg : g < gc) (hc : c < cc) (hF : F < cc) (hn : F ≠ c) (hV : 0 ≤ V.toInt ∧ V.toInt ≤ 999) : RI cc gc (snd B F g c had dead G V) := by
  obtain ⟨r1, r2, r3, r4, r5⟩ := ri
  refine ⟨fun k hk => ?_, fun a b ha hb hab => ?_, fun a b ha hb => ?_, fun j hj => ?_, ?_⟩
  · rw [snd_e (by omega) (by omega) (by omega), sndE_n (by omega)]
    exact r1 k hk
  · rw [snd_e (by omega) (by omega) (by omega)]
    by_cases z : 6 + 6 * a + b = 6 + 6 * c + F
    · unfold sndE
      rw [up_e z]
      exact clamp_i (k := 20) (by decide)
    · rw [sndE_n z]
      exact r2 a b ha hb hab
  · rw [snd_d ha hb (by omega) (by omega)]
    unfold dueD
    have r0 := r3 a b ha hb
    cases had with
    | true => exact r0
    | false =>
      cases dead with
      | true => exact r0
      | false =>
        show (0 ≤ (if a = F ∧ b = c then nI 0 else if a = c ∧ b = F then cond (pm_cmp .le (B (42 + 6 * F + c)) 0) (imin (nI 9999) (B (42 + 6 * c + F) + V)) (B (42 + 6 * c + F)) else B (42 + 6 * a + b)).toInt ∧ (if a = F ∧ b = c then nI 0 else if a = c ∧ b = F then cond (pm_cmp .le (B (42 + 6 * F + c)) 0) (imin (nI 9999) (B (42 + 6 * c + F) + V)) (B (42 + 6 * c + F)) else B (42 + 6 * a + b)).toInt ≤ 9999) ∧ ((cc ≤ a ∨ cc ≤ b ∨ a = b) → (if a = F ∧ b = c then nI 0 else if a = c ∧ b = F then cond (pm_cmp .le (B (42 + 6 * F + c)) 0) (imin (nI 9999) (B (42 + 6 * c + F) + V)) (B (42 + 6 * c + F)) else B (42 + 6 * a + b)) = 0)
        by_cases y1 : a = F ∧ b = c
        · rw [if_pos y1]
          exact ⟨by decide, fun _ => rfl⟩
        · rw [if_neg y1]
          by_cases y2 : a = c ∧ b = F
          · rw [if_pos y2]
            refine ⟨?_, fun y => by omega⟩
            have rc := (r3 c F (by omega) (by omega)).1
            cases pm_cmp .le (B (42 + 6 * F + c)) 0 with
            | false => exact rc
            | true =>
              have e1 : (B (42 + 6 * c + F) + V).toInt = (B (42 + 6 * c + F)).toInt + V.toInt := by
                rw [Int32.toInt_add, Int.bmod_eq_of_le] <;> omega
              show 0 ≤ (imin (nI 9999) (B (42 + 6 * c + F) + V)).toInt ∧ (imin (nI 9999) (B (42 + 6 * c + F) + V)).toInt ≤ 9999
              rw [imin_i, e1, nI_toInt (by decide)]
              omega
          · rw [if_neg y2]
            exact r0
  · rw [snd_h (by omega) (by omega) (by omega) (by omega)]
    by_cases z : j = g
    · rw [up_e z]
      exact ⟨c, hc, rfl⟩
    · rw [up_n z]
      exact r4 j hj
  · rw [snd_n (by omega) (by omega) (by omega) (by omega) (by omega)]
    exact r5
/-- what the class writes -/
def dueX (D : Nat → Int32) (F c : Nat) (had dead : Bool) (V : Int32) : Nat → Int32 := cond had D (cond dead D (cond (pm_cmp .le (D (F * 6 + c)) 0) (upd D (c * 6 + F) (imin (nI 9999) (D (c * 6 + F) + V))) (upd D (F * 6 + c) (nI 0))))
theorem le_0 {y : Int32} (h : 0 ≤ y.toInt) (z : pm_cmp .le y 0 = true) : y = 0 := by
  have z : y ≤ 0 := of_decide_eq_true z
  rw [Int32.le_iff_toInt_le, show (0 : Int32).toInt = 0 by decide] at z
  apply Int32.toInt_inj.mp
  rw [show (0 : Int32).toInt = 0 by decide]
  omega
theorem RS_snd (s : RS cc gc g0 e d hd ha x m B) (ri : RI cc gc B) (h6 : cc ≤ 6) (h8 : gc ≤ 8) (hg : g < gc) (hc : c < cc) (hF : F < cc) (hn : F ≠ c) : RS cc gc g0 (upd e (c * 6 + F) (imax (nI 0) (imin (nI 20) (e (c * 6 + F) + G)))) (dueX d F c had dead V) (upd hd g (nI c)) (upd ha g (ha g ||| shl (nI 1) (nI c))) x m (snd B F g c had dead G V) := by
  obtain ⟨s1, s2, s3, s4, s5, s6, s7⟩ := s
  refine ⟨fun k hk => ?_, fun a b h1 h2 h3 => ?_, fun a b h1 h2 => ?_, fun j hj => ?_, fun j hj => ?_, ?_, ?_⟩
  · rw [snd_e (by omega) (by omega) (by omega), sndE_n (by omega)]
    exact s1 k hk
  · rw [snd_e (by omega) (by omega) (by omega)]
    unfold sndE
    by_cases z : a * 6 + b = c * 6 + F
    · rw [up_e z, up_e (by omega), s2 c F hc hF (Ne.symm hn)]
    · rw [up_n z, up_n (by omega)]
      exact s2 a b h1 h2 h3
  · rw [snd_d h1 h2 (by omega) (by omega)]
    unfold dueX dueD
    have t0 := s3 a b h1 h2
    cases had with
    | true => exact t0
    | false =>
      cases dead with
      | true => exact t0
      | false =>
        show cond (pm_cmp .le (d (F * 6 + c)) 0) (upd d (c * 6 + F) (imin (nI 9999) (d (c * 6 + F) + V))) (upd d (F * 6 + c) (nI 0)) (a * 6 + b) = (if a = F ∧ b = c then nI 0 else if a = c ∧ b = F then cond (pm_cmp .le (B (42 + 6 * F + c)) 0) (imin (nI 9999) (B (42 + 6 * c + F) + V)) (B (42 + 6 * c + F)) else B (42 + 6 * a + b))
        rw [s3 F c (by omega) (by omega)]
        cases z : pm_cmp .le (B (42 + 6 * F + c)) 0 with
        | true =>
          show upd d (c * 6 + F) (imin (nI 9999) (d (c * 6 + F) + V)) (a * 6 + b) = (if a = F ∧ b = c then nI 0 else if a = c ∧ b = F then imin (nI 9999) (B (42 + 6 * c + F) + V) else B (42 + 6 * a + b))
          by_cases y1 : a = F ∧ b = c
          · rw [if_pos y1, up_n (by omega), t0]
            obtain ⟨rfl, rfl⟩ := y1
            exact le_0 (ri.2.2.1 a b h1 h2).1.1 z
          · rw [if_neg y1]
            by_cases y2 : a = c ∧ b = F
            · rw [if_pos y2, up_e (by omega), s3 c F (by omega) (by omega)]
            · rw [if_neg y2, up_n (by omega)]
              exact t0
        | false =>
          show upd d (F * 6 + c) (nI 0) (a * 6 + b) = (if a = F ∧ b = c then nI 0 else if a = c ∧ b = F then B (42 + 6 * c + F) else B (42 + 6 * a + b))
          by_cases y1 : a = F ∧ b = c
          · rw [if_pos y1, up_e (by omega)]
          · rw [if_neg y1, up_n (by omega), t0]
            by_cases y2 : a = c ∧ b = F
            · rw [if_pos y2, y2.1, y2.2]
            · rw [if_neg y2]
  · rw [snd_h (by omega) (by omega) (by omega) (by omega)]
    by_cases z : j = g
    · rw [up_e z, up_e z]
    · rw [up_n z, up_n z]
      exact s4 j hj
  · rw [snd_w (by omega) (by omega) (by omega) (by omega)]
    by_cases z : j = g
    · rw [up_e z, up_e z, s5 g hg]
    · rw [up_n z, up_n z]
      exact s5 j hj
  · rw [snd_n (by omega) (by omega) (by omega) (by omega) (by omega)]
    exact s6
  · rw [snd_n (by omega) (by omega) (by omega) (by omega) (by omega)]
    exact s7
/-- how much more is thought of the sender -/
theorem gain_eq {o : Int32} {had dead : Bool} (ho : 0 ≤ o.toInt) : cond had (Int32.ofInt (-6)) (cond dead (Int32.ofInt (-4)) (cond (pm_cmp .gt o 0) (cond (pm_cmp .ge (nI 2 * V) o) (cond (pm_cmp .le V (nI 2 * o)) (nI 4) (Int32.ofInt (-2))) (Int32.ofInt (-5))) (nI 2))) = cond had (Int32.ofInt (-6)) (cond dead (Int32.ofInt (-4)) (v216 q cc gc V o)) := by
  unfold v216
  have e : pm_cmp .gt o 0 = pm_cmp .ne o 0 := by
    simp only [pm_cmp]
    rw [decide_eq_decide, Int32.lt_iff_toInt_lt, show (0 : Int32).toInt = 0 by decide]
    constructor
    · rintro h rfl
      exact absurd h (by decide)
    · intro h
      have : o.toInt ≠ 0 := fun y => h (Int32.toInt_inj.mp (by rw [y]; decide))
      omega
  rw [e]
/-- the class's deliver, told by its arrays -/
theorem v40_is {h : pm_H} : v40 q cc gc h g c V = cond (v76 q cc gc (Ar h 18) (Fi h 13 5) g c) (cond (pm_cmp .le (Ar h 16 (((Ar h 17 g).toNatClampNeg) * 6 + c)) 0) (aset (aset (aset (aset h 15 36 (upd (Ar h 15) (c * 6 + ((Ar h 17 g).toNatClampNeg)) (imax (nI 0) (imin (nI 20) (Ar h 15 (c * 6 + ((Ar h 17 g).toNatClampNeg)) + v77 q cc gc (Ar h 18) (Fi h 13 5) g c (Ar h 16 (((Ar h 17 g).toNatClampNeg) * 6 + c)) V))))) 16 36 (upd (Ar h 16) (c * 6 + ((Ar h 17 g).toNatClampNeg)) (imin (nI 9999) (Ar h 16 (c * 6 + ((Ar h 17 g).toNatClampNeg)) + V)))) 17 8 (upd (Ar h 17) g (nI c))) 18 8 (upd (Ar h 18) g (Ar h 18 g ||| shl (nI 1) (nI c)))) (aset (aset (aset (aset h 15 36 (upd (Ar h 15) (c * 6 + ((Ar h 17 g).toNatClampNeg)) (imax (nI 0) (imin (nI 20) (Ar h 15 (c * 6 + ((Ar h 17 g).toNatClampNeg)) + v77 q cc gc (Ar h 18) (Fi h 13 5) g c (Ar h 16 (((Ar h 17 g).toNatClampNeg) * 6 + c)) V))))) 16 36 (upd (Ar h 16) (((Ar h 17 g).toNatClampNeg) * 6 + c) (nI 0))) 17 8 (upd (Ar h 17) g (nI c))) 18 8 (upd (Ar h 18) g (Ar h 18 g ||| shl (nI 1) (nI c))))) (aset (aset (aset h 15 36 (upd (Ar h 15) (c * 6 + ((Ar h 17 g).toNatClampNeg)) (imax (nI 0) (imin (nI 20) (Ar h 15 (c * 6 + ((Ar h 17 g).toNatClampNeg)) + v77 q cc gc (Ar h 18) (Fi h 13 5) g c (Ar h 16 (((Ar h 17 g).toNatClampNeg) * 6 + c)) V))))) 17 8 (upd (Ar h 17) g (nI c))) 18 8 (upd (Ar h 18) g (Ar h 18 g ||| shl (nI 1) (nI c)))) := rfl
theorem v40_ar {h : pm_H} : Ar (v40 q cc gc h g c V) 15 = upd (Ar h 15) (c * 6 + ((Ar h 17 g).toNatClampNeg)) (imax (nI 0) (imin (nI 20) (Ar h 15 (c * 6 + ((Ar h 17 g).toNatClampNeg)) + v77 q cc gc (Ar h 18) (Fi h 13 5) g c (Ar h 16 (((Ar h 17 g).toNatClampNeg) * 6 + c)) V))) ∧ Ar (v40 q cc gc h g c V) 16 = dueX (Ar h 16) ((Ar h 17 g).toNatClampNeg) c (v75 q cc gc (Ar h 18) g c) (v74 q cc gc (Fi h 13 5) g) V ∧ Ar (v40 q cc gc h g c V) 17 = upd (Ar h 17) g (nI c) ∧ Ar (v40 q cc gc h g c V) 18 = upd (Ar h 18) g (Ar h 18 g ||| shl (nI 1) (nI c)) := by
  rw [v40_is]
  unfold dueX v76
  cases v75 q cc gc (Ar h 18) g c with
  | true =>
    refine ⟨?_, ?_, ?_, ?_⟩
    · exact (Ar_n (by decide)).trans ((Ar_n (by decide)).trans Ar_s)
    · exact (Ar_n (by decide)).trans ((Ar_n (by decide)).trans (Ar_n (by decide)))
    · exact (Ar_n (by decide)).trans Ar_s
    · exact Ar_s
  | false =>
    cases v74 q cc gc (Fi h 13 5) g with
    | true =>
      refine ⟨?_, ?_, ?_, ?_⟩
      · exact (Ar_n (by decide)).trans ((Ar_n (by decide)).trans Ar_s)
      · exact (Ar_n (by decide)).trans ((Ar_n (by decide)).trans (Ar_n (by decide)))
      · exact (Ar_n (by decide)).trans Ar_s
      · exact Ar_s
    | false =>
      cases pm_cmp .le (Ar h 16 (((Ar h 17 g).toNatClampNeg) * 6 + c)) 0 with
      | true =>
        refine ⟨?_, ?_, ?_, ?_⟩
        · exact (Ar_n (by decide)).trans ((Ar_n (by decide)).trans ((Ar_n (by decide)).trans Ar_s))
        · exact (Ar_n (by decide)).trans ((Ar_n (by decide)).trans Ar_s)
        · exact (Ar_n (by decide)).trans Ar_s
        · exact Ar_s
      | false =>
        refine ⟨?_, ?_, ?_, ?_⟩
        · exact (Ar_n (by decide)).trans ((Ar_n (by decide)).trans ((Ar_n (by decide)).trans Ar_s))
        · exact (Ar_n (by decide)).trans ((Ar_n (by decide)).trans Ar_s)
        · exact (Ar_n (by decide)).trans Ar_s
        · exact Ar_s
/-- the reference's sends, where it goes through -/
theorem v217_is {h : pm_H} (hg : g < gc) (hc : c < cc) (hn : ((Ar h 170 (78 + g)).toNatClampNeg) ≠ c) : ∃ h2, (v217 q cc gc h g c).1 = sndE (Ar h 170) ((Ar h 170 (78 + g)).toNatClampNeg) c (cond (v164 q cc gc (Ar h 170 (86 + g)) (nI c)) (Int32.ofInt (-6)) (cond (v173 q cc gc (Ar h 170) g) (Int32.ofInt (-4)) (v216 q cc gc ((v201 q cc gc h g c).1) (Ar h 170 (42 + 6 * ((Ar h 170 (78 + g)).toNatClampNeg) + c))))) (6 + 6 * c + ((Ar h 170 (78 + g)).toNatClampNeg)) ∧ (v217 q cc gc h g c).2 = aset h2 170 96 (snd (Ar h 170) ((Ar h 170 (78 + g)).toNatClampNeg) g c (v164 q cc gc (Ar h 170 (86 + g)) (nI c)) (v173 q cc gc (sndE (Ar h 170) ((Ar h 170 (78 + g)).toNatClampNeg) c (cond (v164 q cc gc (Ar h 170 (86 + g)) (nI c)) (Int32.ofInt (-6)) (cond (v173 q cc gc (Ar h 170) g) (Int32.ofInt (-4)) (v216 q cc gc ((v201 q cc gc h g c).1) (Ar h 170 (42 + 6 * ((Ar h 170 (78 + g)).toNatClampNeg) + c)))))) g) (cond (v164 q cc gc (Ar h 170 (86 + g)) (nI c)) (Int32.ofInt (-6)) (cond (v173 q cc gc (Ar h 170) g) (Int32.ofInt (-4)) (v216 q cc gc ((v201 q cc gc h g c).1) (Ar h 170 (42 + 6 * ((Ar h 170 (78 + g)).toNatClampNeg) + c))))) ((v201 q cc gc h g c).1)) := by
  unfold v217
  have en : decide (¬ ((Ar h 170 (78 + g)).toNatClampNeg) = c) = true := decide_eq_true hn
  rw [decide_eq_true hg, decide_eq_true hc, en]
  unfold snd sndD
  cases v164 q cc gc (Ar h 170 (86 + g)) (nI c) with
  | true => exact ⟨_, rfl, rfl⟩
  | false =>
    unfold sndE
    simp only [cond_true, cond_false]
    cases v173 q cc gc (upd (Ar h 170) (6 + 6 * c + ((Ar h 170 (78 + g)).toNatClampNeg)) (imax (nI 0) (imin (nI 20) (Ar h 170 (6 + 6 * c + ((Ar h 170 (78 + g)).toNatClampNeg)) + cond (v173 q cc gc (Ar h 170) g) (Int32.ofInt (-4)) (v216 q cc gc ((v201 q cc gc h g c).1) (Ar h 170 (42 + 6 * ((Ar h 170 (78 + g)).toNatClampNeg) + c))))))) g with
    | true => exact ⟨_, rfl, rfl⟩
    | false => exact ⟨_, rfl, rfl⟩
/-- the class's deliver, told by its arrays -/
theorem v40t_is {h : pm_H} : v40t q cc gc h g c V = cond (v76 q cc gc (Ar h 24) (Fi h 19 5) g c) (cond (pm_cmp .le (Ar h 22 (((Ar h 23 g).toNatClampNeg) * 6 + c)) 0) (aset (aset (aset (aset h 21 36 (upd (Ar h 21) (c * 6 + ((Ar h 23 g).toNatClampNeg)) (imax (nI 0) (imin (nI 20) (Ar h 21 (c * 6 + ((Ar h 23 g).toNatClampNeg)) + v77 q cc gc (Ar h 24) (Fi h 19 5) g c (Ar h 22 (((Ar h 23 g).toNatClampNeg) * 6 + c)) V))))) 22 36 (upd (Ar h 22) (c * 6 + ((Ar h 23 g).toNatClampNeg)) (imin (nI 9999) (Ar h 22 (c * 6 + ((Ar h 23 g).toNatClampNeg)) + V)))) 23 8 (upd (Ar h 23) g (nI c))) 24 8 (upd (Ar h 24) g (Ar h 24 g ||| shl (nI 1) (nI c)))) (aset (aset (aset (aset h 21 36 (upd (Ar h 21) (c * 6 + ((Ar h 23 g).toNatClampNeg)) (imax (nI 0) (imin (nI 20) (Ar h 21 (c * 6 + ((Ar h 23 g).toNatClampNeg)) + v77 q cc gc (Ar h 24) (Fi h 19 5) g c (Ar h 22 (((Ar h 23 g).toNatClampNeg) * 6 + c)) V))))) 22 36 (upd (Ar h 22) (((Ar h 23 g).toNatClampNeg) * 6 + c) (nI 0))) 23 8 (upd (Ar h 23) g (nI c))) 24 8 (upd (Ar h 24) g (Ar h 24 g ||| shl (nI 1) (nI c))))) (aset (aset (aset h 21 36 (upd (Ar h 21) (c * 6 + ((Ar h 23 g).toNatClampNeg)) (imax (nI 0) (imin (nI 20) (Ar h 21 (c * 6 + ((Ar h 23 g).toNatClampNeg)) + v77 q cc gc (Ar h 24) (Fi h 19 5) g c (Ar h 22 (((Ar h 23 g).toNatClampNeg) * 6 + c)) V))))) 23 8 (upd (Ar h 23) g (nI c))) 24 8 (upd (Ar h 24) g (Ar h 24 g ||| shl (nI 1) (nI c)))) := rfl
theorem v40t_ar {h : pm_H} : Ar (v40t q cc gc h g c V) 21 = upd (Ar h 21) (c * 6 + ((Ar h 23 g).toNatClampNeg)) (imax (nI 0) (imin (nI 20) (Ar h 21 (c * 6 + ((Ar h 23 g).toNatClampNeg)) + v77 q cc gc (Ar h 24) (Fi h 19 5) g c (Ar h 22 (((Ar h 23 g).toNatClampNeg) * 6 + c)) V))) ∧ Ar (v40t q cc gc h g c V) 22 = dueX (Ar h 22) ((Ar h 23 g).toNatClampNeg) c (v75 q cc gc (Ar h 24) g c) (v74 q cc gc (Fi h 19 5) g) V ∧ Ar (v40t q cc gc h g c V) 23 = upd (Ar h 23) g (nI c) ∧ Ar (v40t q cc gc h g c V) 24 = upd (Ar h 24) g (Ar h 24 g ||| shl (nI 1) (nI c)) := by
  rw [v40t_is]
  unfold dueX v76
  cases v75 q cc gc (Ar h 24) g c with
  | true =>
    refine ⟨?_, ?_, ?_, ?_⟩
    · exact (Ar_n (by decide)).trans ((Ar_n (by decide)).trans Ar_s)
    · exact (Ar_n (by decide)).trans ((Ar_n (by decide)).trans (Ar_n (by decide)))
    · exact (Ar_n (by decide)).trans Ar_s
    · exact Ar_s
  | false =>
    cases v74 q cc gc (Fi h 19 5) g with
    | true =>
      refine ⟨?_, ?_, ?_, ?_⟩
      · exact (Ar_n (by decide)).trans ((Ar_n (by decide)).trans Ar_s)
      · exact (Ar_n (by decide)).trans ((Ar_n (by decide)).trans (Ar_n (by decide)))
      · exact (Ar_n (by decide)).trans Ar_s
      · exact Ar_s
    | false =>
      cases pm_cmp .le (Ar h 22 (((Ar h 23 g).toNatClampNeg) * 6 + c)) 0 with
      | true =>
        refine ⟨?_, ?_, ?_, ?_⟩
        · exact (Ar_n (by decide)).trans ((Ar_n (by decide)).trans ((Ar_n (by decide)).trans Ar_s))
        · exact (Ar_n (by decide)).trans ((Ar_n (by decide)).trans Ar_s)
        · exact (Ar_n (by decide)).trans Ar_s
        · exact Ar_s
      | false =>
        refine ⟨?_, ?_, ?_, ?_⟩
        · exact (Ar_n (by decide)).trans ((Ar_n (by decide)).trans ((Ar_n (by decide)).trans Ar_s))
        · exact (Ar_n (by decide)).trans ((Ar_n (by decide)).trans Ar_s)
        · exact (Ar_n (by decide)).trans Ar_s
        · exact Ar_s
/-- the reference's sends, where it goes through -/
theorem v217t_is {h : pm_H} (hg : g < gc) (hc : c < cc) (hn : ((Ar h 171 (78 + g)).toNatClampNeg) ≠ c) : ∃ h2, (v217t q cc gc h g c).1 = sndE (Ar h 171) ((Ar h 171 (78 + g)).toNatClampNeg) c (cond (v164 q cc gc (Ar h 171 (86 + g)) (nI c)) (Int32.ofInt (-6)) (cond (v173 q cc gc (Ar h 171) g) (Int32.ofInt (-4)) (v216 q cc gc ((v201t q cc gc h g c).1) (Ar h 171 (42 + 6 * ((Ar h 171 (78 + g)).toNatClampNeg) + c))))) (6 + 6 * c + ((Ar h 171 (78 + g)).toNatClampNeg)) ∧ (v217t q cc gc h g c).2 = aset h2 171 96 (snd (Ar h 171) ((Ar h 171 (78 + g)).toNatClampNeg) g c (v164 q cc gc (Ar h 171 (86 + g)) (nI c)) (v173 q cc gc (sndE (Ar h 171) ((Ar h 171 (78 + g)).toNatClampNeg) c (cond (v164 q cc gc (Ar h 171 (86 + g)) (nI c)) (Int32.ofInt (-6)) (cond (v173 q cc gc (Ar h 171) g) (Int32.ofInt (-4)) (v216 q cc gc ((v201t q cc gc h g c).1) (Ar h 171 (42 + 6 * ((Ar h 171 (78 + g)).toNatClampNeg) + c)))))) g) (cond (v164 q cc gc (Ar h 171 (86 + g)) (nI c)) (Int32.ofInt (-6)) (cond (v173 q cc gc (Ar h 171) g) (Int32.ofInt (-4)) (v216 q cc gc ((v201t q cc gc h g c).1) (Ar h 171 (42 + 6 * ((Ar h 171 (78 + g)).toNatClampNeg) + c))))) ((v201t q cc gc h g c).1)) := by
  unfold v217t
  have en : decide (¬ ((Ar h 171 (78 + g)).toNatClampNeg) = c) = true := decide_eq_true hn
  rw [decide_eq_true hg, decide_eq_true hc, en]
  unfold snd sndD
  cases v164 q cc gc (Ar h 171 (86 + g)) (nI c) with
  | true => exact ⟨_, rfl, rfl⟩
  | false =>
    unfold sndE
    simp only [cond_true, cond_false]
    cases v173 q cc gc (upd (Ar h 171) (6 + 6 * c + ((Ar h 171 (78 + g)).toNatClampNeg)) (imax (nI 0) (imin (nI 20) (Ar h 171 (6 + 6 * c + ((Ar h 171 (78 + g)).toNatClampNeg)) + cond (v173 q cc gc (Ar h 171) g) (Int32.ofInt (-4)) (v216 q cc gc ((v201t q cc gc h g c).1) (Ar h 171 (42 + 6 * ((Ar h 171 (78 + g)).toNatClampNeg) + c))))))) g with
    | true => exact ⟨_, rfl, rfl⟩
    | false => exact ⟨_, rfl, rfl⟩
end SND
