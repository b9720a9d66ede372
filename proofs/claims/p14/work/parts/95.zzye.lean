section MG95zzyex0
/-! a GIFT IS SENT: both sides -/
section SND
variable {cc gc : Nat} {q : QT} {g0 e d hd ha B : Nat → Int32} {x m V G : Int32} {g c F : Nat} {had dead : Bool}
theorem up_e {f : Nat → Int32} {k j : Nat} {v : Int32} (z : j = k) : upd f k v j = v := if_pos z
theorem up_n {f : Nat → Int32} {k j : Nat} {v : Int32} (z : j ≠ k) : upd f k v j = f j := if_neg z
theorem imax_i {a b : Int32} : (imax a b).toInt = max a.toInt b.toInt := by
  unfold imax
  by_cases z : a < b
  · rw [if_pos z]
    rw [Int32.lt_iff_toInt_lt] at z
    omega
  · rw [if_neg z]
    rw [Int32.lt_iff_toInt_lt] at z
    omega
theorem imin_i {a b : Int32} : (imin a b).toInt = min a.toInt b.toInt := by
  unfold imin
  by_cases z : b < a
  · rw [if_pos z]
    rw [Int32.lt_iff_toInt_lt] at z
    omega
  · rw [if_neg z]
    rw [Int32.lt_iff_toInt_lt] at z
    omega
theorem clamp_i {k : Nat} {y : Int32} (hk : k < 2 ^ 31) : 0 ≤ (imax (nI 0) (imin (nI k) y)).toInt ∧ (imax (nI 0) (imin (nI k) y)).toInt ≤ (k : Int) := by
  rw [imax_i, imin_i, nI_toInt (by decide), nI_toInt hk]
  omega
/-- a bit -/
def bit (x : Int32) (k : Nat) : Bool := x.toBitVec.getLsbD k
/-- what is known of a row -/
def RI (cc gc : Nat) (B : Nat → Int32) : Prop := (∀ c, c < 6 → 0 ≤ (B c).toInt ∧ (B c).toInt ≤ 999) ∧ (∀ a b, a < cc → b < cc → a ≠ b → 0 ≤ (B (6 + 6 * a + b)).toInt ∧ (B (6 + 6 * a + b)).toInt ≤ 20) ∧ (∀ a b, a < 6 → b < 6 → (0 ≤ (B (42 + 6 * a + b)).toInt ∧ (B (42 + 6 * a + b)).toInt ≤ 9999) ∧ ((cc ≤ a ∨ cc ≤ b ∨ a = b) → B (42 + 6 * a + b) = 0)) ∧ HO cc gc B ∧ ∀ k, gc ≤ k → k < 32 → bit (B 94) k = false
/-- the reference's row, when gift g goes from F to c -/
def sndE (B : Nat → Int32) (F c : Nat) (G : Int32) : Nat → Int32 := upd B (6 + 6 * c + F) (imax (nI 0) (imin (nI 20) (B (6 + 6 * c + F) + G)))
def sndD (B : Nat → Int32) (F c : Nat) (had dead : Bool) (G V : Int32) : Nat → Int32 := cond had (sndE B F c G) (cond dead (sndE B F c G) (upd (upd (sndE B F c G) (42 + 6 * c + F) (cond (pm_cmp .le (sndE B F c G (42 + 6 * F + c)) 0) (imin (nI 9999) (sndE B F c G (42 + 6 * c + F) + V)) (sndE B F c G (42 + 6 * c + F)))) (42 + 6 * F + c) (nI 0)))
def snd (B : Nat → Int32) (F g c : Nat) (had dead : Bool) (G V : Int32) : Nat → Int32 := upd (upd (sndD B F c had dead G V) (78 + g) (nI c)) (86 + g) (upd (sndD B F c had dead G V) (78 + g) (nI c) (86 + g) ||| shl (nI 1) (nI c))
theorem sndE_n {j : Nat} (z : j ≠ 6 + 6 * c + F) : sndE B F c G j = B j := up_n z
theorem sndD_n {j : Nat} (z1 : j ≠ 6 + 6 * c + F) (z2 : j ≠ 42 + 6 * c + F) (z3 : j ≠ 42 + 6 * F + c) : sndD B F c had dead G V j = B j := by
  unfold sndD
  cases had with
  | true => exact sndE_n z1
  | false =>
    cases dead with
    | true => exact sndE_n z1
    | false => exact (up_n z3).trans ((up_n z2).trans (sndE_n z1))
theorem snd_n {j : Nat} (z1 : j ≠ 6 + 6 * c + F) (z2 : j ≠ 42 + 6 * c + F) (z3 : j ≠ 42 + 6 * F + c) (z4 : j ≠ 78 + g) (z5 : j ≠ 86 + g) : snd B F g c had dead G V j = B j := (up_n z5).trans ((up_n z4).trans (sndD_n z1 z2 z3))
/-- ESTEEM -/
theorem snd_e {j : Nat} (hj : j < 42) (hc : c < 6) (hF : F < 6) : snd B F g c had dead G V j = sndE B F c G j := by
  refine (up_n (by omega)).trans ((up_n (by omega)).trans ?_)
  unfold sndD
  cases had with
  | true => rfl
  | false =>
    cases dead with
    | true => rfl
    | false => exact (up_n (by omega)).trans (up_n (by omega))
/-- DUES -/
def dueD (D : Nat → Int32) (F c : Nat) (had dead : Bool) (V : Int32) (a b : Nat) : Int32 := cond had (D (42 + 6 * a + b)) (cond dead (D (42 + 6 * a + b)) (if a = F ∧ b = c then nI 0 else if a = c ∧ b = F then cond (pm_cmp .le (D (42 + 6 * F + c)) 0) (imin (nI 9999) (D (42 + 6 * c + F) + V)) (D (42 + 6 * c + F)) else D (42 + 6 * a + b)))
theorem snd_d {a b : Nat} (h1 : a < 6) (h2 : b < 6) (hc : c < 6) (hF : F < 6) : snd B F g c had dead G V (42 + 6 * a + b) = dueD B F c had dead V a b := by
  refine (up_n (by omega)).trans ((up_n (by omega)).trans ?_)
  unfold sndD dueD
  cases had with
  | true => exact sndE_n (by omega)
  | false =>
    cases dead with
    | true => exact sndE_n (by omega)
    | false =>
      show upd (upd (sndE B F c G) (42 + 6 * c + F) (cond (pm_cmp .le (sndE B F c G (42 + 6 * F + c)) 0) (imin (nI 9999) (sndE B F c G (42 + 6 * c + F) + V)) (sndE B F c G (42 + 6 * c + F)))) (42 + 6 * F + c) (nI 0) (42 + 6 * a + b) = (if a = F ∧ b = c then nI 0 else if a = c ∧ b = F then cond (pm_cmp .le (B (42 + 6 * F + c)) 0) (imin (nI 9999) (B (42 + 6 * c + F) + V)) (B (42 + 6 * c + F)) else B (42 + 6 * a + b))
      rw [sndE_n (show 42 + 6 * F + c ≠ 6 + 6 * c + F by omega), sndE_n (show 42 + 6 * c + F ≠ 6 + 6 * c + F by omega)]
      by_cases y1 : a = F ∧ b = c
      · rw [if_pos y1]
        exact up_e (by omega)
      · rw [if_neg y1, up_n (by omega)]
        by_cases y2 : a = c ∧ b = F
        · rw [if_pos y2]
          exact up_e (by omega)
        · rw [if_neg y2, up_n (by omega)]
          exact sndE_n (by omega)
theorem snd_h {j : Nat} (hj : j < 8) (hg : g < 8) (hc : c < 6) (hF : F < 6) : snd B F g c had dead G V (78 + j) = upd (fun j => B (78 + j)) g (nI c) j := by
  refine (up_n (by omega)).trans ?_
  by_cases z : j = g
  · rw [up_e z]
    exact up_e (by omega)
  · rw [up_n z]
    exact (up_n (by omega)).trans (sndD_n (by omega) (by omega) (by omega))
theorem snd_w {j : Nat} (hj : j < 8) (hg : g < 8) (hc : c < 6) (hF : F < 6) : snd B F g c had dead G V (86 + j) = upd (fun j => B (86 + j)) g (B (86 + g) ||| shl (nI 1) (nI c)) j := by
  by_cases z : j = g
  · rw [up_e z]
    refine (up_e (by omega)).trans ?_
    rw [up_n (show 86 + g ≠ 78 + g by omega), sndD_n (by omega) (by omega) (by omega)]
  · rw [up_n z]
    exact snd_n (by omega) (by omega) (by omega) (by omega) (by omega)
/-- a row stays one -/
theorem RI_snd (ri : RI cc gc B) (h6 : cc ≤ 6) (h8 : gc ≤ 8) (hg : g < gc) (hc : c < cc) (hF : F < cc) (hn : F ≠ c) (hV : 0 ≤ V.toInt ∧ V.toInt ≤ 999) : RI cc gc (snd B F g c had dead G V) := by
  obtain ⟨r1, r2, r3, r4, r5⟩ := ri
  refine ⟨fun k hk => ?_, fun a b ha hb hab => ?_, fun a b ha hb => ?_, fun j hj => ?_, ?_⟩
  · rw [snd_e (by omega) (by omega) (by omega), sndE_n (by omega)]
    exact r1 k hk
  · rw [snd_e (by omega) (by omega) (by omega)]
    by_cases z : 6 + 6 * a + b = 6 + 6 * c + F
    · unfold sndE
      rw [up_e z]
      exact clamp_i (k := 20) (by decide)
    · rw [sndE_n z]
      exact r2 a b ha hb hab
  · rw [snd_d ha hb (by omega) (by omega)]
    unfold dueD
    have r0 := r3 a b ha hb
    cases had with
    | true => exact r0
    | false =>
      cases dead with
      | true => exact r0
      | false =>
        show (0 ≤ (if a = F ∧ b = c then nI 0 else if a = c ∧ b = F then cond (pm_cmp .le (B (42 + 6 * F + c)) 0) (imin (nI 9999) (B (42 + 6 * c + F) + V)) (B (42 + 6 * c + F)) else B (42 + 6 * a + b)).toInt ∧ (if a = F ∧ b = c then nI 0 else if a = c ∧ b = F then cond (pm_cmp .le (B (42 + 6 * F + c)) 0) (imin (nI 9999) (B (42 + 6 * c + F) + V)) (B (42 + 6 * c + F)) else B (42 + 6 * a + b)).toInt ≤ 9999) ∧ ((cc ≤ a ∨ cc ≤ b ∨ a = b) → (if a = F ∧ b = c then nI 0 else if a = c ∧ b = F then cond (pm_cmp .le (B (42 + 6 * F + c)) 0) (imin (nI 9999) (B (42 + 6 * c + F) + V)) (B (42 + 6 * c + F)) else B (42 + 6 * a + b)) = 0)
        by_cases y1 : a = F ∧ b = c
        · rw [if_pos y1]
          exact ⟨by decide, fun _ => rfl⟩
        · rw [if_neg y1]
          by_cases y2 : a = c ∧ b = F
          · rw [if_pos y2]
            refine ⟨?_, fun y => by omega⟩
            have rc := (r3 c F (by omega) (by omega)).1
            cases pm_cmp .le (B (42 + 6 * F + c)) 0 with
            | false => exact rc
            | true =>
              have e1 : (B (42 + 6 * c + F) + V).toInt = (B (42 + 6 * c + F)).toInt + V.toInt := by
                rw [Int32.toInt_add, Int.bmod_eq_of_le] <;> omega
              show 0 ≤ (imin (nI 9999) (B (42 + 6 * c + F) + V)).toInt ∧ (imin (nI 9999) (B (42 + 6 * c + F) + V)).toInt ≤ 9999
              rw [imin_i, e1, nI_toInt (by decide)]
              omega
          · rw [if_neg y2]
            exact r0
  · rw [snd_h (by omega) (by omega) (by omega) (by omega)]
    by_cases z : j = g
    · rw [up_e z]
      exact ⟨c, hc, rfl⟩
    · rw [up_n z]
      exact r4 j hj
  · rw [snd_n (by omega) (by omega) (by omega) (by omega) (by omega)]
    exact r5
/-- what the class writes -/
def dueX (D : Nat → Int32) (F c : Nat) (had dead : Bool) (V : Int32) : Nat → Int32 := cond had D (cond dead D (cond (pm_cmp .le (D (F * 6 + c)) 0) (upd D (c * 6 + F) (imin (nI 9999) (D (c * 6 + F) + V))) (upd D (F * 6 + c) (nI 0))))
theorem le_0 {y : Int32} (h : 0 ≤ y.toInt) (z : pm_cmp .le y 0 = true) : y = 0 := by
  have z : y ≤ 0 := of_decide_eq_true z
  rw [Int32.le_iff_toInt_le, show (0 : Int32).toInt = 0 by decide] at z
  apply Int32.toInt_inj.mp
  rw [show (0 : Int32).toInt = 0 by decide]
  omega
theorem RS_snd (s : RS cc gc g0 e d hd ha x m B) (ri : RI cc gc B) (h6 : cc ≤ 6) (h8 : gc ≤ 8) (hg : g < gc) (hc : c < cc) (hF : F < cc) (hn : F ≠ c) : RS cc gc g0 (upd e (c * 6 + F) (imax (nI 0) (imin (nI 20) (e (c * 6 + F) + G)))) (dueX d F c had dead V) (upd hd g (nI c)) (upd ha g (ha g ||| shl (nI 1) (nI c))) x m (snd B F g c had dead G V) := by
  obtain ⟨s1, s2, s3, s4, s5, s6, s7⟩ := s
  refine ⟨fun k hk => ?_, fun a b h1 h2 h3 => ?_, fun a b h1 h2 => ?_, fun j hj => ?_, fun j hj => ?_, ?_, ?_⟩
  · rw [snd_e (by omega) (by omega) (by omega), sndE_n (by omega)]
    exact s1 k hk
  · rw [snd_e (by omega) (by omega) (by omega)]
    unfold sndE
    by_cases z : a * 6 + b = c * 6 + F
    · rw [up_e z, up_e (by omega), s2 c F hc hF (Ne.symm hn)]
    · rw [up_n z, up_n (by omega)]
      exact s2 a b h1 h2 h3
  · rw [snd_d h1 h2 (by omega) (by omega)]
    unfold dueX dueD
    have t0 := s3 a b h1 h2
    cases had with
    | true => exact t0
    | false =>
      cases dead with
      | true => exact t0
      | false =>
        show cond (pm_cmp .le (d (F * 6 + c)) 0) (upd d (c * 6 + F) (imin (nI 9999) (d (c * 6 + F) + V))) (upd d (F * 6 + c) (nI 0)) (a * 6 + b) = (if a = F ∧ b = c then nI 0 else if a = c ∧ b = F then cond (pm_cmp .le (B (42 + 6 * F + c)) 0) (imin (nI 9999) (B (42 + 6 * c + F) + V)) (B (42 + 6 * c + F)) else B (42 + 6 * a + b))
        rw [s3 F c (by omega) (by omega)]
        cases z : pm_cmp .le (B (42 + 6 * F + c)) 0 with
        | true =>
          show upd d (c * 6 + F) (imin (nI 9999) (d (c * 6 + F) + V)) (a * 6 + b) = (if a = F ∧ b = c then nI 0 else if a = c ∧ b = F then imin (nI 9999) (B (42 + 6 * c + F) + V) else B (42 + 6 * a + b))
          by_cases y1 : a = F ∧ b = c
          · rw [if_pos y1, up_n (by omega), t0]
            obtain ⟨rfl, rfl⟩ := y1
            exact le_0 (ri.2.2.1 a b h1 h2).1.1 z
          · rw [if_neg y1]
            by_cases y2 : a = c ∧ b = F
            · rw [if_pos y2, up_e (by omega), s3 c F (by omega) (by omega)]
            · rw [if_neg y2, up_n (by omega)]
              exact t0
        | false =>
          show upd d (F * 6 + c) (nI 0) (a * 6 + b) = (if a = F ∧ b = c then nI 0 else if a = c ∧ b = F then B (42 + 6 * c + F) else B (42 + 6 * a + b))
          by_cases y1 : a = F ∧ b = c
          · rw [if_pos y1, up_e (by omega)]
          · rw [if_neg y1, up_n (by omega), t0]
            by_cases y2 : a = c ∧ b = F
            · rw [if_pos y2, y2.1, y2.2]
            · rw [if_neg y2]
  · rw [snd_h (by omega) (by omega) (by omega) (by omega)]
    by_cases z : j = g
    · rw [up_e z, up_e z]
    · rw [up_n z, up_n z]
      exact s4 j hj
  · rw [snd_w (by omega) (by omega) (by omega) (by omega)]
    by_cases z : j = g
    · rw [up_e z, up_e z, s5 g hg]
    · rw [up_n z, up_n z]
      exact s5 j hj
  · rw [snd_n (by omega) (by omega) (by omega) (by omega) (by omega)]
    exact s6
  · rw [snd_n (by omega) (by omega) (by omega) (by omega) (by omega)]
    exact s7
/-- how much more is thought of the sender -/
theorem gain_eq {o : Int32} {had dead : Bool} (ho : 0 ≤ o.toInt) : cond had (Int32.ofInt (-6)) (cond dead (Int32.ofInt (-4)) (cond (pm_cmp .gt o 0) (cond (pm_cmp .ge (nI 2 * V) o) (cond (pm_cmp .le V (nI 2 * o)) (nI 4) (Int32.ofInt (-2))) (Int32.ofInt (-5))) (nI 2))) = cond had (Int32.ofInt (-6)) (cond dead (Int32.ofInt (-4)) (v216 q cc gc V o)) := by
  unfold v216
  have e : pm_cmp .gt o 0 = pm_cmp .ne o 0 := by
    simp only [pm_cmp]
    rw [decide_eq_decide, Int32.lt_iff_toInt_lt, show (0 : Int32).toInt = 0 by decide]
    constructor
    · rintro h rfl
      exact absurd h (by decide)
    · intro h
      have : o.toInt ≠ 0 := fun y => h (Int32.toInt_inj.mp (by rw [y]; decide))
      omega
  rw [e]
/-- the class's deliver, told by its arrays -/
theorem v40_is {h : pm_H} : v40 q cc gc h g c V = cond (v76 q cc gc (Ar h 18) (Fi h 13 5) g c) (cond (pm_cmp .le (Ar h 16 (((Ar h 17 g).toNatClampNeg) * 6 + c)) 0) (aset (aset (aset (aset h 15 36 (upd (Ar h 15) (c * 6 + ((Ar h 17 g).toNatClampNeg)) (imax (nI 0) (imin (nI 20) (Ar h 15 (c * 6 + ((Ar h 17 g).toNatClampNeg)) + v77 q cc gc (Ar h 18) (Fi h 13 5) g c (Ar h 16 (((Ar h 17 g).toNatClampNeg) * 6 + c)) V))))) 16 36 (upd (Ar h 16) (c * 6 + ((Ar h 17 g).toNatClampNeg)) (imin (nI 9999) (Ar h 16 (c * 6 + ((Ar h 17 g).toNatClampNeg)) + V)))) 17 8 (upd (Ar h 17) g (nI c))) 18 8 (upd (Ar h 18) g (Ar h 18 g ||| shl (nI 1) (nI c)))) (aset (aset (aset (aset h 15 36 (upd (Ar h 15) (c * 6 + ((Ar h 17 g).toNatClampNeg)) (imax (nI 0) (imin (nI 20) (Ar h 15 (c * 6 + ((Ar h 17 g).toNatClampNeg)) + v77 q cc gc (Ar h 18) (Fi h 13 5) g c (Ar h 16 (((Ar h 17 g).toNatClampNeg) * 6 + c)) V))))) 16 36 (upd (Ar h 16) (((Ar h 17 g).toNatClampNeg) * 6 + c) (nI 0))) 17 8 (upd (Ar h 17) g (nI c))) 18 8 (upd (Ar h 18) g (Ar h 18 g ||| shl (nI 1) (nI c))))) (aset (aset (aset h 15 36 (upd (Ar h 15) (c * 6 + ((Ar h 17 g).toNatClampNeg)) (imax (nI 0) (imin (nI 20) (Ar h 15 (c * 6 + ((Ar h 17 g).toNatClampNeg)) + v77 q cc gc (Ar h 18) (Fi h 13 5) g c (Ar h 16 (((Ar h 17 g).toNatClampNeg) * 6 + c)) V))))) 17 8 (upd (Ar h 17) g (nI c))) 18 8 (upd (Ar h 18) g (Ar h 18 g ||| shl (nI 1) (nI c)))) := rfl
theorem v40_ar {h : pm_H} : Ar (v40 q cc gc h g c V) 15 = upd (Ar h 15) (c * 6 + ((Ar h 17 g).toNatClampNeg)) (imax (nI 0) (imin (nI 20) (Ar h 15 (c * 6 + ((Ar h 17 g).toNatClampNeg)) + v77 q cc gc (Ar h 18) (Fi h 13 5) g c (Ar h 16 (((Ar h 17 g).toNatClampNeg) * 6 + c)) V))) ∧ Ar (v40 q cc gc h g c V) 16 = dueX (Ar h 16) ((Ar h 17 g).toNatClampNeg) c (v75 q cc gc (Ar h 18) g c) (v74 q cc gc (Fi h 13 5) g) V ∧ Ar (v40 q cc gc h g c V) 17 = upd (Ar h 17) g (nI c) ∧ Ar (v40 q cc gc h g c V) 18 = upd (Ar h 18) g (Ar h 18 g ||| shl (nI 1) (nI c)) := by
  rw [v40_is]
  unfold dueX v76
  cases v75 q cc gc (Ar h 18) g c with
  | true =>
    refine ⟨?_, ?_, ?_, ?_⟩
    · exact (Ar_n (by decide)).trans ((Ar_n (by decide)).trans Ar_s)
    · exact (Ar_n (by decide)).trans ((Ar_n (by decide)).trans (Ar_n (by decide)))
    · exact (Ar_n (by decide)).trans Ar_s
    · exact Ar_s
  | false =>
    cases v74 q cc gc (Fi h 13 5) g with
    | true =>
      refine ⟨?_, ?_, ?_, ?_⟩
      · exact (Ar_n (by decide)).trans ((Ar_n (by decide)).trans Ar_s)
      · exact (Ar_n (by decide)).trans ((Ar_n (by decide)).trans (Ar_n (by decide)))
      · exact (Ar_n (by decide)).trans Ar_s
      · exact Ar_s
    | false =>
      cases pm_cmp .le (Ar h 16 (((Ar h 17 g).toNatClampNeg) * 6 + c)) 0 with
      | true =>
        refine ⟨?_, ?_, ?_, ?_⟩
        · exact (Ar_n (by decide)).trans ((Ar_n (by decide)).trans ((Ar_n (by decide)).trans Ar_s))
        · exact (Ar_n (by decide)).trans ((Ar_n (by decide)).trans Ar_s)
        · exact (Ar_n (by decide)).trans Ar_s
        · exact Ar_s
      | false =>
        refine ⟨?_, ?_, ?_, ?_⟩
        · exact (Ar_n (by decide)).trans ((Ar_n (by decide)).trans ((Ar_n (by decide)).trans Ar_s))
        · exact (Ar_n (by decide)).trans ((Ar_n (by decide)).trans Ar_s)
        · exact (Ar_n (by decide)).trans Ar_s
        · exact Ar_s
/-- the reference's sends, where it goes through -/
theorem v217_is {h : pm_H} (hg : g < gc) (hc : c < cc) (hn : ((Ar h 170 (78 + g)).toNatClampNeg) ≠ c) : ∃ h2, (v217 q cc gc h g c).1 = sndE (Ar h 170) ((Ar h 170 (78 + g)).toNatClampNeg) c (cond (v164 q cc gc (Ar h 170 (86 + g)) (nI c)) (Int32.ofInt (-6)) (cond (v173 q cc gc (Ar h 170) g) (Int32.ofInt (-4)) (v216 q cc gc ((v201 q cc gc h g c).1) (Ar h 170 (42 + 6 * ((Ar h 170 (78 + g)).toNatClampNeg) + c))))) (6 + 6 * c + ((Ar h 170 (78 + g)).toNatClampNeg)) ∧ (v217 q cc gc h g c).2 = aset h2 170 96 (snd (Ar h 170) ((Ar h 170 (78 + g)).toNatClampNeg) g c (v164 q cc gc (Ar h 170 (86 + g)) (nI c)) (v173 q cc gc (sndE (Ar h 170) ((Ar h 170 (78 + g)).toNatClampNeg) c (cond (v164 q cc gc (Ar h 170 (86 + g)) (nI c)) (Int32.ofInt (-6)) (cond (v173 q cc gc (Ar h 170) g) (Int32.ofInt (-4)) (v216 q cc gc ((v201 q cc gc h g c).1) (Ar h 170 (42 + 6 * ((Ar h 170 (78 + g)).toNatClampNeg) + c)))))) g) (cond (v164 q cc gc (Ar h 170 (86 + g)) (nI c)) (Int32.ofInt (-6)) (cond (v173 q cc gc (Ar h 170) g) (Int32.ofInt (-4)) (v216 q cc gc ((v201 q cc gc h g c).1) (Ar h 170 (42 + 6 * ((Ar h 170 (78 + g)).toNatClampNeg) + c))))) ((v201 q cc gc h g c).1)) := by
  unfold v217
  have en : decide (¬ ((Ar h 170 (78 + g)).toNatClampNeg) = c) = true := decide_eq_true hn
  rw [decide_eq_true hg, decide_eq_true hc, en]
  unfold snd sndD
  cases v164 q cc gc (Ar h 170 (86 + g)) (nI c) with
  | true => exact ⟨_, rfl, rfl⟩
  | false =>
    unfold sndE
    simp only [cond_true, cond_false]
    cases v173 q cc gc (upd (Ar h 170) (6 + 6 * c + ((Ar h 170 (78 + g)).toNatClampNeg)) (imax (nI 0) (imin (nI 20) (Ar h 170 (6 + 6 * c + ((Ar h 170 (78 + g)).toNatClampNeg)) + cond (v173 q cc gc (Ar h 170) g) (Int32.ofInt (-4)) (v216 q cc gc ((v201 q cc gc h g c).1) (Ar h 170 (42 + 6 * ((Ar h 170 (78 + g)).toNatClampNeg) + c))))))) g with
    | true => exact ⟨_, rfl, rfl⟩
    | false => exact ⟨_, rfl, rfl⟩
/-- the class's deliver, told by its arrays -/
theorem v40t_is {h : pm_H} : v40t q cc gc h g c V = cond (v76 q cc gc (Ar h 24) (Fi h 19 5) g c) (cond (pm_cmp .le (Ar h 22 (((Ar h 23 g).toNatClampNeg) * 6 + c)) 0) (aset (aset (aset (aset h 21 36 (upd (Ar h 21) (c * 6 + ((Ar h 23 g).toNatClampNeg)) (imax (nI 0) (imin (nI 20) (Ar h 21 (c * 6 + ((Ar h 23 g).toNatClampNeg)) + v77 q cc gc (Ar h 24) (Fi h 19 5) g c (Ar h 22 (((Ar h 23 g).toNatClampNeg) * 6 + c)) V))))) 22 36 (upd (Ar h 22) (c * 6 + ((Ar h 23 g).toNatClampNeg)) (imin (nI 9999) (Ar h 22 (c * 6 + ((Ar h 23 g).toNatClampNeg)) + V)))) 23 8 (upd (Ar h 23) g (nI c))) 24 8 (upd (Ar h 24) g (Ar h 24 g ||| shl (nI 1) (nI c)))) (aset (aset (aset (aset h 21 36 (upd (Ar h 21) (c * 6 + ((Ar h 23 g).toNatClampNeg)) (imax (nI 0) (imin (nI 20) (Ar h 21 (c * 6 + ((Ar h 23 g).toNatClampNeg)) + v77 q cc gc (Ar h 24) (Fi h 19 5) g c (Ar h 22 (((Ar h 23 g).toNatClampNeg) * 6 + c)) V))))) 22 36 (upd (Ar h 22) (((Ar h 23 g).toNatClampNeg) * 6 + c) (nI 0))) 23 8 (upd (Ar h 23) g (nI c))) 24 8 (upd (Ar h 24) g (Ar h 24 g ||| shl (nI 1) (nI c))))) (aset (aset (aset h 21 36 (upd (Ar h 21) (c * 6 + ((Ar h 23 g).toNatClampNeg)) (imax (nI 0) (imin (nI 20) (Ar h 21 (c * 6 + ((Ar h 23 g).toNatClampNeg)) + v77 q cc gc (Ar h 24) (Fi h 19 5) g c (Ar h 22 (((Ar h 23 g).toNatClampNeg) * 6 + c)) V))))) 23 8 (upd (Ar h 23) g (nI c))) 24 8 (upd (Ar h 24) g (Ar h 24 g ||| shl (nI 1) (nI c)))) := rfl
theorem v40t_ar {h : pm_H} : Ar (v40t q cc gc h g c V) 21 = upd (Ar h 21) (c * 6 + ((Ar h 23 g).toNatClampNeg)) (imax (nI 0) (imin (nI 20) (Ar h 21 (c * 6 + ((Ar h 23 g).toNatClampNeg)) + v77 q cc gc (Ar h 24) (Fi h 19 5) g c (Ar h 22 (((Ar h 23 g).toNatClampNeg) * 6 + c)) V))) ∧ Ar (v40t q cc gc h g c V) 22 = dueX (Ar h 22) ((Ar h 23 g).toNatClampNeg) c (v75 q cc gc (Ar h 24) g c) (v74 q cc gc (Fi h 19 5) g) V ∧ Ar (v40t q cc gc h g c V) 23 = upd (Ar h 23) g (nI c) ∧ Ar (v40t q cc gc h g c V) 24 = upd (Ar h 24) g (Ar h 24 g ||| shl (nI 1) (nI c)) := by
  rw [v40t_is]
  unfold dueX v76
  cases v75 q cc gc (Ar h 24) g c with
  | true =>
    refine ⟨?_, ?_, ?_, ?_⟩
    · exact (Ar_n (by decide)).trans ((Ar_n (by decide)).trans Ar_s)
    · exact (Ar_n (by decide)).trans ((Ar_n (by decide)).trans (Ar_n (by decide)))
    · exact (Ar_n (by decide)).trans Ar_s
    · exact Ar_s
  | false =>
    cases v74 q cc gc (Fi h 19 5) g with
    | true =>
      refine ⟨?_, ?_, ?_, ?_⟩
      · exact (Ar_n (by decide)).trans ((Ar_n (by decide)).trans Ar_s)
      · exact (Ar_n (by decide)).trans ((Ar_n (by decide)).trans (Ar_n (by decide)))
      · exact (Ar_n (by decide)).trans Ar_s
      · exact Ar_s
    | false =>
      cases pm_cmp .le (Ar h 22 (((Ar h 23 g).toNatClampNeg) * 6 + c)) 0 with
      | true =>
        refine ⟨?_, ?_, ?_, ?_⟩
        · exact (Ar_n (by decide)).trans ((Ar_n (by decide)).trans ((Ar_n (by decide)).trans Ar_s))
        · exact (Ar_n (by decide)).trans ((Ar_n (by decide)).trans Ar_s)
        · exact (Ar_n (by decide)).trans Ar_s
        · exact Ar_s
      | false =>
        refine ⟨?_, ?_, ?_, ?_⟩
        · exact (Ar_n (by decide)).trans ((Ar_n (by decide)).trans ((Ar_n (by decide)).trans Ar_s))
        · exact (Ar_n (by decide)).trans ((Ar_n (by decide)).trans Ar_s)
        · exact (Ar_n (by decide)).trans Ar_s
        · exact Ar_s
/-- the reference's sends, where it goes through -/
theorem v217t_is {h : pm_H} (hg : g < gc) (hc : c < cc) (hn : ((Ar h 171 (78 + g)).toNatClampNeg) ≠ c) : ∃ h2, (v217t q cc gc h g c).1 = sndE (Ar h 171) ((Ar h 171 (78 + g)).toNatClampNeg) c (cond (v164 q cc gc (Ar h 171 (86 + g)) (nI c)) (Int32.ofInt (-6)) (cond (v173 q cc gc (Ar h 171) g) (Int32.ofInt (-4)) (v216 q cc gc ((v201t q cc gc h g c).1) (Ar h 171 (42 + 6 * ((Ar h 171 (78 + g)).toNatClampNeg) + c))))) (6 + 6 * c + ((Ar h 171 (78 + g)).toNatClampNeg)) ∧ (v217t q cc gc h g c).2 = aset h2 171 96 (snd (Ar h 171) ((Ar h 171 (78 + g)).toNatClampNeg) g c (v164 q cc gc (Ar h 171 (86 + g)) (nI c)) (v173 q cc gc (sndE (Ar h 171) ((Ar h 171 (78 + g)).toNatClampNeg) c (cond (v164 q cc gc (Ar h 171 (86 + g)) (nI c)) (Int32.ofInt (-6)) (cond (v173 q cc gc (Ar h 171) g) (Int32.ofInt (-4)) (v216 q cc gc ((v201t q cc gc h g c).1) (Ar h 171 (42 + 6 * ((Ar h 171 (78 + g)).toNatClampNeg) + c)))))) g) (cond (v164 q cc gc (Ar h 171 (86 + g)) (nI c)) (Int32.ofInt (-6)) (cond (v173 q cc gc (Ar h 171) g) (Int32.ofInt (-4)) (v216 q cc gc ((v201t q cc gc h g c).1) (Ar h 171 (42 + 6 * ((Ar h 171 (78 + g)).toNatClampNeg) + c))))) ((v201t q cc gc h g c).1)) := by
  unfold v217t
  have en : decide (¬ ((Ar h 171 (78 + g)).toNatClampNeg) = c) = true := decide_eq_true hn
  rw [decide_eq_true hg, decide_eq_true hc, en]
  unfold snd sndD
  cases v164 q cc gc (Ar h 171 (86 + g)) (nI c) with
  | true => exact ⟨_, rfl, rfl⟩
  | false =>
    unfold sndE
    simp only [cond_true, cond_false]
    cases v173 q cc gc (upd (Ar h 171) (6 + 6 * c + ((Ar h 171 (78 + g)).toNatClampNeg)) (imax (nI 0) (imin (nI 20) (Ar h 171 (6 + 6 * c + ((Ar h 171 (78 + g)).toNatClampNeg)) + cond (v173 q cc gc (Ar h 171) g) (Int32.ofInt (-4)) (v216 q cc gc ((v201t q cc gc h g c).1) (Ar h 171 (42 + 6 * ((Ar h 171 (78 + g)).toNatClampNeg) + c))))))) g with
    | true => exact ⟨_, rfl, rfl⟩
    | false => exact ⟨_, rfl, rfl⟩
end SND
end MG95zzyex0
section MG95zzyex1
/-! a MONTH goes: both sides -/
section MON
variable {cc gc : Nat} {q : QT} {g0 e d hd ha B : Nat → Int32} {x m y z : Int32} {k c : Nat}
theorem bit_or : bit (x ||| y) k = (bit x k || bit y k) := by
  unfold bit
  rw [Int32.toBitVec_or]
  exact BitVec.getLsbD_or
theorem bit_ext (h : ∀ k, k < 32 → bit x k = bit y k) : x = y := by
  apply Int32.toBitVec_inj.mp
  apply BitVec.eq_of_getLsbD_eq
  intro i hi
  exact h i hi
theorem bit_shl {j k : Nat} (hj : j < 8) (hk : k < 32) : bit (shl (nI 1) (nI j)) k = decide (k = j) := by
  have e : ∀ j, j < 8 → ∀ k, k < 32 → bit (shl (nI 1) (nI j)) k = decide (k = j) := by decide +kernel
  exact e j hj k hk
theorem bit_0 : bit (nI 0) k = false := by
  unfold bit
  rw [show (nI 0).toBitVec = 0#32 from rfl]
  exact BitVec.getLsbD_zero
theorem bit_74 {k : Nat} (hk : k < 8) : v74 q cc gc x k = bit x k := by
  have key : ∀ (s : Nat), s < 32 → (x.toBitVec.sshiftRight s).getLsbD 0 = x.toBitVec.getLsbD s := by
    intro s hs
    rw [BitVec.getLsbD_sshiftRight]
    simp [hs]
  have sh : ∀ (s : Nat) (y : Int32), s < 32 → y.toBitVec = x.toBitVec.sshiftRight s → cond (pm_cmp .eq (y &&& nI 1) 0) false true = x.toBitVec.getLsbD s := by
    intro s y hs ey
    have e : (y &&& nI 1).toBitVec = BitVec.setWidth 32 (BitVec.ofBool (y.toBitVec.getLsbD 0)) := BitVec.and_one_eq_setWidth_ofBool_getLsbD
    rw [ey, key s hs] at e
    cases z : x.toBitVec.getLsbD s with
    | false =>
      rw [z] at e
      rw [show y &&& nI 1 = 0 from Int32.toBitVec_inj.mp e]
      decide
    | true =>
      rw [z] at e
      rw [show y &&& nI 1 = nI 1 from Int32.toBitVec_inj.mp e]
      decide
  unfold v74 shr bit
  rcases (by omega : k = 0 ∨ k = 1 ∨ k = 2 ∨ k = 3 ∨ k = 4 ∨ k = 5 ∨ k = 6 ∨ k = 7) with rfl | rfl | rfl | rfl | rfl | rfl | rfl | rfl
  · exact sh 0 _ (by decide) rfl
  · exact sh 1 _ (by decide) rfl
  · exact sh 2 _ (by decide) rfl
  · exact sh 3 _ (by decide) rfl
  · exact sh 4 _ (by decide) rfl
  · exact sh 5 _ (by decide) rfl
  · exact sh 6 _ (by decide) rfl
  · exact sh 7 _ (by decide) rfl
/-- a beast, a bear -/
def kok (k : Int32) : Bool := cond (pm_cmp .eq k (nI 1)) true (cond (pm_cmp .ne k (nI 4)) false true)
theorem v41_is {kd : Nat → Int32} : v41 q cc gc kd x k = (kok (kd k) && !(v74 q cc gc x k)) := by
  unfold v41 kok
  cases pm_cmp .eq (kd k) (nI 1) <;> cases pm_cmp .ne (kd k) (nI 4) <;> cases v74 q cc gc x k <;> rfl
theorem v218_is {kd r : Nat → Int32} : v218 q cc gc kd r k = (kok (kd k) && !(v173 q cc gc r k)) := by
  unfold v218 kok
  cases pm_cmp .eq (kd k) (nI 1) <;> cases pm_cmp .ne (kd k) (nI 4) <;> cases v173 q cc gc r k <;> rfl
/-- who eats at all, what is left, who dies -/
def eat (D : Int32) (kd : Nat → Int32) (i : Nat) : Bool := kok (kd i) && !(bit D i)
def gx (D : Int32) (kd ea : Nat → Int32) (hol : Nat → Nat) (G : Nat → Int32) : Nat → Nat → Int32
  | 0, c => G c
  | i + 1, c => if hol i = c then cond (eat D kd i) (imax (nI 0) (gx D kd ea hol G i c - ea i)) (gx D kd ea hol G i c) else gx D kd ea hol G i c
def dy (D : Int32) (kd ea : Nat → Int32) (hol : Nat → Nat) (G : Nat → Int32) (i : Nat) : Bool := eat D kd i && !(pm_cmp .ge (gx D kd ea hol G i (hol i)) (ea i))
theorem sub_i {a b : Int32} (h1 : 0 ≤ a.toInt ∧ a.toInt ≤ 999) (h2 : 0 ≤ b.toInt ∧ b.toInt ≤ 9) : (a - b).toInt = a.toInt - b.toInt := by
  rw [Int32.toInt_sub, Int.bmod_eq_of_le] <;> omega
theorem eat_x {a b : Int32} (h1 : 0 ≤ a.toInt ∧ a.toInt ≤ 999) (h2 : 0 ≤ b.toInt ∧ b.toInt ≤ 9) : imax (nI 0) (a - b) = cond (pm_cmp .ge a b) (a - b) (nI 0) := by
  unfold imax
  have e : (nI 0 < a - b) ↔ b.toInt < a.toInt := by
    rw [Int32.lt_iff_toInt_lt, sub_i h1 h2, nI_toInt (by decide)]
    omega
  have e2 : pm_cmp .ge a b = decide (b.toInt ≤ a.toInt) := by
    simp only [pm_cmp]
    rw [decide_eq_decide, Int32.le_iff_toInt_le]
  rw [e2]
  by_cases z1 : b.toInt < a.toInt
  · rw [if_pos (e.mpr z1), decide_eq_true (show b.toInt ≤ a.toInt by omega)]
    rfl
  · rw [if_neg (fun y => z1 (e.mp y))]
    by_cases z2 : b.toInt ≤ a.toInt
    · rw [decide_eq_true z2]
      show nI 0 = a - b
      apply Int32.toInt_inj.mp
      rw [sub_i h1 h2, nI_toInt (by decide)]
      omega
    · rw [decide_eq_false z2]
      rfl
theorem imx_i {a b : Int32} (h1 : 0 ≤ a.toInt ∧ a.toInt ≤ 999) (h2 : 0 ≤ b.toInt ∧ b.toInt ≤ 9) : 0 ≤ (imax (nI 0) (a - b)).toInt ∧ (imax (nI 0) (a - b)).toInt ≤ 999 := by
  rw [imax_i, sub_i h1 h2, nI_toInt (by decide)]
  omega
variable {D : Int32} {kd ea G : Nat → Int32} {hol : Nat → Nat}
theorem gx_i (hG : ∀ c, c < cc → 0 ≤ (G c).toInt ∧ (G c).toInt ≤ 999) (hE : ∀ j, j < gc → 0 ≤ (ea j).toInt ∧ (ea j).toInt ≤ 9) : ∀ i c, i ≤ gc → c < cc → 0 ≤ (gx D kd ea hol G i c).toInt ∧ (gx D kd ea hol G i c).toInt ≤ 999
  | 0, c, _, hc => hG c hc
  | i + 1, c, hi, hc => by
    have h0 := gx_i hG hE i c (by omega) hc
    unfold gx
    by_cases z : hol i = c
    · rw [if_pos z]
      cases eat D kd i with
      | false => exact h0
      | true => exact imx_i h0 (hE i (by omega))
    · rw [if_neg z]
      exact h0
/-- the class's month of one court -/
theorem mon_in {hx : pm_H} (h8 : gc ≤ 8) (hw : HC q cc gc hx) (hh : ∀ j, j < gc → Ar hx 17 j = nI (hol j) ∧ hol j < 6) (hG : ∀ c, c < cc → 0 ≤ (G c).toInt ∧ (G c).toInt ≤ 999) (hE : ∀ j, j < gc → 0 ≤ (Ar hx 11 j).toInt ∧ (Ar hx 11 j).toInt ≤ 9) {c : Nat} (hc : c < cc) (hb : ∀ k, k < 32 → bit (Fi hx 13 5) k = (bit D k || (decide (k < gc) && (dy D (Ar hx 9) (Ar hx 11) hol G k && decide (hol k < c))))) : ∀ i, i ≤ gc → HC q cc gc (v43_25 q cc gc c i 0 (G c, hx)).2 ∧ frm [13] [(13, 5)] hx (v43_25 q cc gc c i 0 (G c, hx)).2 ∧ (v43_25 q cc gc c i 0 (G c, hx)).1 = gx D (Ar hx 9) (Ar hx 11) hol G i c ∧ ∀ k, k < 32 → bit (Fi (v43_25 q cc gc c i 0 (G c, hx)).2 13 5) k = (bit D k || (decide (k < gc) && (dy D (Ar hx 9) (Ar hx 11) hol G k && (decide (hol k < c) || (decide (hol k = c) && decide (k < i)))))) := by
  intro i hi
  have p := lp_in (f := fun i (a : Int32 × pm_H) => v43_25b q cc gc a.2 c i a.1) (P := fun i a => HC q cc gc a.2 ∧ frm [13] [(13, 5)] hx a.2 ∧ a.1 = gx D (Ar hx 9) (Ar hx 11) hol G i c ∧ ∀ k, k < 32 → bit (Fi a.2 13 5) k = (bit D k || (decide (k < gc) && (dy D (Ar hx 9) (Ar hx 11) hol G k && (decide (hol k < c) || (decide (hol k = c) && decide (k < i))))))) i 0 (G c, hx) ⟨hw, fr_0, rfl, fun k hk => by
      rw [hb k hk, decide_eq_false (Nat.not_lt_zero k), Bool.and_false, Bool.or_false]⟩ (fun i a _ hi2 p => by
    obtain ⟨p1, p2, p3, p4⟩ := p
    obtain ⟨x3, h'⟩ := a
    dsimp only at p1 p2 p3 p4 ⊢
    have hig : i < gc := by omega
    have a17 : Ar h' 17 = Ar hx 17 := Ar_e (p2.1 17 rfl)
    have a11 : Ar h' 11 = Ar hx 11 := Ar_e (p2.1 11 rfl)
    have a9 : Ar h' 9 = Ar hx 9 := Ar_e (p2.1 9 rfl)
    have ri := gx_i (D := D) (kd := Ar hx 9) (hol := hol) hG hE i c (by omega) hc
    have hc6 := p1.cb
    -- the bits do not change where the gift isn't the court's
    have stay : (hol i = c → dy D (Ar hx 9) (Ar hx 11) hol G i = false) → ∀ k, k < 32 → bit (Fi h' 13 5) k = (bit D k || (decide (k < gc) && (dy D (Ar hx 9) (Ar hx 11) hol G k && (decide (hol k < c) || (decide (hol k = c) && decide (k < i + 1)))))) := by
      intro hd k hk
      rw [p4 k hk]
      by_cases z : k = i
      · subst z
        by_cases y : hol k = c
        · rw [hd y, Bool.false_and, Bool.false_and]
        · rw [decide_eq_false y, Bool.false_and, Bool.false_and]
      · have : decide (k < i + 1) = decide (k < i) := by
          rw [decide_eq_decide]
          omega
        rw [this]
    unfold v43_25b
    rw [a17, a11, a9, (hh i hig).1]
    by_cases y : hol i = c
    · rw [show pm_cmp .ne (nI (hol i)) (nI c) = false from (hI_ne (by have := (hh i hig).2; omega) (by omega)).trans (decide_eq_false (fun w => w y))]
      have ev : v41 q cc gc (Ar hx 9) (Fi h' 13 5) i = eat D (Ar hx 9) i := by
        rw [v41_is, bit_74 (by omega), p4 i (by omega), decide_eq_false (Nat.lt_irrefl i), y, decide_eq_false (Nat.lt_irrefl c)]
        unfold eat
        rw [Bool.and_false, Bool.or_false, Bool.and_false, Bool.and_false, Bool.or_false]
      rw [ev]
      have eg : gx D (Ar hx 9) (Ar hx 11) hol G (i + 1) c = cond (eat D (Ar hx 9) i) (imax (nI 0) (gx D (Ar hx 9) (Ar hx 11) hol G i c - Ar hx 11 i)) (gx D (Ar hx 9) (Ar hx 11) hol G i c) := by
        show (if hol i = c then _ else _) = _
        rw [if_pos y]
      cases ze : eat D (Ar hx 9) i with
      | false =>
        refine ⟨p1, p2, by rw [eg, ze]; exact p3, stay (fun _ => ?_)⟩
        unfold dy
        rw [ze]
        rfl
      | true =>
        rw [p3]
        have ex := eat_x ri (hE i hig)
        cases zg : pm_cmp .ge (gx D (Ar hx 9) (Ar hx 11) hol G i c) (Ar hx 11 i) with
        | true =>
          refine ⟨p1, p2, by rw [eg, ze, ex, zg]; rfl, stay (fun _ => ?_)⟩
          unfold dy
          rw [y, zg, Bool.not_true, Bool.and_false]
        | false =>
          refine ⟨hc_f rfl rfl (by decide) rfl p1, fr_f rfl rfl p2, by rw [eg, ze, ex, zg]; rfl, fun k hk => ?_⟩
          show bit (Fi (fset h' 13 5 (.int (Fi h' 13 5 ||| shl (nI 1) (nI i)))) 13 5) k = _
          rw [Fi_s p1.wt (by decide) rfl (by decide) rfl, bit_or, bit_shl (by omega) hk, p4 k hk]
          by_cases z : k = i
          · subst z
            have ed : dy D (Ar hx 9) (Ar hx 11) hol G k = true := by
              unfold dy
              rw [ze, y, zg]
              rfl
            rw [ed, y, decide_eq_true (rfl : k = k), decide_eq_true hig, decide_eq_true (rfl : c = c), decide_eq_true (Nat.lt_succ_self k)]
            simp
          · have : decide (k < i + 1) = decide (k < i) := by
              rw [decide_eq_decide]
              omega
            rw [decide_eq_false z, this, Bool.or_false]
    · rw [show pm_cmp .ne (nI (hol i)) (nI c) = true from (hI_ne (by have := (hh i hig).2; omega) (by omega)).trans (decide_eq_true y)]
      refine ⟨p1, p2, ?_, stay (fun w => absurd w y)⟩
      show x3 = (if hol i = c then _ else gx D (Ar hx 9) (Ar hx 11) hol G i c)
      rw [if_neg y]
      exact p3)
  rw [Nat.zero_add] at p
  exact p
/-- all courts, one behind the other -/
theorem mon_x {hx : pm_H} (h8 : gc ≤ 8) (h6 : cc ≤ 6) (hw : HC q cc gc hx) (hh : ∀ j, j < gc → Ar hx 17 j = nI (hol j) ∧ hol j < 6) (hE : ∀ j, j < gc → 0 ≤ (Ar hx 11 j).toInt ∧ (Ar hx 11 j).toInt ≤ 9) (hR : ∀ c, c < cc → 0 ≤ (imin (nI 999) (Ar hx 14 c + nI 2 * Ar hx 6 c)).toInt ∧ (imin (nI 999) (Ar hx 14 c + nI 2 * Ar hx 6 c)).toInt ≤ 999) : HC q cc gc (v42_2 q cc gc cc 0 hx) ∧ frm [13, 14] [(13, 5)] hx (v42_2 q cc gc cc 0 hx) ∧ (∀ k, k < 6 → Ar (v42_2 q cc gc cc 0 hx) 14 k = if k < cc then gx (Fi hx 13 5) (Ar hx 9) (Ar hx 11) hol (fun c => imin (nI 999) (Ar hx 14 c + nI 2 * Ar hx 6 c)) gc k else Ar hx 14 k) ∧ ∀ k, k < 32 → bit (Fi (v42_2 q cc gc cc 0 hx) 13 5) k = (bit (Fi hx 13 5) k || (decide (k < gc) && (dy (Fi hx 13 5) (Ar hx 9) (Ar hx 11) hol (fun c => imin (nI 999) (Ar hx 14 c + nI 2 * Ar hx 6 c)) k && decide (hol k < cc)))) := by
  have p := lp_in (f := fun i (a : pm_H) => v42_2b q cc gc a i) (P := fun c a => HC q cc gc a ∧ frm [13, 14] [(13, 5)] hx a ∧ (∀ k, k < 6 → Ar a 14 k = if k < c then gx (Fi hx 13 5) (Ar hx 9) (Ar hx 11) hol (fun c => imin (nI 999) (Ar hx 14 c + nI 2 * Ar hx 6 c)) gc k else Ar hx 14 k) ∧ ∀ k, k < 32 → bit (Fi a 13 5) k = (bit (Fi hx 13 5) k || (decide (k < gc) && (dy (Fi hx 13 5) (Ar hx 9) (Ar hx 11) hol (fun c => imin (nI 999) (Ar hx 14 c + nI 2 * Ar hx 6 c)) k && decide (hol k < c))))) cc 0 hx ⟨hw, fr_0, fun k hk => (by rw [if_neg (Nat.not_lt_zero k)]), fun k hk => (by rw [decide_eq_false (Nat.not_lt_zero (hol k)), Bool.and_false, Bool.and_false, Bool.or_false])⟩ (fun c a _ hc p => by
    obtain ⟨p1, p2, p3, p4⟩ := p
    have a17 : Ar a 17 = Ar hx 17 := Ar_e (p2.1 17 rfl)
    have a11 : Ar a 11 = Ar hx 11 := Ar_e (p2.1 11 rfl)
    have a9 : Ar a 9 = Ar hx 9 := Ar_e (p2.1 9 rfl)
    have a6 : Ar a 6 = Ar hx 6 := Ar_e (p2.1 6 rfl)
    have hcc : c < cc := by omega
    obtain ⟨w1, w2, w3, w4⟩ := mon_in (hol := hol) (D := Fi hx 13 5) (G := fun c => imin (nI 999) (Ar hx 14 c + nI 2 * Ar hx 6 c)) h8 p1 (fun j hj => by rw [a17]; exact hh j hj) hR (fun j hj => by rw [a11]; exact hE j hj) hcc (by rw [a9, a11]; exact p4) gc (Nat.le_refl gc)
    rw [a9, a11] at w3 w4
    have eG : imin (nI 999) (Ar a 14 c + nI 2 * Ar a 6 c) = imin (nI 999) (Ar hx 14 c + nI 2 * Ar hx 6 c) := by
      rw [a6, p3 c (by omega), if_neg (Nat.lt_irrefl c)]
    rw [show v42_2b q cc gc a c = v43 q cc gc a c from rfl]
    unfold v43
    rw [eG]
    refine ⟨hc_a rfl rfl w1, fr_a rfl rfl (fr_g rfl rfl w2 p2), fun k hk => ?_, fun k hk => ?_⟩
    · rw [Ar_s, w3]
      by_cases z : k = c
      · rw [up_e z, if_pos (by omega), z]
      · rw [up_n z, p3 k hk]
        by_cases y : k < c
        · rw [if_pos y, if_pos (by omega)]
        · rw [if_neg y, if_neg (by omega)]
    · rw [Fi_a (by decide), w4 k hk]
      have e3 : (decide (hol k < c) || (decide (hol k = c) && decide (k < gc))) = ((decide (hol k < c + 1) && decide (k < gc)) || decide (hol k < c)) := by
        rw [Bool.eq_iff_iff]
        simp only [Bool.or_eq_true, Bool.and_eq_true, decide_eq_true_iff]
        omega
      rw [e3]
      cases z : decide (k < gc) with
      | false => rw [Bool.false_and, Bool.false_and]
      | true =>
        rw [Bool.and_true]
        have e4 : (decide (hol k < c + 1) || decide (hol k < c)) = decide (hol k < c + 1) := by
          rw [Bool.eq_iff_iff]
          simp only [Bool.or_eq_true, decide_eq_true_iff]
          omega
        rw [e4])
  rw [Nat.zero_add] at p
  exact p
/-- the reference's month -/
theorem mon_m {hm : pm_H} (h8 : gc ≤ 8) (h6 : cc ≤ 6) (hw : HC q cc gc hm) (hh : ∀ j, j < gc → Ar hm 170 (78 + j) = nI (hol j) ∧ hol j < cc) (hE : ∀ j, j < gc → 0 ≤ (Ar hm 168 j).toInt ∧ (Ar hm 168 j).toInt ≤ 9) (hR : ∀ c, c < cc → 0 ≤ (imin (nI 999) (Ar hm 170 c + nI 2 * Ar hm 164 c)).toInt ∧ (imin (nI 999) (Ar hm 170 c + nI 2 * Ar hm 164 c)).toInt ≤ 999) : HC q cc gc (v219 q cc gc hm) ∧ frm [170] [] hm (v219 q cc gc hm) ∧ (∀ k, k < 6 → Ar (v219 q cc gc hm) 170 k = if k < cc then gx (Ar hm 170 94) (Ar hm 166) (Ar hm 168) hol (fun c => imin (nI 999) (Ar hm 170 c + nI 2 * Ar hm 164 c)) gc k else Ar hm 170 k) ∧ (∀ k, 6 ≤ k → k < 94 → Ar (v219 q cc gc hm) 170 k = Ar hm 170 k) ∧ (∀ k, k < 32 → bit (Ar (v219 q cc gc hm) 170 94) k = (bit (Ar hm 170 94) k || (decide (k < gc) && dy (Ar hm 170 94) (Ar hm 166) (Ar hm 168) hol (fun c => imin (nI 999) (Ar hm 170 c + nI 2 * Ar hm 164 c)) k))) ∧ Ar (v219 q cc gc hm) 170 95 = Ar hm 170 95 + nI 1 := by
  have p := lp_in (f := fun i (a : pm_H) => v219_2b q cc gc a i) (P := fun c a => HC q cc gc a ∧ frm [170] [] hm a ∧ ∀ k, k < 96 → Ar a 170 k = if k < c then imin (nI 999) (Ar hm 170 k + nI 2 * Ar hm 164 k) else Ar hm 170 k) cc 0 hm ⟨hw, fr_0, fun k hk => (by rw [if_neg (Nat.not_lt_zero k)])⟩ (fun c a _ hc p => by
    obtain ⟨p1, p2, p3⟩ := p
    have a4 : Ar a 164 = Ar hm 164 := Ar_e (p2.1 164 rfl)
    unfold v219_2b
    refine ⟨hc_a rfl rfl p1, fr_a rfl rfl p2, fun k hk => ?_⟩
    rw [Ar_s, a4]
    by_cases z : k = c
    · rw [up_e z, if_pos (by omega), p3 c (by omega), if_neg (Nat.lt_irrefl c), z]
    · rw [up_n z, p3 k hk]
      by_cases y : k < c
      · rw [if_pos y, if_pos (by omega)]
      · rw [if_neg y, if_neg (by omega)])
  rw [Nat.zero_add] at p
  obtain ⟨p1, p2, p3⟩ := p
  have b0 : lp (fun i (a : pm_H) => v219_2b q cc gc a i) cc 0 hm = v219_2 q cc gc cc 0 hm := rfl
  rw [b0] at p1 p2 p3
  have r := lp_in (f := fun i (a : pm_H) => v219_39b q cc gc a i) (P := fun i a => HC q cc gc a ∧ frm [170] [] hm a ∧ (∀ k, k < 6 → Ar a 170 k = if k < cc then gx (Ar hm 170 94) (Ar hm 166) (Ar hm 168) hol (fun c => imin (nI 999) (Ar hm 170 c + nI 2 * Ar hm 164 c)) i k else Ar hm 170 k) ∧ (∀ k, 6 ≤ k → k < 96 → k ≠ 94 → Ar a 170 k = Ar hm 170 k) ∧ ∀ k, k < 32 → bit (Ar a 170 94) k = (bit (Ar hm 170 94) k || (decide (k < gc) && (dy (Ar hm 170 94) (Ar hm 166) (Ar hm 168) hol (fun c => imin (nI 999) (Ar hm 170 c + nI 2 * Ar hm 164 c)) k && decide (k < i))))) gc 0 (v219_2 q cc gc cc 0 hm) ⟨p1, p2, fun k hk => p3 k (by omega), fun k h1 h2 _ => (by rw [p3 k h2, if_neg (by omega)]), fun k hk => (by rw [p3 94 (by decide), if_neg (by omega), decide_eq_false (Nat.not_lt_zero k), Bool.and_false, Bool.and_false, Bool.or_false])⟩ (fun i a _ hi p => by
    obtain ⟨p1, p2, p3, p4, p5⟩ := p
    have a6 : Ar a 166 = Ar hm 166 := Ar_e (p2.1 166 rfl)
    have a8 : Ar a 168 = Ar hm 168 := Ar_e (p2.1 168 rfl)
    have hig : i < gc := by omega
    obtain ⟨e1, e2⟩ := hh i hig
    have e3 : Ar a 170 (78 + i) = nI (hol i) := (p4 (78 + i) (by omega) (by omega) (by omega)).trans e1
    have ri := gx_i (D := Ar hm 170 94) (kd := Ar hm 166) (hol := hol) hR hE i (hol i) (by omega) e2
    have ev : v218 q cc gc (Ar a 166) (Ar a 170) i = eat (Ar hm 170 94) (Ar hm 166) i := by
      rw [v218_is, a6]
      unfold v173
      rw [bt_eq, bit_74 (by omega), p5 i (by omega), decide_eq_false (Nat.lt_irrefl i), Bool.and_false, Bool.and_false, Bool.or_false]
      rfl
    have er : Ar a 170 (hol i) = gx (Ar hm 170 94) (Ar hm 166) (Ar hm 168) hol (fun c => imin (nI 999) (Ar hm 170 c + nI 2 * Ar hm 164 c)) i (hol i) := by
      rw [p3 (hol i) (by omega), if_pos e2]
    show HC q cc gc (v219_39b q cc gc a i) ∧ frm [170] [] hm (v219_39b q cc gc a i) ∧ _
    unfold v219_39b
    rw [ev, e3, nI_clamp (by omega), a8]
    have egn : ∀ k, k ≠ hol i → gx (Ar hm 170 94) (Ar hm 166) (Ar hm 168) hol (fun c => imin (nI 999) (Ar hm 170 c + nI 2 * Ar hm 164 c)) (i + 1) k = gx (Ar hm 170 94) (Ar hm 166) (Ar hm 168) hol (fun c => imin (nI 999) (Ar hm 170 c + nI 2 * Ar hm 164 c)) i k := by
      intro k hk
      show (if hol i = k then _ else _) = _
      rw [if_neg (fun y => hk y.symm)]
    have stay : dy (Ar hm 170 94) (Ar hm 166) (Ar hm 168) hol (fun c => imin (nI 999) (Ar hm 170 c + nI 2 * Ar hm 164 c)) i = false → ∀ k, k < 32 → bit (Ar a 170 94) k = (bit (Ar hm 170 94) k || (decide (k < gc) && (dy (Ar hm 170 94) (Ar hm 166) (Ar hm 168) hol (fun c => imin (nI 999) (Ar hm 170 c + nI 2 * Ar hm 164 c)) k && decide (k < i + 1)))) := by
      intro hd k hk
      rw [p5 k hk]
      by_cases z : k = i
      · subst z
        rw [hd, Bool.false_and, Bool.false_and]
      · have : decide (k < i + 1) = decide (k < i) := by
          rw [decide_eq_decide]
          omega
        rw [this]
    cases ze : eat (Ar hm 170 94) (Ar hm 166) i with
    | false =>
      refine ⟨p1, p2, fun k hk => ?_, p4, stay ?_⟩
      · show Ar a 170 k = _
        rw [p3 k hk]
        by_cases y : k < cc
        · rw [if_pos y, if_pos y]
          by_cases w : k = hol i
          · show _ = (if hol i = k then cond (eat (Ar hm 170 94) (Ar hm 166) i) _ _ else _)
            rw [if_pos w.symm, ze]
            rfl
          · rw [egn k w]
        · rw [if_neg y, if_neg y]
      · unfold dy
        rw [ze]
        rfl
    | true =>
      simp only [cond_true]
      refine ⟨hc_a rfl rfl p1, fr_a rfl rfl p2, fun k hk => ?_, fun k h1 h2 h3 => ?_, fun k hk => ?_⟩
      · rw [Ar_s]
        by_cases w : k = hol i
        · rw [up_e w, up_n (show hol i ≠ 94 by omega), if_pos (by omega), er, w]
          show _ = (if hol i = hol i then cond (eat (Ar hm 170 94) (Ar hm 166) i) _ _ else _)
          rw [if_pos rfl, ze]
          rfl
        · rw [up_n w, up_n (by omega), p3 k hk]
          by_cases y : k < cc
          · rw [if_pos y, if_pos y, egn k w]
          · rw [if_neg y, if_neg y]
      · rw [Ar_s, up_n (by omega), up_n h3]
        exact p4 k h1 h2 h3
      · rw [Ar_s, up_n (show 94 ≠ hol i by omega), up_e rfl, er, bit_or]
        cases zg : pm_cmp .ge (gx (Ar hm 170 94) (Ar hm 166) (Ar hm 168) hol (fun c => imin (nI 999) (Ar hm 170 c + nI 2 * Ar hm 164 c)) i (hol i)) (Ar hm 168 i) with
        | true =>
          show (bit (Ar a 170 94) k || bit (nI 0) k) = _
          rw [bit_0, Bool.or_false]
          refine stay ?_ k hk
          unfold dy
          rw [zg, Bool.not_true, Bool.and_false]
        | false =>
          show (bit (Ar a 170 94) k || bit (shl (nI 1) (nI i)) k) = _
          rw [bit_shl (by omega) hk, p5 k hk]
          by_cases z : k = i
          · subst z
            have ed : dy (Ar hm 170 94) (Ar hm 166) (Ar hm 168) hol (fun c => imin (nI 999) (Ar hm 170 c + nI 2 * Ar hm 164 c)) k = true := by
              unfold dy
              rw [ze, zg]
              rfl
            rw [ed, decide_eq_true (rfl : k = k), decide_eq_true hig, decide_eq_true (Nat.lt_succ_self k)]
            simp
          · have : decide (k < i + 1) = decide (k < i) := by
              rw [decide_eq_decide]
              omega
            rw [decide_eq_false z, this, Bool.or_false])
  rw [Nat.zero_add] at r
  obtain ⟨r1, r2, r3, r4, r5⟩ := r
  have b1 : lp (fun i (a : pm_H) => v219_39b q cc gc a i) gc 0 (v219_2 q cc gc cc 0 hm) = v219_39 q cc gc gc 0 (v219_2 q cc gc cc 0 hm) := rfl
  rw [b1] at r1 r2 r3 r4 r5
  unfold v219
  refine ⟨hc_a rfl rfl r1, fr_a rfl rfl r2, fun k hk => ?_, fun k h1 h2 => ?_, fun k hk => ?_, ?_⟩
  · rw [Ar_s, up_n (by omega)]
    exact r3 k hk
  · rw [Ar_s, up_n (by omega)]
    exact r4 k h1 (by omega) (by omega)
  · rw [Ar_s, up_n (by decide), r5 k hk]
    cases z : decide (k < gc) with
    | false => rw [Bool.false_and, Bool.false_and]
    | true => rw [Bool.and_true]
  · rw [Ar_s, up_e rfl, r4 95 (by decide) (by decide) (by decide)]
end MON
end MG95zzyex1
section MG95zzyex2
/-! one act: both sides keep alike -/
section ACT
variable {cc gc : Nat} {q : QT} {hx hm : pm_H} {V : Int32} {g c F : Nat}
theorem gx_cg {D : Int32} {kd ea G kd' ea' G' : Nat → Int32} {hol : Nat → Nat} {n : Nat} (h1 : ∀ j, j < n → kd j = kd' j ∧ ea j = ea' j) : ∀ i c, i ≤ n → G c = G' c → gx D kd ea hol G i c = gx D kd' ea' hol G' i c
  | 0, _, _, e => e
  | i + 1, c, hi, e => by
    unfold gx eat
    rw [(h1 i (by omega)).1, (h1 i (by omega)).2, gx_cg h1 i c (by omega) e]
theorem dy_cg {D : Int32} {kd ea G kd' ea' G' : Nat → Int32} {hol : Nat → Nat} {n : Nat} (h1 : ∀ j, j < n → kd j = kd' j ∧ ea j = ea' j) {i : Nat} (hi : i < n) (e : G (hol i) = G' (hol i)) : dy D kd ea hol G i = dy D kd' ea' hol G' i := by
  unfold dy
  rw [gx_cg h1 i (hol i) (by omega) e]
  unfold eat
  rw [(h1 i hi).1, (h1 i hi).2]
theorem mon_G {a b : Int32} {k : Nat} (h1 : 0 ≤ a.toInt ∧ a.toInt ≤ 999) (hk : k < 10) (e : b = nI k) : 0 ≤ (imin (nI 999) (a + nI 2 * b)).toInt ∧ (imin (nI 999) (a + nI 2 * b)).toInt ≤ 999 := by
  rw [e, hI_mul, imin_i, nI_toInt (by decide)]
  have : (a + nI (2 * k)).toInt = a.toInt + (2 * k : Nat) := by
    rw [Int32.toInt_add, nI_toInt (by omega), Int.bmod_eq_of_le] <;> omega
  rw [this]
  omega
theorem nI_rgz {k n : Nat} {b : Int32} (hk : k < n) (hn : n ≤ 1000) (e : b = nI k) : 0 ≤ b.toInt ∧ b.toInt ≤ (n : Int) - 1 := by
  rw [e, nI_toInt (by omega)]
  omega
/-- a GIFT IS SENT -/
theorem send_rel (cx : HC q cc gc hx) (s : RS cc gc (Ar hx 14) (Ar hx 15) (Ar hx 16) (Ar hx 17) (Ar hx 18) (Fi hx 13 5) (Fi hx 13 6) (Ar hm 170)) (ri : RI cc gc (Ar hm 170)) (hV : V = (v201 q cc gc hm g c).1) (hg : g < gc) (hc : c < cc) (hF : F < cc) (eF : Ar hm 170 (78 + g) = nI F) (hn : F ≠ c) : RS cc gc (Ar hx 14) (Ar (v40 q cc gc hx g c V) 15) (Ar (v40 q cc gc hx g c V) 16) (Ar (v40 q cc gc hx g c V) 17) (Ar (v40 q cc gc hx g c V) 18) (Fi hx 13 5) (Fi hx 13 6) (Ar (v217 q cc gc hm g c).2 170) ∧ RI cc gc (Ar (v217 q cc gc hm g c).2 170) ∧ (v217 q cc gc hm g c).1 = Ar (v40 q cc gc hx g c V) 15 (c * 6 + F) ∧ 0 ≤ (v217 q cc gc hm g c).1.toInt := by
  have h6 := cx.cb
  have h8 := cx.gb
  have eX : Ar hx 17 g = nI F := (s.2.2.2.1 g hg).trans eF
  obtain ⟨b1, b2, b3, b4⟩ := v40_ar (q := q) (cc := cc) (gc := gc) (h := hx) (g := g) (c := c) (V := V)
  rw [eX, nI_clamp (by omega)] at b1 b2
  obtain ⟨hz, m1, m2⟩ := v217_is (q := q) (h := hm) hg hc (by rw [eF, nI_clamp (by omega)]; exact hn)
  rw [eF, nI_clamp (by omega), ← hV] at m1 m2
  have hdead : ∀ G, v173 q cc gc (sndE (Ar hm 170) F c G) g = v173 q cc gc (Ar hm 170) g := by
    intro G
    unfold v173
    rw [sndE_n (by omega)]
  rw [hdead] at m2
  have eg : v77 q cc gc (Ar hx 18) (Fi hx 13 5) g c (Ar hx 16 (F * 6 + c)) V = cond (v164 q cc gc (Ar hm 170 (86 + g)) (nI c)) (Int32.ofInt (-6)) (cond (v173 q cc gc (Ar hm 170) g) (Int32.ofInt (-4)) (v216 q cc gc V (Ar hm 170 (42 + 6 * F + c)))) := by
    unfold v77
    rw [s.2.2.1 F c (by omega) (by omega), eq_75 s hg, eq_74 s g]
    exact gain_eq (ri.2.2.1 F c (by omega) (by omega)).1.1
  rw [eg] at b1
  have hVr : 0 ≤ V.toInt ∧ V.toInt ≤ 999 := by
    rw [hV, v201_val]
    exact clamp_i (k := 999) (by decide)
  refine ⟨?_, ?_, ?_, ?_⟩
  · rw [m2, Ar_s, b1, b2, b3, b4, eq_75 s hg, eq_74 s g]
    exact RS_snd s ri h6 h8 hg hc hF hn
  · rw [m2, Ar_s]
    exact RI_snd ri h6 h8 hg hc hF hn hVr
  · rw [m1, b1, up_e rfl]
    unfold sndE
    rw [up_e rfl, s.2.1 c F hc hF (fun y => hn y.symm)]
  · rw [m1]
    unfold sndE
    rw [up_e rfl]
    exact (clamp_i (k := 20) (by decide)).1
/-- a MONTH goes -/
theorem mon_rel (cx : HC q cc gc hx) (cm : HC q cc gc hm) (rm : RMm cc gc hx hm) (s : RS cc gc (Ar hx 14) (Ar hx 15) (Ar hx 16) (Ar hx 17) (Ar hx 18) (Fi hx 13 5) (Fi hx 13 6) (Ar hm 170)) (ri : RI cc gc (Ar hm 170)) : RS cc gc (Ar (v42 q cc gc hx) 14) (Ar hx 15) (Ar hx 16) (Ar hx 17) (Ar hx 18) (Fi (v42 q cc gc hx) 13 5) (Fi (v42 q cc gc hx) 13 6) (Ar (v219 q cc gc hm) 170) ∧ RI cc gc (Ar (v219 q cc gc hm) 170) := by
  have h6 := cx.cb
  have h8 := cx.gb
  obtain ⟨r1, r2, r3, r4, r5⟩ := ri
  obtain ⟨hol, hH⟩ : ∃ hol : Nat → Nat, ∀ j, j < gc → Ar hm 170 (78 + j) = nI (hol j) ∧ hol j < cc := by
    refine ⟨fun j => (Ar hm 170 (78 + j)).toNatClampNeg, fun j hj => ?_⟩
    obtain ⟨c, hc, e⟩ := r4 j hj
    show Ar hm 170 (78 + j) = nI ((Ar hm 170 (78 + j)).toNatClampNeg) ∧ (Ar hm 170 (78 + j)).toNatClampNeg < cc
    rw [e, nI_clamp (by omega)]
    exact ⟨rfl, hc⟩
  have gR : ∀ c, c < cc → 0 ≤ (imin (nI 999) (Ar hm 170 c + nI 2 * Ar hm 164 c)).toInt ∧ (imin (nI 999) (Ar hm 170 c + nI 2 * Ar hm 164 c)).toInt ≤ 999 := by
    intro c hc
    obtain ⟨⟨-, k, hk, e⟩, -⟩ := rm.1 c hc
    exact mon_G (r1 c (by omega)) hk e
  have eE : ∀ j, j < gc → 0 ≤ (Ar hm 168 j).toInt ∧ (Ar hm 168 j).toInt ≤ 9 := by
    intro j hj
    obtain ⟨-, -, -, k, hk, e⟩ := rm.2 j hj
    exact nI_rgz hk (by decide) e
  have eqG : ∀ c, c < cc → imin (nI 999) (Ar hx 14 c + nI 2 * Ar hx 6 c) = imin (nI 999) (Ar hm 170 c + nI 2 * Ar hm 164 c) := by
    intro c hc
    rw [s.1 c (by omega), ((rm.1 c hc).1).1]
  have eK : ∀ j, j < gc → Ar hx 9 j = Ar hm 166 j ∧ Ar hx 11 j = Ar hm 168 j := fun j hj => ⟨((rm.2 j hj).1).1, ((rm.2 j hj).2.2).1⟩
  obtain ⟨x1, x2, x3, x4⟩ := mon_x (hol := hol) h8 h6 cx (fun j hj => ⟨(s.2.2.2.1 j hj).trans (hH j hj).1, by have := (hH j hj).2; omega⟩) (fun j hj => by rw [(eK j hj).2]; exact eE j hj) (fun c hc => by rw [eqG c hc]; exact gR c hc)
  obtain ⟨m1, m2, m3, m4, m5, m6⟩ := mon_m (hol := hol) h8 h6 cm hH eE gR
  have eD : Fi hx 13 5 = Ar hm 170 94 := s.2.2.2.2.2.1
  have ef5 : Fi (v42 q cc gc hx) 13 5 = Fi (v42_2 q cc gc cc 0 hx) 13 5 := Fi_n (Or.inr (by decide))
  have ef6 : Fi (v42 q cc gc hx) 13 6 = Fi hx 13 6 + nI 1 := by
    show Fi (fset (v42_2 q cc gc cc 0 hx) 13 6 (.int (Fi hx 13 6 + nI 1))) 13 6 = _
    exact Fi_s x1.wt (by decide) rfl (by decide) rfl
  have eag : Ar (v42 q cc gc hx) 14 = Ar (v42_2 q cc gc cc 0 hx) 14 := Ar_f
  have gxe : ∀ k, k < cc → gx (Fi hx 13 5) (Ar hx 9) (Ar hx 11) hol (fun c => imin (nI 999) (Ar hx 14 c + nI 2 * Ar hx 6 c)) gc k = gx (Ar hm 170 94) (Ar hm 166) (Ar hm 168) hol (fun c => imin (nI 999) (Ar hm 170 c + nI 2 * Ar hm 164 c)) gc k := by
    intro k hk
    rw [eD]
    exact gx_cg eK gc k (Nat.le_refl _) (eqG k hk)
  have bits : Fi (v42_2 q cc gc cc 0 hx) 13 5 = Ar (v219 q cc gc hm) 170 94 := by
    refine bit_ext (fun k hk => ?_)
    rw [x4 k hk, m5 k hk, eD]
    by_cases z : k < gc
    · rw [decide_eq_true z, decide_eq_true (hH k z).2, Bool.and_true, dy_cg (G := fun c => imin (nI 999) (Ar hx 14 c + nI 2 * Ar hx 6 c)) (G' := fun c => imin (nI 999) (Ar hm 170 c + nI 2 * Ar hm 164 c)) eK z (eqG (hol k) (hH k z).2)]
    · rw [decide_eq_false z, Bool.false_and, Bool.false_and]
  refine ⟨⟨fun k hk => ?_, fun a b h1 h2 h3 => ?_, fun a b h1 h2 => ?_, fun j hj => ?_, fun j hj => ?_, ?_, ?_⟩, fun k hk => ?_, fun a b h1 h2 h3 => ?_, fun a b h1 h2 => ?_, fun j hj => ?_, fun k h1 h2 => ?_⟩
  · rw [eag, x3 k hk, m3 k hk]
    by_cases z : k < cc
    · rw [if_pos z, if_pos z]
      exact gxe k z
    · rw [if_neg z, if_neg z]
      exact s.1 k hk
  · rw [m4 _ (by omega) (by omega)]
    exact s.2.1 a b h1 h2 h3
  · rw [m4 _ (by omega) (by omega)]
    exact s.2.2.1 a b h1 h2
  · rw [m4 _ (by omega) (by omega)]
    exact s.2.2.2.1 j hj
  · rw [m4 _ (by omega) (by omega)]
    exact s.2.2.2.2.1 j hj
  · rw [ef5]
    exact bits
  · rw [ef6, m6, s.2.2.2.2.2.2]
  · rw [m3 k hk]
    by_cases z : k < cc
    · rw [if_pos z]
      exact gx_i gR eE gc k (Nat.le_refl _) z
    · rw [if_neg z]
      exact r1 k hk
  · rw [m4 _ (by omega) (by omega)]
    exact r2 a b h1 h2 h3
  · rw [m4 _ (by omega) (by omega)]
    exact r3 a b h1 h2
  · rw [m4 _ (by omega) (by omega)]
    exact r4 j hj
  · rw [m5 k h2, r5 k h1 h2, decide_eq_false (by omega)]
    rfl
/-- an envoy is heard -/
theorem env_rel {a b : Nat} {y : Int32} (h6 : cc ≤ 6) (h8 : gc ≤ 8) (s : RS cc gc (Ar hx 14) (Ar hx 15) (Ar hx 16) (Ar hx 17) (Ar hx 18) (Fi hx 13 5) (Fi hx 13 6) (Ar hm 170)) (ri : RI cc gc (Ar hm 170)) (ha : a < cc) (hb : b < cc) (hab : a ≠ b) : RS cc gc (Ar hx 14) (upd (Ar hx 15) (a * 6 + b) (imax (nI 0) (imin (nI 20) (Ar hx 15 (a * 6 + b) + y)))) (Ar hx 16) (Ar hx 17) (Ar hx 18) (Fi hx 13 5) (Fi hx 13 6) (upd (Ar hm 170) (6 + 6 * a + b) (imax (nI 0) (imin (nI 20) (Ar hm 170 (6 + 6 * a + b) + y)))) ∧ RI cc gc (upd (Ar hm 170) (6 + 6 * a + b) (imax (nI 0) (imin (nI 20) (Ar hm 170 (6 + 6 * a + b) + y)))) := by
  obtain ⟨r1, r2, r3, r4, r5⟩ := ri
  refine ⟨⟨fun k hk => ?_, fun a' b' h1 h2 h3 => ?_, fun a' b' h1 h2 => ?_, fun j hj => ?_, fun j hj => ?_, ?_, ?_⟩, fun k hk => ?_, fun a' b' h1 h2 h3 => ?_, fun a' b' h1 h2 => ?_, fun j hj => ?_, fun k h1 h2 => ?_⟩
  · rw [up_n (by omega)]
    exact s.1 k hk
  · by_cases z : a' * 6 + b' = a * 6 + b
    · rw [up_e z, up_e (by omega), s.2.1 a b ha hb hab]
    · rw [up_n z, up_n (by omega)]
      exact s.2.1 a' b' h1 h2 h3
  · rw [up_n (by omega)]
    exact s.2.2.1 a' b' h1 h2
  · rw [up_n (by omega)]
    exact s.2.2.2.1 j hj
  · rw [up_n (by omega)]
    exact s.2.2.2.2.1 j hj
  · rw [up_n (by omega)]
    exact s.2.2.2.2.2.1
  · rw [up_n (by omega)]
    exact s.2.2.2.2.2.2
  · rw [up_n (by omega)]
    exact r1 k hk
  · by_cases z : 6 + 6 * a' + b' = 6 + 6 * a + b
    · rw [up_e z]
      exact clamp_i (k := 20) (by decide)
    · rw [up_n z]
      exact r2 a' b' h1 h2 h3
  · rw [up_n (by omega)]
    exact r3 a' b' h1 h2
  · rw [up_n (by omega)]
    exact r4 j hj
  · rw [up_n (by omega)]
    exact r5 k h1 h2
/-- a DUE is forgiven -/
theorem fgv_rel {a b : Nat} (h6 : cc ≤ 6) (h8 : gc ≤ 8) (s : RS cc gc (Ar hx 14) (Ar hx 15) (Ar hx 16) (Ar hx 17) (Ar hx 18) (Fi hx 13 5) (Fi hx 13 6) (Ar hm 170)) (ri : RI cc gc (Ar hm 170)) (ha : a < cc) (hb : b < cc) : RS cc gc (Ar hx 14) (Ar hx 15) (upd (Ar hx 16) (a * 6 + b) (nI 0)) (Ar hx 17) (Ar hx 18) (Fi hx 13 5) (Fi hx 13 6) (upd (Ar hm 170) (42 + 6 * a + b) (nI 0)) ∧ RI cc gc (upd (Ar hm 170) (42 + 6 * a + b) (nI 0)) := by
  obtain ⟨r1, r2, r3, r4, r5⟩ := ri
  refine ⟨⟨fun k hk => ?_, fun a' b' h1 h2 h3 => ?_, fun a' b' h1 h2 => ?_, fun j hj => ?_, fun j hj => ?_, ?_, ?_⟩, fun k hk => ?_, fun a' b' h1 h2 h3 => ?_, fun a' b' h1 h2 => ?_, fun j hj => ?_, fun k h1 h2 => ?_⟩
  · rw [up_n (by omega)]
    exact s.1 k hk
  · rw [up_n (by omega)]
    exact s.2.1 a' b' h1 h2 h3
  · by_cases z : a' * 6 + b' = a * 6 + b
    · rw [up_e z, up_e (by omega)]
    · rw [up_n z, up_n (by omega)]
      exact s.2.2.1 a' b' h1 h2
  · rw [up_n (by omega)]
    exact s.2.2.2.1 j hj
  · rw [up_n (by omega)]
    exact s.2.2.2.2.1 j hj
  · rw [up_n (by omega)]
    exact s.2.2.2.2.2.1
  · rw [up_n (by omega)]
    exact s.2.2.2.2.2.2
  · rw [up_n (by omega)]
    exact r1 k hk
  · rw [up_n (by omega)]
    exact r2 a' b' h1 h2 h3
  · by_cases z : 42 + 6 * a' + b' = 42 + 6 * a + b
    · rw [up_e z]
      exact ⟨by decide, fun _ => rfl⟩
    · rw [up_n z]
      exact r3 a' b' h1 h2
  · rw [up_n (by omega)]
    exact r4 j hj
  · rw [up_n (by omega)]
    exact r5 k h1 h2
end ACT
end MG95zzyex2
section MG95zzyex3
/-! drawn numbers; what keeps the HOLDERS small numbers -/
section NAK
variable {q : QT} {cc gc g c : Nat} {h h' : pm_H} {x : Int32} {m : Nat}
def dN (x : Int32) : Nat := x.toNatClampNeg
theorem dN_irm (hm : m < 10000) (h0 : 0 < m) : ∃ k, k < m ∧ irm (ushr x (nI 16)) (nI m) = nI k := by
  have h1 := ag_ushr_ok ai_top (0, 16, 16) (0, 0, 65535) x (nI 16) (by decide) (ai_top_ok x).2.1 (ai_top_ok x).2.2 (by decide) (by decide)
  have h1 : av_ok (.int (ushr x (nI 16))) (0, 0, 65535) := h1
  generalize ushr x (nI 16) = u at h1 ⊢
  have em := nI_toInt (n := m) (by omega)
  have h2 := ag_rem_ok (0, 0, 65535) (0, (m : Int), (m : Int)) (0, 0, (m : Int) - 1) u (nI m) (by unfold ag_rem; exact if_pos ⟨by show (0 : Int) < (m : Int); omega, by decide⟩) h1.2.1 h1.2.2 (Int.le_of_eq em.symm) (Int.le_of_eq em)
  have h2 : av_ok (.int (irm u (nI m))) (0, 0, (m : Int) - 1) := h2
  have h3 : (0 : Int) ≤ (irm u (nI m)).toInt := h2.2.1
  have h4 : (irm u (nI m)).toInt ≤ (m : Int) - 1 := h2.2.2
  obtain ⟨k, hk, e, hx⟩ := ab_nn h3 (Int.le_refl 0)
  rw [hx] at h4
  exact ⟨k, by omega, e⟩
theorem en_d262 (hm : m < 10000) (h0 : 0 < m) : irm (ushr x (nI 16)) (nI m) = nI (dN (irm (ushr x (nI 16)) (nI m))) ∧ dN (irm (ushr x (nI 16)) (nI m)) < m := by
  obtain ⟨k, hk, e⟩ := dN_irm (x := x) hm h0
  have z : dN (nI k) = k := nI_clamp (by omega)
  rw [e, z]
  exact ⟨rfl, hk⟩
theorem en_d156 (hm : m < 10000) : cond (decide (m ≤ 0)) (nI 0) (irm (ushr x (nI 16)) (nI m)) = nI (dN (cond (decide (m ≤ 0)) (nI 0) (irm (ushr x (nI 16)) (nI m)))) ∧ dN (cond (decide (m ≤ 0)) (nI 0) (irm (ushr x (nI 16)) (nI m))) ≤ m - 1 := by
  cases z : decide (m ≤ 0) with
  | true =>
    have z0 : dN (nI 0) = 0 := nI_clamp (by omega)
    show nI 0 = nI (dN (nI 0)) ∧ dN (nI 0) ≤ m - 1
    rw [z0]
    exact ⟨rfl, Nat.zero_le _⟩
  | false =>
    have z := of_decide_eq_false z
    have h1 := en_d262 (x := x) hm (by omega)
    have h2 := h1.2
    show irm (ushr x (nI 16)) (nI m) = nI (dN (irm (ushr x (nI 16)) (nI m))) ∧ dN (irm (ushr x (nI 16)) (nI m)) ≤ m - 1
    exact ⟨h1.1, by omega⟩
def NAf (f : Nat → Int32) (l m b : Nat) : Prop := ∀ j, l ≤ j → j < m → f j = nI (f j).toNatClampNeg ∧ (f j).toNatClampNeg < b
theorem NAf_up {f : Nat → Int32} {l m b k : Nat} {v : Int32} (hv : (∃ z, z < b ∧ v = nI z) ∨ k < l ∨ m ≤ k) (hb : b ≤ 1000) (z : NAf f l m b) : NAf (upd f k v) l m b := by
  intro j h1 h2
  by_cases y : j = k
  · rw [up_e y]
    rcases hv with ⟨w, hw, rfl⟩ | hv | hv
    · rw [nI_clamp (by omega)]
      exact ⟨rfl, hw⟩
    · omega
    · omega
  · rw [up_n y]
    exact z j h1 h2
theorem NA_as {a n l m b : Nat} {f : Nat → Int32} (z : NAf f l m b) : NA (aset h a n f) a l m b := by
  show NAf (Ar (aset h a n f) a) l m b
  rw [Ar_s]
  exact z
theorem cp73_na (hw : HC q cc gc h) (z : NA h 17 0 8 6) : NA (cp73 h 19 13) 23 0 8 6 := by
  intro j h1 h2
  rw [show Ar (cp73 h 19 13) 23 j = Ar h 17 j from cp73_a (s := 19) (t := 13) (i := 4) (m := 8) (Or.inr (Or.inr (Or.inr (Or.inl ⟨rfl, rfl⟩)))) h2]
  exact z j h1 h2
theorem v145_na (hw : HC q cc gc h) (hc : c < 6) (z : NA h 23 0 8 6) : NA (v145 q cc gc h g c).2 23 0 8 6 := by
  unfold v145
  cases decide (¬ ((Ar h 23) g).toNatClampNeg = c) with
  | false => exact z
  | true =>
    have e := (v39t_fr (g := g) (c := c) hw).2.1 23 rfl
    show NAf (Ar (v40t q cc gc ((v39t q cc gc h g c).2) g c ((v39t q cc gc h g c).1)) 23) 0 8 6
    rw [v40t_ar.2.2.1, Ar_e e]
    exact NAf_up (Or.inl ⟨c, hc, rfl⟩) (by decide) z
theorem v217_na (hw : HC q cc gc h) (z : NA h 170 78 86 6) : NA (v217 q cc gc h g c).2 170 78 86 6 := by
  by_cases hg : g < gc
  · by_cases hc : c < cc
    · by_cases hn : ((Ar h 170 (78 + g)).toNatClampNeg) ≠ c
      · obtain ⟨h2, -, e⟩ := v217_is hg hc hn
        have h6 := hw.cb
        have h8 := hw.gb
        rw [e]
        refine NA_as (fun j h1 h2 => ?_)
        obtain ⟨i, rfl⟩ : ∃ i, j = 78 + i := ⟨j - 78, by omega⟩
        have hF := (z (78 + g) (by omega) (by omega)).2
        rw [snd_h (by omega) (by omega) (by omega) hF]
        by_cases y : i = g
        · rw [up_e y, nI_clamp (by omega)]
          exact ⟨rfl, by omega⟩
        · rw [up_n y]
          exact z _ h1 h2
      · have e : decide (¬ ((Ar h 170 (78 + g)).toNatClampNeg) = c) = false := decide_eq_false hn
        unfold v217
        rw [decide_eq_true hg, decide_eq_true hc, e]
        exact z
    · unfold v217
      rw [decide_eq_true hg, decide_eq_false hc]
      exact z
  · unfold v217
    rw [decide_eq_false hg]
    exact z
theorem v219_na (hw : HC q cc gc h) (z : NA h 170 78 86 6) : NA (v219 q cc gc h) 170 78 86 6 := by
  have h6 := hw.cb
  have h8 := hw.gb
  have z1 : NA (v219_2 q cc gc cc 0 h) 170 78 86 6 := lp_in (P := fun _ h => NA h 170 78 86 6) cc 0 h z (fun k a _ hk z => by
    show NA (v219_2b q cc gc a k) 170 78 86 6
    unfold v219_2b
    exact NA_as (NAf_up (Or.inr (Or.inl (by omega))) (by decide) z))
  have z2 : NA (v219_39 q cc gc gc 0 (v219_2 q cc gc cc 0 h)) 170 78 86 6 := lp_in (P := fun _ h => NA h 170 78 86 6) gc 0 _ z1 (fun k a _ hk z => by
    show NA (v219_39b q cc gc a k) 170 78 86 6
    have hF := (z (78 + k) (by omega) (by omega)).2
    unfold v219_39b
    cases v218 q cc gc (Ar a 166) (Ar a 170) k with
    | false => exact z
    | true => exact NA_as (NAf_up (Or.inr (Or.inl (by omega))) (by decide) (NAf_up (Or.inr (Or.inr (by omega))) (by decide) z)))
  exact NA_as (NAf_up (Or.inr (Or.inr (by omega))) (by decide) z2)
theorem v217t_na (hw : HC q cc gc h) (z : NA h 171 78 86 6) : NA (v217t q cc gc h g c).2 171 78 86 6 := by
  by_cases hg : g < gc
  · by_cases hc : c < cc
    · by_cases hn : ((Ar h 171 (78 + g)).toNatClampNeg) ≠ c
      · obtain ⟨h2, -, e⟩ := v217t_is hg hc hn
        have h6 := hw.cb
        have h8 := hw.gb
        rw [e]
        refine NA_as (fun j h1 h2 => ?_)
        obtain ⟨i, rfl⟩ : ∃ i, j = 78 + i := ⟨j - 78, by omega⟩
        have hF := (z (78 + g) (by omega) (by omega)).2
        rw [snd_h (by omega) (by omega) (by omega) hF]
        by_cases y : i = g
        · rw [up_e y, nI_clamp (by omega)]
          exact ⟨rfl, by omega⟩
        · rw [up_n y]
          exact z _ h1 h2
      · have e : decide (¬ ((Ar h 171 (78 + g)).toNatClampNeg) = c) = false := decide_eq_false hn
        unfold v217t
        rw [decide_eq_true hg, decide_eq_true hc, e]
        exact z
    · unfold v217t
      rw [decide_eq_true hg, decide_eq_false hc]
      exact z
  · unfold v217t
    rw [decide_eq_false hg]
    exact z
theorem v219t_na (hw : HC q cc gc h) (z : NA h 171 78 86 6) : NA (v219t q cc gc h) 171 78 86 6 := by
  have h6 := hw.cb
  have h8 := hw.gb
  have z1 : NA (v219t_2 q cc gc cc 0 h) 171 78 86 6 := lp_in (P := fun _ h => NA h 171 78 86 6) cc 0 h z (fun k a _ hk z => by
    show NA (v219t_2b q cc gc a k) 171 78 86 6
    unfold v219t_2b
    exact NA_as (NAf_up (Or.inr (Or.inl (by omega))) (by decide) z))
  have z2 : NA (v219t_39 q cc gc gc 0 (v219t_2 q cc gc cc 0 h)) 171 78 86 6 := lp_in (P := fun _ h => NA h 171 78 86 6) gc 0 _ z1 (fun k a _ hk z => by
    show NA (v219t_39b q cc gc a k) 171 78 86 6
    have hF := (z (78 + k) (by omega) (by omega)).2
    unfold v219t_39b
    cases v218 q cc gc (Ar a 166) (Ar a 171) k with
    | false => exact z
    | true => exact NA_as (NAf_up (Or.inr (Or.inl (by omega))) (by decide) (NAf_up (Or.inr (Or.inr (by omega))) (by decide) z)))
  exact NA_as (NAf_up (Or.inr (Or.inr (by omega))) (by decide) z2)
/-- the trial row is the row now -/
theorem v229_is : ∀ j, j < 96 → Ar (v229 q cc gc h) 171 j = Ar h 170 j := by
  have z := lp_in (f := fun i a => v229_2b q cc gc a i) (P := fun i a => Ar a 170 = Ar h 170 ∧ ∀ j, j < i → Ar a 171 j = Ar h 170 j) 96 0 h ⟨rfl, fun j hj => absurd hj (Nat.not_lt_zero j)⟩ (fun k a _ hk z => by
    show Ar (v229_2b q cc gc a k) 170 = Ar h 170 ∧ ∀ j, j < k + 1 → Ar (v229_2b q cc gc a k) 171 j = Ar h 170 j
    unfold v229_2b
    refine ⟨(Ar_n (by decide)).trans z.1, fun j hj => ?_⟩
    rw [Ar_s]
    by_cases y : j = k
    · rw [up_e y, y, z.1]
    · rw [up_n y]
      exact z.2 j (by omega))
  intro j hj
  unfold v229 v229_2
  exact z.2 j (by omega)
theorem v229_na (hw : HC q cc gc h) (z : NA h 170 78 86 6) : NA (v229 q cc gc h) 171 78 86 6 := by
  intro j h1 h2
  rw [v229_is j (by omega)]
  exact z j h1 h2
end NAK
end MG95zzyex3
