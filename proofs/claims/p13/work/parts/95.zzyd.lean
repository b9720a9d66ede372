/-! VALUE: both sides -/
section VAL
variable {cc gc : Nat} {q : QT} {h hx hm : pm_H} {x m : Int32} {g c : Nat}
theorem stX_cg {A B : Nat → Int32} (e : ∀ k, k < 7 → A k = B k) (s : List Int32) (c : Int32) : stX q cc gc A s c = stX q cc gc B s c := by
  unfold stX
  cases z1 : pm_cmp .lt c 0 with
  | false => rfl
  | true =>
    cases z2 : pm_cmp .lt (v67 q cc gc (-c)) 0 with
    | true => rfl
    | false =>
      cases z3 : pm_cmp .ge (v67 q cc gc (-c)) (nI 7) with
      | true => rfl
      | false =>
        have h2 : ¬ v67 q cc gc (-c) < 0 := of_decide_eq_false z2
        have h3 : ¬ nI 7 ≤ v67 q cc gc (-c) := of_decide_eq_false z3
        rw [Int32.lt_iff_toInt_lt, show (0 : Int32).toInt = 0 by decide] at h2
        rw [Int32.le_iff_toInt_le, show (nI 7).toInt = 7 by decide] at h3
        obtain ⟨j, ej, hj, ei⟩ := hI_of (x := v67 q cc gc (-c)) (by omega)
        rw [ej, nI_clamp hj]
        show A j :: s = B j :: s
        rw [e j (by omega)]
theorem fold_cg {A B : Nat → Int32} (e : ∀ k, k < 7 → A k = B k) : ∀ (cs s : List Int32), cs.foldl (stX q cc gc A) s = cs.foldl (stX q cc gc B) s
  | [], _ => rfl
  | c :: cs, s => by
    rw [List.foldl_cons, List.foldl_cons, stX_cg e]
    exact fold_cg e cs _
/-- THE RULE of both sides tells the same values -/
def VR (q : QT) (cc gc : Nat) (C D : Nat → Int32) : Prop := ∃ V : (Nat → Int32) → Int32, (∀ A B, (∀ k, k < 7 → A k = B k) → V A = V B) ∧ (∀ A, (evl (stX q cc gc A) C q.2.1).headD 0 = V A) ∧ (q.2.2 = 0 → ∀ A : Nat → Int32, A 0 * A 1 / nI 5 = V A) ∧ (q.2.2 ≠ 0 → (∃ dn, dep D q.2.2 = some dn) ∧ ∀ A, evl (stM q cc gc A) D q.2.2 = [V A])
def in7 (f : Nat → Int32) (a0 a1 a2 a3 a4 a5 a6 : Int32) : Nat → Int32 := upd (upd (upd (upd (upd (upd (upd f 0 a0) 1 a1) 2 a2) 3 a3) 4 a4) 5 a5) 6 a6
theorem in7_cg {f f' : Nat → Int32} {a0 a1 a2 a3 a4 a5 a6 : Int32} : ∀ k, k < 7 → in7 f a0 a1 a2 a3 a4 a5 a6 k = in7 f' a0 a1 a2 a3 a4 a5 a6 k := by
  intro k hk
  rcases (by omega : k = 0 ∨ k = 1 ∨ k = 2 ∨ k = 3 ∨ k = 4 ∨ k = 5 ∨ k = 6) with rfl | rfl | rfl | rfl | rfl | rfl | rfl <;> rfl
theorem v68_val (hc : HC q cc gc h) : (v68 q cc gc h).1 = (evl (stX q cc gc (Ar h 12)) (Ar h (q.1 + 1)) q.2.1).headD 0 := by
  unfold v68
  rcases hc.qq with e | e
  · rw [if_pos e, evA hc.zx hc, e]
  · rw [if_neg (by rw [e]; decide), evB hc.zx hc, e]
theorem v200_val {A : Nat → Int32} (hc : HC q cc gc h) {C : Nat → Int32} {V : (Nat → Int32) → Int32} (v1 : q.2.2 = 0 → ∀ A : Nat → Int32, A 0 * A 1 / nI 5 = V A) (v2 : q.2.2 ≠ 0 → (∃ dn, dep (Ar h 174) q.2.2 = some dn) ∧ ∀ A, evl (stM q cc gc A) (Ar h 174) q.2.2 = [V A]) : (v200 q cc gc h).1 = V (Ar h 177) := by
  by_cases z : q.2.2 = 0
  · unfold v200
    rw [decide_eq_false (fun y => y z)]
    exact v1 z (Ar h 177)
  · obtain ⟨⟨dn, hd⟩, hV⟩ := v2 z
    exact evM z hc hd (hV (Ar h 177))
/-- what courts and gifts are -/
def RMm (cc gc : Nat) (hx hm : pm_H) : Prop := (∀ c, c < cc → (Ar hx 6 c = Ar hm 164 c ∧ ∃ k, k < 10 ∧ Ar hm 164 c = nI k) ∧ ∀ k, k < 5 → Ar hx 7 (c * 5 + k) = Ar hm 165 (5 * c + k)) ∧ ∀ g, g < gc → (Ar hx 9 g = Ar hm 166 g ∧ ∃ k, k < 5 ∧ Ar hm 166 g = nI k) ∧ Ar hx 10 g = Ar hm 167 g ∧ (Ar hx 11 g = Ar hm 168 g ∧ ∃ k, k < 10 ∧ Ar hm 168 g = nI k)
/-- where the gifts are -/
def HO (cc gc : Nat) (r : Nat → Int32) : Prop := ∀ j, j < gc → ∃ c, c < cc ∧ r (78 + j) = nI c
theorem v39_val : (v39 q cc gc h g c).1 = imax (nI 0) (imin (nI 999) ((v68 q cc gc (aset h 12 7 (in7 (Ar h 12) (Ar h 10 g) (v28t q cc gc (Ar h 7) c (Ar h 9 g)) (Ar h 6 c) (Ar h 6 ((Ar h 17 g).toNatClampNeg)) (v270 q cc gc (Ar h 18 g)) (Ar h 11 g) (cond (v74 q cc gc (Fi h 13 5) g) 1 0)))).1)) := by
  unfold v39 in7
  cases v74 q cc gc (Fi h 13 5) g <;> rfl
theorem v201_val : (v201 q cc gc h g c).1 = imax (nI 0) (imin (nI 999) ((v200 q cc gc (aset h 177 7 (in7 (Ar h 177) (Ar h 167 g) (Ar h 165 ((nI (5 * c) + Ar h 166 g).toNatClampNeg)) (Ar h 164 c) (Ar h 164 ((Ar h 170 (78 + g)).toNatClampNeg)) (v270 q cc gc (Ar h 170 (86 + g))) (Ar h 168 g) (cond (v173 q cc gc (Ar h 170) g) 1 0)))).1)) := rfl
theorem val_eq (cx : HC q cc gc hx) (cm : HC q cc gc hm) (vr : VR q cc gc (Ar hx (q.1 + 1)) (Ar hm 174)) (rm : RMm cc gc hx hm) (s : RS cc gc (Ar hx 14) (Ar hx 15) (Ar hx 16) (Ar hx 17) (Ar hx 18) (Fi hx 13 5) (Fi hx 13 6) (Ar hm 170)) (ho : HO cc gc (Ar hm 170)) (hg : g < gc) (hc : c < cc) : (v39 q cc gc hx g c).1 = (v201 q cc gc hm g c).1 := by
  rw [v39_val, v201_val]
  have c6 := cx.cb
  have c1 : HC q cc gc (aset hx 12 7 (in7 (Ar hx 12) (Ar hx 10 g) (v28t q cc gc (Ar hx 7) c (Ar hx 9 g)) (Ar hx 6 c) (Ar hx 6 ((Ar hx 17 g).toNatClampNeg)) (v270 q cc gc (Ar hx 18 g)) (Ar hx 11 g) (cond (v74 q cc gc (Fi hx 13 5) g) 1 0))) := hc_a rfl rfl cx
  have c2 : HC q cc gc (aset hm 177 7 (in7 (Ar hm 177) (Ar hm 167 g) (Ar hm 165 ((nI (5 * c) + Ar hm 166 g).toNatClampNeg)) (Ar hm 164 c) (Ar hm 164 ((Ar hm 170 (78 + g)).toNatClampNeg)) (v270 q cc gc (Ar hm 170 (86 + g))) (Ar hm 168 g) (cond (v173 q cc gc (Ar hm 170) g) 1 0))) := hc_a rfl rfl cm
  obtain ⟨V, v0, v1, v2, v3⟩ := vr
  rw [v68_val c1, Ar_s, Ar_n (show q.1 + 1 ≠ 12 by have := cx.qq; omega), v1, v200_val (V := V) (A := Ar hm 177) (C := Ar hm 177) c2 v2 (by rw [Ar_n (by decide)]; exact v3), Ar_s]
  obtain ⟨⟨g1, kk, hk, g2⟩, g3, g4, -⟩ := rm.2 g hg
  obtain ⟨⟨r1, -⟩, r2⟩ := rm.1 c hc
  obtain ⟨d, hd, ed⟩ := ho g hg
  have e1 : v28t q cc gc (Ar hx 7) c (Ar hx 9 g) = Ar hm 165 ((nI (5 * c) + Ar hm 166 g).toNatClampNeg) := by
    unfold v28t
    rw [g1, g2, nI_add, nI_add, nI_clamp (by omega), nI_clamp (by omega)]
    exact r2 kk hk
  have e2 : Ar hx 6 ((Ar hx 17 g).toNatClampNeg) = Ar hm 164 ((Ar hm 170 (78 + g)).toNatClampNeg) := by
    rw [s.2.2.2.1 g hg, ed, nI_clamp (by omega)]
    exact ((rm.1 d hd).1).1
  rw [e1, e2, g3, r1, g4, s.2.2.2.2.1 g hg, eq_74 s g]
  exact congrArg (fun y => imax (nI 0) (imin (nI 999) y)) (v0 _ _ in7_cg)
end VAL
