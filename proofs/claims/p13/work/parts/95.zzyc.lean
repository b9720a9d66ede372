/-! what evaluations answer -/
section EVA
variable {cc gc : Nat} {q : QT} {h : pm_H} {s : List Int32}
def stkX (o : Nat) (h : pm_H) (s : List Int32) : Prop := Fi h o 3 = nI s.length ∧ ∀ j, j < s.length → s[j]? = some (Ar h (o + 2) (s.length - 1 - j))
def evl (st : List Int32 → Int32 → List Int32) (C : Nat → Int32) : Nat → List Int32
  | 0 => []
  | i + 1 => st (evl st C i) (C i)
theorem stX_len {A : Nat → Int32} {c : Int32} : (stX q cc gc A s c).length ≤ s.length + 1 := by
  have opn : (stO q cc gc s c).length ≤ s.length + 1 := by
    unfold stO
    cases pm_cmp .ne c (Int32.ofInt (-126)) with
    | true =>
      show s.tail.tail.length + 1 ≤ _
      rw [List.length_tail, List.length_tail]
      omega
    | false =>
      show s.tail.length + 1 ≤ _
      rw [List.length_tail]
      omega
  unfold stX
  cases pm_cmp .lt c 0 with
  | false => exact Nat.le_refl _
  | true =>
    cases pm_cmp .lt (v67 q cc gc (-c)) 0 with
    | true => exact opn
    | false =>
      cases pm_cmp .ge (v67 q cc gc (-c)) (nI 7) with
      | true => exact opn
      | false => exact Nat.le_refl _
theorem evl_len {A C : Nat → Int32} : ∀ i, (evl (stX q cc gc A) C i).length ≤ i
  | 0 => Nat.le_refl _
  | i + 1 => Nat.le_trans stX_len (Nat.add_le_add_right (evl_len i) 1)
theorem evl_take (st : List Int32 → Int32 → List Int32) (C : Nat → Int32) (cs : List Int32) (hc : ∀ j, j < cs.length → cs[j]? = some (C j)) : ∀ k, k ≤ cs.length → evl st C k = (cs.take k).foldl st []
  | 0, _ => rfl
  | k + 1, hk => by
    rw [List.take_succ, hc k hk, List.foldl_append, ← evl_take st C cs hc k (by omega)]
    rfl
theorem evl_fold (st : List Int32 → Int32 → List Int32) (C : Nat → Int32) (cs : List Int32) (hc : ∀ j, j < cs.length → cs[j]? = some (C j)) : evl st C cs.length = cs.foldl st [] := by
  rw [evl_take st C cs hc cs.length (Nat.le_refl _), List.take_length]
theorem pusha {v : Int32} (hc : HC q cc gc h) (hl : s.length < 40) (k : stkX 142 h s) : HC q cc gc (v69a q cc gc h v) ∧ frm [144, 142] [(142, 3)] h (v69a q cc gc h v) ∧ stkX 142 (v69a q cc gc h v) (v :: s) := by
  have e : v69a q cc gc h v = fset (aset h 144 40 (upd (Ar h 144) s.length v)) 142 3 (.int (nI (s.length + 1))) := by
    unfold v69a
    rw [k.1, hI_ge (by omega) (by decide), decide_eq_false (by omega), nI_clamp (by omega), nI_add]
    rfl
  have h1 : HC q cc gc (aset h 144 40 (upd (Ar h 144) s.length v)) := hc_a rfl rfl hc
  rw [e]
  refine ⟨hc_f rfl rfl (by decide) rfl h1, fr_f rfl rfl (fr_a rfl rfl fr_0), Fi_s h1.wt (by decide) rfl (by decide) rfl, fun j hj => ?_⟩
  rw [show Ar (fset (aset h 144 40 (upd (Ar h 144) s.length v)) 142 3 (.int (nI (s.length + 1)))) 144 = upd (Ar h 144) s.length v from Ar_f.trans Ar_s]
  cases j with
  | zero =>
    show some v = some (upd (Ar h 144) s.length v (s.length + 1 - 1 - 0))
    unfold upd
    rw [if_pos (by omega)]
  | succ j =>
    have hj : j + 1 < s.length + 1 := hj
    show s[j]? = some (upd (Ar h 144) s.length v (s.length + 1 - 1 - (j + 1)))
    unfold upd
    rw [if_neg (by omega), k.2 j (by omega)]
    rw [show s.length + 1 - 1 - (j + 1) = s.length - 1 - j by omega]
theorem nI_s1 (n : Nat) : nI (n + 1) - nI 1 = nI n := nI_pred n
theorem popa (hc : HC q cc gc h) (hl : s.length < 100) (k : stkX 142 h s) : (v70a q cc gc h).1 = s.headD 0 ∧ HC q cc gc (v70a q cc gc h).2 ∧ frm [144, 142] [(142, 3)] h (v70a q cc gc h).2 ∧ stkX 142 (v70a q cc gc h).2 s.tail := by
  cases s with
  | nil =>
    have e : v70a q cc gc h = (nI 0, h) := by
      unfold v70a
      rw [k.1, show pm_cmp .gt (nI ([] : List Int32).length) 0 = false from by decide]
      rfl
    rw [e]
    exact ⟨rfl, hc, fr_0, k⟩
  | cons x r =>
    have hl : r.length + 1 < 100 := hl
    have k1 : Fi h 142 3 = nI (r.length + 1) := k.1
    have e : v70a q cc gc h = (Ar h 144 r.length, fset h 142 3 (.int (nI r.length))) := by
      unfold v70a
      rw [k1, show pm_cmp .gt (nI (r.length + 1)) 0 = true from (hI_gt (a := r.length + 1) (b := 0) (by omega) (by decide)).trans (decide_eq_true (by omega)), show nI (r.length + 1) - nI 1 = nI r.length from nI_s1 _, nI_clamp (by omega)]
      rfl
    have k2 : ∀ j, j < r.length + 1 → (x :: r)[j]? = some (Ar h 144 (r.length + 1 - 1 - j)) := k.2
    rw [e]
    refine ⟨?_, hc_f rfl rfl (by decide) rfl hc, fr_f rfl rfl fr_0, Fi_s hc.wt (by decide) rfl (by decide) rfl, fun j hj => ?_⟩
    · have q := k2 0 (by omega)
      rw [show r.length + 1 - 1 - 0 = r.length by omega] at q
      exact (Option.some.inj q).symm
    · have hj : j < r.length := hj
      have q := k2 (j + 1) (by omega)
      rw [show r.length + 1 - 1 - (j + 1) = r.length - 1 - j by omega] at q
      show r[j]? = some (Ar (fset h 142 3 (.int (nI r.length))) 144 (r.length - 1 - j))
      rw [Ar_f]
      exact q
theorem stepa {z i : Nat} (hc : HC q cc gc h) (hl : s.length < 40) (k : stkX 142 h s) : HC q cc gc (v68a_7b q cc gc h z i) ∧ frm [144, 142] [(142, 3)] h (v68a_7b q cc gc h z i) ∧ stkX 142 (v68a_7b q cc gc h z i) (stX q cc gc (Ar h 12) s (Ar h 143 i)) := by
  have opn : HC q cc gc (cond (pm_cmp .ne ((Ar h 143) i) (Int32.ofInt (-126))) (v69a q cc gc ((v70a q cc gc ((v70a q cc gc h).2)).2) (v71 q cc gc (-((Ar h 143) i)) ((v70a q cc gc ((v70a q cc gc h).2)).1) ((v70a q cc gc h).1))) (v69a q cc gc ((v70a q cc gc h).2) (-((v70a q cc gc h).1)))) ∧ frm [144, 142] [(142, 3)] h (cond (pm_cmp .ne ((Ar h 143) i) (Int32.ofInt (-126))) (v69a q cc gc ((v70a q cc gc ((v70a q cc gc h).2)).2) (v71 q cc gc (-((Ar h 143) i)) ((v70a q cc gc ((v70a q cc gc h).2)).1) ((v70a q cc gc h).1))) (v69a q cc gc ((v70a q cc gc h).2) (-((v70a q cc gc h).1)))) ∧ stkX 142 (cond (pm_cmp .ne ((Ar h 143) i) (Int32.ofInt (-126))) (v69a q cc gc ((v70a q cc gc ((v70a q cc gc h).2)).2) (v71 q cc gc (-((Ar h 143) i)) ((v70a q cc gc ((v70a q cc gc h).2)).1) ((v70a q cc gc h).1))) (v69a q cc gc ((v70a q cc gc h).2) (-((v70a q cc gc h).1)))) (stO q cc gc s (Ar h 143 i)) := by
    obtain ⟨p1, p2, p3, p4⟩ := popa hc (by omega) k
    have hl1 : s.tail.length ≤ s.length := by rw [List.length_tail]; omega
    obtain ⟨r1, r2, r3, r4⟩ := popa p2 (by omega) p4
    have hl2 : s.tail.tail.length ≤ s.tail.length := by rw [List.length_tail]; omega
    unfold stO
    rw [p1, r1]
    cases pm_cmp .ne ((Ar h 143) i) (Int32.ofInt (-126)) with
    | true =>
      simp only [cond_true]
      obtain ⟨a1, a2, a3⟩ := pusha (v := v71 q cc gc (-((Ar h 143) i)) (s.tail.headD 0) (s.headD 0)) r2 (by omega) r4
      exact ⟨a1, fr_t a2 (fr_t r3 p3), a3⟩
    | false =>
      simp only [cond_false]
      obtain ⟨a1, a2, a3⟩ := pusha (v := -(s.headD 0)) p2 (by omega) p4
      exact ⟨a1, fr_t a2 p3, a3⟩
  cases z1 : pm_cmp .lt ((Ar h 143) i) 0 with
  | false =>
    have e1 : v68a_7b q cc gc h z i = v69a q cc gc h ((Ar h 143) i) := by
      unfold v68a_7b
      rw [z1, cond_false]
    have e2 : stX q cc gc (Ar h 12) s ((Ar h 143) i) = (Ar h 143) i :: s := by
      unfold stX
      rw [z1, cond_false]
    rw [e1, e2]
    exact pusha hc hl k
  | true =>
    cases z2 : pm_cmp .lt (v67 q cc gc (-((Ar h 143) i))) 0 with
    | true =>
      have e1 : v68a_7b q cc gc h z i = cond (pm_cmp .ne ((Ar h 143) i) (Int32.ofInt (-126))) (v69a q cc gc ((v70a q cc gc ((v70a q cc gc h).2)).2) (v71 q cc gc (-((Ar h 143) i)) ((v70a q cc gc ((v70a q cc gc h).2)).1) ((v70a q cc gc h).1))) (v69a q cc gc ((v70a q cc gc h).2) (-((v70a q cc gc h).1))) := by
        unfold v68a_7b
        rw [z1, cond_true, z2, cond_true]
      have e2 : stX q cc gc (Ar h 12) s ((Ar h 143) i) = stO q cc gc s ((Ar h 143) i) := by
        unfold stX
        rw [z1, cond_true, z2, cond_true]
      rw [e1, e2]
      exact opn
    | false =>
      cases z3 : pm_cmp .ge (v67 q cc gc (-((Ar h 143) i))) (nI 7) with
      | true =>
        have e1 : v68a_7b q cc gc h z i = cond (pm_cmp .ne ((Ar h 143) i) (Int32.ofInt (-126))) (v69a q cc gc ((v70a q cc gc ((v70a q cc gc h).2)).2) (v71 q cc gc (-((Ar h 143) i)) ((v70a q cc gc ((v70a q cc gc h).2)).1) ((v70a q cc gc h).1))) (v69a q cc gc ((v70a q cc gc h).2) (-((v70a q cc gc h).1))) := by
          unfold v68a_7b
          rw [z1, cond_true, z2, cond_false, z3, cond_true]
        have e2 : stX q cc gc (Ar h 12) s ((Ar h 143) i) = stO q cc gc s ((Ar h 143) i) := by
          unfold stX
          rw [z1, cond_true, z2, cond_false, z3, cond_true]
        rw [e1, e2]
        exact opn
      | false =>
        have e1 : v68a_7b q cc gc h z i = v69a q cc gc h (Ar h 12 ((v67 q cc gc (-((Ar h 143) i))).toNatClampNeg)) := by
          unfold v68a_7b
          rw [z1, cond_true, z2, cond_false, z3, cond_false]
        have e2 : stX q cc gc (Ar h 12) s ((Ar h 143) i) = Ar h 12 ((v67 q cc gc (-((Ar h 143) i))).toNatClampNeg) :: s := by
          unfold stX
          rw [z1, cond_true, z2, cond_false, z3, cond_false]
        rw [e1, e2]
        exact pusha hc hl k
theorem evA {z : Nat} (hz : z ≤ 40) (hc : HC q cc gc h) : (v68a q cc gc h z).1 = (evl (stX q cc gc (Ar h 12)) (Ar h 143) z).headD 0 := by
  have h0 : HC q cc gc (fset h 142 3 (.int (nI 0))) := hc_f rfl rfl (by decide) rfl hc
  have q := lp_in (f := fun i a => v68a_7b q cc gc a z i) (P := fun i g => HC q cc gc g ∧ frm [144, 142] [(142, 3)] h g ∧ stkX 142 g (evl (stX q cc gc (Ar h 12)) (Ar h 143) i)) z 0 (fset h 142 3 (.int (nI 0))) ⟨h0, fr_f rfl rfl fr_0, Fi_s hc.wt (by decide) rfl (by decide) rfl, fun j hj => absurd hj (Nat.not_lt_zero j)⟩ (fun i g _ hi p => by
    obtain ⟨p1, p2, p3⟩ := p
    have hl := evl_len (q := q) (cc := cc) (gc := gc) (A := Ar h 12) (C := Ar h 143) i
    obtain ⟨a1, a2, a3⟩ := stepa (z := z) (i := i) p1 (by omega) p3
    rw [Ar_e (p2.1 12 rfl), Ar_e (p2.1 143 rfl)] at a3
    exact ⟨a1, fr_t a2 p2, a3⟩)
  rw [Nat.zero_add] at q
  obtain ⟨p1, p2, p3⟩ := q
  have hl := evl_len (q := q) (cc := cc) (gc := gc) (A := Ar h 12) (C := Ar h 143) z
  exact (popa p1 (by omega) p3).1
theorem pushb {v : Int32} (hc : HC q cc gc h) (hl : s.length < 40) (k : stkX 145 h s) : HC q cc gc (v69b q cc gc h v) ∧ frm [147, 145] [(145, 3)] h (v69b q cc gc h v) ∧ stkX 145 (v69b q cc gc h v) (v :: s) := by
  have e : v69b q cc gc h v = fset (aset h 147 40 (upd (Ar h 147) s.length v)) 145 3 (.int (nI (s.length + 1))) := by
    unfold v69b
    rw [k.1, hI_ge (by omega) (by decide), decide_eq_false (by omega), nI_clamp (by omega), nI_add]
    rfl
  have h1 : HC q cc gc (aset h 147 40 (upd (Ar h 147) s.length v)) := hc_a rfl rfl hc
  rw [e]
  refine ⟨hc_f rfl rfl (by decide) rfl h1, fr_f rfl rfl (fr_a rfl rfl fr_0), Fi_s h1.wt (by decide) rfl (by decide) rfl, fun j hj => ?_⟩
  rw [show Ar (fset (aset h 147 40 (upd (Ar h 147) s.length v)) 145 3 (.int (nI (s.length + 1)))) 147 = upd (Ar h 147) s.length v from Ar_f.trans Ar_s]
  cases j with
  | zero =>
    show some v = some (upd (Ar h 147) s.length v (s.length + 1 - 1 - 0))
    unfold upd
    rw [if_pos (by omega)]
  | succ j =>
    have hj : j + 1 < s.length + 1 := hj
    show s[j]? = some (upd (Ar h 147) s.length v (s.length + 1 - 1 - (j + 1)))
    unfold upd
    rw [if_neg (by omega), k.2 j (by omega)]
    rw [show s.length + 1 - 1 - (j + 1) = s.length - 1 - j by omega]
theorem popb (hc : HC q cc gc h) (hl : s.length < 100) (k : stkX 145 h s) : (v70b q cc gc h).1 = s.headD 0 ∧ HC q cc gc (v70b q cc gc h).2 ∧ frm [147, 145] [(145, 3)] h (v70b q cc gc h).2 ∧ stkX 145 (v70b q cc gc h).2 s.tail := by
  cases s with
  | nil =>
    have e : v70b q cc gc h = (nI 0, h) := by
      unfold v70b
      rw [k.1, show pm_cmp .gt (nI ([] : List Int32).length) 0 = false from by decide]
      rfl
    rw [e]
    exact ⟨rfl, hc, fr_0, k⟩
  | cons x r =>
    have hl : r.length + 1 < 100 := hl
    have k1 : Fi h 145 3 = nI (r.length + 1) := k.1
    have e : v70b q cc gc h = (Ar h 147 r.length, fset h 145 3 (.int (nI r.length))) := by
      unfold v70b
      rw [k1, show pm_cmp .gt (nI (r.length + 1)) 0 = true from (hI_gt (a := r.length + 1) (b := 0) (by omega) (by decide)).trans (decide_eq_true (by omega)), show nI (r.length + 1) - nI 1 = nI r.length from nI_s1 _, nI_clamp (by omega)]
      rfl
    have k2 : ∀ j, j < r.length + 1 → (x :: r)[j]? = some (Ar h 147 (r.length + 1 - 1 - j)) := k.2
    rw [e]
    refine ⟨?_, hc_f rfl rfl (by decide) rfl hc, fr_f rfl rfl fr_0, Fi_s hc.wt (by decide) rfl (by decide) rfl, fun j hj => ?_⟩
    · have q := k2 0 (by omega)
      rw [show r.length + 1 - 1 - 0 = r.length by omega] at q
      exact (Option.some.inj q).symm
    · have hj : j < r.length := hj
      have q := k2 (j + 1) (by omega)
      rw [show r.length + 1 - 1 - (j + 1) = r.length - 1 - j by omega] at q
      show r[j]? = some (Ar (fset h 145 3 (.int (nI r.length))) 147 (r.length - 1 - j))
      rw [Ar_f]
      exact q
theorem stepb {z i : Nat} (hc : HC q cc gc h) (hl : s.length < 40) (k : stkX 145 h s) : HC q cc gc (v68b_7b q cc gc h z i) ∧ frm [147, 145] [(145, 3)] h (v68b_7b q cc gc h z i) ∧ stkX 145 (v68b_7b q cc gc h z i) (stX q cc gc (Ar h 12) s (Ar h 146 i)) := by
  have opn : HC q cc gc (cond (pm_cmp .ne ((Ar h 146) i) (Int32.ofInt (-126))) (v69b q cc gc ((v70b q cc gc ((v70b q cc gc h).2)).2) (v71 q cc gc (-((Ar h 146) i)) ((v70b q cc gc ((v70b q cc gc h).2)).1) ((v70b q cc gc h).1))) (v69b q cc gc ((v70b q cc gc h).2) (-((v70b q cc gc h).1)))) ∧ frm [147, 145] [(145, 3)] h (cond (pm_cmp .ne ((Ar h 146) i) (Int32.ofInt (-126))) (v69b q cc gc ((v70b q cc gc ((v70b q cc gc h).2)).2) (v71 q cc gc (-((Ar h 146) i)) ((v70b q cc gc ((v70b q cc gc h).2)).1) ((v70b q cc gc h).1))) (v69b q cc gc ((v70b q cc gc h).2) (-((v70b q cc gc h).1)))) ∧ stkX 145 (cond (pm_cmp .ne ((Ar h 146) i) (Int32.ofInt (-126))) (v69b q cc gc ((v70b q cc gc ((v70b q cc gc h).2)).2) (v71 q cc gc (-((Ar h 146) i)) ((v70b q cc gc ((v70b q cc gc h).2)).1) ((v70b q cc gc h).1))) (v69b q cc gc ((v70b q cc gc h).2) (-((v70b q cc gc h).1)))) (stO q cc gc s (Ar h 146 i)) := by
    obtain ⟨p1, p2, p3, p4⟩ := popb hc (by omega) k
    have hl1 : s.tail.length ≤ s.length := by rw [List.length_tail]; omega
    obtain ⟨r1, r2, r3, r4⟩ := popb p2 (by omega) p4
    have hl2 : s.tail.tail.length ≤ s.tail.length := by rw [List.length_tail]; omega
    unfold stO
    rw [p1, r1]
    cases pm_cmp .ne ((Ar h 146) i) (Int32.ofInt (-126)) with
    | true =>
      simp only [cond_true]
      obtain ⟨a1, a2, a3⟩ := pushb (v := v71 q cc gc (-((Ar h 146) i)) (s.tail.headD 0) (s.headD 0)) r2 (by omega) r4
      exact ⟨a1, fr_t a2 (fr_t r3 p3), a3⟩
    | false =>
      simp only [cond_false]
      obtain ⟨a1, a2, a3⟩ := pushb (v := -(s.headD 0)) p2 (by omega) p4
      exact ⟨a1, fr_t a2 p3, a3⟩
  cases z1 : pm_cmp .lt ((Ar h 146) i) 0 with
  | false =>
    have e1 : v68b_7b q cc gc h z i = v69b q cc gc h ((Ar h 146) i) := by
      unfold v68b_7b
      rw [z1, cond_false]
    have e2 : stX q cc gc (Ar h 12) s ((Ar h 146) i) = (Ar h 146) i :: s := by
      unfold stX
      rw [z1, cond_false]
    rw [e1, e2]
    exact pushb hc hl k
  | true =>
    cases z2 : pm_cmp .lt (v67 q cc gc (-((Ar h 146) i))) 0 with
    | true =>
      have e1 : v68b_7b q cc gc h z i = cond (pm_cmp .ne ((Ar h 146) i) (Int32.ofInt (-126))) (v69b q cc gc ((v70b q cc gc ((v70b q cc gc h).2)).2) (v71 q cc gc (-((Ar h 146) i)) ((v70b q cc gc ((v70b q cc gc h).2)).1) ((v70b q cc gc h).1))) (v69b q cc gc ((v70b q cc gc h).2) (-((v70b q cc gc h).1))) := by
        unfold v68b_7b
        rw [z1, cond_true, z2, cond_true]
      have e2 : stX q cc gc (Ar h 12) s ((Ar h 146) i) = stO q cc gc s ((Ar h 146) i) := by
        unfold stX
        rw [z1, cond_true, z2, cond_true]
      rw [e1, e2]
      exact opn
    | false =>
      cases z3 : pm_cmp .ge (v67 q cc gc (-((Ar h 146) i))) (nI 7) with
      | true =>
        have e1 : v68b_7b q cc gc h z i = cond (pm_cmp .ne ((Ar h 146) i) (Int32.ofInt (-126))) (v69b q cc gc ((v70b q cc gc ((v70b q cc gc h).2)).2) (v71 q cc gc (-((Ar h 146) i)) ((v70b q cc gc ((v70b q cc gc h).2)).1) ((v70b q cc gc h).1))) (v69b q cc gc ((v70b q cc gc h).2) (-((v70b q cc gc h).1))) := by
          unfold v68b_7b
          rw [z1, cond_true, z2, cond_false, z3, cond_true]
        have e2 : stX q cc gc (Ar h 12) s ((Ar h 146) i) = stO q cc gc s ((Ar h 146) i) := by
          unfold stX
          rw [z1, cond_true, z2, cond_false, z3, cond_true]
        rw [e1, e2]
        exact opn
      | false =>
        have e1 : v68b_7b q cc gc h z i = v69b q cc gc h (Ar h 12 ((v67 q cc gc (-((Ar h 146) i))).toNatClampNeg)) := by
          unfold v68b_7b
          rw [z1, cond_true, z2, cond_false, z3, cond_false]
        have e2 : stX q cc gc (Ar h 12) s ((Ar h 146) i) = Ar h 12 ((v67 q cc gc (-((Ar h 146) i))).toNatClampNeg) :: s := by
          unfold stX
          rw [z1, cond_true, z2, cond_false, z3, cond_false]
        rw [e1, e2]
        exact pushb hc hl k
theorem evB {z : Nat} (hz : z ≤ 40) (hc : HC q cc gc h) : (v68b q cc gc h z).1 = (evl (stX q cc gc (Ar h 12)) (Ar h 146) z).headD 0 := by
  have h0 : HC q cc gc (fset h 145 3 (.int (nI 0))) := hc_f rfl rfl (by decide) rfl hc
  have q := lp_in (f := fun i a => v68b_7b q cc gc a z i) (P := fun i g => HC q cc gc g ∧ frm [147, 145] [(145, 3)] h g ∧ stkX 145 g (evl (stX q cc gc (Ar h 12)) (Ar h 146) i)) z 0 (fset h 145 3 (.int (nI 0))) ⟨h0, fr_f rfl rfl fr_0, Fi_s hc.wt (by decide) rfl (by decide) rfl, fun j hj => absurd hj (Nat.not_lt_zero j)⟩ (fun i g _ hi p => by
    obtain ⟨p1, p2, p3⟩ := p
    have hl := evl_len (q := q) (cc := cc) (gc := gc) (A := Ar h 12) (C := Ar h 146) i
    obtain ⟨a1, a2, a3⟩ := stepb (z := z) (i := i) p1 (by omega) p3
    rw [Ar_e (p2.1 12 rfl), Ar_e (p2.1 146 rfl)] at a3
    exact ⟨a1, fr_t a2 p2, a3⟩)
  rw [Nat.zero_add] at q
  obtain ⟨p1, p2, p3⟩ := q
  have hl := evl_len (q := q) (cc := cc) (gc := gc) (A := Ar h 12) (C := Ar h 146) z
  exact (popb p1 (by omega) p3).1
/-- the reference's -/
def stkM (h : pm_H) (x : Int32) (s : List Int32) : Prop := x = nI s.length ∧ ∀ j, j < s.length → s[j]? = some (Ar h 176 (s.length - 1 - j))
theorem stkM_push {v : Int32} (hl : s.length < 80) (k : stkM h (nI s.length) s) : stkM (aset h 176 80 (upd (Ar h 176) s.length v)) (nI (s.length + 1)) (v :: s) := by
  refine ⟨rfl, fun j hj => ?_⟩
  rw [Ar_s]
  cases j with
  | zero =>
    show some v = some (upd (Ar h 176) s.length v (s.length + 1 - 1 - 0))
    unfold upd
    rw [if_pos (by omega)]
  | succ j =>
    have hj : j + 1 < s.length + 1 := hj
    show s[j]? = some (upd (Ar h 176) s.length v (s.length + 1 - 1 - (j + 1)))
    unfold upd
    rw [if_neg (by omega), k.2 j (by omega)]
    rw [show s.length + 1 - 1 - (j + 1) = s.length - 1 - j by omega]
theorem stkM_put {v y : Int32} {r : List Int32} (k : stkM h (nI (r.length + 1)) (y :: r)) : stkM (aset h 176 80 (upd (Ar h 176) r.length v)) (nI (r.length + 1)) (v :: r) := by
  refine ⟨rfl, fun j hj => ?_⟩
  have hj : j < r.length + 1 := hj
  rw [Ar_s]
  cases j with
  | zero =>
    show some v = some (upd (Ar h 176) r.length v (r.length + 1 - 1 - 0))
    unfold upd
    rw [if_pos (by omega)]
  | succ j =>
    show r[j]? = some (upd (Ar h 176) r.length v (r.length + 1 - 1 - (j + 1)))
    have q := k.2 (j + 1) hj
    have q : r[j]? = some (Ar h 176 (r.length + 1 - 1 - (j + 1))) := q
    unfold upd
    rw [if_neg (by omega)]
    exact q
theorem stkM_top {y x : Int32} {r : List Int32} (k : stkM h x (y :: r)) : Ar h 176 r.length = y := by
  have q := k.2 0 (Nat.succ_pos _)
  have q : some y = some (Ar h 176 (r.length + 1 - 1 - 0)) := q
  rw [show r.length + 1 - 1 - 0 = r.length by omega] at q
  exact (Option.some.inj q).symm
theorem stkM_pop {y x : Int32} {r : List Int32} (k : stkM h x (y :: r)) : stkM h (nI r.length) r := by
  refine ⟨rfl, fun j hj => ?_⟩
  have q := k.2 (j + 1) (Nat.succ_lt_succ hj)
  have q : r[j]? = some (Ar h 176 (r.length + 1 - 1 - (j + 1))) := q
  rw [show r.length + 1 - 1 - (j + 1) = r.length - 1 - j by omega] at q
  exact q
theorem m1_pre (n : Nat) : nI (n + 1) + Int32.ofInt (-1) = nI n := by
  rw [show nI (n + 1) = nI n + nI 1 from (nI_add n 1).symm, Int32.add_assoc, show nI 1 + Int32.ofInt (-1) = 0 from by decide]
  exact Int32.add_zero _
theorem cmp_ne {c : Int32} {k : Nat} : pm_cmp .ne c (nI k) = !decide (c = nI k) := by
  by_cases z : c = nI k
  · rw [decide_eq_true z]
    exact decide_eq_false (fun y => y z)
  · rw [decide_eq_false z]
    exact decide_eq_true z
theorem cmp_lt {c : Int32} {k : Nat} : pm_cmp .lt c (nI k) = !decide (nI k ≤ c) := by
  by_cases z : nI k ≤ c
  · rw [decide_eq_true z]
    exact decide_eq_false (fun y => Int32.not_lt.mpr z y)
  · rw [decide_eq_false z]
    exact decide_eq_true (Int32.not_le.mp z)
/-- a step of the reference's, where the stack holds enough -/
theorem stepM {i d d' : Nat} {x : Int32} (hc : HC q cc gc h) (hl : s.length < 80) (k : stkM h x s) (hd : s.length = d) (e : dst d (Ar h 174 i) = some d') : HC q cc gc (v200_4b q cc gc h i x).2 ∧ frm [176] [] h (v200_4b q cc gc h i x).2 ∧ stkM (v200_4b q cc gc h i x).2 (v200_4b q cc gc h i x).1 (stM q cc gc (Ar h 177) s (Ar h 174 i)) ∧ (stM q cc gc (Ar h 177) s (Ar h 174 i)).length = d' := by
  subst hd
  have kx := k.1
  subst kx
  unfold dst at e
  unfold v200_4b stM
  rw [show pm_cmp .ne (Ar h 174 i) (nI 3000) = !decide (Ar h 174 i = nI 3000) from cmp_ne, show pm_cmp .lt (Ar h 174 i) (nI 2000) = !decide (nI 2000 ≤ Ar h 174 i) from cmp_lt]
  by_cases z1 : Ar h 174 i = 3000
  · rw [if_pos z1] at e
    rw [decide_eq_true (show Ar h 174 i = nI 3000 from z1)]
    split at e
    · rename_i hs
      cases e
      cases s with
      | nil => exact absurd hs (by decide)
      | cons y r =>
        have hl : r.length + 1 < 80 := hl
        have e1 : nI (y :: r).length - nI 1 = nI r.length := nI_s1 r.length
        simp only [Bool.not_true, cond_false]
        rw [e1, nI_clamp (by omega), stkM_top k]
        exact ⟨hc_a rfl rfl hc, fr_a rfl rfl fr_0, stkM_put k, rfl⟩
    · cases e
  · rw [if_neg z1] at e
    rw [decide_eq_false (show ¬ Ar h 174 i = nI 3000 from z1)]
    by_cases z2 : 2000 ≤ Ar h 174 i
    · rw [if_pos z2] at e
      rw [decide_eq_true (show nI 2000 ≤ Ar h 174 i from z2)]
      split at e
      · rename_i hs
        cases e
        cases s with
        | nil => exact absurd hs.2 (by decide)
        | cons y r =>
          cases r with
          | nil => exact absurd hs.2 (show ¬ 2 ≤ 1 by decide)
          | cons w r =>
            have hl : r.length + 1 + 1 < 80 := hl
            have e1 : nI (y :: w :: r).length + Int32.ofInt (-1) = nI (r.length + 1) := m1_pre (r.length + 1)
            have e2 : nI (r.length + 1) - nI 1 = nI r.length := nI_s1 r.length
            have k1 := stkM_pop k
            have t1 : Ar h 176 (r.length + 1) = y := stkM_top k
            have t2 : Ar h 176 r.length = w := stkM_top k1
            have eb : ((nI (y :: w :: r).length + Int32.ofInt (-1)), aset h 176 80 (upd (Ar h 176) (((nI (y :: w :: r).length + Int32.ofInt (-1)) - (nI 1)).toNatClampNeg) (v199 q cc gc (((Ar h 174) i) - (nI 2000)) ((Ar h 176) (((nI (y :: w :: r).length + Int32.ofInt (-1)) - (nI 1)).toNatClampNeg)) ((Ar h 176) ((nI (y :: w :: r).length + Int32.ofInt (-1)).toNatClampNeg))))) = (nI (r.length + 1), aset h 176 80 (upd (Ar h 176) r.length (v199 q cc gc (((Ar h 174) i) - (nI 2000)) w y))) := by
              rw [e1, e2, nI_clamp (by omega), nI_clamp (by omega), t1, t2]
            show HC q cc gc (((nI (y :: w :: r).length + Int32.ofInt (-1)), aset h 176 80 (upd (Ar h 176) (((nI (y :: w :: r).length + Int32.ofInt (-1)) - (nI 1)).toNatClampNeg) (v199 q cc gc (((Ar h 174) i) - (nI 2000)) ((Ar h 176) (((nI (y :: w :: r).length + Int32.ofInt (-1)) - (nI 1)).toNatClampNeg)) ((Ar h 176) ((nI (y :: w :: r).length + Int32.ofInt (-1)).toNatClampNeg))))) : Int32 × pm_H).2 ∧ frm [176] [] h (((nI (y :: w :: r).length + Int32.ofInt (-1)), aset h 176 80 (upd (Ar h 176) (((nI (y :: w :: r).length + Int32.ofInt (-1)) - (nI 1)).toNatClampNeg) (v199 q cc gc (((Ar h 174) i) - (nI 2000)) ((Ar h 176) (((nI (y :: w :: r).length + Int32.ofInt (-1)) - (nI 1)).toNatClampNeg)) ((Ar h 176) ((nI (y :: w :: r).length + Int32.ofInt (-1)).toNatClampNeg))))) : Int32 × pm_H).2 ∧ stkM (((nI (y :: w :: r).length + Int32.ofInt (-1)), aset h 176 80 (upd (Ar h 176) (((nI (y :: w :: r).length + Int32.ofInt (-1)) - (nI 1)).toNatClampNeg) (v199 q cc gc (((Ar h 174) i) - (nI 2000)) ((Ar h 176) (((nI (y :: w :: r).length + Int32.ofInt (-1)) - (nI 1)).toNatClampNeg)) ((Ar h 176) ((nI (y :: w :: r).length + Int32.ofInt (-1)).toNatClampNeg))))) : Int32 × pm_H).2 (((nI (y :: w :: r).length + Int32.ofInt (-1)), aset h 176 80 (upd (Ar h 176) (((nI (y :: w :: r).length + Int32.ofInt (-1)) - (nI 1)).toNatClampNeg) (v199 q cc gc (((Ar h 174) i) - (nI 2000)) ((Ar h 176) (((nI (y :: w :: r).length + Int32.ofInt (-1)) - (nI 1)).toNatClampNeg)) ((Ar h 176) ((nI (y :: w :: r).length + Int32.ofInt (-1)).toNatClampNeg))))) : Int32 × pm_H).1 (v199 q cc gc (Ar h 174 i - nI 2000) w y :: r) ∧ (v199 q cc gc (Ar h 174 i - nI 2000) w y :: r).length = (y :: w :: r).length - 1
            rw [eb]
            exact ⟨hc_a rfl rfl hc, fr_a rfl rfl fr_0, stkM_put k1, rfl⟩
      · cases e
    · rw [if_neg z2] at e
      rw [decide_eq_false (show ¬ nI 2000 ≤ Ar h 174 i from z2)]
      have ee : d' = s.length + 1 := by
        split at e
        · split at e
          · cases e
            rfl
          · cases e
        · cases e
          rfl
      subst ee
      show HC q cc gc (aset h 176 80 (upd (Ar h 176) ((nI s.length).toNatClampNeg) (cond (pm_cmp .lt ((Ar h 174) i) (nI 1000)) ((Ar h 174) i) ((Ar h 177) ((((Ar h 174) i) - (nI 1000)).toNatClampNeg))))) ∧ frm [176] [] h (aset h 176 80 (upd (Ar h 176) ((nI s.length).toNatClampNeg) (cond (pm_cmp .lt ((Ar h 174) i) (nI 1000)) ((Ar h 174) i) ((Ar h 177) ((((Ar h 174) i) - (nI 1000)).toNatClampNeg))))) ∧ stkM (aset h 176 80 (upd (Ar h 176) ((nI s.length).toNatClampNeg) (cond (pm_cmp .lt ((Ar h 174) i) (nI 1000)) ((Ar h 174) i) ((Ar h 177) ((((Ar h 174) i) - (nI 1000)).toNatClampNeg))))) (nI s.length + Int32.ofInt 1) ((cond (pm_cmp .lt ((Ar h 174) i) (nI 1000)) ((Ar h 174) i) ((Ar h 177) ((((Ar h 174) i) - (nI 1000)).toNatClampNeg))) :: s) ∧ _
      rw [nI_clamp (by omega), show nI s.length + Int32.ofInt 1 = nI (s.length + 1) from nI_inc s.length 1]
      exact ⟨hc_a rfl rfl hc, fr_a rfl rfl fr_0, stkM_push (by omega) k, rfl⟩
theorem evM {dn : Nat} (hz : q.2.2 ≠ 0) (hc : HC q cc gc h) (hd : dep (Ar h 174) q.2.2 = some dn) {V : Int32} (hV : evl (stM q cc gc (Ar h 177)) (Ar h 174) q.2.2 = [V]) : (v200 q cc gc h).1 = V := by
  have hz8 := hc.zr
  have p := lp_in (f := fun i (a : Int32 × pm_H) => v200_4b q cc gc a.2 i a.1) (P := fun i g => HC q cc gc g.2 ∧ frm [176] [] h g.2 ∧ stkM g.2 g.1 (evl (stM q cc gc (Ar h 177)) (Ar h 174) i) ∧ dep (Ar h 174) i = some (evl (stM q cc gc (Ar h 177)) (Ar h 174) i).length) q.2.2 0 (nI 0, h) ⟨hc, fr_0, ⟨rfl, fun j hj => absurd hj (Nat.not_lt_zero j)⟩, rfl⟩ (fun i g _ hi p => by
    obtain ⟨p1, p2, p3, p4⟩ := p
    obtain ⟨d1, e1⟩ := dep_pre (f := Ar h 174) (k := i + 1) (m := q.2.2 - (i + 1)) (d := dn) (by rw [show i + 1 + (q.2.2 - (i + 1)) = q.2.2 by omega]; exact hd)
    obtain ⟨d0, e2, e3⟩ := dep_step e1
    rw [p4] at e2
    have e2 := Option.some.inj e2
    have hl := dep_le p4
    have e4 : Ar g.2 174 = Ar h 174 := Ar_e (p2.1 174 rfl)
    have e5 : Ar g.2 177 = Ar h 177 := Ar_e (p2.1 177 rfl)
    obtain ⟨a1, a2, a3, a4⟩ := stepM (d := d0) (d' := d1) (i := i) p1 (by omega) p3 e2 (by rw [e4]; exact e3)
    rw [e4, e5] at a3 a4
    refine ⟨a1, fr_t a2 p2, a3, ?_⟩
    rw [e1]
    exact congrArg some a4.symm)
  rw [Nat.zero_add, hV] at p
  obtain ⟨p1, p2, p3, p4⟩ := p
  unfold v200
  rw [decide_eq_true hz]
  exact stkM_top p3
end EVA
