section MG95zzzhx0
/-! year: the reference's reading -/
section YRM
variable {n fr lo sl n0 cc gc c t p : Nat} {q : QT} {h H : pm_H} {R : pm_Rs} {tp : Nat → Int32}
theorem fmF {g : Nat} {x : Int32} {as : List av} (hw : WT h) (hb : wd (bB 162) = .inr (11, as)) (hg : as[g]? = some ai_top) (e : Fi h 162 g = x) : mF h g (.int x) := by
  have z := wt_i (c := 162) (g := g) hw (by decide) hb (by decide) hg
  rw [e] at z
  exact z
theorem m14_w (hw : WT h) : mF h 14 (.ref 172) := wt_r hw (by decide) rfl (by decide) rfl rfl
def ykI (f : Nat → Int32) (t p : Nat) : Int32 := match yL f t p with
  | none => Int32.ofInt (-1)
  | some kd => nI kd
def ykP (f : Nat → Int32) (t p : Nat) : Nat := match yL f t p with
  | none => p
  | some _ => p + 1
/-- the fourth text: s, m, f, p, q -/
theorem tk_y : tko 4 tp p t (st_tx 4).length 0 = yL tp t p := by
  have c0 : (st_tx 4).getD 0 0 = nI 115 := by decide +kernel
  have c1 : (st_tx 4).getD 1 0 = nI 109 := by decide +kernel
  have c2 : (st_tx 4).getD 2 0 = nI 102 := by decide +kernel
  have c3 : (st_tx 4).getD 3 0 = nI 112 := by decide +kernel
  have c4 : (st_tx 4).getD 4 0 = nI 113 := by decide +kernel
  have e5 : (st_tx 4).length = 5 := by decide +kernel
  rw [e5]
  unfold yL
  by_cases hl : p < t
  · rw [if_pos hl]
    show (cond (decide (p < t) && decide ((st_tx 4).getD 0 0 = tp p)) (some 0) (cond (decide (p < t) && decide ((st_tx 4).getD 1 0 = tp p)) (some 1) (cond (decide (p < t) && decide ((st_tx 4).getD 2 0 = tp p)) (some 2) (cond (decide (p < t) && decide ((st_tx 4).getD 3 0 = tp p)) (some 3) (cond (decide (p < t) && decide ((st_tx 4).getD 4 0 = tp p)) (some 4) none))))) = yK (tp p)
    rw [decide_eq_true hl, c0, c1, c2, c3, c4]
    unfold yK
    generalize tp p = x
    have sy : ∀ k : Nat, (decide (nI k = x)) = decide (x = nI k) := fun k => decide_eq_decide.mpr ⟨fun e => e.symm, fun e => e.symm⟩
    rw [sy, sy, sy, sy, sy]
    by_cases e1 : x = nI 115
    · rw [decide_eq_true e1, if_pos e1]
      rfl
    · rw [decide_eq_false e1, if_neg e1]
      by_cases e2 : x = nI 109
      · rw [decide_eq_true e2, if_pos e2]
        rfl
      · rw [decide_eq_false e2, if_neg e2]
        by_cases e3 : x = nI 102
        · rw [decide_eq_true e3, if_pos e3]
          rfl
        · rw [decide_eq_false e3, if_neg e3]
          by_cases e4 : x = nI 112
          · rw [decide_eq_true e4, if_pos e4]
            rfl
          · rw [decide_eq_false e4, if_neg e4]
            by_cases e5 : x = nI 113
            · rw [decide_eq_true e5, if_pos e5]
              rfl
            · rw [decide_eq_false e5, if_neg e5]
              rfl
  · rw [if_neg hl]
    exact tko_end hl _ _
theorem set16 (hw : WT h) {m : Nat} {x : Int32} (hx : mF h 16 (.int x)) : WT (mset h 16 (.int (nI m))) ∧ frm [162] [(162, 16)] h (mset h 16 (.int (nI m))) ∧ Fi (mset h 16 (.int (nI m))) 162 16 = nI m := by
  rw [mset_fs hx]
  exact ⟨wt_fs rfl (by decide) rfl hw, fr_f rfl rfl fr_0, Fi_s hw (by decide) rfl (by decide) rfl⟩
theorem tk_w (hw : WT h) (e16 : Fi h 162 16 = nI p) (e17 : Fi h 162 17 = nI t) (ht : t ≤ 80) (hp : p < 1000) (hh : pm_run PT n fr lo 183 (0, pm_l0 [.ref 162, .retAddr 4] 3, [], h, 198, sl) = some R) : ∃ H, (WT H ∧ frm [162] [(162, 16)] h H ∧ Fi H 162 16 = nI (ykP (Ar h 172) t p)) ∧ R = (some (.int (ykI (Ar h 172) t p)), H, 198, sl) := by
  have h16 := fmF (g := 16) hw rfl rfl e16
  have e := rn_dt (F := 10) (Lo := 1000) (hd_takesOf (fr := 10) (lo := 1000) (sl := sl) (tp := Ar h 172) h16 (fmF (g := 17) hw rfl rfl e17) (m14_w hw) (wt_a hw (by decide) rfl (by decide)) ht hp (by omega) (by omega) (i := 4) (by decide)) hh
  have e : R = tkr h p sl (tko 4 (Ar h 172) p t (st_tx 4).length 0) := e
  rw [tk_y] at e
  unfold ykI ykP
  cases z : yL (Ar h 172) t p with
  | none =>
    rw [z] at e
    exact ⟨h, ⟨hw, fr_0, e16⟩, e⟩
  | some kd =>
    rw [z] at e
    exact ⟨_, set16 hw h16, e⟩
def yN (f : Nat → Int32) (t p : Nat) : Int32 := cond (dg f p t) (f p - nI 48) (Int32.ofInt (-1))
theorem nm_w (hw : WT h) (e16 : Fi h 162 16 = nI p) (e17 : Fi h 162 17 = nI t) (ht : t ≤ 80) (hp : p < 1000) (hh : pm_run PT n fr lo 184 (0, pm_l0 [.ref 162, .int (nI 1)] 4, [], h, 198, sl) = some R) : ∃ H, (WT H ∧ frm [162] [(162, 16)] h H ∧ Fi H 162 16 = nI (p + cond (dg (Ar h 172) p t) 1 0)) ∧ R = (some (.int (yN (Ar h 172) t p)), H, 198, sl) := by
  have h16 := fmF (g := 16) hw rfl rfl e16
  have e := rn_dt (F := 10) (Lo := 1000) (hd_number (fr := 10) (lo := 1000) (sl := sl) (tp := Ar h 172) h16 (fmF (g := 17) hw rfl rfl e17) (m14_w hw) (wt_a hw (by decide) rfl (by decide)) ht hp (by omega) (by omega) (d := 1) (by omega)) hh
  unfold yN
  cases z : dg (Ar h 172) p t with
  | false =>
    rw [z] at e
    exact ⟨h, ⟨hw, fr_0, e16⟩, e⟩
  | true =>
    rw [z] at e
    have e1 : nbr (Ar h 172) t 1 p 0 = (p + 1, Ar h 172 p - nI 48) := by
      show cond (dg (Ar h 172) p t) (p + 1, 10 * 0 + Ar h 172 p - 48) (p, 0) = _
      rw [z]
      show (p + 1, 10 * 0 + Ar h 172 p - 48) = (p + 1, Ar h 172 p - nI 48)
      rw [show (10 : Int32) * 0 = 0 by decide, Int32.zero_add]
      rfl
    rw [e1] at e
    exact ⟨_, set16 hw h16, e⟩
def yGd (f : Nat → Int32) (t p : Nat) : Int32 := cond (dgi f p t 1 9) (f p - nI 48) (Int32.ofInt (-1))
theorem di_w (hw : WT h) (e16 : Fi h 162 16 = nI p) (e17 : Fi h 162 17 = nI t) (ht : t ≤ 80) (hp : p < 1000) (hh : pm_run PT n fr lo 185 (0, pm_l0 [.ref 162, .int 1, .int 9] 3, [], h, 198, sl) = some R) : ∃ H, (WT H ∧ frm [162] [(162, 16)] h H ∧ Fi H 162 16 = nI (p + cond (dgi (Ar h 172) p t 1 9) 1 0)) ∧ R = (some (.int (yGd (Ar h 172) t p)), H, 198, sl) := by
  have h16 := fmF (g := 16) hw rfl rfl e16
  have e := rn_dt (F := 10) (Lo := 1000) (hd_digitIn (fr := 10) (lo := 1000) (sl := sl) (tp := Ar h 172) h16 (fmF (g := 17) hw rfl rfl e17) (m14_w hw) (wt_a hw (by decide) rfl (by decide)) ht hp (by omega) (by omega) 1 9) hh
  unfold yGd
  cases z : dgi (Ar h 172) p t 1 9 with
  | false =>
    rw [z] at e
    exact ⟨h, ⟨hw, fr_0, e16⟩, e⟩
  | true =>
    rw [z] at e
    exact ⟨_, set16 hw h16, e⟩
theorem sub_rg {x : Int32} (w : 1 ≤ (x - 48).toInt ∧ (x - 48).toInt ≤ 9) : 48 ≤ x.toInt ∧ x.toInt ≤ 57 := by
  have e : x = (x - 48) + 48 := (Int32.sub_add_cancel x 48).symm
  have e2 : x.toInt = ((x - 48) + 48 : Int32).toInt := congrArg Int32.toInt e
  rw [Int32.toInt_add, show (48 : Int32).toInt = 48 by decide] at e2
  have e3 : ((x - 48).toInt + 48).bmod (2 ^ 32) = (x - 48).toInt + 48 := Int.bmod_eq_of_le (by omega) (by omega)
  rw [e3] at e2
  omega
/-- the third digit: the reference's from 1 to 9 is the class's that isn't 0 -/
theorem dgi_B {f : Nat → Int32} {i : Nat} : dgi f (i + 3) t 1 9 = yB f t i 3 := by
  unfold yB
  rw [show (decide (3 ≠ 3)) = false by decide, Bool.false_or]
  cases z : dg f (i + 3) t with
  | false =>
    rw [Bool.false_and]
    unfold dgi
    unfold dg at z
    by_cases y : i + 3 < t
    · rw [decide_eq_true y, Bool.true_and] at z ⊢
      have z2 : in_b (f (i + 3)).toInt64 (48 : Int64) (57 : Int64) = false := z
      rw [in_lh (f (i + 3)) (l := 48) (u := 57) (by decide) (by decide)] at z2
      have z3 := of_decide_eq_false z2
      show in_b (f (i + 3) - 48).toInt64 (1 : Int32).toInt64 (9 : Int32).toInt64 = false
      rw [in_lh (f (i + 3) - 48) (l := 1) (u := 9) (by decide) (by decide)]
      refine decide_eq_false (fun w => z3 ?_)
      exact sub_rg w
    · rw [decide_eq_false y, Bool.false_and]
  | true =>
    rw [Bool.true_and]
    have v := dg_val z
    have lt := dg_lt z
    unfold dgi
    rw [decide_eq_true lt, Bool.true_and]
    show in_b (f (i + 3) - 48).toInt64 (1 : Int32).toInt64 (9 : Int32).toInt64 = _
    rw [in_lh (f (i + 3) - 48) (l := 1) (u := 9) (by decide) (by decide)]
    refine decide_eq_decide.mpr ⟨fun w e => ?_, fun w => ?_⟩
    · rw [e, show (nI 48 - 48 : Int32).toInt = 0 by decide] at w
      omega
    · have : (f (i + 3) - 48).toInt ≠ 0 := fun e => w (by
        have e2 : f (i + 3) - nI 48 = 0 := by
          apply Int32.toInt_inj.mp
          rw [show (0 : Int32).toInt = 0 by decide]
          exact e
        exact sub48.mp e2)
      omega
theorem yB_1 {f : Nat → Int32} {i j : Nat} (hj : j ≠ 3) : yB f t i j = dg f (i + j) t := by
  unfold yB
  rw [decide_eq_true hj, Bool.true_or, Bool.and_true]
theorem yn_lt {f : Nat → Int32} : pm_cmp .lt (yN f t p) 0 = !(dg f p t) := by
  unfold yN
  cases z : dg f p t with
  | false =>
    show pm_cmp .lt (Int32.ofInt (-1)) 0 = true
    decide
  | true => exact lt0_val (dg_val z).1
theorem yg_lt {f : Nat → Int32} : pm_cmp .lt (yGd f t p) 0 = !(dgi f p t 1 9) := by
  unfold yGd
  cases z : dgi f p t 1 9 with
  | false =>
    show pm_cmp .lt (Int32.ofInt (-1)) 0 = true
    decide
  | true => exact lt0_val (dgi_val z).2
def YW : List Nat := [162, 179, 180, 181, 182]
def YV : List (Nat × Nat) := [(162, 16), (162, 35)]
/-- the reader at p, c acts told -/
def yQ (h H : pm_H) (t p c : Nat) : Prop := (WT H ∧ frm YW YV h H) ∧ Fi H 162 16 = nI p ∧ Fi H 162 35 = nI c
theorem yQ_17 (z : yQ h H t p c) : Fi H 162 17 = Fi h 162 17 := z.1.2.2 162 17 rfl rfl
theorem yQ_172 (z : yQ h H t p c) : Ar H 172 = Ar h 172 := Ar_e (z.1.2.1 172 rfl)
theorem yQ_16 {H H' : pm_H} {p' : Nat} (z : yQ h H t p c) (w : WT H') (f : frm [162] [(162, 16)] H H') (e : Fi H' 162 16 = nI p') : yQ h H' t p' c := ⟨⟨w, fr_g rfl rfl f z.1.2⟩, e, (f.2 162 35 rfl rfl).trans z.2.2⟩
theorem yQ_a {H : pm_H} {a m : Nat} {g : Nat → Int32} (ha : YW.elem a = true) (h162 : a ≠ 162) (hb : wd (bB a) = .inl (0, m, ai_top)) (ho : isO a = false) (z : yQ h H t p c) : yQ h (aset H a m g) t p c := ⟨⟨wt_as hb z.1.1, fr_a ha ho z.1.2⟩, (Fi_a (fun e => h162 e.symm)).trans z.2.1, (Fi_a (fun e => h162 e.symm)).trans z.2.2⟩
theorem yQ_35 {H : pm_H} {c' : Nat} (z : yQ h H t p c) : yQ h (fset H 162 35 (.int (nI c'))) t p c' := ⟨⟨wt_fs rfl (by decide) rfl z.1.1, fr_f rfl rfl z.1.2⟩, (Fi_n (Or.inr (by decide))).trans z.2.1, Fi_s z.1.1 (by decide) rfl (by decide) rfl⟩
theorem yL_lt {f : Nat → Int32} {kd : Nat} (e : yL f t p = some kd) : p < t := by
  unfold yL at e
  by_cases z : p < t
  · exact z
  · rw [if_neg z] at e
    cases e
theorem yL_le {f : Nat → Int32} {kd : Nat} (e : yL f t p = some kd) : kd ≤ 4 := by
  have hlt := yL_lt e
  unfold yL yK at e
  rw [if_pos hlt] at e
  generalize f p = x at e
  by_cases e1 : x = nI 115
  · rw [if_pos e1] at e
    cases e
    decide
  · rw [if_neg e1] at e
    by_cases e2 : x = nI 109
    · rw [if_pos e2] at e
      cases e
      decide
    · rw [if_neg e2] at e
      by_cases e3 : x = nI 102
      · rw [if_pos e3] at e
        cases e
        decide
      · rw [if_neg e3] at e
        by_cases e4 : x = nI 112
        · rw [if_pos e4] at e
          cases e
          decide
        · rw [if_neg e4] at e
          by_cases e5 : x = nI 113
          · rw [if_pos e5] at e
            cases e
            decide
          · rw [if_neg e5] at e
            cases e
theorem yS_n1 {kd : Nat} (k1 : kd ≠ 1) : 3 ≤ yS kd := by
  unfold yS
  rw [if_neg k1]
  split <;> omega
theorem yS_2 {kd : Nat} (k1 : kd ≠ 1) (k3 : kd < 3) : yS kd = 3 := by
  unfold yS
  rw [if_neg k1, if_pos k3]
theorem yS_3 {kd : Nat} (k3 : 3 ≤ kd) : yS kd = 4 := by
  unfold yS
  rw [if_neg (by omega), if_neg (by omega)]
theorem yD_s {f : Nat → Int32} {i k j : Nat} : yD f t i (k + 1) j = cond (yB f t i j) (yD f t i k (j + 1)) j := rfl
theorem yD_b1 {f : Nat → Int32} {kd : Nat} (g1 : dg f (p + 1) t = false) : yD f t p (yS kd - 1) 1 = 1 := by
  have hs := yS_ge kd
  obtain ⟨m, em⟩ : ∃ m, yS kd - 1 = m + 1 := ⟨yS kd - 2, by omega⟩
  rw [em, yD_s, yB_1 (by decide), g1]
  rfl
theorem yD_k1 {f : Nat → Int32} {kd : Nat} (k1 : kd = 1) (g1 : dg f (p + 1) t = true) : yD f t p (yS kd - 1) 1 = yS kd := by
  subst k1
  show yD f t p (0 + 1) 1 = 2
  rw [yD_s, yB_1 (by decide), g1]
  rfl
theorem yD_b2 {f : Nat → Int32} {kd : Nat} (k1 : kd ≠ 1) (g1 : dg f (p + 1) t = true) (g2 : dg f (p + 2) t = false) : yD f t p (yS kd - 1) 1 = 2 := by
  have hs := yS_n1 k1
  obtain ⟨m, em⟩ : ∃ m, yS kd - 1 = m + 1 + 1 := ⟨yS kd - 3, by omega⟩
  rw [em, yD_s, yB_1 (by decide), g1, cond_true, yD_s, yB_1 (by decide), g2]
  rfl
theorem yD_k2 {f : Nat → Int32} {kd : Nat} (k1 : kd ≠ 1) (k3 : kd < 3) (g1 : dg f (p + 1) t = true) (g2 : dg f (p + 2) t = true) : yD f t p (yS kd - 1) 1 = yS kd := by
  rw [yS_2 k1 k3]
  show yD f t p (0 + 1 + 1) 1 = 3
  rw [yD_s, yB_1 (by decide), g1, cond_true, yD_s, yB_1 (by decide), g2]
  rfl
theorem yD_b3 {f : Nat → Int32} {kd : Nat} (k3 : 3 ≤ kd) (hk : kd ≤ 4) (g1 : dg f (p + 1) t = true) (g2 : dg f (p + 2) t = true) : yD f t p (yS kd - 1) 1 = 3 + cond (dgi f (p + 3) t 1 9) 1 0 := by
  rw [yS_3 k3]
  show yD f t p (0 + 1 + 1 + 1) 1 = _
  rw [yD_s, yB_1 (by decide), g1, cond_true, yD_s, yB_1 (by decide), g2, cond_true, yD_s, dgi_B]
  cases yB f t p 3 <;> rfl
/-- one act is read -/
theorem ra_run (hw : WT h) (e16 : Fi h 162 16 = nI p) (e17 : Fi h 162 17 = nI t) (e35 : Fi h 162 35 = nI c) (ht : t ≤ 80) (hp : p ≤ t) (hc : c < 1000) (hh : pm_run PT n fr lo 226 (0, pm_l0 [.ref 162] 2, [], h, 198, sl) = some R) : ∃ H, yQ h H t (yA (Ar h 172) t p).2 (c + 1) ∧ R = (some (.int (cond (yA (Ar h 172) t p).1 1 0)), H, 198, sl) ∧ (∀ a, a = 179 ∨ a = 180 ∨ a = 181 ∨ a = 182 → ∀ j, j ≠ c → Ar H a j = Ar h a j) ∧ ∀ kd, yL (Ar h 172) t p = some kd → (yA (Ar h 172) t p).1 = true → Ar H 179 c = nI kd ∧ Ar H 180 c = Ar h 172 (p + 1) - nI 48 ∧ (kd ≠ 1 → Ar H 181 c = Ar h 172 (p + 2) - nI 48) ∧ (3 ≤ kd → Ar H 182 c = Ar h 172 (p + 3) - nI 48) := by
  have z0 : yQ h h t p c := ⟨⟨hw, fr_0⟩, e16, e35⟩
  obtain ⟨n, hh⟩ := rn_i rfl rfl rfl rfl hh
  have hh : pm_run PT n fr lo 226 (1, [some (.ref 162), none], [.ref 162], h, 198, sl) = some R := hh
  obtain ⟨n, hh⟩ := rn_gi (x := nI c) hw rfl rfl (by decide) rfl (by decide) rfl e35 hh
  obtain ⟨n, hh⟩ := rn_i rfl rfl rfl rfl hh
  obtain ⟨n, hh⟩ := rn_i rfl rfl rfl rfl hh
  have hh : pm_run PT n fr lo 226 (6, [some (.ref 162), some (.int (nI c))], [.ref 162], h, 198, sl) = some R := hh
  obtain ⟨n, hh⟩ := rn_gr hw rfl rfl (by decide) rfl (by decide) (show _ = some (2, ((179 : Nat) : Int), 1) from rfl) rfl hh
  obtain ⟨n, hh⟩ := rn_i rfl rfl rfl rfl hh
  obtain ⟨n, hh⟩ := rn_i rfl rfl rfl rfl hh
  obtain ⟨n, hh⟩ := rn_i rfl rfl rfl rfl hh
  have hh : pm_run PT n fr lo 226 (14, [some (.ref 162), some (.int (nI c))], [.retAddr 4, .ref 162, .int (nI c), .ref 179], h, 198, sl) = some R := hh
  obtain ⟨n, fr1, lo1, r1, hr1, hh⟩ := rn_call (w := 0) (t := 183) rfl rfl hh
  obtain ⟨H1, ⟨w1, f1, g1⟩, er⟩ := tk_w hw e16 e17 ht (by omega) hr1
  subst er
  have z1 := yQ_16 z0 w1 f1 g1
  have hh : pm_run PT n fr lo 226 (17, [some (.ref 162), some (.int (nI c))], [.int (ykI (Ar h 172) t p), .int (nI c), .ref 179], H1, 198, sl) = some R := hh
  obtain ⟨n, hx, hh⟩ := en_st (t := c) (f := Ar H1 179) (nI_clamp (by omega)) w1 rfl (by decide) rfl (by decide) rfl hh
  have z2 := yQ_a (a := 179) (m := 60) (g := upd (Ar H1 179) c (ykI (Ar h 172) t p)) rfl (by decide) rfl rfl z1
  have b179 : Ar (aset H1 179 60 (upd (Ar H1 179) c (ykI (Ar h 172) t p))) 179 = upd (Ar h 179) c (ykI (Ar h 172) t p) := by rw [Ar_s, Ar_e (f1.1 179 rfl)]
  have b180 : Ar (aset H1 179 60 (upd (Ar H1 179) c (ykI (Ar h 172) t p))) 180 = Ar h 180 := by rw [Ar_n (by decide), Ar_e (f1.1 180 rfl)]
  have b181 : Ar (aset H1 179 60 (upd (Ar H1 179) c (ykI (Ar h 172) t p))) 181 = Ar h 181 := by rw [Ar_n (by decide), Ar_e (f1.1 181 rfl)]
  have b182 : Ar (aset H1 179 60 (upd (Ar H1 179) c (ykI (Ar h 172) t p))) 182 = Ar h 182 := by rw [Ar_n (by decide), Ar_e (f1.1 182 rfl)]
  generalize aset H1 179 60 (upd (Ar H1 179) c (ykI (Ar h 172) t p)) = H2 at *
  have hh : pm_run PT n fr lo 226 (18, [some (.ref 162), some (.int (nI c))], [], H2, 198, sl) = some R := hh
  obtain ⟨n, hh⟩ := rn_i rfl rfl rfl rfl hh
  obtain ⟨n, hh⟩ := rn_i rfl rfl rfl rfl hh
  have hh : pm_run PT n fr lo 226 (20, [some (.ref 162), some (.int (nI c))], [.ref 162, .ref 162], H2, 198, sl) = some R := hh
  obtain ⟨n, hh⟩ := rn_gi (x := nI c) z2.1.1 rfl rfl (by decide) rfl (by decide) rfl z2.2.2 hh
  obtain ⟨n, hh⟩ := rn_i rfl rfl rfl rfl hh
  have hh : pm_run PT n fr lo 226 (24, [some (.ref 162), some (.int (nI c))], [.int (nI 1), .int (nI c), .ref 162], H2, 198, sl) = some R := hh
  obtain ⟨n, hh⟩ := en_add rfl hh
  have hh : pm_run PT n fr lo 226 (25, [some (.ref 162), some (.int (nI c))], [.int (nI (c + 1)), .ref 162], H2, 198, sl) = some R := hh
  obtain ⟨n, hh⟩ := rn_pi z2.1.1 rfl rfl (by decide) rfl (by decide) rfl hh
  have z3 := yQ_35 (c' := c + 1) z2
  have d179 := (Ar_f (h := H2) (b := 179) (c := 162) (g := 35) (v := .int (nI (c + 1)))).trans b179
  have d180 := (Ar_f (h := H2) (b := 180) (c := 162) (g := 35) (v := .int (nI (c + 1)))).trans b180
  have d181 := (Ar_f (h := H2) (b := 181) (c := 162) (g := 35) (v := .int (nI (c + 1)))).trans b181
  have d182 := (Ar_f (h := H2) (b := 182) (c := 162) (g := 35) (v := .int (nI (c + 1)))).trans b182
  have q172 := yQ_172 z3
  generalize fset H2 162 35 (.int (nI (c + 1))) = H3 at *
  have hh : pm_run PT n fr lo 226 (28, [some (.ref 162), some (.int (nI c))], [], H3, 198, sl) = some R := hh
  obtain ⟨n, hh⟩ := rn_i rfl rfl rfl rfl hh
  have hh : pm_run PT n fr lo 226 (29, [some (.ref 162), some (.int (nI c))], [.ref 162], H3, 198, sl) = some R := hh
  obtain ⟨n, hh⟩ := rn_gr z3.1.1 rfl rfl (by decide) rfl (by decide) (show _ = some (2, ((179 : Nat) : Int), 1) from rfl) rfl hh
  obtain ⟨n, hh⟩ := rn_i rfl rfl rfl rfl hh
  have hh : pm_run PT n fr lo 226 (33, [some (.ref 162), some (.int (nI c))], [.int (nI c), .ref 179], H3, 198, sl) = some R := hh
  obtain ⟨n, hx, hh⟩ := en_lu (t := c) (f := upd (Ar h 179) c (ykI (Ar h 172) t p)) (w := ykI (Ar h 172) t p) (nI_clamp (by omega)) z3.1.1 rfl (by decide) rfl (by decide) d179 (fun _ => up_e rfl) hh
  have hh : pm_run PT n fr lo 226 (34, [some (.ref 162), some (.int (nI c))], [.int (ykI (Ar h 172) t p)], H3, 198, sl) = some R := hh
  obtain ⟨n, hh⟩ := rn_if (cc := .ge) (off := 5) (t := 39) rfl rfl hh
  cases eL : yL (Ar h 172) t p with
  | none =>
    have ev : ykI (Ar h 172) t p = Int32.ofInt (-1) := by
      unfold ykI
      rw [eL]
    have ep : ykP (Ar h 172) t p = p := by
      unfold ykP
      rw [eL]
    have eA : yA (Ar h 172) t p = (false, p) := by
      unfold yA
      rw [eL]
    rw [ev, n1_ge] at hh
    have hh : pm_run PT n fr lo 226 (37, [some (.ref 162), some (.int (nI c))], [], H3, 198, sl) = some R := hh
    obtain ⟨n, hh⟩ := rn_i rfl rfl rfl rfl hh
    have er := (rn_ret rfl (Or.inr rfl) hh).2
    rw [ep] at z3
    rw [eA]
    exact ⟨H3, z3, er, fun a ha j hj => by
      rcases ha with rfl | rfl | rfl | rfl
      · rw [d179, up_n hj]
      · rw [d180]
      · rw [d181]
      · rw [d182], fun kd ek => by cases ek⟩
  | some kd =>
    have ev : ykI (Ar h 172) t p = nI kd := by
      unfold ykI
      rw [eL]
    have ep : ykP (Ar h 172) t p = p + 1 := by
      unfold ykP
      rw [eL]
    have hk4 : kd ≤ 4 := yL_le eL
    have hlt : p < t := yL_lt eL
    have eA : yA (Ar h 172) t p = (decide (yD (Ar h 172) t p (yS kd - 1) 1 = yS kd), p + yD (Ar h 172) t p (yS kd - 1) 1) := by
      unfold yA
      rw [eL]
    rw [ep] at z3
    rw [ev] at d179
    rw [ev, show pm_cmp .ge (nI kd) 0 = true from (hI_ge (a := kd) (b := 0) (by omega) (by omega)).trans (decide_eq_true (Nat.zero_le _))] at hh
    have hh : pm_run PT n fr lo 226 (39, [some (.ref 162), some (.int (nI c))], [], H3, 198, sl) = some R := hh
    obtain ⟨n, hh⟩ := rn_i rfl rfl rfl rfl hh
    have hh : pm_run PT n fr lo 226 (40, [some (.ref 162), some (.int (nI c))], [.ref 162], H3, 198, sl) = some R := hh
    obtain ⟨n, hh⟩ := rn_gr z3.1.1 rfl rfl (by decide) rfl (by decide) (show _ = some (2, ((180 : Nat) : Int), 1) from rfl) rfl hh
    obtain ⟨n, hh⟩ := rn_i rfl rfl rfl rfl hh
    obtain ⟨n, hh⟩ := rn_i rfl rfl rfl rfl hh
    obtain ⟨n, hh⟩ := rn_i rfl rfl rfl rfl hh
    have hh : pm_run PT n fr lo 226 (46, [some (.ref 162), some (.int (nI c))], [.int (nI 1), .ref 162, .int (nI c), .ref 180], H3, 198, sl) = some R := hh
    obtain ⟨n, fr1, lo1, r1, hr1, hh⟩ := rn_call (w := 0) (t := 184) rfl rfl hh
    obtain ⟨J4, ⟨w4, f4, g4⟩, er⟩ := nm_w z3.1.1 z3.2.1 ((yQ_17 z3).trans e17) ht (by omega) hr1
    subst er
    have y4 := yQ_16 z3 w4 f4 g4
    rw [yQ_172 z3] at y4
    have hh : pm_run PT n fr lo 226 (49, [some (.ref 162), some (.int (nI c))], [.int (yN (Ar H3 172) t (p + 1)), .int (nI c), .ref 180], J4, 198, sl) = some R := hh
    rw [yQ_172 z3] at hh
    obtain ⟨n, hx, hh⟩ := en_st (t := c) (f := Ar J4 180) (nI_clamp (by omega)) w4 rfl (by decide) rfl (by decide) rfl hh
    have u4 := yQ_a (a := 180) (m := 60) (g := upd (Ar J4 180) c (yN (Ar h 172) t (p + 1))) rfl (by decide) rfl rfl y4
    have a179 : Ar (aset J4 180 60 (upd (Ar J4 180) c (yN (Ar h 172) t (p + 1)))) 179 = upd (Ar h 179) c (nI kd) := by rw [Ar_n (by decide), Ar_e (f4.1 179 rfl), d179]
    have a180 : Ar (aset J4 180 60 (upd (Ar J4 180) c (yN (Ar h 172) t (p + 1)))) 180 = upd (Ar h 180) c (yN (Ar h 172) t (p + 1)) := by rw [Ar_s, Ar_e (f4.1 180 rfl), d180]
    have a181 : Ar (aset J4 180 60 (upd (Ar J4 180) c (yN (Ar h 172) t (p + 1)))) 181 = Ar h 181 := by rw [Ar_n (by decide), Ar_e (f4.1 181 rfl), d181]
    have a182 : Ar (aset J4 180 60 (upd (Ar J4 180) c (yN (Ar h 172) t (p + 1)))) 182 = Ar h 182 := by rw [Ar_n (by decide), Ar_e (f4.1 182 rfl), d182]
    generalize aset J4 180 60 (upd (Ar J4 180) c (yN (Ar h 172) t (p + 1))) = H4 at *
    have hh : pm_run PT n fr lo 226 (50, [some (.ref 162), some (.int (nI c))], [], H4, 198, sl) = some R := hh
    obtain ⟨n, hh⟩ := rn_i rfl rfl rfl rfl hh
    have hh : pm_run PT n fr lo 226 (51, [some (.ref 162), some (.int (nI c))], [.ref 162], H4, 198, sl) = some R := hh
    obtain ⟨n, hh⟩ := rn_gr u4.1.1 rfl rfl (by decide) rfl (by decide) (show _ = some (2, ((180 : Nat) : Int), 1) from rfl) rfl hh
    obtain ⟨n, hh⟩ := rn_i rfl rfl rfl rfl hh
    have hh : pm_run PT n fr lo 226 (55, [some (.ref 162), some (.int (nI c))], [.int (nI c), .ref 180], H4, 198, sl) = some R := hh
    obtain ⟨n, hx, hh⟩ := en_lu (t := c) (f := upd (Ar h 180) c (yN (Ar h 172) t (p + 1))) (w := yN (Ar h 172) t (p + 1)) (nI_clamp (by omega)) u4.1.1 rfl (by decide) rfl (by decide) a180 (fun _ => up_e rfl) hh
    have hh : pm_run PT n fr lo 226 (56, [some (.ref 162), some (.int (nI c))], [.int (yN (Ar h 172) t (p + 1))], H4, 198, sl) = some R := hh
    obtain ⟨n, hh⟩ := rn_if (cc := .lt) (off := 13) (t := 69) rfl rfl hh
    rw [yn_lt] at hh
    cases g1 : dg (Ar h 172) (p + 1) t with
    | false =>
      rw [g1] at hh
      have hh : pm_run PT n fr lo 226 (69, [some (.ref 162), some (.int (nI c))], [], H4, 198, sl) = some R := hh
      obtain ⟨n, hh⟩ := rn_i rfl rfl rfl rfl hh
      have hh : pm_run PT n fr lo 226 (70, [some (.ref 162), some (.int (nI c))], [.ref 162], H4, 198, sl) = some R := hh
      obtain ⟨n, hh⟩ := rn_gr u4.1.1 rfl rfl (by decide) rfl (by decide) (show _ = some (2, ((180 : Nat) : Int), 1) from rfl) rfl hh
      obtain ⟨n, hh⟩ := rn_i rfl rfl rfl rfl hh
      have hh : pm_run PT n fr lo 226 (74, [some (.ref 162), some (.int (nI c))], [.int (nI c), .ref 180], H4, 198, sl) = some R := hh
      obtain ⟨n, hx, hh⟩ := en_lu (t := c) (f := upd (Ar h 180) c (yN (Ar h 172) t (p + 1))) (w := yN (Ar h 172) t (p + 1)) (nI_clamp (by omega)) u4.1.1 rfl (by decide) rfl (by decide) a180 (fun _ => up_e rfl) hh
      have hh : pm_run PT n fr lo 226 (75, [some (.ref 162), some (.int (nI c))], [.int (yN (Ar h 172) t (p + 1))], H4, 198, sl) = some R := hh
      obtain ⟨n, hh⟩ := rn_if (cc := .lt) (off := 7) (t := 82) rfl rfl hh
      rw [yn_lt, g1] at hh
      have hh : pm_run PT n fr lo 226 (82, [some (.ref 162), some (.int (nI c))], [], H4, 198, sl) = some R := hh
      obtain ⟨n, hh⟩ := rn_i rfl rfl rfl rfl hh
      have er := (rn_ret rfl (Or.inr rfl) hh).2
      have eD := yD_b1 (f := Ar h 172) (t := t) (p := p) (kd := kd) g1
      rw [eA, eD]
      rw [g1] at u4
      have hs := yS_ge kd
      rw [show decide (1 = yS kd) = false from decide_eq_false (by omega)]
      exact ⟨H4, u4, er, fun a ha j hj => by
        rcases ha with rfl | rfl | rfl | rfl
        · rw [a179, up_n hj]
        · rw [a180, up_n hj]
        · rw [a181]
        · rw [a182], fun _ _ e => by cases e⟩
    | true =>
      rw [g1] at hh u4
      have u4 : yQ h H4 t (p + 2) (c + 1) := u4
      have n1 : yN (Ar h 172) t (p + 1) = Ar h 172 (p + 1) - nI 48 := by
        unfold yN
        rw [g1]
        rfl
      have hh : pm_run PT n fr lo 226 (59, [some (.ref 162), some (.int (nI c))], [], H4, 198, sl) = some R := hh
      obtain ⟨n, hh⟩ := rn_i rfl rfl rfl rfl hh
      have hh : pm_run PT n fr lo 226 (60, [some (.ref 162), some (.int (nI c))], [.ref 162], H4, 198, sl) = some R := hh
      obtain ⟨n, hh⟩ := rn_gr u4.1.1 rfl rfl (by decide) rfl (by decide) (show _ = some (2, ((179 : Nat) : Int), 1) from rfl) rfl hh
      obtain ⟨n, hh⟩ := rn_i rfl rfl rfl rfl hh
      have hh : pm_run PT n fr lo 226 (64, [some (.ref 162), some (.int (nI c))], [.int (nI c), .ref 179], H4, 198, sl) = some R := hh
      obtain ⟨n, hx, hh⟩ := en_lu (t := c) (f := upd (Ar h 179) c (nI kd)) (w := nI kd) (nI_clamp (by omega)) u4.1.1 rfl (by decide) rfl (by decide) a179 (fun _ => up_e rfl) hh
      have hh : pm_run PT n fr lo 226 (65, [some (.ref 162), some (.int (nI c))], [.int (nI kd)], H4, 198, sl) = some R := hh
      obtain ⟨n, hh⟩ := rn_i rfl rfl rfl rfl hh
      obtain ⟨n, hh⟩ := rn_icmp (cc := .ne) (off := 18) (t := 84) rfl rfl hh
      rw [show pm_cmp .ne (nI kd) (Int32.ofInt 1) = decide (¬ kd = 1) from hI_ne (a := kd) (b := 1) (by omega) (by omega)] at hh
      by_cases k1 : kd = 1
      · rw [decide_eq_false (fun y => y k1)] at hh
        have hh : pm_run PT n fr lo 226 (69, [some (.ref 162), some (.int (nI c))], [], H4, 198, sl) = some R := hh
        obtain ⟨n, hh⟩ := rn_i rfl rfl rfl rfl hh
        have hh : pm_run PT n fr lo 226 (70, [some (.ref 162), some (.int (nI c))], [.ref 162], H4, 198, sl) = some R := hh
        obtain ⟨n, hh⟩ := rn_gr u4.1.1 rfl rfl (by decide) rfl (by decide) (show _ = some (2, ((180 : Nat) : Int), 1) from rfl) rfl hh
        obtain ⟨n, hh⟩ := rn_i rfl rfl rfl rfl hh
        have hh : pm_run PT n fr lo 226 (74, [some (.ref 162), some (.int (nI c))], [.int (nI c), .ref 180], H4, 198, sl) = some R := hh
        obtain ⟨n, hx, hh⟩ := en_lu (t := c) (f := upd (Ar h 180) c (yN (Ar h 172) t (p + 1))) (w := yN (Ar h 172) t (p + 1)) (nI_clamp (by omega)) u4.1.1 rfl (by decide) rfl (by decide) a180 (fun _ => up_e rfl) hh
        have hh : pm_run PT n fr lo 226 (75, [some (.ref 162), some (.int (nI c))], [.int (yN (Ar h 172) t (p + 1))], H4, 198, sl) = some R := hh
        obtain ⟨n, hh⟩ := rn_if (cc := .lt) (off := 7) (t := 82) rfl rfl hh
        rw [yn_lt, g1] at hh
        have hh : pm_run PT n fr lo 226 (78, [some (.ref 162), some (.int (nI c))], [], H4, 198, sl) = some R := hh
        obtain ⟨n, hh⟩ := rn_i rfl rfl rfl rfl hh
        obtain ⟨n, hh⟩ := rn_i rfl rfl rfl rfl hh
        have er := (rn_ret rfl (Or.inr rfl) hh).2
        have eD : yD (Ar h 172) t p (yS kd - 1) 1 = yS kd := yD_k1 k1 g1
        rw [eA, eD, decide_eq_true rfl]
        have es : yS kd = 2 := by
          rw [k1]
          rfl
        rw [es]
        refine ⟨H4, u4, er, fun a ha j hj => ?_, fun kd' ek _ => ?_⟩
        · rcases ha with rfl | rfl | rfl | rfl
          · rw [a179, up_n hj]
          · rw [a180, up_n hj]
          · rw [a181]
          · rw [a182]
        · cases ek
          exact ⟨by rw [a179, up_e rfl], by rw [a180, up_e rfl, n1], fun k => absurd k1 k, fun k => by omega⟩
      · rw [decide_eq_true k1] at hh
        have hh : pm_run PT n fr lo 226 (84, [some (.ref 162), some (.int (nI c))], [], H4, 198, sl) = some R := hh
        obtain ⟨n, hh⟩ := rn_i rfl rfl rfl rfl hh
        have hh : pm_run PT n fr lo 226 (85, [some (.ref 162), some (.int (nI c))], [.ref 162], H4, 198, sl) = some R := hh
        obtain ⟨n, hh⟩ := rn_gr u4.1.1 rfl rfl (by decide) rfl (by decide) (show _ = some (2, ((181 : Nat) : Int), 1) from rfl) rfl hh
        obtain ⟨n, hh⟩ := rn_i rfl rfl rfl rfl hh
        obtain ⟨n, hh⟩ := rn_i rfl rfl rfl rfl hh
        obtain ⟨n, hh⟩ := rn_i rfl rfl rfl rfl hh
        have hh : pm_run PT n fr lo 226 (91, [some (.ref 162), some (.int (nI c))], [.int (nI 1), .ref 162, .int (nI c), .ref 181], H4, 198, sl) = some R := hh
        obtain ⟨n, fr1, lo1, r1, hr1, hh⟩ := rn_call (w := 0) (t := 184) rfl rfl hh
        obtain ⟨J5, ⟨w5, f5, g5⟩, er⟩ := nm_w u4.1.1 u4.2.1 ((yQ_17 u4).trans e17) ht (by omega) hr1
        subst er
        have y5 := yQ_16 u4 w5 f5 g5
        rw [yQ_172 u4] at y5
        have hh : pm_run PT n fr lo 226 (94, [some (.ref 162), some (.int (nI c))], [.int (yN (Ar H4 172) t (p + 2)), .int (nI c), .ref 181], J5, 198, sl) = some R := hh
        rw [yQ_172 u4] at hh
        obtain ⟨n, hx, hh⟩ := en_st (t := c) (f := Ar J5 181) (nI_clamp (by omega)) w5 rfl (by decide) rfl (by decide) rfl hh
        have u5 := yQ_a (a := 181) (m := 60) (g := upd (Ar J5 181) c (yN (Ar h 172) t (p + 2))) rfl (by decide) rfl rfl y5
        have m179 : Ar (aset J5 181 60 (upd (Ar J5 181) c (yN (Ar h 172) t (p + 2)))) 179 = upd (Ar h 179) c (nI kd) := by rw [Ar_n (by decide), Ar_e (f5.1 179 rfl), a179]
        have m180 : Ar (aset J5 181 60 (upd (Ar J5 181) c (yN (Ar h 172) t (p + 2)))) 180 = upd (Ar h 180) c (yN (Ar h 172) t (p + 1)) := by rw [Ar_n (by decide), Ar_e (f5.1 180 rfl), a180]
        have m181 : Ar (aset J5 181 60 (upd (Ar J5 181) c (yN (Ar h 172) t (p + 2)))) 181 = upd (Ar h 181) c (yN (Ar h 172) t (p + 2)) := by rw [Ar_s, Ar_e (f5.1 181 rfl), a181]
        have m182 : Ar (aset J5 181 60 (upd (Ar J5 181) c (yN (Ar h 172) t (p + 2)))) 182 = Ar h 182 := by rw [Ar_n (by decide), Ar_e (f5.1 182 rfl), a182]
        generalize aset J5 181 60 (upd (Ar J5 181) c (yN (Ar h 172) t (p + 2))) = H5 at *
        have hh : pm_run PT n fr lo 226 (95, [some (.ref 162), some (.int (nI c))], [], H5, 198, sl) = some R := hh
        obtain ⟨n, hh⟩ := rn_i rfl rfl rfl rfl hh
        have hh : pm_run PT n fr lo 226 (96, [some (.ref 162), some (.int (nI c))], [.ref 162], H5, 198, sl) = some R := hh
        obtain ⟨n, hh⟩ := rn_gr u5.1.1 rfl rfl (by decide) rfl (by decide) (show _ = some (2, ((181 : Nat) : Int), 1) from rfl) rfl hh
        obtain ⟨n, hh⟩ := rn_i rfl rfl rfl rfl hh
        have hh : pm_run PT n fr lo 226 (100, [some (.ref 162), some (.int (nI c))], [.int (nI c), .ref 181], H5, 198, sl) = some R := hh
        obtain ⟨n, hx, hh⟩ := en_lu (t := c) (f := upd (Ar h 181) c (yN (Ar h 172) t (p + 2))) (w := yN (Ar h 172) t (p + 2)) (nI_clamp (by omega)) u5.1.1 rfl (by decide) rfl (by decide) m181 (fun _ => up_e rfl) hh
        have hh : pm_run PT n fr lo 226 (101, [some (.ref 162), some (.int (nI c))], [.int (yN (Ar h 172) t (p + 2))], H5, 198, sl) = some R := hh
        obtain ⟨n, hh⟩ := rn_if (cc := .lt) (off := 13) (t := 114) rfl rfl hh
        rw [yn_lt] at hh
        cases g2 : dg (Ar h 172) (p + 2) t with
        | false =>
          rw [g2] at hh
          have hh : pm_run PT n fr lo 226 (114, [some (.ref 162), some (.int (nI c))], [], H5, 198, sl) = some R := hh
          obtain ⟨n, hh⟩ := rn_i rfl rfl rfl rfl hh
          have hh : pm_run PT n fr lo 226 (115, [some (.ref 162), some (.int (nI c))], [.ref 162], H5, 198, sl) = some R := hh
          obtain ⟨n, hh⟩ := rn_gr u5.1.1 rfl rfl (by decide) rfl (by decide) (show _ = some (2, ((181 : Nat) : Int), 1) from rfl) rfl hh
          obtain ⟨n, hh⟩ := rn_i rfl rfl rfl rfl hh
          have hh : pm_run PT n fr lo 226 (119, [some (.ref 162), some (.int (nI c))], [.int (nI c), .ref 181], H5, 198, sl) = some R := hh
          obtain ⟨n, hx, hh⟩ := en_lu (t := c) (f := upd (Ar h 181) c (yN (Ar h 172) t (p + 2))) (w := yN (Ar h 172) t (p + 2)) (nI_clamp (by omega)) u5.1.1 rfl (by decide) rfl (by decide) m181 (fun _ => up_e rfl) hh
          have hh : pm_run PT n fr lo 226 (120, [some (.ref 162), some (.int (nI c))], [.int (yN (Ar h 172) t (p + 2))], H5, 198, sl) = some R := hh
          obtain ⟨n, hh⟩ := rn_if (cc := .lt) (off := 7) (t := 127) rfl rfl hh
          rw [yn_lt, g2] at hh
          have hh : pm_run PT n fr lo 226 (127, [some (.ref 162), some (.int (nI c))], [], H5, 198, sl) = some R := hh
          obtain ⟨n, hh⟩ := rn_i rfl rfl rfl rfl hh
          have er := (rn_ret rfl (Or.inr rfl) hh).2
          have eD := yD_b2 (f := Ar h 172) (t := t) (p := p) (kd := kd) k1 g1 g2
          rw [eA, eD]
          rw [g2] at u5
          have hs := yS_n1 k1
          rw [show decide (2 = yS kd) = false from decide_eq_false (by omega)]
          exact ⟨H5, u5, er, fun a ha j hj => by
            rcases ha with rfl | rfl | rfl | rfl
            · rw [m179, up_n hj]
            · rw [m180, up_n hj]
            · rw [m181, up_n hj]
            · rw [m182], fun _ _ e => by cases e⟩
        | true =>
          rw [g2] at hh u5
          have u5 : yQ h H5 t (p + 3) (c + 1) := u5
          have n2 : yN (Ar h 172) t (p + 2) = Ar h 172 (p + 2) - nI 48 := by
            unfold yN
            rw [g2]
            rfl
          have hh : pm_run PT n fr lo 226 (104, [some (.ref 162), some (.int (nI c))], [], H5, 198, sl) = some R := hh
          obtain ⟨n, hh⟩ := rn_i rfl rfl rfl rfl hh
          have hh : pm_run PT n fr lo 226 (105, [some (.ref 162), some (.int (nI c))], [.ref 162], H5, 198, sl) = some R := hh
          obtain ⟨n, hh⟩ := rn_gr u5.1.1 rfl rfl (by decide) rfl (by decide) (show _ = some (2, ((179 : Nat) : Int), 1) from rfl) rfl hh
          obtain ⟨n, hh⟩ := rn_i rfl rfl rfl rfl hh
          have hh : pm_run PT n fr lo 226 (109, [some (.ref 162), some (.int (nI c))], [.int (nI c), .ref 179], H5, 198, sl) = some R := hh
          obtain ⟨n, hx, hh⟩ := en_lu (t := c) (f := upd (Ar h 179) c (nI kd)) (w := nI kd) (nI_clamp (by omega)) u5.1.1 rfl (by decide) rfl (by decide) m179 (fun _ => up_e rfl) hh
          have hh : pm_run PT n fr lo 226 (110, [some (.ref 162), some (.int (nI c))], [.int (nI kd)], H5, 198, sl) = some R := hh
          obtain ⟨n, hh⟩ := rn_i rfl rfl rfl rfl hh
          obtain ⟨n, hh⟩ := rn_icmp (cc := .ge) (off := 18) (t := 129) rfl rfl hh
          rw [show pm_cmp .ge (nI kd) (Int32.ofInt 3) = decide (3 ≤ kd) from hI_ge (a := kd) (b := 3) (by omega) (by omega)] at hh
          by_cases k3 : 3 ≤ kd
          · rw [decide_eq_true k3] at hh
            have hh : pm_run PT n fr lo 226 (129, [some (.ref 162), some (.int (nI c))], [], H5, 198, sl) = some R := hh
            obtain ⟨n, hh⟩ := rn_i rfl rfl rfl rfl hh
            have hh : pm_run PT n fr lo 226 (130, [some (.ref 162), some (.int (nI c))], [.ref 162], H5, 198, sl) = some R := hh
            obtain ⟨n, hh⟩ := rn_gr u5.1.1 rfl rfl (by decide) rfl (by decide) (show _ = some (2, ((182 : Nat) : Int), 1) from rfl) rfl hh
            obtain ⟨n, hh⟩ := rn_i rfl rfl rfl rfl hh
            obtain ⟨n, hh⟩ := rn_i rfl rfl rfl rfl hh
            obtain ⟨n, hh⟩ := rn_i rfl rfl rfl rfl hh
            obtain ⟨n, hh⟩ := rn_i rfl rfl rfl rfl hh
            have hh : pm_run PT n fr lo 226 (138, [some (.ref 162), some (.int (nI c))], [.int (nI 9), .int (nI 1), .ref 162, .int (nI c), .ref 182], H5, 198, sl) = some R := hh
            obtain ⟨n, fr1, lo1, r1, hr1, hh⟩ := rn_call (w := 0) (t := 185) rfl rfl hh
            obtain ⟨J6, ⟨w6, f6, g6⟩, er⟩ := di_w u5.1.1 u5.2.1 ((yQ_17 u5).trans e17) ht (by omega) hr1
            subst er
            have y6 := yQ_16 u5 w6 f6 g6
            rw [yQ_172 u5] at y6
            have hh : pm_run PT n fr lo 226 (141, [some (.ref 162), some (.int (nI c))], [.int (yGd (Ar H5 172) t (p + 3)), .int (nI c), .ref 182], J6, 198, sl) = some R := hh
            rw [yQ_172 u5] at hh
            obtain ⟨n, hx, hh⟩ := en_st (t := c) (f := Ar J6 182) (nI_clamp (by omega)) w6 rfl (by decide) rfl (by decide) rfl hh
            have u6 := yQ_a (a := 182) (m := 60) (g := upd (Ar J6 182) c (yGd (Ar h 172) t (p + 3))) rfl (by decide) rfl rfl y6
            have k179 : Ar (aset J6 182 60 (upd (Ar J6 182) c (yGd (Ar h 172) t (p + 3)))) 179 = upd (Ar h 179) c (nI kd) := by rw [Ar_n (by decide), Ar_e (f6.1 179 rfl), m179]
            have k180 : Ar (aset J6 182 60 (upd (Ar J6 182) c (yGd (Ar h 172) t (p + 3)))) 180 = upd (Ar h 180) c (yN (Ar h 172) t (p + 1)) := by rw [Ar_n (by decide), Ar_e (f6.1 180 rfl), m180]
            have k181 : Ar (aset J6 182 60 (upd (Ar J6 182) c (yGd (Ar h 172) t (p + 3)))) 181 = upd (Ar h 181) c (yN (Ar h 172) t (p + 2)) := by rw [Ar_n (by decide), Ar_e (f6.1 181 rfl), m181]
            have k182 : Ar (aset J6 182 60 (upd (Ar J6 182) c (yGd (Ar h 172) t (p + 3)))) 182 = upd (Ar h 182) c (yGd (Ar h 172) t (p + 3)) := by rw [Ar_s, Ar_e (f6.1 182 rfl), m182]
            generalize aset J6 182 60 (upd (Ar J6 182) c (yGd (Ar h 172) t (p + 3))) = H6 at *
            have hh : pm_run PT n fr lo 226 (142, [some (.ref 162), some (.int (nI c))], [], H6, 198, sl) = some R := hh
            obtain ⟨n, hh⟩ := rn_i rfl rfl rfl rfl hh
            have hh : pm_run PT n fr lo 226 (143, [some (.ref 162), some (.int (nI c))], [.ref 162], H6, 198, sl) = some R := hh
            obtain ⟨n, hh⟩ := rn_gr u6.1.1 rfl rfl (by decide) rfl (by decide) (show _ = some (2, ((182 : Nat) : Int), 1) from rfl) rfl hh
            obtain ⟨n, hh⟩ := rn_i rfl rfl rfl rfl hh
            have hh : pm_run PT n fr lo 226 (147, [some (.ref 162), some (.int (nI c))], [.int (nI c), .ref 182], H6, 198, sl) = some R := hh
            obtain ⟨n, hx, hh⟩ := en_lu (t := c) (f := upd (Ar h 182) c (yGd (Ar h 172) t (p + 3))) (w := yGd (Ar h 172) t (p + 3)) (nI_clamp (by omega)) u6.1.1 rfl (by decide) rfl (by decide) k182 (fun _ => up_e rfl) hh
            have hh : pm_run PT n fr lo 226 (148, [some (.ref 162), some (.int (nI c))], [.int (yGd (Ar h 172) t (p + 3))], H6, 198, sl) = some R := hh
            obtain ⟨n, hh⟩ := rn_if (cc := .lt) (off := 7) (t := 155) rfl rfl hh
            rw [yg_lt] at hh
            have eD := yD_b3 (f := Ar h 172) (t := t) (p := p) (kd := kd) k3 hk4 g1 g2
            have es : yS kd = 4 := yS_3 k3
            rw [eA, eD, es]
            cases g3 : dgi (Ar h 172) (p + 3) t 1 9 with
            | false =>
              rw [g3] at hh u6
              have hh : pm_run PT n fr lo 226 (155, [some (.ref 162), some (.int (nI c))], [], H6, 198, sl) = some R := hh
              obtain ⟨n, hh⟩ := rn_i rfl rfl rfl rfl hh
              have er := (rn_ret rfl (Or.inr rfl) hh).2
              exact ⟨H6, u6, er, fun a ha j hj => by
                rcases ha with rfl | rfl | rfl | rfl
                · rw [k179, up_n hj]
                · rw [k180, up_n hj]
                · rw [k181, up_n hj]
                · rw [k182, up_n hj], fun _ _ e => by cases e⟩
            | true =>
              rw [g3] at hh u6
              have hh : pm_run PT n fr lo 226 (151, [some (.ref 162), some (.int (nI c))], [], H6, 198, sl) = some R := hh
              obtain ⟨n, hh⟩ := rn_i rfl rfl rfl rfl hh
              obtain ⟨n, hh⟩ := rn_i rfl rfl rfl rfl hh
              have er := (rn_ret rfl (Or.inr rfl) hh).2
              have n3 : yGd (Ar h 172) t (p + 3) = Ar h 172 (p + 3) - nI 48 := by
                unfold yGd
                rw [g3]
                rfl
              refine ⟨H6, u6, er, fun a ha j hj => ?_, fun kd' ek _ => ?_⟩
              · rcases ha with rfl | rfl | rfl | rfl
                · rw [k179, up_n hj]
                · rw [k180, up_n hj]
                · rw [k181, up_n hj]
                · rw [k182, up_n hj]
              · cases ek
                exact ⟨by rw [k179, up_e rfl], by rw [k180, up_e rfl, n1], fun _ => by rw [k181, up_e rfl, n2], fun _ => by rw [k182, up_e rfl, n3]⟩
          · rw [decide_eq_false k3] at hh
            have hh : pm_run PT n fr lo 226 (114, [some (.ref 162), some (.int (nI c))], [], H5, 198, sl) = some R := hh
            obtain ⟨n, hh⟩ := rn_i rfl rfl rfl rfl hh
            have hh : pm_run PT n fr lo 226 (115, [some (.ref 162), some (.int (nI c))], [.ref 162], H5, 198, sl) = some R := hh
            obtain ⟨n, hh⟩ := rn_gr u5.1.1 rfl rfl (by decide) rfl (by decide) (show _ = some (2, ((181 : Nat) : Int), 1) from rfl) rfl hh
            obtain ⟨n, hh⟩ := rn_i rfl rfl rfl rfl hh
            have hh : pm_run PT n fr lo 226 (119, [some (.ref 162), some (.int (nI c))], [.int (nI c), .ref 181], H5, 198, sl) = some R := hh
            obtain ⟨n, hx, hh⟩ := en_lu (t := c) (f := upd (Ar h 181) c (yN (Ar h 172) t (p + 2))) (w := yN (Ar h 172) t (p + 2)) (nI_clamp (by omega)) u5.1.1 rfl (by decide) rfl (by decide) m181 (fun _ => up_e rfl) hh
            have hh : pm_run PT n fr lo 226 (120, [some (.ref 162), some (.int (nI c))], [.int (yN (Ar h 172) t (p + 2))], H5, 198, sl) = some R := hh
            obtain ⟨n, hh⟩ := rn_if (cc := .lt) (off := 7) (t := 127) rfl rfl hh
            rw [yn_lt, g2] at hh
            have hh : pm_run PT n fr lo 226 (123, [some (.ref 162), some (.int (nI c))], [], H5, 198, sl) = some R := hh
            obtain ⟨n, hh⟩ := rn_i rfl rfl rfl rfl hh
            obtain ⟨n, hh⟩ := rn_i rfl rfl rfl rfl hh
            have er := (rn_ret rfl (Or.inr rfl) hh).2
            have eD : yD (Ar h 172) t p (yS kd - 1) 1 = yS kd := yD_k2 k1 (by omega) g1 g2
            have es : yS kd = 3 := yS_2 k1 (by omega)
            rw [eA, eD, decide_eq_true rfl, es]
            refine ⟨H5, u5, er, fun a ha j hj => ?_, fun kd' ek _ => ?_⟩
            · rcases ha with rfl | rfl | rfl | rfl
              · rw [m179, up_n hj]
              · rw [m180, up_n hj]
              · rw [m181, up_n hj]
              · rw [m182]
            · cases ek
              exact ⟨by rw [m179, up_e rfl], by rw [m180, up_e rfl, n1], fun _ => by rw [m181, up_e rfl, n2], fun k => absurd k k3⟩
end YRM
end MG95zzzhx0
section MG95zzzhx1
/-! year: one act of both sides; all acts -/
section YRS
variable {n fr lo sl n0 cc gc a b k kd t : Nat} {q : QT} {h h1 h2 X M : pm_H} {d : Int32} {R : pm_Rs} {f : Nat → Int32}
/-- an act of the class -/
def yX (q : QT) (cc gc : Nat) (h : pm_H) (kd a b : Nat) (d : Int32) : Bool × pm_H := if kd = 0 then v142 q cc gc h a b else if kd = 1 then (true, v140 q cc gc h a) else if kd = 2 then v143 q cc gc h a b else if kd = 3 then v144 q cc gc h a b d else v144 q cc gc h a b (-d)
/-- an act of the reference -/
def yM (q : QT) (cc gc : Nat) (h : pm_H) (k kd a b : Nat) : Bool × pm_H := if kd = 1 then v227m q cc gc h k a else v227 q cc gc h k kd a b
def yWX : List Nat := [12, 13, 14, 15, 16, 17, 18, 142, 144, 145, 147]
def yVX : List (Nat × Nat) := [(13, 5), (13, 6), (142, 3), (145, 3)]
def yWM : List Nat := [162, 170, 176, 177]
def yVM : List (Nat × Nat) := [(162, 29), (162, 30)]
theorem yX_fr (hc : HC q cc gc h) : HC q cc gc (yX q cc gc h kd a b d).2 ∧ frm yWX yVX h (yX q cc gc h kd a b d).2 := by
  unfold yX
  split
  · obtain ⟨x, y⟩ := v142_fr (g := a) (c := b) hc
    exact ⟨x, fr_g rfl rfl y fr_0⟩
  · split
    · obtain ⟨x, y⟩ := v140_fr (m := a) hc
      exact ⟨x, fr_g rfl rfl y fr_0⟩
    · split
      · obtain ⟨x, y⟩ := v143_fr (a := a) (b := b) hc
        exact ⟨x, fr_g rfl rfl y fr_0⟩
      · split
        · obtain ⟨x, y⟩ := v144_fr (a := a) (b := b) (m := d) hc
          exact ⟨x, fr_g rfl rfl y fr_0⟩
        · obtain ⟨x, y⟩ := v144_fr (a := a) (b := b) (m := -d) hc
          exact ⟨x, fr_g rfl rfl y fr_0⟩
theorem VE_mk (z : VE q cc gc X M) {X' M' : pm_H} (c1 : HC q cc gc X') (c2 : HC q cc gc M') (f1 : frm yWX yVX X X') (f2 : frm yWM yVM M M') (s : RS cc gc (Ar X' 14) (Ar X' 15) (Ar X' 16) (Ar X' 17) (Ar X' 18) (Fi X' 13 5) (Fi X' 13 6) (Ar M' 170)) (r : RI cc gc (Ar M' 170)) : VE q cc gc X' M' := by
  obtain ⟨⟨z1, z2⟩, z3, z4, -, -⟩ := z
  have eq1 : Ar X' (q.1 + 1) = Ar X (q.1 + 1) := by
    rcases z1.qq with e | e
    · rw [e]
      exact Ar_e (f1.1 143 rfl)
    · rw [e]
      exact Ar_e (f1.1 146 rfl)
  refine ⟨⟨c1, c2⟩, ?_, ?_, s, r⟩
  · rw [eq1, Ar_e (f2.1 174 rfl)]
    exact z3
  · unfold RMm
    rw [Ar_e (f1.1 6 rfl), Ar_e (f1.1 7 rfl), Ar_e (f1.1 9 rfl), Ar_e (f1.1 10 rfl), Ar_e (f1.1 11 rfl), Ar_e (f2.1 164 rfl), Ar_e (f2.1 165 rfl), Ar_e (f2.1 166 rfl), Ar_e (f2.1 167 rfl), Ar_e (f2.1 168 rfl)]
    exact z4
theorem lt_tt {x : Int32} (e : 0 ≤ x.toInt) : pm_cmp .lt x 0 = false := lt0_val e
/-- send -/
theorem ys_send (z : VE q cc gc X M) (g c : Nat) : (v142 q cc gc X g c).1 = (cond (pm_cmp .lt (v217 q cc gc M g c).1 0) false true) ∧ VE q cc gc (v142 q cc gc X g c).2 (v217 q cc gc M g c).2 := by
  obtain ⟨⟨c1, c2⟩, z3, z4, z5, z6⟩ := id z
  have h6 := c1.cb
  have h8 := c1.gb
  have lt1 : pm_cmp .lt (Int32.ofInt (-1)) 0 = true := by decide
  have no : (v136 q cc gc (Ar X 17) g c = Int32.ofInt (-1) ∨ v136 q cc gc (Ar X 17) g c = Int32.ofInt (-2)) → v142 q cc gc X g c = (false, X) := by
    intro e
    unfold v142
    rcases e with e | e
    · rw [e, n1_ge]
      rfl
    · rw [e, n2_ge]
      rfl
  by_cases hg : g < gc
  · by_cases hc : c < cc
    · obtain ⟨F, hF, eF⟩ := z6.2.2.2.1 g hg
      have eX : Ar X 17 g = nI F := (z5.2.2.2.1 g hg).trans eF
      by_cases hn : F = c
      · subst hn
        have ev : v136 q cc gc (Ar X 17) g F = Int32.ofInt (-2) := by
          unfold v136
          rw [decide_eq_true hg, decide_eq_true hc, eX, ne_ff]
          rfl
        have e217 : v217 q cc gc M g F = (Int32.ofInt (-2), M) := by
          unfold v217
          rw [decide_eq_true hg, decide_eq_true hc, eF, nI_clamp (by omega), decide_eq_false (fun z : ¬ F = F => z rfl)]
          rfl
        rw [no (Or.inr ev), e217]
        dsimp only
        rw [n2_lt]
        exact ⟨rfl, z⟩
      · have ev : v136 q cc gc (Ar X 17) g c = nI 0 := by
          unfold v136
          rw [decide_eq_true hg, decide_eq_true hc, eX, ne_tt (fun y => hn (nI_ij (by omega) (by omega) y))]
          rfl
        have e142 : v142 q cc gc X g c = (true, v40 q cc gc (v39 q cc gc X g c).2 g c (v39 q cc gc X g c).1) := by
          unfold v142
          rw [ev, z0_ge]
          rfl
        obtain ⟨c39, f39⟩ := v39_fr (g := g) (c := c) c1
        obtain ⟨c40, f40⟩ := v40_fr (g := g) (c := c) (v := (v39 q cc gc X g c).1) c39
        have hV := VE_val z hg hc
        have ea : ∀ a, (List.elem a [12, 142, 144, 145, 147]) = false → Ar (v39 q cc gc X g c).2 a = Ar X a := fun a e => Ar_e (f39.1 a e)
        have ef : ∀ k, Fi (v39 q cc gc X g c).2 13 k = Fi X 13 k := fun k => Fi_e (f39.1 13 rfl)
        have r5 : RS cc gc (Ar (v39 q cc gc X g c).2 14) (Ar (v39 q cc gc X g c).2 15) (Ar (v39 q cc gc X g c).2 16) (Ar (v39 q cc gc X g c).2 17) (Ar (v39 q cc gc X g c).2 18) (Fi (v39 q cc gc X g c).2 13 5) (Fi (v39 q cc gc X g c).2 13 6) (Ar M 170) := by
          rw [ea 14 rfl, ea 15 rfl, ea 16 rfl, ea 17 rfl, ea 18 rfl, ef, ef]
          exact z5
        obtain ⟨n1, n2, n3, n4⟩ := send_rel c39 r5 z6 hV hg hc hF eF hn
        obtain ⟨cM, fM⟩ := v217_fr (g := g) (c := c) c2
        rw [e142, lt_tt n4]
        refine ⟨rfl, VE_mk z c40 cM (fr_g rfl rfl f40 (fr_g rfl rfl f39 fr_0)) (fr_g rfl rfl fM fr_0) ?_ n2⟩
        show RS cc gc (Ar (v40 q cc gc (v39 q cc gc X g c).2 g c (v39 q cc gc X g c).1) 14) _ _ _ _ (Fi (v40 q cc gc (v39 q cc gc X g c).2 g c (v39 q cc gc X g c).1) 13 5) (Fi (v40 q cc gc (v39 q cc gc X g c).2 g c (v39 q cc gc X g c).1) 13 6) _
        rw [Ar_e (f40.1 14 rfl), Fi_e (f40.1 13 rfl), Fi_e (f40.1 13 rfl)]
        exact n1
    · have ev : v136 q cc gc (Ar X 17) g c = Int32.ofInt (-1) := by
        unfold v136
        rw [decide_eq_true hg, decide_eq_false hc]
        rfl
      have e217 : v217 q cc gc M g c = (Int32.ofInt (-1), M) := by
        unfold v217
        rw [decide_eq_true hg, decide_eq_false hc]
        rfl
      rw [no (Or.inl ev), e217]
      dsimp only
      rw [lt1]
      exact ⟨rfl, z⟩
  · have ev : v136 q cc gc (Ar X 17) g c = Int32.ofInt (-1) := by
      unfold v136
      rw [decide_eq_false hg]
      rfl
    have e217 : v217 q cc gc M g c = (Int32.ofInt (-1), M) := by
      unfold v217
      rw [decide_eq_false hg]
      rfl
    rw [no (Or.inl ev), e217]
    dsimp only
    rw [lt1]
    exact ⟨rfl, z⟩
/-- months -/
theorem ys_mon (z : VE q cc gc X M) (m : Nat) : VE q cc gc (v140 q cc gc X m) (lp (fun _ a => v219 q cc gc a) m 0 M) := by
  have j := mon_lp z.1.1 z.1.2 z.2.2.2.1 z.2.2.2.2 z.2.2.1 m
  have j : MJ q cc gc X M (0 + m) (v140 q cc gc X m) (lp (fun _ a => v219 q cc gc a) m 0 M) := j
  obtain ⟨⟨j1, j2⟩, ⟨j3, j4⟩, j5, j6⟩ := j
  exact VE_mk z j1 j2 (fr_g rfl rfl j3 fr_0) (fr_g rfl rfl j4 fr_0) j5 j6
theorem cB_lt (ha : a < 10) (e : cB cc (nI a) = true) : a < cc := by
  rw [cB_n (by omega)] at e
  exact of_decide_eq_true e
/-- forgive -/
theorem ys_fgv (z : VE q cc gc X M) (ha : a < 10) (hb : b < 10) : (v143 q cc gc X a b).1 = (cond (pm_cmp .lt (v221 q cc gc M a b).1 0) false true) ∧ VE q cc gc (v143 q cc gc X a b).2 (v221 q cc gc M a b).2 := by
  obtain ⟨⟨c1, c2⟩, z3, z4, z5, z6⟩ := id z
  have h6 := c1.cb
  have lt1 : pm_cmp .lt (Int32.ofInt (-1)) 0 = true := by decide
  cases zp : pP cc (nI a) (nI b) with
  | false =>
    have e1 : v143 q cc gc X a b = (false, X) := by
      unfold v143 v139
      rw [zp, show (cond false (cond (pm_cmp .ne (Ar X 16 (a * 6 + b)) 0) (nI 0) (Int32.ofInt (-2))) (Int32.ofInt (-1))) = Int32.ofInt (-1) from rfl, n1_ge]
      rfl
    have e2 : v221 q cc gc M a b = (Int32.ofInt (-1), M) := by
      unfold v221
      rw [zp]
      rfl
    rw [e1, e2]
    dsimp only
    rw [lt1]
    exact ⟨rfl, z⟩
  | true =>
    have hab : a < cc ∧ b < cc := by
      unfold pP at zp
      rw [Bool.and_eq_true, Bool.and_eq_true] at zp
      exact ⟨cB_lt ha zp.1, cB_lt hb zp.2.1⟩
    have e16 : Ar X 16 (a * 6 + b) = Ar M 170 (42 + 6 * a + b) := z5.2.2.1 a b (by omega) (by omega)
    obtain ⟨n1, n2⟩ := fgv_rel c1.cb c1.gb z5 z6 hab.1 hab.2
    have cX : HC q cc gc (aset X 16 36 (upd (Ar X 16) (a * 6 + b) (nI 0))) := hc_a rfl rfl c1
    have cM : HC q cc gc (aset M 170 96 (upd (Ar M 170) (42 + 6 * a + b) (nI 0))) := hc_a rfl rfl c2
    have e2 : v221 q cc gc M a b = (cond (pm_cmp .ne (Ar M 170 (42 + 6 * a + b)) 0) (Ar M 170 (42 + 6 * a + b)) (Int32.ofInt (-2)), aset M 170 96 (upd (Ar M 170) (42 + 6 * a + b) (nI 0))) := by
      unfold v221
      rw [zp]
      rfl
    cases zm : pm_cmp .ne (Ar X 16 (a * 6 + b)) 0 with
    | false =>
      have z0 : Ar X 16 (a * 6 + b) = nI 0 := by
        have z : ¬ (Ar X 16 (a * 6 + b) ≠ 0) := of_decide_eq_false zm
        exact Decidable.not_not.mp z
      have e1 : v143 q cc gc X a b = (false, X) := by
        unfold v143 v139
        rw [zp, zm, show (cond true (cond false (nI 0) (Int32.ofInt (-2))) (Int32.ofInt (-1))) = Int32.ofInt (-2) from rfl, n2_ge]
        rfl
      rw [e1, e2, ← e16, zm]
      dsimp only [cond]
      rw [n2_lt]
      refine ⟨rfl, VE_mk z c1 cM fr_0 (fr_a rfl rfl fr_0) ?_ ?_⟩
      · rw [Ar_s, up_id (e16.symm.trans z0)]
        exact z5
      · rw [Ar_s, up_id (e16.symm.trans z0)]
        exact z6
    | true =>
      have e1 : v143 q cc gc X a b = (true, aset X 16 36 (upd (Ar X 16) (a * 6 + b) (nI 0))) := by
        unfold v143 v139
        rw [zp, zm, show (cond true (cond true (nI 0) (Int32.ofInt (-2))) (Int32.ofInt (-1))) = nI 0 from rfl, z0_ge]
        rfl
      have i16 := (z6.2.2.1 a b (by omega) (by omega)).1.1
      rw [e1, e2, ← e16, zm]
      dsimp only [cond]
      rw [lt_tt (by rw [e16]; exact i16)]
      refine ⟨rfl, VE_mk z cX cM (fr_a rfl rfl fr_0) (fr_a rfl rfl fr_0) ?_ ?_⟩
      · rw [Ar_s, Ar_s, Ar_n (by decide), Ar_n (by decide), Ar_n (by decide), Ar_n (by decide), Fi_a (by decide), Fi_a (by decide)]
        exact n1
      · rw [Ar_s]
        exact n2
/-- envoy -/
theorem ys_env (z : VE q cc gc X M) (ha : a < 10) (hb : b < 10) (m : Int32) : (v144 q cc gc X a b m).1 = (cond (pm_cmp .lt (v220 q cc gc M a b m).1 0) false true) ∧ VE q cc gc (v144 q cc gc X a b m).2 (v220 q cc gc M a b m).2 := by
  obtain ⟨⟨c1, c2⟩, z3, z4, z5, z6⟩ := id z
  have h6 := c1.cb
  have lt1 : pm_cmp .lt (Int32.ofInt (-1)) 0 = true := by decide
  have bad : v137 q cc gc a b m = true → v220 q cc gc M a b m = (Int32.ofInt (-1), M) → (v144 q cc gc X a b m).1 = (cond (pm_cmp .lt (v220 q cc gc M a b m).1 0) false true) ∧ VE q cc gc (v144 q cc gc X a b m).2 (v220 q cc gc M a b m).2 := by
    intro e1 e2
    have e3 : v144 q cc gc X a b m = (false, X) := by
      unfold v144
      rw [e1]
      rfl
    rw [e2, e3]
    dsimp only
    rw [lt1]
    exact ⟨rfl, z⟩
  cases zp : pP cc (nI a) (nI b) with
  | false =>
    refine bad ?_ ?_
    · unfold v137
      rw [zp]
      rfl
    · unfold v220
      rw [zp]
      rfl
  | true =>
    have ei := env_in (q := q) (gc := gc) (m := m) zp
    cases zi : in_b m.toInt64 (-9 : Int64) (9 : Int64) && pm_cmp .ne m 0 with
    | false =>
      rw [zi] at ei
      refine bad ei ?_
      unfold v220
      rw [zp]
      cases y1 : in_b m.toInt64 (-9 : Int64) (9 : Int64) with
      | false => rfl
      | true =>
        rw [y1, Bool.true_and] at zi
        rw [zi]
        rfl
    | true =>
      rw [zi] at ei
      rw [Bool.and_eq_true] at zi
      have hab : a < cc ∧ b < cc ∧ a ≠ b := by
        unfold pP at zp
        rw [Bool.and_eq_true, Bool.and_eq_true] at zp
        refine ⟨cB_lt ha zp.1, cB_lt hb zp.2.1, fun e => ?_⟩
        have y := zp.2.2
        rw [e, decide_eq_true rfl] at y
        cases y
      obtain ⟨n1, n2⟩ := env_rel (y := m) c1.cb c1.gb z5 z6 hab.1 hab.2.1 hab.2.2
      have e3 : v144 q cc gc X a b m = (true, v138 q cc gc X a b m) := by
        unfold v144
        rw [ei]
        rfl
      have e4 : v138 q cc gc X a b m = aset X 15 36 (upd (Ar X 15) (a * 6 + b) (imax (nI 0) (imin (nI 20) (Ar X 15 (a * 6 + b) + m)))) := rfl
      have e5 : v220 q cc gc M a b m = (imax (nI 0) (imin (nI 20) (Ar M 170 (6 + 6 * a + b) + m)), aset M 170 96 (upd (Ar M 170) (6 + 6 * a + b) (imax (nI 0) (imin (nI 20) (Ar M 170 (6 + 6 * a + b) + m))))) := by
        unfold v220
        rw [zp, zi.1, zi.2]
        show (upd (Ar M 170) (6 + 6 * a + b) (imax (nI 0) (imin (nI 20) (Ar M 170 (6 + 6 * a + b) + m))) (6 + 6 * a + b), _) = _
        rw [up_e rfl]
      rw [e3, e4, e5]
      dsimp only
      rw [lt_tt (clamp_i (by decide)).1]
      have cX : HC q cc gc (aset X 15 36 (upd (Ar X 15) (a * 6 + b) (imax (nI 0) (imin (nI 20) (Ar X 15 (a * 6 + b) + m))))) := hc_a rfl rfl c1
      have cM : HC q cc gc (aset M 170 96 (upd (Ar M 170) (6 + 6 * a + b) (imax (nI 0) (imin (nI 20) (Ar M 170 (6 + 6 * a + b) + m))))) := hc_a rfl rfl c2
      refine ⟨rfl, VE_mk z cX cM (fr_a rfl rfl fr_0) (fr_a rfl rfl fr_0) ?_ ?_⟩
      · rw [Ar_s, Ar_s, Ar_n (by decide), Ar_n (by decide), Ar_n (by decide), Ar_n (by decide), Fi_a (by decide), Fi_a (by decide)]
        exact n1
      · rw [Ar_s]
        exact n2
/-- one act of both -/
theorem y_step (z : VE q cc gc X M) (ha : a < 10) (hb : b < 10) (hk : kd ≤ 4) (e1 : 3 ≤ kd → Ar M 182 k = d) : (yX q cc gc X kd a b d).1 = (yM q cc gc M k kd a b).1 ∧ VE q cc gc (yX q cc gc X kd a b d).2 (yM q cc gc M k kd a b).2 := by
  rcases (by omega : kd = 0 ∨ kd = 1 ∨ kd = 2 ∨ kd = 3 ∨ kd = 4) with rfl | rfl | rfl | rfl | rfl
  · exact ys_send z a b
  · exact ⟨rfl, ys_mon z a⟩
  · exact ys_fgv z ha hb
  · have e := e1 (by decide)
    have y := ys_env z ha hb d
    rw [← e] at y
    rw [← e]
    exact y
  · have e := e1 (by decide)
    have y := ys_env z ha hb (-d)
    rw [← e] at y
    rw [← e]
    exact y
theorem yM_fr (hc : HC q cc gc h) (h1 : Ar h 179 k = nI kd) (h2 : Ar h 180 k = nI a) (h3 : kd ≠ 1 → Ar h 181 k = nI b) (hk : kd < 10) (ha : a < 10) (hb : b < 10) : HC q cc gc (yM q cc gc h k kd a b).2 ∧ frm yWM yVM h (yM q cc gc h k kd a b).2 := by
  unfold yM
  by_cases e : kd = 1
  · rw [if_pos e]
    subst e
    obtain ⟨x, y⟩ := v227m_fr (k := k) (a := a) hc h1 h2 ha
    exact ⟨x, fr_g rfl rfl y fr_0⟩
  · rw [if_neg e]
    exact v227_fr (k := k) (kd := kd) (a := a) (b := b) hc h1 h2 (h3 e) hk ha hb
end YRS
end MG95zzzhx1
section MG95zzzhx2
/-! year: both sides do the acts told -/
section YRL
variable {n fr lo sl n0 cc gc a b k kd t p c : Nat} {q : QT} {h h1 h2 H X M : pm_H} {d : Int32} {R : pm_Rs} {f : Nat → Int32}
/-- where the acts stand -/
def yPos (f : Nat → Int32) (t : Nat) : Nat → Nat
  | 0 => 0
  | k + 1 => (yA f t (yPos f t k)).2
def yd (f : Nat → Int32) (p : Nat) : Nat := (f p - nI 48).toNatClampNeg
def yKd (f : Nat → Int32) (t j : Nat) : Nat := (yL f t (yPos f t j)).getD 0
def yXj (q : QT) (cc gc : Nat) (f : Nat → Int32) (t j : Nat) (h : pm_H) : Bool × pm_H := yX q cc gc h (yKd f t j) (yd f (yPos f t j + 1)) (yd f (yPos f t j + 2)) (f (yPos f t j + 3) - nI 48)
def yMj (q : QT) (cc gc : Nat) (f : Nat → Int32) (t j : Nat) (h : pm_H) : Bool × pm_H := yM q cc gc h j (yKd f t j) (yd f (yPos f t j + 1)) (yd f (yPos f t j + 2))
/-- acts, until one doesn't go through: how many did -/
def yG (g : Nat → pm_H → Bool × pm_H) : Nat → Nat → pm_H → Nat × pm_H
  | 0, j, h => (j, h)
  | k + 1, j, h => cond (g j h).1 (yG g k (j + 1) (g j h).2) (j, (g j h).2)
def yOk (f : Nat → Int32) (t c : Nat) : Prop := ∀ j, j < c → (∃ kd, yL f t (yPos f t j) = some kd) ∧ (yA f t (yPos f t j)).1 = true
theorem y_dig (z : dg f p t = true) : f p - nI 48 = nI (yd f p) ∧ yd f p < 10 := by
  have v := dg_val z
  have v : 0 ≤ (f p - nI 48).toInt ∧ (f p - nI 48).toInt ≤ 9 := v
  obtain ⟨m, e, hm, ei⟩ := hI_of (x := f p - nI 48) v.1
  unfold yd
  rw [e, nI_clamp hm]
  exact ⟨rfl, by omega⟩
theorem y_act (e : yL f t p = some kd) (ok : (yA f t p).1 = true) : kd ≤ 4 ∧ p < t ∧ (yA f t p).2 = p + yS kd ∧ dg f (p + 1) t = true ∧ (kd ≠ 1 → dg f (p + 2) t = true) ∧ (3 ≤ kd → dg f (p + 3) t = true) := by
  have hs := yS_ge kd
  unfold yA at ok ⊢
  rw [e] at ok ⊢
  have ok : yD f t p (yS kd - 1) 1 = yS kd := of_decide_eq_true ok
  have dd := yD_lt (f := f) (t := t) (i := p) (yS kd - 1) 1 (by omega)
  refine ⟨yL_le e, yL_lt e, ?_, yB_dg (dd 1 (Nat.le_refl _) (by omega)), fun k1 => yB_dg (dd 2 (by omega) (by have := yS_n1 k1; omega)), fun k3 => yB_dg (dd 3 (by omega) (by rw [yS_3 k3]; decide))⟩
  show p + yD f t p (yS kd - 1) 1 = p + yS kd
  rw [ok]
theorem yK_iv {x : Int32} (e : yK x = some kd) : (kd = 0 ∧ x = nI 115) ∨ (kd = 1 ∧ x = nI 109) ∨ (kd = 2 ∧ x = nI 102) ∨ (kd = 3 ∧ x = nI 112) ∨ (kd = 4 ∧ x = nI 113) := by
  unfold yK at e
  by_cases e1 : x = nI 115
  · rw [if_pos e1] at e
    cases e
    exact Or.inl ⟨rfl, e1⟩
  · rw [if_neg e1] at e
    by_cases e2 : x = nI 109
    · rw [if_pos e2] at e
      cases e
      exact Or.inr (Or.inl ⟨rfl, e2⟩)
    · rw [if_neg e2] at e
      by_cases e3 : x = nI 102
      · rw [if_pos e3] at e
        cases e
        exact Or.inr (Or.inr (Or.inl ⟨rfl, e3⟩))
      · rw [if_neg e3] at e
        by_cases e4 : x = nI 112
        · rw [if_pos e4] at e
          cases e
          exact Or.inr (Or.inr (Or.inr (Or.inl ⟨rfl, e4⟩)))
        · rw [if_neg e4] at e
          by_cases e5 : x = nI 113
          · rw [if_pos e5] at e
            cases e
            exact Or.inr (Or.inr (Or.inr (Or.inr ⟨rfl, e5⟩)))
          · rw [if_neg e5] at e
            cases e
theorem yPos_le : ∀ c, yOk f t c → yPos f t c ≤ t ∧ 2 * c ≤ yPos f t c
  | 0, _ => ⟨Nat.zero_le _, Nat.le_refl _⟩
  | c + 1, z => by
    have ih := yPos_le c (fun j hj => z j (by omega))
    obtain ⟨⟨kd, e⟩, ok⟩ := z c (by omega)
    have y := yA_le (f := f) ih.1
    have y3 := y.2.2 ok
    show (yA f t (yPos f t c)).2 ≤ t ∧ 2 * (c + 1) ≤ (yA f t (yPos f t c)).2
    omega
/-- what the class's readers look at, by the counts -/
theorem pX_hc (hc : HC q cc gc h) (e11 : Fi h 1 1 = nI n0) : pX h n0 cc (Ar h 2) := by
  have hw := hc.wt
  have i5 : ∃ rs, h 5 = .inr (3, rs) ∧ rs[0]? = some (.int (nI cc)) := by
    obtain ⟨rs, a, b⟩ := wt_i (c := 5) (g := 0) hw (by decide) rfl (by decide) rfl
    rw [hc.x0] at b
    exact ⟨rs, a, b⟩
  obtain ⟨fs, a1, a2⟩ := wt_r (c := 0) (g := 0) (p := 1) hw (by decide) rfl (by decide) rfl rfl
  obtain ⟨fs', a3, a4⟩ := wt_r (c := 0) (g := 2) (p := 5) hw (by decide) rfl (by decide) rfl rfl
  obtain ⟨gs, b1, b2⟩ := wt_r (c := 1) (g := 0) (p := 2) hw (by decide) rfl (by decide) rfl rfl
  obtain ⟨gs', b3, b4⟩ := wt_i (c := 1) (g := 1) hw (by decide) rfl (by decide) rfl
  rw [e11] at b4
  rw [a1] at a3
  cases a3
  rw [b1] at b3
  cases b3
  exact ⟨⟨fs, a1, a2, a4⟩, ⟨gs, b1, b2, b4⟩, wt_a hw (by decide) rfl (by decide), i5⟩
/-- doAct -/
theorem yx_run (hn : n0 ≤ 80) (hc : HC q cc gc H) (na : NA H 17 0 8 6) (e11 : Fi H 1 1 = nI n0) (ef : Ar H 2 = f) (hp : p < 60) (e : yL f (min n0 60) p = some kd) (ok : (yA f (min n0 60) p).1 = true) (hh : pm_run PT n fr lo 141 (0, pm_l0 [.ref 0, .int (nI p)] 5, [], H, 198, sl) = some R) : R = (some (.int (cond (yX q cc gc H kd (yd f (p + 1)) (yd f (p + 2)) (f (p + 3) - nI 48)).1 1 0)), (yX q cc gc H kd (yd f (p + 1)) (yd f (p + 2)) (f (p + 3) - nI 48)).2, 198, sl) := by
  obtain ⟨k4, hlt, -, d1, d2, d3⟩ := y_act e ok
  have px := pX_hc hc e11
  have s0 : sgA f n0 p 60 = f p := by
    unfold sgA
    rw [decide_eq_true hlt]
    rfl
  have g1 : dgA f n0 (p + 1) 60 = nI (yd f (p + 1)) := ((dgA_B (f := f) (n0 := n0) (p := p) (j := 1)).1 d1).1.trans (y_dig d1).1
  have l1 := (y_dig d1).2
  have eK : yK (f p) = some kd := by
    unfold yL at e
    rw [if_pos hlt] at e
    exact e
  subst ef
  rcases yK_iv eK with ⟨rfl, es⟩ | ⟨rfl, es⟩ | ⟨rfl, es⟩ | ⟨rfl, es⟩ | ⟨rfl, es⟩
  · have dd2 := d2 (by decide)
    have g2 : dgA (Ar H 2) n0 (p + 2) 60 = nI (yd (Ar H 2) (p + 2)) := ((dgA_B (f := Ar H 2) (n0 := n0) (p := p) (j := 2)).1 dd2).1.trans (y_dig dd2).1
    exact (v141s_ok hc (by omega) hn px (s0.trans es) g1 l1 g2 (y_dig dd2).2 na hh).1
  · exact (v141m_ok hc (by omega) hn px (s0.trans es) g1 l1 na hh).1
  · have dd2 := d2 (by decide)
    have g2 : dgA (Ar H 2) n0 (p + 2) 60 = nI (yd (Ar H 2) (p + 2)) := ((dgA_B (f := Ar H 2) (n0 := n0) (p := p) (j := 2)).1 dd2).1.trans (y_dig dd2).1
    exact (v141f_ok hc (by omega) hn px (s0.trans es) g1 l1 g2 (y_dig dd2).2 na hh).1
  · have dd2 := d2 (by decide)
    have dd3 := d3 (by decide)
    have g2 : dgA (Ar H 2) n0 (p + 2) 60 = nI (yd (Ar H 2) (p + 2)) := ((dgA_B (f := Ar H 2) (n0 := n0) (p := p) (j := 2)).1 dd2).1.trans (y_dig dd2).1
    have g3 : dgA (Ar H 2) n0 (p + 3) 60 = Ar H 2 (p + 3) - nI 48 := ((dgA_B (f := Ar H 2) (n0 := n0) (p := p) (j := 3)).1 dd3).1
    have z := (v141p_ok hc (by omega) hn px (s0.trans es) g1 l1 g2 (y_dig dd2).2 na hh).1
    unfold v141p at z
    rw [g3] at z
    exact z
  · have dd2 := d2 (by decide)
    have dd3 := d3 (by decide)
    have g2 : dgA (Ar H 2) n0 (p + 2) 60 = nI (yd (Ar H 2) (p + 2)) := ((dgA_B (f := Ar H 2) (n0 := n0) (p := p) (j := 2)).1 dd2).1.trans (y_dig dd2).1
    have g3 : dgA (Ar H 2) n0 (p + 3) 60 = Ar H 2 (p + 3) - nI 48 := ((dgA_B (f := Ar H 2) (n0 := n0) (p := p) (j := 3)).1 dd3).1
    have z := (v141q_ok hc (by omega) hn px (s0.trans es) g1 l1 g2 (y_dig dd2).2 na hh).1
    unfold v141q at z
    rw [g3] at z
    exact z
/-- the HOLDERS stay small numbers -/
theorem yX_na (hc : HC q cc gc X) (na : NA X 17 0 8 6) : NA (yX q cc gc X kd a b d).2 17 0 8 6 := by
  have h6 := hc.cb
  unfold yX
  split
  · by_cases hb : b < cc
    · unfold v142
      cases pm_cmp .ge (v136 q cc gc (Ar X 17) a b) 0 with
      | false => exact na
      | true =>
        obtain ⟨c39, f39⟩ := v39_fr (g := a) (c := b) hc
        show NA (v40 q cc gc (v39 q cc gc X a b).2 a b (v39 q cc gc X a b).1) 17 0 8 6
        have e := (v40_ar (q := q) (cc := cc) (gc := gc) (h := (v39 q cc gc X a b).2) (g := a) (c := b) (V := (v39 q cc gc X a b).1)).2.2.1
        have z : NAf (upd (Ar X 17) a (nI b)) 0 8 6 := NAf_up (Or.inl ⟨b, by omega, rfl⟩) (by decide) na
        have e2 : Ar (v40 q cc gc (v39 q cc gc X a b).2 a b (v39 q cc gc X a b).1) 17 = upd (Ar X 17) a (nI b) := by
          rw [e, Ar_e (f39.1 17 rfl)]
        intro j h1 h2
        rw [e2]
        exact z j h1 h2
    · have ev : v136 q cc gc (Ar X 17) a b = Int32.ofInt (-1) := by
        unfold v136
        rw [decide_eq_false hb]
        cases decide (a < gc) <;> rfl
      unfold v142
      rw [ev, n1_ge]
      exact na
  · split
    · exact NA_e (Ar_e ((v140_fr (m := a) hc).2.1 17 rfl)) na
    · split
      · exact NA_e (Ar_e ((v143_fr (a := a) (b := b) hc).2.1 17 rfl)) na
      · split
        · exact NA_e (Ar_e ((v144_fr (a := a) (b := b) (m := d) hc).2.1 17 rfl)) na
        · exact NA_e (Ar_e ((v144_fr (a := a) (b := b) (m := -d) hc).2.1 17 rfl)) na
/-- the class's acts -/
theorem yl_loop {v1 : Int32} (hn : n0 ≤ 80) (ok : yOk f (min n0 60) c) (hend : yPos f (min n0 60) c = n0) : ∀ (k j n : Nat) (H : pm_H), j + k = c → HC q cc gc H → NA H 17 0 8 6 → Fi H 1 1 = nI n0 → Ar H 2 = f → pm_run PT n fr lo 100 (42, [some (.ref 0), some (.int v1), some (.int (nI j)), some (.int 0), some (.int (nI (yPos f (min n0 60) j))), some (.int (nI j))], [], H, 198, sl) = some R → ∃ m s p i, pm_run PT m fr lo 100 (107, [some (.ref 0), some (.int v1), some (.int (nI (yG (yXj q cc gc f (min n0 60)) k j H).1)), some (.int s), some (.int p), some (.int i)], [], (yG (yXj q cc gc f (min n0 60)) k j H).2, 198, sl) = some R
  | 0, j, n, H, e, hc, na, e11, ef, hh => by
    have hj : j = c := e
    subst hj
    have hle := yPos_le j ok
    obtain ⟨n, hh⟩ := rn_i rfl rfl rfl rfl hh
    obtain ⟨n, hh⟩ := rn_i rfl rfl rfl rfl hh
    obtain ⟨n, hh⟩ := rn_icmp (cc := .ge) (off := 61) (t := 107) rfl rfl hh
    rw [show pm_cmp .ge (nI j) (Int8.ofInt 60).toInt32 = decide (60 ≤ j) from hI_ge (b := 60) (by omega) (by omega), decide_eq_false (by omega)] at hh
    have hh : pm_run PT n fr lo 100 (49, [some (.ref 0), some (.int v1), some (.int (nI j)), some (.int 0), some (.int (nI (yPos f (min n0 60) j))), some (.int (nI j))], [], H, 198, sl) = some R := hh
    obtain ⟨n, hh⟩ := rn_i rfl rfl rfl rfl hh
    obtain ⟨n, hh⟩ := rn_i rfl rfl rfl rfl hh
    have hh : pm_run PT n fr lo 100 (52, [some (.ref 0), some (.int v1), some (.int (nI j)), some (.int 0), some (.int (nI (yPos f (min n0 60) j))), some (.int (nI j))], [.ref 0, .int (nI (yPos f (min n0 60) j))], H, 198, sl) = some R := hh
    obtain ⟨n, hh⟩ := rn_gr hc.wt rfl rfl (by decide) rfl (by decide) (show _ = some (2, ((1 : Nat) : Int), 1) from rfl) rfl hh
    obtain ⟨n, hh⟩ := rn_gi (x := nI n0) hc.wt rfl rfl (by decide) rfl (by decide) rfl e11 hh
    obtain ⟨n, hh⟩ := rn_icmp (cc := .ge) (off := 49) (t := 107) rfl rfl hh
    rw [hI_ge (by omega) (by omega), decide_eq_true (by omega)] at hh
    exact ⟨n, _, _, _, hh⟩
  | k + 1, j, n, H, e, hc, na, e11, ef, hh => by
    have hle := yPos_le j (fun i hi => ok i (by omega))
    obtain ⟨⟨kd, eL⟩, oj⟩ := ok j (by omega)
    obtain ⟨k4, hlt, eA, -⟩ := y_act eL oj
    have hk : yKd f (min n0 60) j = kd := by
      unfold yKd
      rw [eL]
      rfl
    obtain ⟨n, hh⟩ := rn_i rfl rfl rfl rfl hh
    obtain ⟨n, hh⟩ := rn_i rfl rfl rfl rfl hh
    obtain ⟨n, hh⟩ := rn_icmp (cc := .ge) (off := 61) (t := 107) rfl rfl hh
    rw [show pm_cmp .ge (nI j) (Int8.ofInt 60).toInt32 = decide (60 ≤ j) from hI_ge (b := 60) (by omega) (by omega), decide_eq_false (by omega)] at hh
    have hh : pm_run PT n fr lo 100 (49, [some (.ref 0), some (.int v1), some (.int (nI j)), some (.int 0), some (.int (nI (yPos f (min n0 60) j))), some (.int (nI j))], [], H, 198, sl) = some R := hh
    obtain ⟨n, hh⟩ := rn_i rfl rfl rfl rfl hh
    obtain ⟨n, hh⟩ := rn_i rfl rfl rfl rfl hh
    have hh : pm_run PT n fr lo 100 (52, [some (.ref 0), some (.int v1), some (.int (nI j)), some (.int 0), some (.int (nI (yPos f (min n0 60) j))), some (.int (nI j))], [.ref 0, .int (nI (yPos f (min n0 60) j))], H, 198, sl) = some R := hh
    obtain ⟨n, hh⟩ := rn_gr hc.wt rfl rfl (by decide) rfl (by decide) (show _ = some (2, ((1 : Nat) : Int), 1) from rfl) rfl hh
    obtain ⟨n, hh⟩ := rn_gi (x := nI n0) hc.wt rfl rfl (by decide) rfl (by decide) rfl e11 hh
    obtain ⟨n, hh⟩ := rn_icmp (cc := .ge) (off := 49) (t := 107) rfl rfl hh
    rw [hI_ge (by omega) (by omega), decide_eq_false (by omega)] at hh
    have hh : pm_run PT n fr lo 100 (61, [some (.ref 0), some (.int v1), some (.int (nI j)), some (.int 0), some (.int (nI (yPos f (min n0 60) j))), some (.int (nI j))], [], H, 198, sl) = some R := hh
    obtain ⟨n, hh⟩ := rn_i rfl rfl rfl rfl hh
    obtain ⟨n, hh⟩ := rn_if (cc := .ne) (off := 45) (t := 107) rfl rfl hh
    rw [show pm_cmp .ne (0 : Int32) 0 = false by decide] at hh
    have hh : pm_run PT n fr lo 100 (65, [some (.ref 0), some (.int v1), some (.int (nI j)), some (.int 0), some (.int (nI (yPos f (min n0 60) j))), some (.int (nI j))], [], H, 198, sl) = some R := hh
    obtain ⟨n, hh⟩ := rn_i rfl rfl rfl rfl hh
    obtain ⟨n, hh⟩ := rn_i rfl rfl rfl rfl hh
    have hh : pm_run PT n fr lo 100 (68, [some (.ref 0), some (.int v1), some (.int (nI j)), some (.int 0), some (.int (nI (yPos f (min n0 60) j))), some (.int (nI j))], [.int (nI (yPos f (min n0 60) j)), .ref 0], H, 198, sl) = some R := hh
    obtain ⟨n, fr', lo', r1, hr1, hh⟩ := rn_call (w := 0) (t := 141) rfl rfl hh
    have er := yx_run hn hc na e11 ef (by omega) eL oj hr1
    have eX : yXj q cc gc f (min n0 60) j H = yX q cc gc H kd (yd f (yPos f (min n0 60) j + 1)) (yd f (yPos f (min n0 60) j + 2)) (f (yPos f (min n0 60) j + 3) - nI 48) := by
      unfold yXj
      rw [hk]
    rw [← eX] at er
    subst er
    obtain ⟨c2, f2⟩ := yX_fr (kd := kd) (a := yd f (yPos f (min n0 60) j + 1)) (b := yd f (yPos f (min n0 60) j + 2)) (d := f (yPos f (min n0 60) j + 3) - nI 48) hc
    have na2 := yX_na (kd := kd) (a := yd f (yPos f (min n0 60) j + 1)) (b := yd f (yPos f (min n0 60) j + 2)) (d := f (yPos f (min n0 60) j + 3) - nI 48) hc na
    rw [← eX] at c2 f2 na2
    have eG : yG (yXj q cc gc f (min n0 60)) (k + 1) j H = cond (yXj q cc gc f (min n0 60) j H).1 (yG (yXj q cc gc f (min n0 60)) k (j + 1) (yXj q cc gc f (min n0 60) j H).2) (j, (yXj q cc gc f (min n0 60) j H).2) := rfl
    have e11b : Fi (yXj q cc gc f (min n0 60) j H).2 1 1 = nI n0 := (Fi_e (f2.1 1 rfl)).trans e11
    have efb : Ar (yXj q cc gc f (min n0 60) j H).2 2 = f := (Ar_e (f2.1 2 rfl)).trans ef
    rw [eG]
    have ePos : yPos f (min n0 60) (j + 1) = yPos f (min n0 60) j + yS kd := eA
    generalize yXj q cc gc f (min n0 60) j H = z at *
    obtain ⟨zb, zh⟩ := z
    dsimp only at hh c2 f2 na2 e11b efb ⊢
    have px := pX_hc c2 e11b
    have sgn : ∀ (n : Nat) (cnt flag : Int32), pm_run PT n fr lo 100 (82, [some (.ref 0), some (.int v1), some (.int cnt), some (.int flag), some (.int (nI (yPos f (min n0 60) j))), some (.int (nI j))], [], zh, 198, sl) = some R → ∃ m, pm_run PT m fr lo 100 (42, [some (.ref 0), some (.int v1), some (.int cnt), some (.int flag), some (.int (nI (yPos f (min n0 60) (j + 1)))), some (.int (nI (j + 1)))], [], zh, 198, sl) = some R := by
      intro n cnt flag hh
      obtain ⟨n, hh⟩ := rn_i rfl rfl rfl rfl hh
      obtain ⟨n, hh⟩ := rn_i rfl rfl rfl rfl hh
      have hh : pm_run PT n fr lo 100 (85, [some (.ref 0), some (.int v1), some (.int cnt), some (.int flag), some (.int (nI (yPos f (min n0 60) j))), some (.int (nI j))], [.ref 0, .int (nI (yPos f (min n0 60) j))], zh, 198, sl) = some R := hh
      obtain ⟨n, hh⟩ := rn_gr c2.wt rfl rfl (by decide) rfl (by decide) (show _ = some (2, ((1 : Nat) : Int), 1) from rfl) rfl hh
      obtain ⟨n, hh⟩ := rn_i rfl rfl rfl rfl hh
      obtain ⟨n, hh⟩ := rn_i rfl rfl rfl rfl hh
      have hh : pm_run PT n fr lo 100 (92, [some (.ref 0), some (.int v1), some (.int cnt), some (.int flag), some (.int (nI (yPos f (min n0 60) j))), some (.int (nI j))], [.int (nI 60), .int (nI (yPos f (min n0 60) j)), .ref 1, .int (nI (yPos f (min n0 60) j))], zh, 198, sl) = some R := hh
      obtain ⟨n, fr', lo', r1, hr1, hh⟩ := rn_call (w := 0) (t := 80) rfl rfl hh
      have er := sgA_run hn (by decide) (by omega) px hr1
      rw [efb] at er
      subst er
      have hh : pm_run PT n fr lo 100 (95, [some (.ref 0), some (.int v1), some (.int cnt), some (.int flag), some (.int (nI (yPos f (min n0 60) j))), some (.int (nI j))], [.int (sgA f n0 (yPos f (min n0 60) j) 60), .int (nI (yPos f (min n0 60) j))], zh, 198, sl) = some R := hh
      obtain ⟨n, fr', lo', r1, hr1, hh⟩ := rn_call (w := 2) (t := 135) rfl rfl hh
      have er := v135_ok c2 hr1
      rw [sgA_K, eL] at er
      subst er
      have hh : pm_run PT n fr lo 100 (98, [some (.ref 0), some (.int v1), some (.int cnt), some (.int flag), some (.int (nI (yPos f (min n0 60) j))), some (.int (nI j))], [.int (nI (yS kd)), .int (nI (yPos f (min n0 60) j))], zh, 198, sl) = some R := hh
      obtain ⟨n, hh⟩ := en_add rfl hh
      obtain ⟨n, hh⟩ := rn_i rfl rfl rfl rfl hh
      have hh : pm_run PT n fr lo 100 (101, [some (.ref 0), some (.int v1), some (.int cnt), some (.int flag), some (.int (nI (yPos f (min n0 60) j + yS kd))), some (.int (nI j))], [], zh, 198, sl) = some R := hh
      obtain ⟨n, hh⟩ := en_inc (x := j) (c := 1) (j := 5) rfl rfl (by decide) hh
      obtain ⟨n, hh⟩ := rn_i rfl rfl rfl rfl hh
      have hh : pm_run PT n fr lo 100 (42, [some (.ref 0), some (.int v1), some (.int cnt), some (.int flag), some (.int (nI (yPos f (min n0 60) j + yS kd))), some (.int (nI (j + 1)))], [], zh, 198, sl) = some R := hh
      rw [ePos]
      exact ⟨n, hh⟩
    have hh : pm_run PT n fr lo 100 (71, [some (.ref 0), some (.int v1), some (.int (nI j)), some (.int 0), some (.int (nI (yPos f (min n0 60) j))), some (.int (nI j))], [.int (cond zb 1 0)], zh, 198, sl) = some R := hh
    obtain ⟨n, hh⟩ := rn_if (cc := .eq) (off := 9) (t := 80) rfl rfl hh
    cases zb with
    | true =>
      rw [show pm_cmp .eq (cond true 1 0 : Int32) 0 = false by decide] at hh
      have hh : pm_run PT n fr lo 100 (74, [some (.ref 0), some (.int v1), some (.int (nI j)), some (.int 0), some (.int (nI (yPos f (min n0 60) j))), some (.int (nI j))], [], zh, 198, sl) = some R := hh
      obtain ⟨n, hh⟩ := en_inc (x := j) (c := 1) (j := 2) rfl rfl (by decide) hh
      obtain ⟨n, hh⟩ := rn_i rfl rfl rfl rfl hh
      have hh : pm_run PT n fr lo 100 (82, [some (.ref 0), some (.int v1), some (.int (nI (j + 1))), some (.int 0), some (.int (nI (yPos f (min n0 60) j))), some (.int (nI j))], [], zh, 198, sl) = some R := hh
      obtain ⟨n, hh⟩ := sgn n _ _ hh
      exact yl_loop hn ok hend k (j + 1) n zh (by omega) c2 na2 e11b efb hh
    | false =>
      rw [show pm_cmp .eq (cond false 1 0 : Int32) 0 = true by decide] at hh
      have hh : pm_run PT n fr lo 100 (80, [some (.ref 0), some (.int v1), some (.int (nI j)), some (.int 0), some (.int (nI (yPos f (min n0 60) j))), some (.int (nI j))], [], zh, 198, sl) = some R := hh
      obtain ⟨n, hh⟩ := rn_i rfl rfl rfl rfl hh
      obtain ⟨n, hh⟩ := rn_i rfl rfl rfl rfl hh
      have hh : pm_run PT n fr lo 100 (82, [some (.ref 0), some (.int v1), some (.int (nI j)), some (.int 1), some (.int (nI (yPos f (min n0 60) j))), some (.int (nI j))], [], zh, 198, sl) = some R := hh
      obtain ⟨n, hh⟩ := sgn n _ _ hh
      obtain ⟨n, hh⟩ := rn_i rfl rfl rfl rfl hh
      obtain ⟨n, hh⟩ := rn_i rfl rfl rfl rfl hh
      obtain ⟨n, hh⟩ := rn_icmp (cc := .ge) (off := 61) (t := 107) rfl rfl hh
      rw [show pm_cmp .ge (nI (j + 1)) (Int8.ofInt 60).toInt32 = decide (60 ≤ j + 1) from hI_ge (b := 60) (by omega) (by omega), decide_eq_false (by omega)] at hh
      have hh : pm_run PT n fr lo 100 (49, [some (.ref 0), some (.int v1), some (.int (nI j)), some (.int 1), some (.int (nI (yPos f (min n0 60) (j + 1)))), some (.int (nI (j + 1)))], [], zh, 198, sl) = some R := hh
      obtain ⟨n, hh⟩ := rn_i rfl rfl rfl rfl hh
      obtain ⟨n, hh⟩ := rn_i rfl rfl rfl rfl hh
      have hh : pm_run PT n fr lo 100 (52, [some (.ref 0), some (.int v1), some (.int (nI j)), some (.int 1), some (.int (nI (yPos f (min n0 60) (j + 1)))), some (.int (nI (j + 1)))], [.ref 0, .int (nI (yPos f (min n0 60) (j + 1)))], zh, 198, sl) = some R := hh
      obtain ⟨n, hh⟩ := rn_gr c2.wt rfl rfl (by decide) rfl (by decide) (show _ = some (2, ((1 : Nat) : Int), 1) from rfl) rfl hh
      obtain ⟨n, hh⟩ := rn_gi (x := nI n0) c2.wt rfl rfl (by decide) rfl (by decide) rfl e11b hh
      obtain ⟨n, hh⟩ := rn_icmp (cc := .ge) (off := 49) (t := 107) rfl rfl hh
      cases ec : pm_cmp .ge (nI (yPos f (min n0 60) (j + 1))) (nI n0) with
      | true =>
        rw [ec] at hh
        exact ⟨n, _, _, _, hh⟩
      | false =>
        rw [ec] at hh
        have hh : pm_run PT n fr lo 100 (61, [some (.ref 0), some (.int v1), some (.int (nI j)), some (.int 1), some (.int (nI (yPos f (min n0 60) (j + 1)))), some (.int (nI (j + 1)))], [], zh, 198, sl) = some R := hh
        obtain ⟨n, hh⟩ := rn_i rfl rfl rfl rfl hh
        obtain ⟨n, hh⟩ := rn_if (cc := .ne) (off := 45) (t := 107) rfl rfl hh
        rw [show pm_cmp .ne (1 : Int32) 0 = true by decide] at hh
        exact ⟨n, _, _, _, hh⟩
end YRL
end MG95zzzhx2
