/-! a state is copied: any of the class's states into any other -/
section CPY
variable {n fr lo k pc sl cc gc s t j : Nat} {q : QT} {L : pm_L} {S : List Value} {h g h' : pm_H} {R : pm_Rs}
def stL : List Nat := [13, 19, 27, 33, 39, 45, 51, 57, 63, 69, 75, 81, 87, 93, 99, 105, 111, 117, 124, 130, 136]
def isSt (s : Nat) : Bool := stL.elem s
theorem xst_all : stL.all (fun s => decide (s + 6 < 150) && (decide (13 ≤ s) && (decide (wd (bB s) = .inr (7, [(2, ((s + 1 : Nat) : Int), 1), (2, ((s + 2 : Nat) : Int), 1), (2, ((s + 3 : Nat) : Int), 1), (2, ((s + 4 : Nat) : Int), 1), (2, ((s + 5 : Nat) : Int), 1), ai_top, ai_top])) && (decide (wd (bB (s + 1)) = .inl (0, 6, ai_top)) && (decide (wd (bB (s + 2)) = .inl (0, 36, ai_top)) && (decide (wd (bB (s + 3)) = .inl (0, 36, ai_top)) && (decide (wd (bB (s + 4)) = .inl (0, 8, ai_top)) && (decide (wd (bB (s + 5)) = .inl (0, 8, ai_top)) && ((List.range 6).all (fun i => hcA (s + i)) && (hcF s 5 && hcF s 6)))))))))) = true := by decide +kernel
theorem xst_of (hs : isSt s = true) : (s + 6 < 150 ∧ 13 ≤ s) ∧ wd (bB s) = .inr (7, [(2, ((s + 1 : Nat) : Int), 1), (2, ((s + 2 : Nat) : Int), 1), (2, ((s + 3 : Nat) : Int), 1), (2, ((s + 4 : Nat) : Int), 1), (2, ((s + 5 : Nat) : Int), 1), ai_top, ai_top]) ∧ (wd (bB (s + 1)) = .inl (0, 6, ai_top) ∧ wd (bB (s + 2)) = .inl (0, 36, ai_top) ∧ wd (bB (s + 3)) = .inl (0, 36, ai_top) ∧ wd (bB (s + 4)) = .inl (0, 8, ai_top) ∧ wd (bB (s + 5)) = .inl (0, 8, ai_top)) ∧ (∀ i, i < 6 → hcA (s + i) = true) ∧ hcF s 5 = true ∧ hcF s 6 = true := by
  have q := List.all_eq_true.mp xst_all s (List.elem_iff.mp hs)
  simp only [Bool.and_eq_true] at q
  obtain ⟨q1, q2, q3, q4, q5, q6, q7, q8, q9, q10, q11⟩ := q
  exact ⟨⟨of_decide_eq_true q1, of_decide_eq_true q2⟩, of_decide_eq_true q3, ⟨of_decide_eq_true q4, of_decide_eq_true q5, of_decide_eq_true q6, of_decide_eq_true q7, of_decide_eq_true q8⟩, fun i hi => List.all_eq_true.mp q9 i (List.mem_range.mpr hi), q10, q11⟩
theorem av_ids1 (p : Nat) : av_ids (2, (p : Int), 1) = [p] := by
  unfold av_ids
  rfl
/-- what a state tells -/
def cpA (h : pm_H) (s t m : Nat) (i : Nat) (g : pm_H) : pm_H := aset g (s + i) m (va_cpy (Ar h (t + i)) (Ar h (s + i)) 0 0 m)
def cp73 (h : pm_H) (s t : Nat) : pm_H := fset (fset (cpA h s t 8 5 (cpA h s t 8 4 (cpA h s t 36 3 (cpA h s t 36 2 (cpA h s t 6 1 h))))) s 5 (.int (Fi h t 5))) s 6 (.int (Fi h t 6))
theorem cp73_hc (hs : isSt s = true) (hw : HC q cc gc h) : HC q cc gc (cp73 h s t) := by
  obtain ⟨⟨bs, ls⟩, os, ⟨s1, s2, s3, s4, s5⟩, cs, f5, f6⟩ := xst_of hs
  have w1 := hc_a (m := 6) (f := va_cpy (Ar h (t + 1)) (Ar h (s + 1)) 0 0 6) (cs 1 (by decide)) s1 hw
  have w2 := hc_a (m := 36) (f := va_cpy (Ar h (t + 2)) (Ar h (s + 2)) 0 0 36) (cs 2 (by decide)) s2 w1
  have w3 := hc_a (m := 36) (f := va_cpy (Ar h (t + 3)) (Ar h (s + 3)) 0 0 36) (cs 3 (by decide)) s3 w2
  have w4 := hc_a (m := 8) (f := va_cpy (Ar h (t + 4)) (Ar h (s + 4)) 0 0 8) (cs 4 (by decide)) s4 w3
  have w5 := hc_a (m := 8) (f := va_cpy (Ar h (t + 5)) (Ar h (s + 5)) 0 0 8) (cs 5 (by decide)) s5 w4
  have w6 := hc_f (g := 5) (x := Fi h t 5) f5 os (by decide) rfl w5
  exact hc_f (g := 6) (x := Fi h t 6) f6 os (by decide) rfl w6
theorem cp73_ok (hs : isSt s = true) (ht : isSt t = true) (hst : s + 6 ≤ t ∨ t + 6 ≤ s) (hw : HC q cc gc h) (hh : pm_run PT n fr lo 73 (0, pm_l0 [.ref s, .ref t] 2, [], h, 198, sl) = some R) : R = (none, cp73 h s t, 198, sl) ∧ HC q cc gc (cp73 h s t) := by
  obtain ⟨⟨bs, ls⟩, os, ⟨s1, s2, s3, s4, s5⟩, cs, f5, f6⟩ := xst_of hs
  obtain ⟨⟨bt, lt⟩, ot, ⟨t1, t2, t3, t4, t5⟩, -, -, -⟩ := xst_of ht
  have w1 := hc_a (m := 6) (f := va_cpy (Ar h (t + 1)) (Ar h (s + 1)) 0 0 6) (cs 1 (by decide)) s1 hw
  have w2 := hc_a (m := 36) (f := va_cpy (Ar h (t + 2)) (Ar h (s + 2)) 0 0 36) (cs 2 (by decide)) s2 w1
  have w3 := hc_a (m := 36) (f := va_cpy (Ar h (t + 3)) (Ar h (s + 3)) 0 0 36) (cs 3 (by decide)) s3 w2
  have w4 := hc_a (m := 8) (f := va_cpy (Ar h (t + 4)) (Ar h (s + 4)) 0 0 8) (cs 4 (by decide)) s4 w3
  have w5 := hc_a (m := 8) (f := va_cpy (Ar h (t + 5)) (Ar h (s + 5)) 0 0 8) (cs 5 (by decide)) s5 w4
  have w6 := hc_f (g := 5) (x := Fi h t 5) f5 os (by decide) rfl w5
  have w7 := hc_f (g := 6) (x := Fi h t 6) f6 os (by decide) rfl w6
  refine ⟨?_, w7⟩
  obtain ⟨n, hh⟩ := rn_i rfl rfl rfl rfl hh
  have hh : pm_run PT n fr lo 73 (1, [some (.ref s), some (.ref t)], [.ref t], h, 198, sl) = some R := hh
  obtain ⟨n, hh⟩ := rn_gr (p := t + 1) hw.wt rfl rfl (by omega) ot (by decide) rfl (av_ids1 _) hh
  obtain ⟨n, hh⟩ := rn_i rfl rfl rfl rfl hh
  obtain ⟨n, hh⟩ := rn_i rfl rfl rfl rfl hh
  have hh : pm_run PT n fr lo 73 (6, [some (.ref s), some (.ref t)], [.ref s, .int (nI 0), .ref (t + 1)], h, 198, sl) = some R := hh
  obtain ⟨n, hh⟩ := rn_gr (p := s + 1) hw.wt rfl rfl (by omega) os (by decide) rfl (av_ids1 _) hh
  obtain ⟨n, hh⟩ := rn_i rfl rfl rfl rfl hh
  obtain ⟨n, hh⟩ := rn_i rfl rfl rfl rfl hh
  have hh : pm_run PT n fr lo 73 (12, [some (.ref s), some (.ref t)], [.int (nI 6), .int (nI 0), .ref (s + 1), .int (nI 0), .ref (t + 1)], h, 198, sl) = some R := hh
  obtain ⟨n, hh⟩ := rn_cp (f := Ar h (t + 1)) (g := Ar h (s + 1)) hw.wt rfl rfl rfl (by omega) t1 (by decide) rfl (by omega) s1 (by decide) rfl hh
  obtain ⟨n, hh⟩ := rn_i rfl rfl rfl rfl hh
  have hh : pm_run PT n fr lo 73 (16, [some (.ref s), some (.ref t)], [.ref t], cpA h s t 6 1 h, 198, sl) = some R := hh
  obtain ⟨n, hh⟩ := rn_gr (p := t + 2) w1.wt rfl rfl (by omega) ot (by decide) rfl (av_ids1 _) hh
  obtain ⟨n, hh⟩ := rn_i rfl rfl rfl rfl hh
  obtain ⟨n, hh⟩ := rn_i rfl rfl rfl rfl hh
  have hh : pm_run PT n fr lo 73 (21, [some (.ref s), some (.ref t)], [.ref s, .int (nI 0), .ref (t + 2)], cpA h s t 6 1 h, 198, sl) = some R := hh
  obtain ⟨n, hh⟩ := rn_gr (p := s + 2) w1.wt rfl rfl (by omega) os (by decide) rfl (av_ids1 _) hh
  obtain ⟨n, hh⟩ := rn_i rfl rfl rfl rfl hh
  obtain ⟨n, hh⟩ := rn_i rfl rfl rfl rfl hh
  have hh : pm_run PT n fr lo 73 (27, [some (.ref s), some (.ref t)], [.int (nI 36), .int (nI 0), .ref (s + 2), .int (nI 0), .ref (t + 2)], cpA h s t 6 1 h, 198, sl) = some R := hh
  obtain ⟨n, hh⟩ := rn_cp (f := Ar h (t + 2)) (g := Ar h (s + 2)) w1.wt rfl rfl rfl (by omega) t2 (by decide) (Ar_n (by omega)) (by omega) s2 (by decide) (Ar_n (by omega)) hh
  obtain ⟨n, hh⟩ := rn_i rfl rfl rfl rfl hh
  have hh : pm_run PT n fr lo 73 (31, [some (.ref s), some (.ref t)], [.ref t], cpA h s t 36 2 (cpA h s t 6 1 h), 198, sl) = some R := hh
  obtain ⟨n, hh⟩ := rn_gr (p := t + 3) w2.wt rfl rfl (by omega) ot (by decide) rfl (av_ids1 _) hh
  obtain ⟨n, hh⟩ := rn_i rfl rfl rfl rfl hh
  obtain ⟨n, hh⟩ := rn_i rfl rfl rfl rfl hh
  have hh : pm_run PT n fr lo 73 (36, [some (.ref s), some (.ref t)], [.ref s, .int (nI 0), .ref (t + 3)], cpA h s t 36 2 (cpA h s t 6 1 h), 198, sl) = some R := hh
  obtain ⟨n, hh⟩ := rn_gr (p := s + 3) w2.wt rfl rfl (by omega) os (by decide) rfl (av_ids1 _) hh
  obtain ⟨n, hh⟩ := rn_i rfl rfl rfl rfl hh
  obtain ⟨n, hh⟩ := rn_i rfl rfl rfl rfl hh
  have hh : pm_run PT n fr lo 73 (42, [some (.ref s), some (.ref t)], [.int (nI 36), .int (nI 0), .ref (s + 3), .int (nI 0), .ref (t + 3)], cpA h s t 36 2 (cpA h s t 6 1 h), 198, sl) = some R := hh
  obtain ⟨n, hh⟩ := rn_cp (f := Ar h (t + 3)) (g := Ar h (s + 3)) w2.wt rfl rfl rfl (by omega) t3 (by decide) ((Ar_n (by omega)).trans (Ar_n (by omega))) (by omega) s3 (by decide) ((Ar_n (by omega)).trans (Ar_n (by omega))) hh
  obtain ⟨n, hh⟩ := rn_i rfl rfl rfl rfl hh
  have hh : pm_run PT n fr lo 73 (46, [some (.ref s), some (.ref t)], [.ref t], cpA h s t 36 3 (cpA h s t 36 2 (cpA h s t 6 1 h)), 198, sl) = some R := hh
  obtain ⟨n, hh⟩ := rn_gr (p := t + 4) w3.wt rfl rfl (by omega) ot (by decide) rfl (av_ids1 _) hh
  obtain ⟨n, hh⟩ := rn_i rfl rfl rfl rfl hh
  obtain ⟨n, hh⟩ := rn_i rfl rfl rfl rfl hh
  have hh : pm_run PT n fr lo 73 (51, [some (.ref s), some (.ref t)], [.ref s, .int (nI 0), .ref (t + 4)], cpA h s t 36 3 (cpA h s t 36 2 (cpA h s t 6 1 h)), 198, sl) = some R := hh
  obtain ⟨n, hh⟩ := rn_gr (p := s + 4) w3.wt rfl rfl (by omega) os (by decide) rfl (av_ids1 _) hh
  obtain ⟨n, hh⟩ := rn_i rfl rfl rfl rfl hh
  obtain ⟨n, hh⟩ := rn_i rfl rfl rfl rfl hh
  have hh : pm_run PT n fr lo 73 (57, [some (.ref s), some (.ref t)], [.int (nI 8), .int (nI 0), .ref (s + 4), .int (nI 0), .ref (t + 4)], cpA h s t 36 3 (cpA h s t 36 2 (cpA h s t 6 1 h)), 198, sl) = some R := hh
  obtain ⟨n, hh⟩ := rn_cp (f := Ar h (t + 4)) (g := Ar h (s + 4)) w3.wt rfl rfl rfl (by omega) t4 (by decide) ((Ar_n (by omega)).trans ((Ar_n (by omega)).trans (Ar_n (by omega)))) (by omega) s4 (by decide) ((Ar_n (by omega)).trans ((Ar_n (by omega)).trans (Ar_n (by omega)))) hh
  obtain ⟨n, hh⟩ := rn_i rfl rfl rfl rfl hh
  have hh : pm_run PT n fr lo 73 (61, [some (.ref s), some (.ref t)], [.ref t], cpA h s t 8 4 (cpA h s t 36 3 (cpA h s t 36 2 (cpA h s t 6 1 h))), 198, sl) = some R := hh
  obtain ⟨n, hh⟩ := rn_gr (p := t + 5) w4.wt rfl rfl (by omega) ot (by decide) rfl (av_ids1 _) hh
  obtain ⟨n, hh⟩ := rn_i rfl rfl rfl rfl hh
  obtain ⟨n, hh⟩ := rn_i rfl rfl rfl rfl hh
  have hh : pm_run PT n fr lo 73 (66, [some (.ref s), some (.ref t)], [.ref s, .int (nI 0), .ref (t + 5)], cpA h s t 8 4 (cpA h s t 36 3 (cpA h s t 36 2 (cpA h s t 6 1 h))), 198, sl) = some R := hh
  obtain ⟨n, hh⟩ := rn_gr (p := s + 5) w4.wt rfl rfl (by omega) os (by decide) rfl (av_ids1 _) hh
  obtain ⟨n, hh⟩ := rn_i rfl rfl rfl rfl hh
  obtain ⟨n, hh⟩ := rn_i rfl rfl rfl rfl hh
  have hh : pm_run PT n fr lo 73 (72, [some (.ref s), some (.ref t)], [.int (nI 8), .int (nI 0), .ref (s + 5), .int (nI 0), .ref (t + 5)], cpA h s t 8 4 (cpA h s t 36 3 (cpA h s t 36 2 (cpA h s t 6 1 h))), 198, sl) = some R := hh
  obtain ⟨n, hh⟩ := rn_cp (f := Ar h (t + 5)) (g := Ar h (s + 5)) w4.wt rfl rfl rfl (by omega) t5 (by decide) ((Ar_n (by omega)).trans ((Ar_n (by omega)).trans ((Ar_n (by omega)).trans (Ar_n (by omega))))) (by omega) s5 (by decide) ((Ar_n (by omega)).trans ((Ar_n (by omega)).trans ((Ar_n (by omega)).trans (Ar_n (by omega))))) hh
  obtain ⟨n, hh⟩ := rn_i rfl rfl rfl rfl hh
  obtain ⟨n, hh⟩ := rn_i rfl rfl rfl rfl hh
  have hh : pm_run PT n fr lo 73 (77, [some (.ref s), some (.ref t)], [.ref t, .ref s], cpA h s t 8 5 (cpA h s t 8 4 (cpA h s t 36 3 (cpA h s t 36 2 (cpA h s t 6 1 h)))), 198, sl) = some R := hh
  obtain ⟨n, hh⟩ := rn_gi (x := Fi h t 5) w5.wt rfl rfl (by omega) ot (by decide) rfl ((Fi_a (by omega)).trans ((Fi_a (by omega)).trans ((Fi_a (by omega)).trans ((Fi_a (by omega)).trans (Fi_a (by omega)))))) hh
  have hh : pm_run PT n fr lo 73 (80, [some (.ref s), some (.ref t)], [.int (Fi h t 5), .ref s], cpA h s t 8 5 (cpA h s t 8 4 (cpA h s t 36 3 (cpA h s t 36 2 (cpA h s t 6 1 h)))), 198, sl) = some R := hh
  obtain ⟨n, hh⟩ := rn_pi w5.wt rfl rfl (by omega) os (by decide) rfl hh
  obtain ⟨n, hh⟩ := rn_i rfl rfl rfl rfl hh
  obtain ⟨n, hh⟩ := rn_i rfl rfl rfl rfl hh
  have hh : pm_run PT n fr lo 73 (85, [some (.ref s), some (.ref t)], [.ref t, .ref s], fset (cpA h s t 8 5 (cpA h s t 8 4 (cpA h s t 36 3 (cpA h s t 36 2 (cpA h s t 6 1 h))))) s 5 (.int (Fi h t 5)), 198, sl) = some R := hh
  obtain ⟨n, hh⟩ := rn_gi (x := Fi h t 6) w6.wt rfl rfl (by omega) ot (by decide) rfl ((Fi_n (Or.inl (by omega))).trans ((Fi_a (by omega)).trans ((Fi_a (by omega)).trans ((Fi_a (by omega)).trans ((Fi_a (by omega)).trans (Fi_a (by omega))))))) hh
  have hh : pm_run PT n fr lo 73 (88, [some (.ref s), some (.ref t)], [.int (Fi h t 6), .ref s], fset (cpA h s t 8 5 (cpA h s t 8 4 (cpA h s t 36 3 (cpA h s t 36 2 (cpA h s t 6 1 h))))) s 5 (.int (Fi h t 5)), 198, sl) = some R := hh
  obtain ⟨n, hh⟩ := rn_pi w6.wt rfl rfl (by omega) os (by decide) rfl hh
  exact rn_vret rfl rfl hh
theorem cpA_ne {m i a : Nat} (z : a ≠ s + i) : cpA h s t m i g a = g a := asR_ne z
/-- nothing else -/
theorem cp73_ne {i : Nat} (z : i < s ∨ s + 6 ≤ i) : cp73 h s t i = h i := by
  unfold cp73
  rw [fs_ne (by omega), fs_ne (by omega), cpA_ne (by omega), cpA_ne (by omega), cpA_ne (by omega), cpA_ne (by omega), cpA_ne (by omega)]
theorem va_cpy0 {f g : Nat → Int32} {m k : Nat} (hk : k < m) : va_cpy f g 0 0 m k = f k := by
  unfold va_cpy
  rw [if_pos ⟨Nat.zero_le _, by omega⟩, Nat.zero_add, Nat.sub_zero]
theorem cp73_a {i m k : Nat} (hm : (i = 1 ∧ m = 6) ∨ (i = 2 ∧ m = 36) ∨ (i = 3 ∧ m = 36) ∨ (i = 4 ∧ m = 8) ∨ (i = 5 ∧ m = 8)) (hk : k < m) : Ar (cp73 h s t) (s + i) k = Ar h (t + i) k := by
  unfold cp73 cpA
  rw [Ar_f, Ar_f]
  rcases hm with ⟨rfl, rfl⟩ | ⟨rfl, rfl⟩ | ⟨rfl, rfl⟩ | ⟨rfl, rfl⟩ | ⟨rfl, rfl⟩
  · rw [Ar_n (by omega), Ar_n (by omega), Ar_n (by omega), Ar_n (by omega), Ar_s, va_cpy0 hk]
  · rw [Ar_n (by omega), Ar_n (by omega), Ar_n (by omega), Ar_s, va_cpy0 hk]
  · rw [Ar_n (by omega), Ar_n (by omega), Ar_s, va_cpy0 hk]
  · rw [Ar_n (by omega), Ar_s, va_cpy0 hk]
  · rw [Ar_s, va_cpy0 hk]
theorem cp73_f (hs : isSt s = true) (hw : WT h) : Fi (cp73 h s t) s 5 = Fi h t 5 ∧ Fi (cp73 h s t) s 6 = Fi h t 6 := by
  obtain ⟨⟨bs, ls⟩, os, ⟨s1, s2, s3, s4, s5⟩, -, -, -⟩ := xst_of hs
  have w5 : WT (cpA h s t 8 5 (cpA h s t 8 4 (cpA h s t 36 3 (cpA h s t 36 2 (cpA h s t 6 1 h))))) := wt_as s5 (wt_as s4 (wt_as s3 (wt_as s2 (wt_as s1 hw))))
  refine ⟨(Fi_n (Or.inr (by decide))).trans (Fi_s w5 (by omega) os (by decide) rfl), Fi_s (wt_fs os (by decide) rfl w5) (by omega) os (by decide) rfl⟩
theorem xst_27 {i : Nat} (hi : i < 16) : isSt (27 + 6 * i) = true := by
  have e : ∀ i, i < 16 → isSt (27 + 6 * i) = true := by decide
  exact e i hi
theorem xst_124 {i : Nat} (hi : i < 3) : isSt (124 + 6 * i) = true := by
  have e : ∀ i, i < 3 → isSt (124 + 6 * i) = true := by decide
  exact e i hi
theorem stF (hs : isSt s = true) {c j : Nat} (hw : WT h) (z : c ≠ s ∨ (j ≠ 5 ∧ j ≠ 6)) (ho : isO c = true) : Fi (cp73 h s t) c j = Fi h c j := by
  obtain ⟨⟨bs, ls⟩, os, ⟨s1, s2, s3, s4, s5⟩, -, -, -⟩ := xst_of hs
  have ne : ∀ i m : Nat, wd (bB (s + i)) = .inl (0, m, ai_top) → c ≠ s + i := by
    intro i m e
    rintro rfl
    unfold isO at ho
    cases e2 : bB (s + i) with
    | inl y => rw [e2] at ho; cases ho
    | inr y =>
      rw [e2] at ho
      unfold wd at e
      rw [e2] at e
      have hl : y.1 < 1000 := Nat.le_of_ble_eq_true ho
      dsimp only at e
      rw [show Nat.ble 1000 y.1 = false by
        cases w : Nat.ble 1000 y.1 with
        | false => rfl
        | true => exact absurd (Nat.le_of_ble_eq_true w) (by omega)] at e
      cases e
  unfold cp73 cpA
  rw [Fi_n (z.elim Or.inl (fun y => Or.inr y.2)), Fi_n (z.elim Or.inl (fun y => Or.inr y.1)), Fi_a (ne 5 8 s5), Fi_a (ne 4 8 s4), Fi_a (ne 3 36 s3), Fi_a (ne 2 36 s2), Fi_a (ne 1 6 s1)]
theorem fr_c27 {W : List Nat} {V : List (Nat × Nat)} {i : Nat} (hi : i < 16) (hw : WT g) (e : (List.range 96).all (fun j => W.elem (27 + j)) = true) (e2 : (List.range 16).all (fun j => V.elem (27 + 6 * j, 5) && V.elem (27 + 6 * j, 6)) = true) (z : frm W V h g) : frm W V h (cp73 g (27 + 6 * i) t) := by
  refine ⟨fun j hj => (cp73_ne ?_).trans (z.1 j hj), fun c j hc hv => (stF (xst_27 hi) hw ?_ hc).trans (z.2 c j hc hv)⟩
  · by_cases y : j < 27 ∨ 123 ≤ j
    · omega
    · have q := List.all_eq_true.mp e (j - 27) (List.mem_range.mpr (by omega))
      rw [show 27 + (j - 27) = j by omega, hj] at q
      cases q
  · by_cases y : c = 27 + 6 * i
    · refine Or.inr ?_
      have q := List.all_eq_true.mp e2 i (List.mem_range.mpr hi)
      rw [Bool.and_eq_true] at q
      constructor
      · rintro rfl
        rw [y, q.1] at hv
        cases hv
      · rintro rfl
        rw [y, q.2] at hv
        cases hv
    · exact Or.inl y
theorem fr_c124 {W : List Nat} {V : List (Nat × Nat)} {i : Nat} (hi : i < 3) (hw : WT g) (e : (List.range 18).all (fun j => W.elem (124 + j)) = true) (e2 : (List.range 3).all (fun j => V.elem (124 + 6 * j, 5) && V.elem (124 + 6 * j, 6)) = true) (z : frm W V h g) : frm W V h (cp73 g (124 + 6 * i) t) := by
  refine ⟨fun j hj => (cp73_ne ?_).trans (z.1 j hj), fun c j hc hv => (stF (xst_124 hi) hw ?_ hc).trans (z.2 c j hc hv)⟩
  · by_cases y : j < 124 ∨ 142 ≤ j
    · omega
    · have q := List.all_eq_true.mp e (j - 124) (List.mem_range.mpr (by omega))
      rw [show 124 + (j - 124) = j by omega, hj] at q
      cases q
  · by_cases y : c = 124 + 6 * i
    · refine Or.inr ?_
      have q := List.all_eq_true.mp e2 i (List.mem_range.mpr hi)
      rw [Bool.and_eq_true] at q
      constructor
      · rintro rfl
        rw [y, q.1] at hv
        cases hv
      · rintro rfl
        rw [y, q.2] at hv
        cases hv
    · exact Or.inl y
theorem fr_cs {W : List Nat} {V : List (Nat × Nat)} (hs : isSt s = true) (hw : WT g) (e : (List.range 6).all (fun j => W.elem (s + j)) = true) (e2 : (V.elem (s, 5) && V.elem (s, 6)) = true) (z : frm W V h g) : frm W V h (cp73 g s t) := by
  refine ⟨fun j hj => (cp73_ne ?_).trans (z.1 j hj), fun c j hc hv => (stF hs hw ?_ hc).trans (z.2 c j hc hv)⟩
  · by_cases y : j < s ∨ s + 6 ≤ j
    · omega
    · have q := List.all_eq_true.mp e (j - s) (List.mem_range.mpr (by omega))
      rw [show s + (j - s) = j by omega, hj] at q
      cases q
  · by_cases y : c = s
    · refine Or.inr ?_
      rw [Bool.and_eq_true] at e2
      constructor
      · rintro rfl
        rw [y, e2.1] at hv
        cases hv
      · rintro rfl
        rw [y, e2.2] at hv
        cases hv
    · exact Or.inl y
end CPY
