/-! rests: both answers, over each v -/
section RST
def fk_go (n k : Nat) (as : List av) (o : ah) : Option (List ar) := ak_run rs_kn PT fz_B 198 fz_n fz_m n 2047 (84000 - (19 + pm_max PT k)) k [(0, aa_l0 as (pm_max PT k), [], o)] []
def fk_both (n kx km : Nat) (bx : List av) : Bool := match fk_go n kx ((2, 0, 1) :: bx) [] with
  | some R => R.all (fun r => match r.1 with
    | some a => av_one a && (match fk_go n km ((2, 162, 1) :: bx) r.2 with
      | some R2 => R2.all (fun q => decide (q.1 = some a))
      | none => false)
    | none => false)
  | none => false
theorem fk_go_ok {n k sl : Nat} {as : List av} {o : ah} {R : List ar} {As : List Value} {h : pm_H} (e : fk_go n k as o = some R) (q : as_ok As as) (hH : ah_ok fz_B 198 o h) : pm_WP PT 2047 (84000 - (19 + pm_max PT k)) k (0, pm_l0 As (pm_max PT k), [], h, 198, sl) (fun x => ∃ r, r ∈ R ∧ ar_ok fz_B 198 sl r x) :=
  (ak_run_ok rs_kn_ok n _ _ k _ [] R e).2 _ ⟨_, List.mem_singleton_self _, rfl, al_l0 q _, trivial, hH, rfl, rfl⟩
theorem fk_both_ok {n kx km sl : Nat} {h : pm_H} (hH : ah_ok fz_B 198 [] h) (bx : List av) (vs : List Value) (e : fk_both n kx km bx = true) (q : as_ok vs bx) : fz_same kx km sl h vs := by
  unfold fk_both at e
  split at e
  · rename_i R eR
    have r0 : av_ok (.ref 0) (2, 0, 1) := ⟨rfl, by decide⟩
    have r1 : av_ok (.ref 162) (2, 162, 1) := ⟨rfl, by decide⟩
    refine wp_mono (fk_go_ok (As := .ref 0 :: vs) eR ⟨r0, q⟩ hH) ?_
    rintro ⟨rv, h1, sz1, sl1⟩ ⟨r, hr, q1, q2, q3, q4⟩
    have er := List.all_eq_true.mp e r hr
    obtain ⟨ra, ro⟩ := r
    dsimp only at er q1 q2 q3 q4
    subst q3 q4
    cases ra with
    | none => cases er
    | some a =>
      dsimp only at er
      rw [Bool.and_eq_true] at er
      obtain ⟨er1, er2⟩ := er
      cases rv with
      | none => exact q1.elim
      | some v =>
        refine ⟨v, rfl, ?_⟩
        split at er2
        · rename_i R2 eR2
          refine wp_mono (fk_go_ok (As := .ref 162 :: vs) eR2 ⟨r1, q⟩ q2) ?_
          rintro ⟨rv2, h2, sz2, sl2⟩ ⟨r2, hr2, p1, p2, p3, p4⟩
          have e2 : r2.1 = some a := of_decide_eq_true (List.all_eq_true.mp er2 r2 hr2)
          rw [e2] at p1
          dsimp only at p1 p3 p4
          subst p3 p4
          cases rv2 with
          | none => exact p1.elim
          | some w => exact ⟨by rw [av_one_eq er1 q1 p1], rfl⟩
        · cases er2
  · cases e
theorem rv_lo : fk_both 1300 123 262 [(0, ai_lo, -1)] = true := by decide +kernel
theorem rv_hi : fk_both 1300 123 262 [(0, 21, ai_hi)] = true := by decide +kernel
theorem rv_0 : fk_both 1300 123 262 [(0, 0, 0)] = true := by decide +kernel
theorem rv_1 : fk_both 1300 123 262 [(0, 1, 1)] = true := by decide +kernel
theorem rv_2 : fk_both 1300 123 262 [(0, 2, 2)] = true := by decide +kernel
theorem rv_3 : fk_both 1300 123 262 [(0, 3, 3)] = true := by decide +kernel
theorem rv_4 : fk_both 1300 123 262 [(0, 4, 4)] = true := by decide +kernel
theorem rv_5 : fk_both 1300 123 262 [(0, 5, 5)] = true := by decide +kernel
theorem rv_6 : fk_both 1300 123 262 [(0, 6, 6)] = true := by decide +kernel
theorem rv_7 : fk_both 1300 123 262 [(0, 7, 7)] = true := by decide +kernel
theorem rv_8 : fk_both 1300 123 262 [(0, 8, 8)] = true := by decide +kernel
theorem rv_9 : fk_both 1300 123 262 [(0, 9, 9)] = true := by decide +kernel
theorem rv_10 : fk_both 1300 123 262 [(0, 10, 10)] = true := by decide +kernel
theorem rv_11 : fk_both 1300 123 262 [(0, 11, 11)] = true := by decide +kernel
theorem rv_12 : fk_both 1300 123 262 [(0, 12, 12)] = true := by decide +kernel
theorem rv_13 : fk_both 1300 123 262 [(0, 13, 13)] = true := by decide +kernel
theorem rv_14 : fk_both 1300 123 262 [(0, 14, 14)] = true := by decide +kernel
theorem rv_15 : fk_both 1300 123 262 [(0, 15, 15)] = true := by decide +kernel
theorem rv_16 : fk_both 1300 123 262 [(0, 16, 16)] = true := by decide +kernel
theorem rv_17 : fk_both 1300 123 262 [(0, 17, 17)] = true := by decide +kernel
theorem rv_18 : fk_both 1300 123 262 [(0, 18, 18)] = true := by decide +kernel
theorem rv_19 : fk_both 1300 123 262 [(0, 19, 19)] = true := by decide +kernel
theorem rv_20 : fk_both 1300 123 262 [(0, 20, 20)] = true := by decide +kernel
theorem op_rests {sl : Nat} {h : pm_H} (hH : ah_ok fz_B 198 [] h) (x : Int32) : fz_same 123 262 sl h [.int x] := by
  have h1 := ai_rng x
  have go : ∀ (lo hi : Int), fk_both 1300 123 262 [(0, lo, hi)] = true → lo ≤ x.toInt → x.toInt ≤ hi → fz_same 123 262 sl h [.int x] := fun lo hi e a b => fk_both_ok hH _ _ e ⟨⟨rfl, a, b⟩, trivial⟩
  by_cases c0 : x.toInt ≤ -1
  · exact go _ _ rv_lo h1.1 c0
  by_cases c1 : x.toInt ≤ 0
  · exact go _ _ rv_0 (by omega) c1
  by_cases c2 : x.toInt ≤ 1
  · exact go _ _ rv_1 (by omega) c2
  by_cases c3 : x.toInt ≤ 2
  · exact go _ _ rv_2 (by omega) c3
  by_cases c4 : x.toInt ≤ 3
  · exact go _ _ rv_3 (by omega) c4
  by_cases c5 : x.toInt ≤ 4
  · exact go _ _ rv_4 (by omega) c5
  by_cases c6 : x.toInt ≤ 5
  · exact go _ _ rv_5 (by omega) c6
  by_cases c7 : x.toInt ≤ 6
  · exact go _ _ rv_6 (by omega) c7
  by_cases c8 : x.toInt ≤ 7
  · exact go _ _ rv_7 (by omega) c8
  by_cases c9 : x.toInt ≤ 8
  · exact go _ _ rv_8 (by omega) c9
  by_cases c10 : x.toInt ≤ 9
  · exact go _ _ rv_9 (by omega) c10
  by_cases c11 : x.toInt ≤ 10
  · exact go _ _ rv_10 (by omega) c11
  by_cases c12 : x.toInt ≤ 11
  · exact go _ _ rv_11 (by omega) c12
  by_cases c13 : x.toInt ≤ 12
  · exact go _ _ rv_12 (by omega) c13
  by_cases c14 : x.toInt ≤ 13
  · exact go _ _ rv_13 (by omega) c14
  by_cases c15 : x.toInt ≤ 14
  · exact go _ _ rv_14 (by omega) c15
  by_cases c16 : x.toInt ≤ 15
  · exact go _ _ rv_15 (by omega) c16
  by_cases c17 : x.toInt ≤ 16
  · exact go _ _ rv_16 (by omega) c17
  by_cases c18 : x.toInt ≤ 17
  · exact go _ _ rv_17 (by omega) c18
  by_cases c19 : x.toInt ≤ 18
  · exact go _ _ rv_18 (by omega) c19
  by_cases c20 : x.toInt ≤ 19
  · exact go _ _ rv_19 (by omega) c20
  by_cases c21 : x.toInt ≤ 20
  · exact go _ _ rv_20 (by omega) c21
  exact go _ _ rv_hi (by omega) h1.2
end RST
