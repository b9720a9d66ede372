/-! walks, by hand -/
section WLK
variable {fr lo sl : Nat} {h : pm_H} {Q : pm_Rs → Prop} {c a b : Nat} {w : Nat → Nat → Nat} {rd : Nat → Int32} {hv gv : Int32}
def wkI (g : Nat → Int32) : Prop := ∀ j, j < 600 → -1 ≤ (g j).toInt
theorem wkI_up {g : Nat → Int32} {k : Nat} {v : Int32} (q : wkI g) (hv : -1 ≤ v.toInt) : wkI (upd g k v) := by
  intro j hj
  unfold upd
  by_cases e : j = k
  · rw [if_pos e]; exact hv
  · rw [if_neg e]; exact q j hj
theorem max_ge (x y : Int32) : x.toInt ≤ (if x < y then y else x).toInt := by
  by_cases e : x < y
  · rw [if_pos e]
    rw [Int32.lt_iff_toInt_lt] at e
    omega
  · rw [if_neg e]
    exact Int.le_refl _
theorem in_ge {x : Int32} {u : Int64} (q : in_b x.toInt64 0 u = true) : 0 ≤ x.toInt := by
  unfold in_b at q
  rw [Bool.and_eq_true] at q
  have e1 : ¬ x.toInt64 < 0 := by simpa using q.1
  rw [Int64.lt_iff_toInt_lt, Int32.toInt_toInt64] at e1
  have n1 : (0 : Int64).toInt = 0 := by decide
  rw [n1] at e1
  omega
theorem wk_A (h40 : mF h 40 (.ref 186)) (kk : ∀ g, wkI g → pm_WP PT fr lo 239 (73, [some (.ref 162), some (.int (nI a)), some (.int (nI b)), some (.int hv), some (.int gv), some (.int (nI 600)), none, none, none, none, none], [], aset h 186 600 g, 198, sl) Q) : ∀ (m k : Nat) (g : Nat → Int32), k + m = 600 → wkI g → pm_WP PT fr lo 239 (51, [some (.ref 162), some (.int (nI a)), some (.int (nI b)), some (.int hv), some (.int gv), some (.int (nI k)), none, none, none, none, none], [], aset h 186 600 g, 198, sl) Q := by
  intro m
  induction m with
  | zero =>
    intro k g hk q
    obtain rfl : k = 600 := by omega
    refine wp_i rfl rfl rfl rfl ?_
    refine wp_i rfl rfl rfl rfl ?_
    show pm_WP PT fr lo 239 (56, [some (.ref 162), some (.int (nI a)), some (.int (nI b)), some (.int hv), some (.int gv), some (.int (nI 600)), none, none, none, none, none], [.int 600, .int (nI 600)], (aset h 186 600 g), 198, sl) _
    refine wp_icmp (c := .ge) (off := 17) (t := 73) rfl rfl (fun _ => ?_) (fun q => absurd (q.symm.trans ((hI_ge (b := 600) (by omega) (by omega)).trans (decide_eq_true (by omega)))) (by decide))
    show pm_WP PT fr lo 239 (73, [some (.ref 162), some (.int (nI a)), some (.int (nI b)), some (.int hv), some (.int gv), some (.int (nI 600)), none, none, none, none, none], [], (aset h 186 600 g), 198, sl) _
    exact kk g q
  | succ m ih =>
    intro k g hk q
    refine wp_i rfl rfl rfl rfl ?_
    refine wp_i rfl rfl rfl rfl ?_
    show pm_WP PT fr lo 239 (56, [some (.ref 162), some (.int (nI a)), some (.int (nI b)), some (.int hv), some (.int gv), some (.int (nI k)), none, none, none, none, none], [.int 600, .int (nI k)], (aset h 186 600 g), 198, sl) _
    refine wp_icmp (c := .ge) (off := 17) (t := 73) rfl rfl (fun q => absurd (q.symm.trans ((hI_ge (b := 600) (by omega) (by omega)).trans (decide_eq_false (by omega)))) (by decide)) (fun _ => ?_)
    refine wp_i rfl rfl rfl rfl ?_
    show pm_WP PT fr lo 239 (60, [some (.ref 162), some (.int (nI a)), some (.int (nI b)), some (.int hv), some (.int gv), some (.int (nI k)), none, none, none, none, none], [.ref 162], (aset h 186 600 g), 198, sl) _
    refine wp_gfm rfl rfl (mF_as (by decide) h40) ?_
    refine wp_i rfl rfl rfl rfl ?_
    refine wp_i rfl rfl rfl rfl ?_
    show pm_WP PT fr lo 239 (66, [some (.ref 162), some (.int (nI a)), some (.int (nI b)), some (.int hv), some (.int gv), some (.int (nI k)), none, none, none, none, none], [.int (-1), .int (nI k), .ref 186], (aset h 186 600 g), 198, sl) _
    refine wp_ism rfl (aset_self _ _ _ _) (hI_in (by omega) (by omega)) (by decide) ?_
    rw [nI_clamp (by omega)]
    refine wp_i rfl rfl rfl rfl ?_
    refine wp_i rfl rfl rfl rfl ?_
    show pm_WP PT fr lo 239 (51, [some (.ref 162), some (.int (nI a)), some (.int (nI b)), some (.int hv), some (.int gv), some (.int (nI k + 1)), none, none, none, none, none], [], (aset (aset h 186 600 g) 186 600 (upd g k (-1))), 198, sl) _
    rw [nI_1 k, aset_aset]
    exact ih (k + 1) _ (by omega) (wkI_up q (by decide))
theorem wk_J (h3 : mF h 3 (.int (nI c))) (hc : c ≤ 6) (h40 : mF h 40 (.ref 186)) (h11 : mF h 11 (.ref 169)) (hR : h 169 = .inl (0, 36, .inl rd)) (hw : rdOk rd w) {m i : Nat} (hm : m ≤ 99) (hi : i < c) {wv : Int32} (hf : 1 ≤ fr) (hl : 20 ≤ lo) (kk : ∀ g x8 x9 x10, wkI g → pm_WP PT fr lo 239 (238, [some (.ref 162), some (.int (nI a)), some (.int (nI b)), some (.int hv), some (.int gv), some (.int (nI m)), some (.int (nI i)), some (.int wv), x8, x9, x10], [], aset h 186 600 g, 198, sl) Q) : ∀ (n j : Nat) (g : Nat → Int32) (x9 x10 : Option Value), j + n = c → wkI g → pm_WP PT fr lo 239 (139, [some (.ref 162), some (.int (nI a)), some (.int (nI b)), some (.int hv), some (.int gv), some (.int (nI m)), some (.int (nI i)), some (.int wv), some (.int (nI j)), x9, x10], [], aset h 186 600 g, 198, sl) Q := by
  intro n
  induction n with
  | zero =>
    intro j g x9 x10 hj q
    obtain rfl : j = c := by omega
    refine wp_i rfl rfl rfl rfl ?_
    refine wp_i rfl rfl rfl rfl ?_
    show pm_WP PT fr lo 239 (142, [some (.ref 162), some (.int (nI a)), some (.int (nI b)), some (.int hv), some (.int gv), some (.int (nI m)), some (.int (nI i)), some (.int wv), some (.int (nI j)), x9, x10], [.ref 162, .int (nI j)], (aset h 186 600 g), 198, sl) _
    refine wp_gfm rfl rfl (mF_as (by decide) h3) ?_
    show pm_WP PT fr lo 239 (145, [some (.ref 162), some (.int (nI a)), some (.int (nI b)), some (.int hv), some (.int gv), some (.int (nI m)), some (.int (nI i)), some (.int wv), some (.int (nI j)), x9, x10], [.int (nI j), .int (nI j)], (aset h 186 600 g), 198, sl) _
    refine wp_icmp (c := .ge) (off := 93) (t := 238) rfl rfl (fun _ => ?_) (fun q => absurd (q.symm.trans ((hI_ge (by omega) (by omega)).trans (decide_eq_true (by omega)))) (by decide))
    show pm_WP PT fr lo 239 (238, [some (.ref 162), some (.int (nI a)), some (.int (nI b)), some (.int hv), some (.int gv), some (.int (nI m)), some (.int (nI i)), some (.int wv), some (.int (nI j)), x9, x10], [], (aset h 186 600 g), 198, sl) _
    exact kk g _ _ _ q
  | succ n ih =>
    intro j g x9 x10 hj q
    obtain ⟨ew, hw9⟩ := hw i j (by omega) (by omega)
    refine wp_i rfl rfl rfl rfl ?_
    refine wp_i rfl rfl rfl rfl ?_
    show pm_WP PT fr lo 239 (142, [some (.ref 162), some (.int (nI a)), some (.int (nI b)), some (.int hv), some (.int gv), some (.int (nI m)), some (.int (nI i)), some (.int wv), some (.int (nI j)), x9, x10], [.ref 162, .int (nI j)], (aset h 186 600 g), 198, sl) _
    refine wp_gfm rfl rfl (mF_as (by decide) h3) ?_
    show pm_WP PT fr lo 239 (145, [some (.ref 162), some (.int (nI a)), some (.int (nI b)), some (.int hv), some (.int gv), some (.int (nI m)), some (.int (nI i)), some (.int wv), some (.int (nI j)), x9, x10], [.int (nI c), .int (nI j)], (aset h 186 600 g), 198, sl) _
    refine wp_icmp (c := .ge) (off := 93) (t := 238) rfl rfl (fun q => absurd (q.symm.trans ((hI_ge (by omega) (by omega)).trans (decide_eq_false (by omega)))) (by decide)) (fun _ => ?_)
    refine wp_i rfl rfl rfl rfl ?_
    show pm_WP PT fr lo 239 (150, [some (.ref 162), some (.int (nI a)), some (.int (nI b)), some (.int hv), some (.int gv), some (.int (nI m)), some (.int (nI i)), some (.int wv), some (.int (nI j)), x9, x10], [.int wv], (aset h 186 600 g), 198, sl) _
    refine wp_if (c := .lt) (off := 88) (t := 238) rfl rfl (fun q1 => ?_) (fun q1 => ?_)
    · show pm_WP PT fr lo 239 (238, [some (.ref 162), some (.int (nI a)), some (.int (nI b)), some (.int hv), some (.int gv), some (.int (nI m)), some (.int (nI i)), some (.int wv), some (.int (nI j)), x9, x10], [], (aset h 186 600 g), 198, sl) _
      exact kk g _ _ _ q
    · refine wp_i rfl rfl rfl rfl ?_
      show pm_WP PT fr lo 239 (154, [some (.ref 162), some (.int (nI a)), some (.int (nI b)), some (.int hv), some (.int gv), some (.int (nI m)), some (.int (nI i)), some (.int wv), some (.int (nI j)), x9, x10], [.ref 162], (aset h 186 600 g), 198, sl) _
      refine wp_gfm rfl rfl (mF_as (by decide) h11) ?_
      refine wp_i rfl rfl rfl rfl ?_
      refine wp_i rfl rfl rfl rfl ?_
      refine wp_i rfl rfl rfl rfl ?_
      refine wp_i rfl rfl rfl rfl ?_
      refine wp_i rfl rfl rfl rfl ?_
      show pm_WP PT fr lo 239 (165, [some (.ref 162), some (.int (nI a)), some (.int (nI b)), some (.int hv), some (.int gv), some (.int (nI m)), some (.int (nI i)), some (.int wv), some (.int (nI j)), x9, x10], [.int ((6 * (nI i)) + (nI j)), .ref 169], (aset h 186 600 g), 198, sl) _
      rw [ix6 i j]
      show pm_WP PT fr lo 239 (165, [some (.ref 162), some (.int (nI a)), some (.int (nI b)), some (.int hv), some (.int gv), some (.int (nI m)), some (.int (nI i)), some (.int wv), some (.int (nI j)), x9, x10], [.int (nI (6 * i + j)), .ref 169], (aset h 186 600 g), 198, sl) _
      refine wp_iam rfl (aset_ne (by decide) hR) (hI_in (by omega) (by omega)) (by decide) ?_
      rw [nI_clamp (by omega), ew]
      show pm_WP PT fr lo 239 (166, [some (.ref 162), some (.int (nI a)), some (.int (nI b)), some (.int hv), some (.int gv), some (.int (nI m)), some (.int (nI i)), some (.int wv), some (.int (nI j)), x9, x10], [.int (nI (w i j))], (aset h 186 600 g), 198, sl) _
      refine wp_i rfl rfl rfl rfl ?_
      refine wp_i rfl rfl rfl rfl ?_
      show pm_WP PT fr lo 239 (170, [some (.ref 162), some (.int (nI a)), some (.int (nI b)), some (.int hv), some (.int gv), some (.int (nI m)), some (.int (nI i)), some (.int wv), some (.int (nI j)), some (.int (nI (w i j))), x10], [.int (nI (w i j))], (aset h 186 600 g), 198, sl) _
      refine wp_if (c := .le) (off := 62) (t := 232) rfl rfl (fun q2 => ?_) (fun q2 => ?_)
      · show pm_WP PT fr lo 239 (232, [some (.ref 162), some (.int (nI a)), some (.int (nI b)), some (.int hv), some (.int gv), some (.int (nI m)), some (.int (nI i)), some (.int wv), some (.int (nI j)), some (.int (nI (w i j))), x10], [], (aset h 186 600 g), 198, sl) _
        refine wp_i rfl rfl rfl rfl ?_
        refine wp_i rfl rfl rfl rfl ?_
        show pm_WP PT fr lo 239 (139, [some (.ref 162), some (.int (nI a)), some (.int (nI b)), some (.int hv), some (.int gv), some (.int (nI m)), some (.int (nI i)), some (.int wv), some (.int (nI j + 1)), some (.int (nI (w i j))), x10], [], (aset h 186 600 g), 198, sl) _
        rw [nI_1 j]
        exact ih (j + 1) _ _ _ (by omega) q
      · refine wp_i rfl rfl rfl rfl ?_
        refine wp_i rfl rfl rfl rfl ?_
        refine wp_i rfl rfl rfl rfl ?_
        refine wp_i rfl rfl rfl rfl ?_
        show pm_WP PT fr lo 239 (180, [some (.ref 162), some (.int (nI a)), some (.int (nI b)), some (.int hv), some (.int gv), some (.int (nI m)), some (.int (nI i)), some (.int wv), some (.int (nI j)), some (.int (nI (w i j))), x10], [.int 99, .int ((nI m) + (nI (w i j)))], (aset h 186 600 g), 198, sl) _
        rw [nI_add]
        show pm_WP PT fr lo 239 (180, [some (.ref 162), some (.int (nI a)), some (.int (nI b)), some (.int hv), some (.int gv), some (.int (nI m)), some (.int (nI i)), some (.int wv), some (.int (nI j)), some (.int (nI (w i j))), x10], [.int 99, .int (nI (m + w i j))], (aset h 186 600 g), 198, sl) _
        show pm_WP PT fr lo 239 (180, [some (.ref 162), some (.int (nI a)), some (.int (nI b)), some (.int hv), some (.int gv), some (.int (nI m)), some (.int (nI i)), some (.int wv), some (.int (nI j)), some (.int (nI (w i j))), x10], [.int 99, .int (nI (m + w i j))], (aset h 186 600 g), 198, sl) _
        refine wp_icmp (c := .gt) (off := 52) (t := 232) rfl rfl (fun q3 => ?_) (fun q3 => ?_)
        · show pm_WP PT fr lo 239 (232, [some (.ref 162), some (.int (nI a)), some (.int (nI b)), some (.int hv), some (.int gv), some (.int (nI m)), some (.int (nI i)), some (.int wv), some (.int (nI j)), some (.int (nI (w i j))), x10], [], (aset h 186 600 g), 198, sl) _
          refine wp_i rfl rfl rfl rfl ?_
          refine wp_i rfl rfl rfl rfl ?_
          show pm_WP PT fr lo 239 (139, [some (.ref 162), some (.int (nI a)), some (.int (nI b)), some (.int hv), some (.int gv), some (.int (nI m)), some (.int (nI i)), some (.int wv), some (.int (nI j + 1)), some (.int (nI (w i j))), x10], [], (aset h 186 600 g), 198, sl) _
          rw [nI_1 j]
          exact ih (j + 1) _ _ _ (by omega) q
        · have q3 : ¬ 99 < m + w i j := of_decide_eq_false ((hI_gt (b := 99) (by omega) (by omega)).symm.trans q3)
          refine wp_i rfl rfl rfl rfl ?_
          refine wp_i rfl rfl rfl rfl ?_
          refine wp_i rfl rfl rfl rfl ?_
          refine wp_i rfl rfl rfl rfl ?_
          show pm_WP PT fr lo 239 (189, [some (.ref 162), some (.int (nI a)), some (.int (nI b)), some (.int hv), some (.int gv), some (.int (nI m)), some (.int (nI i)), some (.int wv), some (.int (nI j)), some (.int (nI (w i j))), x10], [.int (hv * (nI (w i j))), .int wv], (aset h 186 600 g), 198, sl) _
          refine wp_icmp (c := .lt) (off := 43) (t := 232) rfl rfl (fun q4 => ?_) (fun q4 => ?_)
          · show pm_WP PT fr lo 239 (232, [some (.ref 162), some (.int (nI a)), some (.int (nI b)), some (.int hv), some (.int gv), some (.int (nI m)), some (.int (nI i)), some (.int wv), some (.int (nI j)), some (.int (nI (w i j))), x10], [], (aset h 186 600 g), 198, sl) _
            refine wp_i rfl rfl rfl rfl ?_
            refine wp_i rfl rfl rfl rfl ?_
            show pm_WP PT fr lo 239 (139, [some (.ref 162), some (.int (nI a)), some (.int (nI b)), some (.int hv), some (.int gv), some (.int (nI m)), some (.int (nI i)), some (.int wv), some (.int (nI j + 1)), some (.int (nI (w i j))), x10], [], (aset h 186 600 g), 198, sl) _
            rw [nI_1 j]
            exact ih (j + 1) _ _ _ (by omega) q
          · refine wp_i rfl rfl rfl rfl ?_
            refine wp_i rfl rfl rfl rfl ?_
            refine wp_i rfl rfl rfl rfl ?_
            refine wp_i rfl rfl rfl rfl ?_
            refine wp_i rfl rfl rfl rfl ?_
            refine wp_i rfl rfl rfl rfl ?_
            refine wp_i rfl rfl rfl rfl ?_
            show pm_WP PT fr lo 239 (203, [some (.ref 162), some (.int (nI a)), some (.int (nI b)), some (.int hv), some (.int gv), some (.int (nI m)), some (.int (nI i)), some (.int wv), some (.int (nI j)), some (.int (nI (w i j))), x10], [.int ((6 * ((nI m) + (nI (w i j)))) + (nI j))], (aset h 186 600 g), 198, sl) _
            rw [nI_add, ix6]
            show pm_WP PT fr lo 239 (203, [some (.ref 162), some (.int (nI a)), some (.int (nI b)), some (.int hv), some (.int gv), some (.int (nI m)), some (.int (nI i)), some (.int wv), some (.int (nI j)), some (.int (nI (w i j))), x10], [.int (nI (6 * (m + w i j) + j))], (aset h 186 600 g), 198, sl) _
            refine wp_i rfl rfl rfl rfl ?_
            refine wp_i rfl rfl rfl rfl ?_
            show pm_WP PT fr lo 239 (206, [some (.ref 162), some (.int (nI a)), some (.int (nI b)), some (.int hv), some (.int gv), some (.int (nI m)), some (.int (nI i)), some (.int wv), some (.int (nI j)), some (.int (nI (w i j))), some (.int (nI (6 * (m + w i j) + j)))], [.ref 162], (aset h 186 600 g), 198, sl) _
            refine wp_gfm rfl rfl (mF_as (by decide) h40) ?_
            refine wp_i rfl rfl rfl rfl ?_
            refine wp_i rfl rfl rfl rfl ?_
            show pm_WP PT fr lo 239 (212, [some (.ref 162), some (.int (nI a)), some (.int (nI b)), some (.int hv), some (.int gv), some (.int (nI m)), some (.int (nI i)), some (.int wv), some (.int (nI j)), some (.int (nI (w i j))), some (.int (nI (6 * (m + w i j) + j)))], [.ref 162, .int (nI (6 * (m + w i j) + j)), .ref 186], (aset h 186 600 g), 198, sl) _
            refine wp_gfm rfl rfl (mF_as (by decide) h40) ?_
            refine wp_i rfl rfl rfl rfl ?_
            show pm_WP PT fr lo 239 (217, [some (.ref 162), some (.int (nI a)), some (.int (nI b)), some (.int hv), some (.int gv), some (.int (nI m)), some (.int (nI i)), some (.int wv), some (.int (nI j)), some (.int (nI (w i j))), some (.int (nI (6 * (m + w i j) + j)))], [.int (nI (6 * (m + w i j) + j)), .ref 186, .int (nI (6 * (m + w i j) + j)), .ref 186], (aset h 186 600 g), 198, sl) _
            refine wp_iam rfl (aset_self _ _ _ _) (hI_in (by omega) (by omega)) (by decide) ?_
            rw [nI_clamp (by omega)]
            show pm_WP PT fr lo 239 (218, [some (.ref 162), some (.int (nI a)), some (.int (nI b)), some (.int hv), some (.int gv), some (.int (nI m)), some (.int (nI i)), some (.int wv), some (.int (nI j)), some (.int (nI (w i j))), some (.int (nI (6 * (m + w i j) + j)))], [.int (g (6 * (m + w i j) + j)), .int (nI (6 * (m + w i j) + j)), .ref 186], (aset h 186 600 g), 198, sl) _
            refine wp_i rfl rfl rfl rfl ?_
            refine wp_i rfl rfl rfl rfl ?_
            refine wp_i rfl rfl rfl rfl ?_
            refine wp_i rfl rfl rfl rfl ?_
            refine wp_i rfl rfl rfl rfl ?_
            refine wp_i rfl rfl rfl rfl ?_
            refine wp_i rfl rfl rfl rfl ?_
            show pm_WP PT fr lo 239 (228, [some (.ref 162), some (.int (nI a)), some (.int (nI b)), some (.int hv), some (.int gv), some (.int (nI m)), some (.int (nI i)), some (.int wv), some (.int (nI j)), some (.int (nI (w i j))), some (.int (nI (6 * (m + w i j) + j)))], [.int ((wv - (hv * (nI (w i j)))) + gv), .int (g (6 * (m + w i j) + j)), .int (nI (6 * (m + w i j) + j)), .ref 186], (aset h 186 600 g), 198, sl) _
            refine wp_max rfl rfl hf (by show pm_sum [Value.int (nI (6 * (m + w i j) + j)), Value.ref 186] + 13 ≤ lo; have : pm_sum [Value.int (nI (6 * (m + w i j) + j)), Value.ref 186] = 2 := rfl; omega) ?_
            have hmx : -1 ≤ (if (g (6 * (m + w i j) + j)) < ((wv - (hv * (nI (w i j)))) + gv) then ((wv - (hv * (nI (w i j)))) + gv) else (g (6 * (m + w i j) + j))).toInt := Int.le_trans (q _ (by omega)) (max_ge _ _)
            show pm_WP PT fr lo 239 (231, [some (.ref 162), some (.int (nI a)), some (.int (nI b)), some (.int hv), some (.int gv), some (.int (nI m)), some (.int (nI i)), some (.int wv), some (.int (nI j)), some (.int (nI (w i j))), some (.int (nI (6 * (m + w i j) + j)))], [.int (if (g (6 * (m + w i j) + j)) < ((wv - (hv * (nI (w i j)))) + gv) then ((wv - (hv * (nI (w i j)))) + gv) else (g (6 * (m + w i j) + j))), .int (nI (6 * (m + w i j) + j)), .ref 186], (aset h 186 600 g), 198, sl) _
            generalize (if (g (6 * (m + w i j) + j)) < ((wv - (hv * (nI (w i j)))) + gv) then ((wv - (hv * (nI (w i j)))) + gv) else (g (6 * (m + w i j) + j))) = mv at hmx ⊢
            show pm_WP PT fr lo 239 (231, [some (.ref 162), some (.int (nI a)), some (.int (nI b)), some (.int hv), some (.int gv), some (.int (nI m)), some (.int (nI i)), some (.int wv), some (.int (nI j)), some (.int (nI (w i j))), some (.int (nI (6 * (m + w i j) + j)))], [.int mv, .int (nI (6 * (m + w i j) + j)), .ref 186], (aset h 186 600 g), 198, sl) _
            refine wp_ism rfl (aset_self _ _ _ _) (hI_in (by omega) (by omega)) (by decide) ?_
            rw [nI_clamp (by omega), aset_aset]
            show pm_WP PT fr lo 239 (232, [some (.ref 162), some (.int (nI a)), some (.int (nI b)), some (.int hv), some (.int gv), some (.int (nI m)), some (.int (nI i)), some (.int wv), some (.int (nI j)), some (.int (nI (w i j))), some (.int (nI (6 * (m + w i j) + j)))], [], (aset h 186 600 (upd g (6 * (m + w i j) + j) mv)), 198, sl) _
            refine wp_i rfl rfl rfl rfl ?_
            refine wp_i rfl rfl rfl rfl ?_
            show pm_WP PT fr lo 239 (139, [some (.ref 162), some (.int (nI a)), some (.int (nI b)), some (.int hv), some (.int gv), some (.int (nI m)), some (.int (nI i)), some (.int wv), some (.int (nI j + 1)), some (.int (nI (w i j))), some (.int (nI (6 * (m + w i j) + j)))], [], (aset h 186 600 (upd g (6 * (m + w i j) + j) mv)), 198, sl) _
            rw [nI_1 j]
            exact ih (j + 1) _ _ _ (by omega) (wkI_up q hmx)
theorem wk_I (h3 : mF h 3 (.int (nI c))) (hc : c ≤ 6) (h40 : mF h 40 (.ref 186)) (h11 : mF h 11 (.ref 169)) (hR : h 169 = .inl (0, 36, .inl rd)) (hw : rdOk rd w) {m : Nat} (hm : m ≤ 99) (hf : 1 ≤ fr) (hl : 20 ≤ lo) (kk : ∀ g x6 x7 x8 x9 x10, wkI g → pm_WP PT fr lo 239 (244, [some (.ref 162), some (.int (nI a)), some (.int (nI b)), some (.int hv), some (.int gv), some (.int (nI m)), x6, x7, x8, x9, x10], [], aset h 186 600 g, 198, sl) Q) : ∀ (n i : Nat) (g : Nat → Int32) (x7 x8 x9 x10 : Option Value), i + n = c → wkI g → pm_WP PT fr lo 239 (112, [some (.ref 162), some (.int (nI a)), some (.int (nI b)), some (.int hv), some (.int gv), some (.int (nI m)), some (.int (nI i)), x7, x8, x9, x10], [], aset h 186 600 g, 198, sl) Q := by
  intro n
  induction n with
  | zero =>
    intro i g x7 x8 x9 x10 hj q
    obtain rfl : i = c := by omega
    refine wp_i rfl rfl rfl rfl ?_
    refine wp_i rfl rfl rfl rfl ?_
    show pm_WP PT fr lo 239 (115, [some (.ref 162), some (.int (nI a)), some (.int (nI b)), some (.int hv), some (.int gv), some (.int (nI m)), some (.int (nI i)), x7, x8, x9, x10], [.ref 162, .int (nI i)], (aset h 186 600 g), 198, sl) _
    refine wp_gfm rfl rfl (mF_as (by decide) h3) ?_
    show pm_WP PT fr lo 239 (118, [some (.ref 162), some (.int (nI a)), some (.int (nI b)), some (.int hv), some (.int gv), some (.int (nI m)), some (.int (nI i)), x7, x8, x9, x10], [.int (nI i), .int (nI i)], (aset h 186 600 g), 198, sl) _
    refine wp_icmp (c := .ge) (off := 126) (t := 244) rfl rfl (fun _ => ?_) (fun q => absurd (q.symm.trans ((hI_ge (by omega) (by omega)).trans (decide_eq_true (by omega)))) (by decide))
    show pm_WP PT fr lo 239 (244, [some (.ref 162), some (.int (nI a)), some (.int (nI b)), some (.int hv), some (.int gv), some (.int (nI m)), some (.int (nI i)), x7, x8, x9, x10], [], (aset h 186 600 g), 198, sl) _
    exact kk g _ _ _ _ _ q
  | succ n ih =>
    intro i g x7 x8 x9 x10 hj q
    refine wp_i rfl rfl rfl rfl ?_
    refine wp_i rfl rfl rfl rfl ?_
    show pm_WP PT fr lo 239 (115, [some (.ref 162), some (.int (nI a)), some (.int (nI b)), some (.int hv), some (.int gv), some (.int (nI m)), some (.int (nI i)), x7, x8, x9, x10], [.ref 162, .int (nI i)], (aset h 186 600 g), 198, sl) _
    refine wp_gfm rfl rfl (mF_as (by decide) h3) ?_
    show pm_WP PT fr lo 239 (118, [some (.ref 162), some (.int (nI a)), some (.int (nI b)), some (.int hv), some (.int gv), some (.int (nI m)), some (.int (nI i)), x7, x8, x9, x10], [.int (nI c), .int (nI i)], (aset h 186 600 g), 198, sl) _
    refine wp_icmp (c := .ge) (off := 126) (t := 244) rfl rfl (fun q => absurd (q.symm.trans ((hI_ge (by omega) (by omega)).trans (decide_eq_false (by omega)))) (by decide)) (fun _ => ?_)
    refine wp_i rfl rfl rfl rfl ?_
    show pm_WP PT fr lo 239 (122, [some (.ref 162), some (.int (nI a)), some (.int (nI b)), some (.int hv), some (.int gv), some (.int (nI m)), some (.int (nI i)), x7, x8, x9, x10], [.ref 162], (aset h 186 600 g), 198, sl) _
    refine wp_gfm rfl rfl (mF_as (by decide) h40) ?_
    refine wp_i rfl rfl rfl rfl ?_
    refine wp_i rfl rfl rfl rfl ?_
    refine wp_i rfl rfl rfl rfl ?_
    refine wp_i rfl rfl rfl rfl ?_
    refine wp_i rfl rfl rfl rfl ?_
    show pm_WP PT fr lo 239 (133, [some (.ref 162), some (.int (nI a)), some (.int (nI b)), some (.int hv), some (.int gv), some (.int (nI m)), some (.int (nI i)), x7, x8, x9, x10], [.int ((6 * (nI m)) + (nI i)), .ref 186], (aset h 186 600 g), 198, sl) _
    rw [ix6 m i]
    show pm_WP PT fr lo 239 (133, [some (.ref 162), some (.int (nI a)), some (.int (nI b)), some (.int hv), some (.int gv), some (.int (nI m)), some (.int (nI i)), x7, x8, x9, x10], [.int (nI (6 * m + i)), .ref 186], (aset h 186 600 g), 198, sl) _
    refine wp_iam rfl (aset_self _ _ _ _) (hI_in (by omega) (by omega)) (by decide) ?_
    rw [nI_clamp (by omega)]
    show pm_WP PT fr lo 239 (134, [some (.ref 162), some (.int (nI a)), some (.int (nI b)), some (.int hv), some (.int gv), some (.int (nI m)), some (.int (nI i)), x7, x8, x9, x10], [.int (g (6 * m + i))], (aset h 186 600 g), 198, sl) _
    refine wp_i rfl rfl rfl rfl ?_
    refine wp_i rfl rfl rfl rfl ?_
    refine wp_i rfl rfl rfl rfl ?_
    show pm_WP PT fr lo 239 (139, [some (.ref 162), some (.int (nI a)), some (.int (nI b)), some (.int hv), some (.int gv), some (.int (nI m)), some (.int (nI i)), some (.int (g (6 * m + i))), some (.int 0), x9, x10], [], (aset h 186 600 g), 198, sl) _
    refine wk_J h3 hc h40 h11 hR hw hm (by omega) hf hl (fun g2 y8 y9 y10 q2 => ?_) c 0 g _ _ (by omega) q
    refine wp_i rfl rfl rfl rfl ?_
    refine wp_i rfl rfl rfl rfl ?_
    show pm_WP PT fr lo 239 (112, [some (.ref 162), some (.int (nI a)), some (.int (nI b)), some (.int hv), some (.int gv), some (.int (nI m)), some (.int (nI i + 1)), some (.int (g (6 * m + i))), y8, y9, y10], [], (aset h 186 600 g2), 198, sl) _
    rw [nI_1 i]
    exact ih (i + 1) g2 _ _ _ _ (by omega) q2
theorem wk_M (h3 : mF h 3 (.int (nI c))) (hc : c ≤ 6) (h40 : mF h 40 (.ref 186)) (h11 : mF h 11 (.ref 169)) (hR : h 169 = .inl (0, 36, .inl rd)) (hw : rdOk rd w) (hb : b < 6) (hf : 1 ≤ fr) (hl : 20 ≤ lo) (kk : ∀ g x, wkI g → Q (some (.int x), aset h 186 600 g, 198, sl)) : ∀ (n m : Nat) (g : Nat → Int32) (x6 x7 x8 x9 x10 : Option Value), m + n = 100 → wkI g → pm_WP PT fr lo 239 (84, [some (.ref 162), some (.int (nI a)), some (.int (nI b)), some (.int hv), some (.int gv), some (.int (nI m)), x6, x7, x8, x9, x10], [], aset h 186 600 g, 198, sl) Q := by
  intro n
  induction n with
  | zero =>
    intro m g x6 x7 x8 x9 x10 hj q
    obtain rfl : m = 100 := by omega
    refine wp_i rfl rfl rfl rfl ?_
    refine wp_i rfl rfl rfl rfl ?_
    show pm_WP PT fr lo 239 (88, [some (.ref 162), some (.int (nI a)), some (.int (nI b)), some (.int hv), some (.int gv), some (.int (nI 100)), x6, x7, x8, x9, x10], [.int 99, .int (nI 100)], (aset h 186 600 g), 198, sl) _
    refine wp_icmp (c := .gt) (off := 162) (t := 250) rfl rfl (fun _ => ?_) (fun q => absurd (q.symm.trans ((hI_gt (b := 99) (by omega) (by omega)).trans (decide_eq_true (by omega)))) (by decide))
    refine wp_i rfl rfl rfl rfl ?_
    show pm_WP PT fr lo 239 (252, [some (.ref 162), some (.int (nI a)), some (.int (nI b)), some (.int hv), some (.int gv), some (.int (nI 100)), x6, x7, x8, x9, x10], [.int (-2)], (aset h 186 600 g), 198, sl) _
    exact wp_iret rfl rfl (kk g _ q)
  | succ n ih =>
    intro m g x6 x7 x8 x9 x10 hj q
    refine wp_i rfl rfl rfl rfl ?_
    refine wp_i rfl rfl rfl rfl ?_
    show pm_WP PT fr lo 239 (88, [some (.ref 162), some (.int (nI a)), some (.int (nI b)), some (.int hv), some (.int gv), some (.int (nI m)), x6, x7, x8, x9, x10], [.int 99, .int (nI m)], (aset h 186 600 g), 198, sl) _
    refine wp_icmp (c := .gt) (off := 162) (t := 250) rfl rfl (fun q => absurd (q.symm.trans ((hI_gt (b := 99) (by omega) (by omega)).trans (decide_eq_false (by omega)))) (by decide)) (fun _ => ?_)
    refine wp_i rfl rfl rfl rfl ?_
    show pm_WP PT fr lo 239 (92, [some (.ref 162), some (.int (nI a)), some (.int (nI b)), some (.int hv), some (.int gv), some (.int (nI m)), x6, x7, x8, x9, x10], [.ref 162], (aset h 186 600 g), 198, sl) _
    refine wp_gfm rfl rfl (mF_as (by decide) h40) ?_
    refine wp_i rfl rfl rfl rfl ?_
    refine wp_i rfl rfl rfl rfl ?_
    refine wp_i rfl rfl rfl rfl ?_
    refine wp_i rfl rfl rfl rfl ?_
    refine wp_i rfl rfl rfl rfl ?_
    show pm_WP PT fr lo 239 (102, [some (.ref 162), some (.int (nI a)), some (.int (nI b)), some (.int hv), some (.int gv), some (.int (nI m)), x6, x7, x8, x9, x10], [.int ((6 * (nI m)) + (nI b)), .ref 186], (aset h 186 600 g), 198, sl) _
    rw [ix6 m b]
    show pm_WP PT fr lo 239 (102, [some (.ref 162), some (.int (nI a)), some (.int (nI b)), some (.int hv), some (.int gv), some (.int (nI m)), x6, x7, x8, x9, x10], [.int (nI (6 * m + b)), .ref 186], (aset h 186 600 g), 198, sl) _
    refine wp_iam rfl (aset_self _ _ _ _) (hI_in (by omega) (by omega)) (by decide) ?_
    rw [nI_clamp (by omega)]
    show pm_WP PT fr lo 239 (103, [some (.ref 162), some (.int (nI a)), some (.int (nI b)), some (.int hv), some (.int gv), some (.int (nI m)), x6, x7, x8, x9, x10], [.int (g (6 * m + b))], (aset h 186 600 g), 198, sl) _
    show pm_WP PT fr lo 239 (103, [some (.ref 162), some (.int (nI a)), some (.int (nI b)), some (.int hv), some (.int gv), some (.int (nI m)), x6, x7, x8, x9, x10], [.int (g (6 * m + b))], (aset h 186 600 g), 198, sl) _
    refine wp_if (c := .lt) (off := 6) (t := 109) rfl rfl (fun q1 => ?_) (fun q1 => ?_)
    · refine wp_i rfl rfl rfl rfl ?_
      refine wp_i rfl rfl rfl rfl ?_
      show pm_WP PT fr lo 239 (112, [some (.ref 162), some (.int (nI a)), some (.int (nI b)), some (.int hv), some (.int gv), some (.int (nI m)), some (.int 0), x7, x8, x9, x10], [], (aset h 186 600 g), 198, sl) _
      refine wk_I h3 hc h40 h11 hR hw (by omega) hf hl (fun g2 y6 y7 y8 y9 y10 q2 => ?_) c 0 g _ _ _ _ (by omega) q
      refine wp_i rfl rfl rfl rfl ?_
      refine wp_i rfl rfl rfl rfl ?_
      show pm_WP PT fr lo 239 (84, [some (.ref 162), some (.int (nI a)), some (.int (nI b)), some (.int hv), some (.int gv), some (.int (nI m + 1)), y6, y7, y8, y9, y10], [], (aset h 186 600 g2), 198, sl) _
      rw [nI_1 m]
      exact ih (m + 1) g2 _ _ _ _ _ (by omega) q2
    · refine wp_i rfl rfl rfl rfl ?_
      show pm_WP PT fr lo 239 (108, [some (.ref 162), some (.int (nI a)), some (.int (nI b)), some (.int hv), some (.int gv), some (.int (nI m)), x6, x7, x8, x9, x10], [.int (nI m)], (aset h 186 600 g), 198, sl) _
      exact wp_iret rfl rfl (kk g _ q)
def wlC (i : Nat) : Bool := Nat.beq i 186
theorem hm_walks (hI : mInv h) (x y hv gv : Int32) (hf : 100 ≤ fr) (hl : 4000 ≤ lo) : pm_WP PT fr lo 239 (0, pm_l0 [.ref 162, .int x, .int y, .int hv, .int gv] 11, [], h, 198, sl) (mPost anInt h sl) := by
  obtain ⟨hh, hq⟩ := id hI
  obtain ⟨x0, h0, -⟩ := ty_fld hh (g := 0) rfl
  obtain ⟨c, h3, hc⟩ := ty_nat hh (g := 3) (u := 6) rfl (by decide)
  have h40 := ty_ref hh (g := 40) (p := 186) rfl
  have h11 := ty_ref hh (g := 11) (p := 169) rfl
  obtain ⟨rd, w, hR, hw⟩ := ty_rd hh
  obtain ⟨f0, hF, tF⟩ := ty_arr hh (i := 186) (by decide) rfl rfl (by decide)
  have fin : ∀ (g : Nat → Int32) (v : Int32), wkI g → mPost anInt h sl (some (.int v), aset (mset h 0 (.int 0)) 186 600 g, 198, sl) := by
    intro g v q
    have d : dD wlC g0G h (aset (mset h 0 (.int 0)) 186 600 g) := dD_tr (dD_set rfl) (dD_arr rfl (by decide))
    refine ⟨⟨_, rfl⟩, rfl, x_lt d (fun i hi => nb_ne (by omega)), dD_ty hh d (fun i hi _ _ => ?_) (fun k hg b hb => ?_), rxQ_dD d rfl rfl rfl rfl rfl rfl hq⟩
    · have := Nat.eq_of_beq_eq_true hi
      subst this
      show ac_ok (aset (mset h 0 (.int 0)) 186 600 g 186) _
      rw [aset_self]
      exact ⟨rfl, rfl, fun j hj => ⟨rfl, q j hj, (ai_top_ok (g j)).2.2⟩⟩
    · have := Nat.eq_of_beq_eq_true hg
      subst this
      cases (Option.some.inj hb : _ = b)
      exact ⟨_, mF_as (by decide) (mF_self h0), ⟨rfl, by decide, by decide⟩⟩
  refine wp_i rfl rfl rfl rfl ?_
  refine wp_i rfl rfl rfl rfl ?_
  show pm_WP PT fr lo 239 (2, [some (.ref 162), some (.int x), some (.int y), some (.int hv), some (.int gv), none, none, none, none, none, none], [.int 0, .ref 162], h, 198, sl) _
  refine wp_pfm rfl rfl rfl (by decide) h0 ?_
  refine wp_i rfl rfl rfl rfl ?_
  refine wp_i rfl rfl rfl rfl ?_
  show pm_WP PT fr lo 239 (7, [some (.ref 162), some (.int x), some (.int y), some (.int hv), some (.int gv), none, none, none, none, none, none], [.int x, .ref 162], (mset h 0 (.int 0)), 198, sl) _
  refine wp_callM (t := 168) (As := [.int x]) (rest := []) (mx := 2) rfl rfl rfl rfl (Nat.le_of_ble_eq_true rfl) (Nat.le_of_ble_eq_true rfl) (by omega) (by omega) rfl (mF_obj (mF_self h0)) (wp_mono (hd_isCourt (c := c) x (mF_ne (by decide) h3) (by omega) (by omega)) ?_)
  rintro _ rfl
  cases b1 : in_b x.toInt64 0 (nI c - 1).toInt64 with
  | false =>
    show pm_WP PT fr lo 239 (10, [some (.ref 162), some (.int x), some (.int y), some (.int hv), some (.int gv), none, none, none, none, none, none], [.int 0], (mset h 0 (.int 0)), 198, sl) _
    refine wp_i rfl rfl rfl rfl ?_
    refine wp_i rfl rfl rfl rfl ?_
    show pm_WP PT fr lo 239 (47, [some (.ref 162), some (.int x), some (.int y), some (.int hv), some (.int gv), none, none, none, none, none, none], [.int (-1)], (mset h 0 (.int 0)), 198, sl) _
    exact wp_iret rfl rfl (post0 hI h0 ⟨_, rfl⟩)
  | true =>
    show pm_WP PT fr lo 239 (10, [some (.ref 162), some (.int x), some (.int y), some (.int hv), some (.int gv), none, none, none, none, none, none], [.int 1], (mset h 0 (.int 0)), 198, sl) _
    refine wp_i rfl rfl rfl rfl ?_
    refine wp_i rfl rfl rfl rfl ?_
    refine wp_i rfl rfl rfl rfl ?_
    show pm_WP PT fr lo 239 (15, [some (.ref 162), some (.int x), some (.int y), some (.int hv), some (.int gv), none, none, none, none, none, none], [.int y, .ref 162], (mset h 0 (.int 0)), 198, sl) _
    refine wp_callM (t := 168) (As := [.int y]) (rest := []) (mx := 2) rfl rfl rfl rfl (Nat.le_of_ble_eq_true rfl) (Nat.le_of_ble_eq_true rfl) (by omega) (by omega) rfl (mF_obj (mF_self h0)) (wp_mono (hd_isCourt (c := c) y (mF_ne (by decide) h3) (by omega) (by omega)) ?_)
    rintro _ rfl
    cases b2 : in_b y.toInt64 0 (nI c - 1).toInt64 with
    | false =>
      show pm_WP PT fr lo 239 (18, [some (.ref 162), some (.int x), some (.int y), some (.int hv), some (.int gv), none, none, none, none, none, none], [.int 0], (mset h 0 (.int 0)), 198, sl) _
      refine wp_i rfl rfl rfl rfl ?_
      refine wp_i rfl rfl rfl rfl ?_
      show pm_WP PT fr lo 239 (47, [some (.ref 162), some (.int x), some (.int y), some (.int hv), some (.int gv), none, none, none, none, none, none], [.int (-1)], (mset h 0 (.int 0)), 198, sl) _
      exact wp_iret rfl rfl (post0 hI h0 ⟨_, rfl⟩)
    | true =>
      show pm_WP PT fr lo 239 (18, [some (.ref 162), some (.int x), some (.int y), some (.int hv), some (.int gv), none, none, none, none, none, none], [.int 1], (mset h 0 (.int 0)), 198, sl) _
      refine wp_i rfl rfl rfl rfl ?_
      refine wp_i rfl rfl rfl rfl ?_
      refine wp_i rfl rfl rfl rfl ?_
      refine wp_i rfl rfl rfl rfl ?_
      refine wp_i rfl rfl rfl rfl ?_
      show pm_WP PT fr lo 239 (27, [some (.ref 162), some (.int x), some (.int y), some (.int hv), some (.int gv), none, none, none, none, none, none], [.long 9, .long 0, .long (hv).toInt64], (mset h 0 (.int 0)), 198, sl) _
      refine wp_callS (t := 163) (As := [.long (hv).toInt64, .long 0, .long 9]) (rest := []) (mx := 6) rfl rfl rfl rfl (Nat.le_of_ble_eq_true rfl) (Nat.le_of_ble_eq_true rfl) (by omega) (by omega) (wp_mono (hd_in hv.toInt64 0 9) ?_)
      rintro _ rfl
      cases b3 : in_b hv.toInt64 0 9 with
      | false =>
        show pm_WP PT fr lo 239 (30, [some (.ref 162), some (.int x), some (.int y), some (.int hv), some (.int gv), none, none, none, none, none, none], [.int 0], (mset h 0 (.int 0)), 198, sl) _
        refine wp_i rfl rfl rfl rfl ?_
        refine wp_i rfl rfl rfl rfl ?_
        show pm_WP PT fr lo 239 (47, [some (.ref 162), some (.int x), some (.int y), some (.int hv), some (.int gv), none, none, none, none, none, none], [.int (-1)], (mset h 0 (.int 0)), 198, sl) _
        exact wp_iret rfl rfl (post0 hI h0 ⟨_, rfl⟩)
      | true =>
        show pm_WP PT fr lo 239 (30, [some (.ref 162), some (.int x), some (.int y), some (.int hv), some (.int gv), none, none, none, none, none, none], [.int 1], (mset h 0 (.int 0)), 198, sl) _
        refine wp_i rfl rfl rfl rfl ?_
        refine wp_i rfl rfl rfl rfl ?_
        refine wp_i rfl rfl rfl rfl ?_
        refine wp_i rfl rfl rfl rfl ?_
        refine wp_i rfl rfl rfl rfl ?_
        show pm_WP PT fr lo 239 (40, [some (.ref 162), some (.int x), some (.int y), some (.int hv), some (.int gv), none, none, none, none, none, none], [.long 99, .long 0, .long (gv).toInt64], (mset h 0 (.int 0)), 198, sl) _
        refine wp_callS (t := 163) (As := [.long (gv).toInt64, .long 0, .long 99]) (rest := []) (mx := 6) rfl rfl rfl rfl (Nat.le_of_ble_eq_true rfl) (Nat.le_of_ble_eq_true rfl) (by omega) (by omega) (wp_mono (hd_in gv.toInt64 0 99) ?_)
        rintro _ rfl
        cases b4 : in_b gv.toInt64 0 99 with
        | false =>
          show pm_WP PT fr lo 239 (43, [some (.ref 162), some (.int x), some (.int y), some (.int hv), some (.int gv), none, none, none, none, none, none], [.int 0], (mset h 0 (.int 0)), 198, sl) _
          refine wp_i rfl rfl rfl rfl ?_
          refine wp_i rfl rfl rfl rfl ?_
          show pm_WP PT fr lo 239 (47, [some (.ref 162), some (.int x), some (.int y), some (.int hv), some (.int gv), none, none, none, none, none, none], [.int (-1)], (mset h 0 (.int 0)), 198, sl) _
          exact wp_iret rfl rfl (post0 hI h0 ⟨_, rfl⟩)
        | true =>
          show pm_WP PT fr lo 239 (43, [some (.ref 162), some (.int x), some (.int y), some (.int hv), some (.int gv), none, none, none, none, none, none], [.int 1], (mset h 0 (.int 0)), 198, sl) _
          refine wp_i rfl rfl rfl rfl ?_
          obtain ⟨a, rfl, ha⟩ := isC_iv hc b1
          obtain ⟨b, rfl, hb⟩ := isC_iv hc b2
          have hg := in_ge b4
          show pm_WP PT fr lo 239 (48, [some (.ref 162), some (.int (nI a)), some (.int (nI b)), some (.int hv), some (.int gv), none, none, none, none, none, none], [], (mset h 0 (.int 0)), 198, sl) _
          refine wp_i rfl rfl rfl rfl ?_
          refine wp_i rfl rfl rfl rfl ?_
          show pm_WP PT fr lo 239 (51, [some (.ref 162), some (.int (nI a)), some (.int (nI b)), some (.int hv), some (.int gv), some (.int 0), none, none, none, none, none], [], (mset h 0 (.int 0)), 198, sl) _
          have key := wk_A (fr := fr) (lo := lo) (sl := sl) (h := mset h 0 (.int 0)) (a := a) (b := b) (hv := hv) (gv := gv) (Q := mPost anInt h sl) (mF_ne (by decide) h40) (fun g q => ?_) 600 0 f0 (by omega) (fun j hj => (tF j hj).1)
          · rw [aset_same (mset_arr (by decide) hF)] at key
            exact key
          · refine wp_i rfl rfl rfl rfl ?_
            show pm_WP PT fr lo 239 (74, [some (.ref 162), some (.int (nI a)), some (.int (nI b)), some (.int hv), some (.int gv), some (.int (nI 600)), none, none, none, none, none], [.ref 162], (aset (mset h 0 (.int 0)) 186 600 g), 198, sl) _
            refine wp_gfm rfl rfl (mF_as (by decide) (mF_ne (by decide) h40)) ?_
            refine wp_i rfl rfl rfl rfl ?_
            refine wp_i rfl rfl rfl rfl ?_
            show pm_WP PT fr lo 239 (80, [some (.ref 162), some (.int (nI a)), some (.int (nI b)), some (.int hv), some (.int gv), some (.int (nI 600)), none, none, none, none, none], [.int gv, .int (nI a), .ref 186], (aset (mset h 0 (.int 0)) 186 600 g), 198, sl) _
            refine wp_ism rfl (aset_self _ _ _ _) (hI_in (by omega) (by omega)) (by decide) ?_
            rw [nI_clamp (by omega), aset_aset]
            show pm_WP PT fr lo 239 (81, [some (.ref 162), some (.int (nI a)), some (.int (nI b)), some (.int hv), some (.int gv), some (.int (nI 600)), none, none, none, none, none], [], (aset (mset h 0 (.int 0)) 186 600 (upd g a gv)), 198, sl) _
            refine wp_i rfl rfl rfl rfl ?_
            refine wp_i rfl rfl rfl rfl ?_
            show pm_WP PT fr lo 239 (84, [some (.ref 162), some (.int (nI a)), some (.int (nI b)), some (.int hv), some (.int gv), some (.int 0), none, none, none, none, none], [], (aset (mset h 0 (.int 0)) 186 600 (upd g a gv)), 198, sl) _
            exact wk_M (w := w) (mF_ne (by decide) h3) hc (mF_ne (by decide) h40) (mF_ne (by decide) h11) (mset_arr (by decide) hR) hw (by omega) (by omega) (by omega) (fun g2 v q2 => fin g2 v q2) 100 0 _ none none none none none (by omega) (wkI_up q (by omega))
end WLK
