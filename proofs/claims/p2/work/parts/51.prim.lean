/-! length and charAt of a constant -/
section LIBW
variable {k fr lo pc sl : Nat} {L : pm_L} {r : List Value} {h : pm_H} {Q : pm_Rs → Prop}
theorem wp_libL {j i x : Nat} (hi : pm_ins PT k pc = some (.invokevirtual j, 3)) (hm : pm_mlk PT (pm_o PT k) j = some (10, x)) (h5 : i < 5) (hf : 5 ≤ fr) (hl : 200 ≤ lo) (hs : pm_sum r ≤ 8) (kk : pm_WP PT fr lo k (pc + 3, L, .int (nI (st_tx i).length) :: r, h, 198, sl) Q) : pm_WP PT fr lo k (pc, L, .retAddr i :: r, h, 198, sl) Q := by
  refine wp_i hi rfl ?_ ?_ kk
  · unfold pm_callee
    dsimp only
    rw [hm]
    rfl
  · show pm_libV PT fr lo k j pc L (.retAddr i :: r) h 198 sl = _
    unfold pm_libV
    rw [hm]
    exact if_pos ⟨h5, hf, hl, hs⟩
theorem wp_libC {j i x : Nat} {n : Int32} (hi : pm_ins PT k pc = some (.invokevirtual j, 3)) (hm : pm_mlk PT (pm_o PT k) j = some (11, x)) (h5 : i < 5) (hf : 5 ≤ fr) (hl : 200 ≤ lo) (hs : pm_sum r ≤ 8) (hn : pm_in n (st_tx i).length = true) (kk : pm_WP PT fr lo k (pc + 3, L, .int ((st_tx i).getD n.toNatClampNeg 0) :: r, h, 198, sl) Q) : pm_WP PT fr lo k (pc, L, .int n :: .retAddr i :: r, h, 198, sl) Q := by
  refine wp_i hi rfl ?_ ?_ kk
  · unfold pm_callee
    dsimp only
    rw [hm]
    rfl
  · show pm_libV PT fr lo k j pc L (.int n :: .retAddr i :: r) h 198 sl = _
    unfold pm_libV
    rw [hm]
    exact if_pos ⟨h5, hf, hl, hs, hn⟩
end LIBW
/-! the reference's small methods, by hand: what they answer, what they do -/
section PRM
variable {fr lo sl : Nat} {h : pm_H}
theorem lgc_lt (x y : Int64) : pm_cmp .lt (lg_cmp x y) 0 = decide (x < y) := by
  simp only [pm_cmp]
  rw [decide_eq_decide]
  exact lg_cmp_lt x y
theorem lgc_gt (x y : Int64) : pm_cmp .gt (lg_cmp x y) 0 = decide (y < x) := by
  simp only [pm_cmp]
  rw [decide_eq_decide]
  exact lg_cmp_gt x y
def in_b (v l u : Int64) : Bool := !(decide (v < l)) && !(decide (u < v))
theorem hd_in (v l u : Int64) : pm_WP PT fr lo 163 (0, pm_l0 [.long v, .long l, .long u] 6, [], h, 198, sl) (fun r => r = (some (.int (cond (in_b v l u) 1 0)), h, 198, sl)) := by
  refine wp_i rfl rfl rfl rfl ?_
  refine wp_i rfl rfl rfl rfl ?_
  refine wp_i rfl rfl rfl rfl ?_
  show pm_WP PT fr lo 163 (3, [some (.long v), none, some (.long l), none, some (.long u), none], [.int (lg_cmp v l)], h, 198, sl) _
  refine wp_if (c := .lt) (off := 14) (t := 17) rfl rfl (fun q => ?_) (fun q => ?_)
  · have q : v < l := of_decide_eq_true ((lgc_lt v l).symm.trans q)
    have e : in_b v l u = false := by simp [in_b, q]
    rw [e]
    refine wp_i rfl rfl rfl rfl ?_
    show pm_WP PT fr lo 163 (18, [some (.long v), none, some (.long l), none, some (.long u), none], [.int 0], h, 198, sl) _
    exact wp_zret rfl rfl (by decide) rfl
  · have q1 : ¬ v < l := of_decide_eq_false ((lgc_lt v l).symm.trans q)
    refine wp_i rfl rfl rfl rfl ?_
    refine wp_i rfl rfl rfl rfl ?_
    refine wp_i rfl rfl rfl rfl ?_
    show pm_WP PT fr lo 163 (10, [some (.long v), none, some (.long l), none, some (.long u), none], [.int (lg_cmp v u)], h, 198, sl) _
    refine wp_if (c := .gt) (off := 7) (t := 17) rfl rfl (fun q => ?_) (fun q => ?_)
    · have q2 : u < v := of_decide_eq_true ((lgc_gt v u).symm.trans q)
      have e : in_b v l u = false := by simp [in_b, q2]
      rw [e]
      refine wp_i rfl rfl rfl rfl ?_
      show pm_WP PT fr lo 163 (18, [some (.long v), none, some (.long l), none, some (.long u), none], [.int 0], h, 198, sl) _
      exact wp_zret rfl rfl (by decide) rfl
    · have q2 : ¬ u < v := of_decide_eq_false ((lgc_gt v u).symm.trans q)
      have e : in_b v l u = true := by simp [in_b, q1, q2]
      rw [e]
      refine wp_i rfl rfl rfl rfl ?_
      refine wp_i rfl rfl rfl rfl ?_
      show pm_WP PT fr lo 163 (18, [some (.long v), none, some (.long l), none, some (.long u), none], [.int 1], h, 198, sl) _
      exact wp_zret rfl rfl (by decide) rfl
theorem hd_flag (b : Bool) : pm_WP PT fr lo 165 (0, pm_l0 [.int (cond b 1 0)] 1, [], h, 198, sl) (fun r => r = (some (.int (cond b 1 0)), h, 198, sl)) := by
  cases b with
  | true =>
    refine wp_i rfl rfl rfl rfl ?_
    refine wp_i rfl rfl rfl rfl ?_
    refine wp_i rfl rfl rfl rfl ?_
    refine wp_i rfl rfl rfl rfl ?_
    show pm_WP PT fr lo 165 (9, [some (.int 1)], [.int 1], h, 198, sl) _
    exact wp_iret rfl rfl rfl
  | false =>
    refine wp_i rfl rfl rfl rfl ?_
    refine wp_i rfl rfl rfl rfl ?_
    refine wp_i rfl rfl rfl rfl ?_
    show pm_WP PT fr lo 165 (9, [some (.int 0)], [.int 0], h, 198, sl) _
    exact wp_iret rfl rfl rfl
theorem hd_takes {a t : Nat} {tp : Nat → Int32} (h16 : mF h 16 (.int (nI a))) (h17 : mF h 17 (.int (nI t))) (h14 : mF h 14 (.ref 172)) (hA : h 172 = .inl (0, 80, .inl tp)) (ht : t ≤ 80) (ha : a < 1000) (hf : 2 ≤ fr) (hl : 100 ≤ lo) (s : Int32) : pm_WP PT fr lo 181 (0, pm_l0 [.ref 162, .int s] 3, [], h, 198, sl) (fun r => r = (some (.int (cond (decide (a < t ∧ tp a = s)) 1 0)), mset h 16 (.int (nI (a + cond (decide (a < t ∧ tp a = s)) 1 0))), 198, sl)) := by
  have tail : ∀ c : Bool, pm_WP PT fr lo 181 (29, [some (.ref 162), some (.int s), none], [.int (cond c 1 0)], h, 198, sl) (fun r => r = (some (.int (cond c 1 0)), mset h 16 (.int (nI (a + cond c 1 0))), 198, sl)) := by
    intro c
    refine wp_i rfl rfl rfl rfl ?_
    refine wp_i rfl rfl rfl rfl ?_
    refine wp_i rfl rfl rfl rfl ?_
    show pm_WP PT fr lo 181 (32, [some (.ref 162), some (.int s), some (.int (cond c 1 0))], [.ref 162, .ref 162], h, 198, sl) _
    refine wp_gfm rfl rfl h16 ?_
    refine wp_i rfl rfl rfl rfl ?_
    show pm_WP PT fr lo 181 (36, [some (.ref 162), some (.int s), some (.int (cond c 1 0))], [.int (cond c 1 0), .int (nI a), .ref 162], h, 198, sl) _
    refine wp_callS (t := 165) (As := [.int (cond c 1 0)]) (rest := [.int (nI a), .ref 162]) (mx := 1) rfl rfl rfl rfl (Nat.le_of_ble_eq_true rfl) (Nat.le_of_ble_eq_true rfl) (by omega) (by omega) (wp_mono (hd_flag c) ?_)
    rintro _ rfl
    have e1 : nI a + cond c 1 0 = nI (a + cond c 1 0) := by cases c; exact nI_add a 0; exact nI_add a 1
    refine wp_i rfl rfl rfl rfl ?_
    show pm_WP PT fr lo 181 (40, [some (.ref 162), some (.int s), some (.int (cond c 1 0))], [.int (nI a + cond c 1 0), .ref 162], h, 198, sl) _
    rw [e1]
    show pm_WP PT fr lo 181 (40, [some (.ref 162), some (.int s), some (.int (cond c 1 0))], [.int (nI (a + cond c 1 0)), .ref 162], h, 198, sl) _
    refine wp_pfm rfl rfl rfl (by decide) h16 ?_
    refine wp_i rfl rfl rfl rfl ?_
    show pm_WP PT fr lo 181 (44, [some (.ref 162), some (.int s), some (.int (cond c 1 0))], [.int (cond c 1 0)], (mset h 16 (.int (nI (a + cond c 1 0)))), 198, sl) _
    exact wp_zret rfl rfl (by cases c; exact Or.inl rfl; exact Or.inr rfl) rfl
  refine wp_i rfl rfl rfl rfl ?_
  show pm_WP PT fr lo 181 (1, [some (.ref 162), some (.int s), none], [.ref 162], h, 198, sl) _
  refine wp_gfm rfl rfl h16 ?_
  refine wp_i rfl rfl rfl rfl ?_
  show pm_WP PT fr lo 181 (5, [some (.ref 162), some (.int s), none], [.ref 162, .int (nI a)], h, 198, sl) _
  refine wp_gfm rfl rfl h17 ?_
  show pm_WP PT fr lo 181 (8, [some (.ref 162), some (.int s), none], [.int (nI t), .int (nI a)], h, 198, sl) _
  refine wp_icmp (c := .ge) (off := 20) (t := 28) rfl rfl (fun q => ?_) (fun q => ?_)
  · have q : t ≤ a := of_decide_eq_true ((hI_ge (by omega) (by omega)).symm.trans q)
    rw [decide_eq_false (by omega)]
    refine wp_i rfl rfl rfl rfl ?_
    show pm_WP PT fr lo 181 (29, [some (.ref 162), some (.int s), none], [.int 0], h, 198, sl) _
    exact tail false
  · have q0 : ¬ t ≤ a := of_decide_eq_false ((hI_ge (by omega) (by omega)).symm.trans q)
    refine wp_i rfl rfl rfl rfl ?_
    show pm_WP PT fr lo 181 (12, [some (.ref 162), some (.int s), none], [.ref 162], h, 198, sl) _
    refine wp_gfm rfl rfl h14 ?_
    refine wp_i rfl rfl rfl rfl ?_
    show pm_WP PT fr lo 181 (16, [some (.ref 162), some (.int s), none], [.ref 162, .ref 172], h, 198, sl) _
    refine wp_gfm rfl rfl h16 ?_
    show pm_WP PT fr lo 181 (19, [some (.ref 162), some (.int s), none], [.int (nI a), .ref 172], h, 198, sl) _
    refine wp_iam rfl hA (hI_in (by omega) (by omega)) (by decide) ?_
    rw [nI_clamp (by omega)]
    refine wp_i rfl rfl rfl rfl ?_
    show pm_WP PT fr lo 181 (21, [some (.ref 162), some (.int s), none], [.int s, .int (tp a)], h, 198, sl) _
    refine wp_icmp (c := .ne) (off := 7) (t := 28) rfl rfl (fun q => ?_) (fun q => ?_)
    · have q : ¬ tp a = s := (rs_t (P := ¬ tp a = s) rfl).1 q
      rw [decide_eq_false (fun z => q z.2)]
      refine wp_i rfl rfl rfl rfl ?_
      show pm_WP PT fr lo 181 (29, [some (.ref 162), some (.int s), none], [.int 0], h, 198, sl) _
      exact tail false
    · have q : tp a = s := Decidable.not_not.mp ((rs_t (P := ¬ tp a = s) rfl).2 q)
      rw [decide_eq_true ⟨by omega, q⟩]
      refine wp_i rfl rfl rfl rfl ?_
      refine wp_i rfl rfl rfl rfl ?_
      show pm_WP PT fr lo 181 (29, [some (.ref 162), some (.int s), none], [.int 1], h, 198, sl) _
      exact tail true
def dg (tp : Nat → Int32) (a t : Nat) : Bool := decide (a < t) && in_b (tp a).toInt64 48 57
theorem hd_isDigit {a t : Nat} {tp : Nat → Int32} (h16 : mF h 16 (.int (nI a))) (h17 : mF h 17 (.int (nI t))) (h14 : mF h 14 (.ref 172)) (hA : h 172 = .inl (0, 80, .inl tp)) (ht : t ≤ 80) (ha : a < 1000) (hf : 2 ≤ fr) (hl : 100 ≤ lo) : pm_WP PT fr lo 182 (0, pm_l0 [.ref 162] 1, [], h, 198, sl) (fun r => r = (some (.int (cond (dg tp a t) 1 0)), h, 198, sl)) := by
  refine wp_i rfl rfl rfl rfl ?_
  show pm_WP PT fr lo 182 (1, [some (.ref 162)], [.ref 162], h, 198, sl) _
  refine wp_gfm rfl rfl h16 ?_
  refine wp_i rfl rfl rfl rfl ?_
  show pm_WP PT fr lo 182 (5, [some (.ref 162)], [.ref 162, .int (nI a)], h, 198, sl) _
  refine wp_gfm rfl rfl h17 ?_
  show pm_WP PT fr lo 182 (8, [some (.ref 162)], [.int (nI t), .int (nI a)], h, 198, sl) _
  refine wp_icmp (c := .ge) (off := 29) (t := 37) rfl rfl (fun q => ?_) (fun q => ?_)
  · have q : t ≤ a := of_decide_eq_true ((hI_ge (by omega) (by omega)).symm.trans q)
    have e : dg tp a t = false := by simp [dg]; omega
    rw [e]
    refine wp_i rfl rfl rfl rfl ?_
    show pm_WP PT fr lo 182 (38, [some (.ref 162)], [.int 0], h, 198, sl) _
    exact wp_zret rfl rfl (by decide) rfl
  · have q0 : ¬ t ≤ a := of_decide_eq_false ((hI_ge (by omega) (by omega)).symm.trans q)
    refine wp_i rfl rfl rfl rfl ?_
    show pm_WP PT fr lo 182 (12, [some (.ref 162)], [.ref 162], h, 198, sl) _
    refine wp_gfm rfl rfl h14 ?_
    refine wp_i rfl rfl rfl rfl ?_
    show pm_WP PT fr lo 182 (16, [some (.ref 162)], [.ref 162, .ref 172], h, 198, sl) _
    refine wp_gfm rfl rfl h16 ?_
    show pm_WP PT fr lo 182 (19, [some (.ref 162)], [.int (nI a), .ref 172], h, 198, sl) _
    refine wp_iam rfl hA (hI_in (by omega) (by omega)) (by decide) ?_
    rw [nI_clamp (by omega)]
    refine wp_i rfl rfl rfl rfl ?_
    refine wp_i rfl rfl rfl rfl ?_
    refine wp_i rfl rfl rfl rfl ?_
    show pm_WP PT fr lo 182 (27, [some (.ref 162)], [.long 57, .long 48, .long ((tp a)).toInt64], h, 198, sl) _
    refine wp_callS (t := 163) (As := [.long ((tp a)).toInt64, .long 48, .long 57]) (rest := []) (mx := 6) rfl rfl rfl rfl (Nat.le_of_ble_eq_true rfl) (Nat.le_of_ble_eq_true rfl) (by omega) (by omega) (wp_mono (hd_in (tp a).toInt64 48 57) ?_)
    rintro _ rfl
    have e : dg tp a t = in_b (tp a).toInt64 48 57 := by simp [dg, show a < t by omega]
    rw [e]
    cases in_b (tp a).toInt64 48 57 with
    | true =>
      refine wp_i rfl rfl rfl rfl ?_
      refine wp_i rfl rfl rfl rfl ?_
      refine wp_i rfl rfl rfl rfl ?_
      show pm_WP PT fr lo 182 (38, [some (.ref 162)], [.int 1], h, 198, sl) _
      exact wp_zret rfl rfl (by decide) rfl
    | false =>
      refine wp_i rfl rfl rfl rfl ?_
      refine wp_i rfl rfl rfl rfl ?_
      show pm_WP PT fr lo 182 (38, [some (.ref 162)], [.int 0], h, 198, sl) _
      exact wp_zret rfl rfl (by decide) rfl
/-- the first sign of the text from k on that stands at a -/
def tko (i : Nat) (tp : Nat → Int32) (a t : Nat) : Nat → Nat → Option Nat
  | 0, _ => none
  | n + 1, k => cond (decide (a < t) && decide ((st_tx i).getD k 0 = tp a)) (some k) (tko i tp a t n (k + 1))
def tkr (h : pm_H) (a : Nat) (sl : Nat) : Option Nat → pm_Rs
  | some k => (some (.int (nI k)), mset h 16 (.int (nI (a + 1))), 198, sl)
  | none => (some (.int (-1)), h, 198, sl)
theorem tko_end {i a t : Nat} {tp : Nat → Int32} (q : ¬ a < t) : ∀ n k, tko i tp a t n k = none
  | 0, _ => rfl
  | n + 1, k => by
    unfold tko
    rw [show (decide (a < t) && decide ((st_tx i).getD k 0 = tp a)) = false by simp [q]]
    exact tko_end q n (k + 1)
theorem st_len {i : Nat} (hi : i < 5) : (st_tx i).length < 100 := (st_all i hi).1
theorem hd_takesOfL {a t : Nat} {tp : Nat → Int32} (h16 : mF h 16 (.int (nI a))) (h17 : mF h 17 (.int (nI t))) (h14 : mF h 14 (.ref 172)) (hA : h 172 = .inl (0, 80, .inl tp)) (ht : t ≤ 80) (ha : a < 1000) (hf : 5 ≤ fr) (hl : 200 ≤ lo) {i : Nat} (hi : i < 5) : ∀ n k : Nat, n + k = (st_tx i).length → pm_WP PT fr lo 183 (2, [some (.ref 162), some (.retAddr i), some (.int (nI k))], [], h, 198, sl) (fun r => r = tkr h a sl (tko i tp a t n k)) := by
  have h100 := st_len hi
  intro n
  induction n with
  | zero =>
    intro k hk
    refine wp_i rfl rfl rfl rfl ?_
    refine wp_i rfl rfl rfl rfl ?_
    show pm_WP PT fr lo 183 (4, [some (.ref 162), some (.retAddr i), some (.int (nI k))], [.retAddr i, .int (nI k)], h, 198, sl) _
    refine wp_libL rfl rfl hi (by omega) (by omega) (Nat.le_of_ble_eq_true rfl) ?_
    show pm_WP PT fr lo 183 (7, [some (.ref 162), some (.retAddr i), some (.int (nI k))], [.int (nI (st_tx i).length), .int (nI k)], h, 198, sl) _
    show pm_WP PT fr lo 183 (7, [some (.ref 162), some (.retAddr i), some (.int (nI k))], [.int (nI (st_tx i).length), .int (nI k)], h, 198, sl) _
    refine wp_icmp (c := .ge) (off := 49) (t := 56) rfl rfl (fun _ => ?_) (fun q => absurd (q.symm.trans ((hI_ge (by omega) (by omega)).trans (decide_eq_true (by omega)))) (by decide))
    refine wp_i rfl rfl rfl rfl ?_
    show pm_WP PT fr lo 183 (57, [some (.ref 162), some (.retAddr i), some (.int (nI k))], [.int (-1)], h, 198, sl) _
    exact wp_iret rfl rfl rfl
  | succ n ih =>
    intro k hk
    refine wp_i rfl rfl rfl rfl ?_
    refine wp_i rfl rfl rfl rfl ?_
    show pm_WP PT fr lo 183 (4, [some (.ref 162), some (.retAddr i), some (.int (nI k))], [.retAddr i, .int (nI k)], h, 198, sl) _
    refine wp_libL rfl rfl hi (by omega) (by omega) (Nat.le_of_ble_eq_true rfl) ?_
    show pm_WP PT fr lo 183 (7, [some (.ref 162), some (.retAddr i), some (.int (nI k))], [.int (nI (st_tx i).length), .int (nI k)], h, 198, sl) _
    show pm_WP PT fr lo 183 (7, [some (.ref 162), some (.retAddr i), some (.int (nI k))], [.int (nI (st_tx i).length), .int (nI k)], h, 198, sl) _
    refine wp_icmp (c := .ge) (off := 49) (t := 56) rfl rfl (fun q => absurd (q.symm.trans ((hI_ge (by omega) (by omega)).trans (decide_eq_false (by omega)))) (by decide)) (fun _ => ?_)
    refine wp_i rfl rfl rfl rfl ?_
    show pm_WP PT fr lo 183 (11, [some (.ref 162), some (.retAddr i), some (.int (nI k))], [.ref 162], h, 198, sl) _
    refine wp_gfm rfl rfl h16 ?_
    refine wp_i rfl rfl rfl rfl ?_
    show pm_WP PT fr lo 183 (15, [some (.ref 162), some (.retAddr i), some (.int (nI k))], [.ref 162, .int (nI a)], h, 198, sl) _
    refine wp_gfm rfl rfl h17 ?_
    show pm_WP PT fr lo 183 (18, [some (.ref 162), some (.retAddr i), some (.int (nI k))], [.int (nI t), .int (nI a)], h, 198, sl) _
    refine wp_icmp (c := .ge) (off := 38) (t := 56) rfl rfl (fun q => ?_) (fun q => ?_)
    · have q : t ≤ a := of_decide_eq_true ((hI_ge (by omega) (by omega)).symm.trans q)
      rw [tko_end (by omega)]
      refine wp_i rfl rfl rfl rfl ?_
      show pm_WP PT fr lo 183 (57, [some (.ref 162), some (.retAddr i), some (.int (nI k))], [.int (-1)], h, 198, sl) _
      exact wp_iret rfl rfl rfl
    · have q0 : ¬ t ≤ a := of_decide_eq_false ((hI_ge (by omega) (by omega)).symm.trans q)
      refine wp_i rfl rfl rfl rfl ?_
      refine wp_i rfl rfl rfl rfl ?_
      show pm_WP PT fr lo 183 (23, [some (.ref 162), some (.retAddr i), some (.int (nI k))], [.int (nI k), .retAddr i], h, 198, sl) _
      refine wp_libC rfl rfl hi (by omega) (by omega) (Nat.le_of_ble_eq_true rfl) (hI_in (by omega) (by omega)) ?_
      rw [nI_clamp (by omega)]
      refine wp_i rfl rfl rfl rfl ?_
      show pm_WP PT fr lo 183 (27, [some (.ref 162), some (.retAddr i), some (.int (nI k))], [.ref 162, .int ((st_tx i).getD k 0)], h, 198, sl) _
      refine wp_gfm rfl rfl h14 ?_
      refine wp_i rfl rfl rfl rfl ?_
      show pm_WP PT fr lo 183 (31, [some (.ref 162), some (.retAddr i), some (.int (nI k))], [.ref 162, .ref 172, .int ((st_tx i).getD k 0)], h, 198, sl) _
      refine wp_gfm rfl rfl h16 ?_
      show pm_WP PT fr lo 183 (34, [some (.ref 162), some (.retAddr i), some (.int (nI k))], [.int (nI a), .ref 172, .int ((st_tx i).getD k 0)], h, 198, sl) _
      refine wp_iam rfl hA (hI_in (by omega) (by omega)) (by decide) ?_
      rw [nI_clamp (by omega)]
      show pm_WP PT fr lo 183 (35, [some (.ref 162), some (.retAddr i), some (.int (nI k))], [.int (tp a), .int ((st_tx i).getD k 0)], h, 198, sl) _
      refine wp_icmp (c := .ne) (off := 15) (t := 50) rfl rfl (fun q => ?_) (fun q => ?_)
      · have q : ¬ (st_tx i).getD k 0 = tp a := (rs_t (P := ¬ (st_tx i).getD k 0 = tp a) rfl).1 q
        have e : tko i tp a t (n + 1) k = tko i tp a t n (k + 1) := by
          conv => lhs; unfold tko
          rw [decide_eq_false q, Bool.and_false]
          rfl
        rw [e]
        refine wp_i rfl rfl rfl rfl ?_
        refine wp_i rfl rfl rfl rfl ?_
        have e2 := ih (k + 1) (by omega)
        rw [← nI_1 k] at e2
        exact e2
      · have q : (st_tx i).getD k 0 = tp a := Decidable.not_not.mp ((rs_t (P := ¬ (st_tx i).getD k 0 = tp a) rfl).2 q)
        have e : tko i tp a t (n + 1) k = some k := by
          unfold tko
          rw [decide_eq_true q, decide_eq_true (show a < t by omega)]
          rfl
        rw [e]
        refine wp_i rfl rfl rfl rfl ?_
        refine wp_i rfl rfl rfl rfl ?_
        show pm_WP PT fr lo 183 (40, [some (.ref 162), some (.retAddr i), some (.int (nI k))], [.ref 162, .ref 162], h, 198, sl) _
        refine wp_gfm rfl rfl h16 ?_
        refine wp_i rfl rfl rfl rfl ?_
        refine wp_i rfl rfl rfl rfl ?_
        show pm_WP PT fr lo 183 (45, [some (.ref 162), some (.retAddr i), some (.int (nI k))], [.int (nI a + 1), .ref 162], h, 198, sl) _
        rw [nI_1 a]
        show pm_WP PT fr lo 183 (45, [some (.ref 162), some (.retAddr i), some (.int (nI k))], [.int (nI (a + 1)), .ref 162], h, 198, sl) _
        refine wp_pfm rfl rfl rfl (by decide) h16 ?_
        refine wp_i rfl rfl rfl rfl ?_
        show pm_WP PT fr lo 183 (49, [some (.ref 162), some (.retAddr i), some (.int (nI k))], [.int (nI k)], (mset h 16 (.int (nI (a + 1)))), 198, sl) _
        exact wp_iret rfl rfl rfl
theorem hd_takesOf {a t : Nat} {tp : Nat → Int32} (h16 : mF h 16 (.int (nI a))) (h17 : mF h 17 (.int (nI t))) (h14 : mF h 14 (.ref 172)) (hA : h 172 = .inl (0, 80, .inl tp)) (ht : t ≤ 80) (ha : a < 1000) (hf : 5 ≤ fr) (hl : 200 ≤ lo) {i : Nat} (hi : i < 5) : pm_WP PT fr lo 183 (0, pm_l0 [.ref 162, .retAddr i] 3, [], h, 198, sl) (fun r => r = tkr h a sl (tko i tp a t (st_tx i).length 0)) := by
  refine wp_i rfl rfl rfl rfl ?_
  refine wp_i rfl rfl rfl rfl ?_
  show pm_WP PT fr lo 183 (2, [some (.ref 162), some (.retAddr i), some (.int 0)], [], h, 198, sl) _
  exact hd_takesOfL h16 h17 h14 hA ht ha hf hl hi _ 0 rfl
/-- so many digits at most, from a on: where it ends, what they tell -/
def nbr (tp : Nat → Int32) (t : Nat) : Nat → Nat → Int32 → Nat × Int32
  | 0, a, v => (a, v)
  | n + 1, a, v => cond (dg tp a t) (nbr tp t n (a + 1) (10 * v + tp a - 48)) (a, v)
theorem dg_lt {tp : Nat → Int32} {a t : Nat} (h : dg tp a t = true) : a < t := by
  unfold dg at h
  rw [Bool.and_eq_true] at h
  exact of_decide_eq_true h.1
theorem hd_numberL {t : Nat} {tp : Nat → Int32} (ht : t ≤ 80) (hf : 3 ≤ fr) (hl : 200 ≤ lo) : ∀ (n k a : Nat) (v : Int32) (h : pm_H), mF h 16 (.int (nI a)) → mF h 17 (.int (nI t)) → mF h 14 (.ref 172) → h 172 = .inl (0, 80, .inl tp) → a < 1000 → k + n < 1000 → pm_WP PT fr lo 184 (13, [some (.ref 162), some (.int (nI (k + n))), some (.int v), some (.int (nI k))], [], h, 198, sl) (fun r => r = (some (.int (nbr tp t n a v).2), mset h 16 (.int (nI (nbr tp t n a v).1)), 198, sl)) := by
  intro n
  induction n with
  | zero =>
    intro k a v h h16 h17 h14 hA ha hk
    refine wp_i rfl rfl rfl rfl ?_
    refine wp_i rfl rfl rfl rfl ?_
    show pm_WP PT fr lo 184 (15, [some (.ref 162), some (.int (nI (k + 0))), some (.int v), some (.int (nI k))], [.int (nI (k + 0)), .int (nI k)], h, 198, sl) _
    refine wp_icmp (c := .ge) (off := 44) (t := 59) rfl rfl (fun _ => ?_) (fun q => absurd (q.symm.trans ((hI_ge (by omega) (by omega)).trans (decide_eq_true (by omega)))) (by decide))
    refine wp_i rfl rfl rfl rfl ?_
    show pm_WP PT fr lo 184 (60, [some (.ref 162), some (.int (nI (k + 0))), some (.int v), some (.int (nI k))], [.int v], h, 198, sl) _
    refine wp_iret rfl rfl ?_
    show _ = (some (Value.int v), mset h 16 (.int (nI a)), 198, sl)
    rw [mset_same h16]
  | succ n ih =>
    intro k a v h h16 h17 h14 hA ha hk
    refine wp_i rfl rfl rfl rfl ?_
    refine wp_i rfl rfl rfl rfl ?_
    show pm_WP PT fr lo 184 (15, [some (.ref 162), some (.int (nI (k + (n + 1)))), some (.int v), some (.int (nI k))], [.int (nI (k + (n + 1))), .int (nI k)], h, 198, sl) _
    refine wp_icmp (c := .ge) (off := 44) (t := 59) rfl rfl (fun q => absurd (q.symm.trans ((hI_ge (by omega) (by omega)).trans (decide_eq_false (by omega)))) (by decide)) (fun _ => ?_)
    refine wp_i rfl rfl rfl rfl ?_
    show pm_WP PT fr lo 184 (19, [some (.ref 162), some (.int (nI (k + (n + 1)))), some (.int v), some (.int (nI k))], [.ref 162], h, 198, sl) _
    refine wp_callM (t := 182) (As := []) (rest := []) (mx := 1) rfl rfl rfl rfl (Nat.le_of_ble_eq_true rfl) (Nat.le_of_ble_eq_true rfl) (by omega) (by omega) rfl (mF_obj h14) (wp_mono (hd_isDigit h16 h17 h14 hA ht ha (by omega) (by omega)) ?_)
    rintro _ rfl
    unfold nbr
    cases hd : dg tp a t with
    | false =>
      refine wp_i rfl rfl rfl rfl ?_
      refine wp_i rfl rfl rfl rfl ?_
      show pm_WP PT fr lo 184 (60, [some (.ref 162), some (.int (nI (k + (n + 1)))), some (.int v), some (.int (nI k))], [.int v], h, 198, sl) _
      refine wp_iret rfl rfl ?_
      show _ = (some (Value.int v), mset h 16 (.int (nI a)), 198, sl)
      rw [mset_same h16]
    | true =>
      have hlt := dg_lt hd
      refine wp_i rfl rfl rfl rfl ?_
      refine wp_i rfl rfl rfl rfl ?_
      refine wp_i rfl rfl rfl rfl ?_
      refine wp_i rfl rfl rfl rfl ?_
      refine wp_i rfl rfl rfl rfl ?_
      show pm_WP PT fr lo 184 (30, [some (.ref 162), some (.int (nI (k + (n + 1)))), some (.int v), some (.int (nI k))], [.ref 162, .int (10 * v)], h, 198, sl) _
      refine wp_gfm rfl rfl h14 ?_
      refine wp_i rfl rfl rfl rfl ?_
      show pm_WP PT fr lo 184 (34, [some (.ref 162), some (.int (nI (k + (n + 1)))), some (.int v), some (.int (nI k))], [.ref 162, .ref 172, .int (10 * v)], h, 198, sl) _
      refine wp_gfm rfl rfl h16 ?_
      show pm_WP PT fr lo 184 (37, [some (.ref 162), some (.int (nI (k + (n + 1)))), some (.int v), some (.int (nI k))], [.int (nI a), .ref 172, .int (10 * v)], h, 198, sl) _
      refine wp_iam rfl hA (hI_in (by omega) (by omega)) (by decide) ?_
      rw [nI_clamp (by omega)]
      refine wp_i rfl rfl rfl rfl ?_
      refine wp_i rfl rfl rfl rfl ?_
      refine wp_i rfl rfl rfl rfl ?_
      refine wp_i rfl rfl rfl rfl ?_
      show pm_WP PT fr lo 184 (43, [some (.ref 162), some (.int (nI (k + (n + 1)))), some (.int (((10 * v) + (tp a)) - 48)), some (.int (nI k))], [], h, 198, sl) _
      refine wp_i rfl rfl rfl rfl ?_
      refine wp_i rfl rfl rfl rfl ?_
      show pm_WP PT fr lo 184 (45, [some (.ref 162), some (.int (nI (k + (n + 1)))), some (.int (((10 * v) + (tp a)) - 48)), some (.int (nI k))], [.ref 162, .ref 162], h, 198, sl) _
      refine wp_gfm rfl rfl h16 ?_
      refine wp_i rfl rfl rfl rfl ?_
      refine wp_i rfl rfl rfl rfl ?_
      show pm_WP PT fr lo 184 (50, [some (.ref 162), some (.int (nI (k + (n + 1)))), some (.int (((10 * v) + (tp a)) - 48)), some (.int (nI k))], [.int (nI a + 1), .ref 162], h, 198, sl) _
      rw [nI_1 a]
      show pm_WP PT fr lo 184 (50, [some (.ref 162), some (.int (nI (k + (n + 1)))), some (.int (((10 * v) + (tp a)) - 48)), some (.int (nI k))], [.int (nI (a + 1)), .ref 162], h, 198, sl) _
      refine wp_pfm rfl rfl rfl (by decide) h16 ?_
      refine wp_i rfl rfl rfl rfl ?_
      refine wp_i rfl rfl rfl rfl ?_
      show pm_WP PT fr lo 184 (13, [some (.ref 162), some (.int (nI (k + (n + 1)))), some (.int (((10 * v) + (tp a)) - 48)), some (.int (nI k + 1))], [], (mset h 16 (.int (nI (a + 1)))), 198, sl) _
      rw [nI_1 k, show k + (n + 1) = (k + 1) + n by omega]
      refine wp_mono (ih (k + 1) (a + 1) (10 * v + tp a - 48) (mset h 16 (.int (nI (a + 1)))) (mF_self h16) (mF_ne (by decide) h17) (mF_ne (by decide) h14) (mset_arr (by decide) hA) (by omega) (by omega)) ?_
      rintro _ rfl
      rw [mset_mset]
      rfl
theorem hd_number {a t : Nat} {tp : Nat → Int32} (h16 : mF h 16 (.int (nI a))) (h17 : mF h 17 (.int (nI t))) (h14 : mF h 14 (.ref 172)) (hA : h 172 = .inl (0, 80, .inl tp)) (ht : t ≤ 80) (ha : a < 1000) (hf : 3 ≤ fr) (hl : 200 ≤ lo) {d : Nat} (hd : d < 900) : pm_WP PT fr lo 184 (0, pm_l0 [.ref 162, .int (nI d)] 4, [], h, 198, sl) (fun r => r = cond (dg tp a t) (some (.int (nbr tp t d a 0).2), mset h 16 (.int (nI (nbr tp t d a 0).1)), 198, sl) (some (.int (-1)), h, 198, sl)) := by
  refine wp_i rfl rfl rfl rfl ?_
  show pm_WP PT fr lo 184 (1, [some (.ref 162), some (.int (nI d)), none, none], [.ref 162], h, 198, sl) _
  refine wp_callM (t := 182) (As := []) (rest := []) (mx := 1) rfl rfl rfl rfl (Nat.le_of_ble_eq_true rfl) (Nat.le_of_ble_eq_true rfl) (by omega) (by omega) rfl (mF_obj h14) (wp_mono (hd_isDigit h16 h17 h14 hA ht ha (by omega) (by omega)) ?_)
  rintro _ rfl
  cases dg tp a t with
  | false =>
    refine wp_i rfl rfl rfl rfl ?_
    refine wp_i rfl rfl rfl rfl ?_
    show pm_WP PT fr lo 184 (8, [some (.ref 162), some (.int (nI d)), none, none], [.int (-1)], h, 198, sl) _
    exact wp_iret rfl rfl rfl
  | true =>
    refine wp_i rfl rfl rfl rfl ?_
    refine wp_i rfl rfl rfl rfl ?_
    refine wp_i rfl rfl rfl rfl ?_
    refine wp_i rfl rfl rfl rfl ?_
    refine wp_i rfl rfl rfl rfl ?_
    show pm_WP PT fr lo 184 (13, [some (.ref 162), some (.int (nI d)), some (.int 0), some (.int 0)], [], h, 198, sl) _
    have e := hd_numberL (fr := fr) (lo := lo) (sl := sl) (tp := tp) ht hf hl d 0 a 0 h h16 h17 h14 hA ha (by omega)
    rw [Nat.zero_add] at e
    exact e
def dgi (tp : Nat → Int32) (a t : Nat) (l u : Int32) : Bool := decide (a < t) && in_b (tp a - 48).toInt64 l.toInt64 u.toInt64
theorem hd_digitIn {a t : Nat} {tp : Nat → Int32} (h16 : mF h 16 (.int (nI a))) (h17 : mF h 17 (.int (nI t))) (h14 : mF h 14 (.ref 172)) (hA : h 172 = .inl (0, 80, .inl tp)) (ht : t ≤ 80) (ha : a < 1000) (hf : 2 ≤ fr) (hl : 100 ≤ lo) (l u : Int32) : pm_WP PT fr lo 185 (0, pm_l0 [.ref 162, .int l, .int u] 3, [], h, 198, sl) (fun r => r = cond (dgi tp a t l u) (some (.int (tp a - 48)), mset h 16 (.int (nI (a + 1))), 198, sl) (some (.int (-1)), h, 198, sl)) := by
  refine wp_i rfl rfl rfl rfl ?_
  show pm_WP PT fr lo 185 (1, [some (.ref 162), some (.int l), some (.int u)], [.ref 162], h, 198, sl) _
  refine wp_gfm rfl rfl h16 ?_
  refine wp_i rfl rfl rfl rfl ?_
  show pm_WP PT fr lo 185 (5, [some (.ref 162), some (.int l), some (.int u)], [.ref 162, .int (nI a)], h, 198, sl) _
  refine wp_gfm rfl rfl h17 ?_
  show pm_WP PT fr lo 185 (8, [some (.ref 162), some (.int l), some (.int u)], [.int (nI t), .int (nI a)], h, 198, sl) _
  refine wp_icmp (c := .ge) (off := 26) (t := 34) rfl rfl (fun q => ?_) (fun q => ?_)
  · have q : t ≤ a := of_decide_eq_true ((hI_ge (by omega) (by omega)).symm.trans q)
    have e : dgi tp a t l u = false := by simp [dgi]; omega
    rw [e]
    refine wp_i rfl rfl rfl rfl ?_
    show pm_WP PT fr lo 185 (35, [some (.ref 162), some (.int l), some (.int u)], [.int (-1)], h, 198, sl) _
    exact wp_iret rfl rfl rfl
  · have q0 : ¬ t ≤ a := of_decide_eq_false ((hI_ge (by omega) (by omega)).symm.trans q)
    refine wp_i rfl rfl rfl rfl ?_
    show pm_WP PT fr lo 185 (12, [some (.ref 162), some (.int l), some (.int u)], [.ref 162], h, 198, sl) _
    refine wp_gfm rfl rfl h14 ?_
    refine wp_i rfl rfl rfl rfl ?_
    show pm_WP PT fr lo 185 (16, [some (.ref 162), some (.int l), some (.int u)], [.ref 162, .ref 172], h, 198, sl) _
    refine wp_gfm rfl rfl h16 ?_
    show pm_WP PT fr lo 185 (19, [some (.ref 162), some (.int l), some (.int u)], [.int (nI a), .ref 172], h, 198, sl) _
    refine wp_iam rfl hA (hI_in (by omega) (by omega)) (by decide) ?_
    rw [nI_clamp (by omega)]
    refine wp_i rfl rfl rfl rfl ?_
    refine wp_i rfl rfl rfl rfl ?_
    refine wp_i rfl rfl rfl rfl ?_
    refine wp_i rfl rfl rfl rfl ?_
    refine wp_i rfl rfl rfl rfl ?_
    refine wp_i rfl rfl rfl rfl ?_
    refine wp_i rfl rfl rfl rfl ?_
    show pm_WP PT fr lo 185 (28, [some (.ref 162), some (.int l), some (.int u)], [.long (u).toInt64, .long (l).toInt64, .long (((tp a) - 48)).toInt64], h, 198, sl) _
    refine wp_callS (t := 163) (As := [.long (((tp a) - 48)).toInt64, .long (l).toInt64, .long (u).toInt64]) (rest := []) (mx := 6) rfl rfl rfl rfl (Nat.le_of_ble_eq_true rfl) (Nat.le_of_ble_eq_true rfl) (by omega) (by omega) (wp_mono (hd_in (tp a - 48).toInt64 l.toInt64 u.toInt64) ?_)
    rintro _ rfl
    have e : dgi tp a t l u = in_b (tp a - 48).toInt64 l.toInt64 u.toInt64 := by simp [dgi, show a < t by omega]
    rw [e]
    cases in_b (tp a - 48).toInt64 l.toInt64 u.toInt64 with
    | false =>
      refine wp_i rfl rfl rfl rfl ?_
      refine wp_i rfl rfl rfl rfl ?_
      show pm_WP PT fr lo 185 (35, [some (.ref 162), some (.int l), some (.int u)], [.int (-1)], h, 198, sl) _
      exact wp_iret rfl rfl rfl
    | true =>
      refine wp_i rfl rfl rfl rfl ?_
      refine wp_i rfl rfl rfl rfl ?_
      refine wp_i rfl rfl rfl rfl ?_
      show pm_WP PT fr lo 185 (38, [some (.ref 162), some (.int l), some (.int u)], [.ref 162, .ref 162], h, 198, sl) _
      refine wp_gfm rfl rfl h16 ?_
      refine wp_i rfl rfl rfl rfl ?_
      refine wp_i rfl rfl rfl rfl ?_
      show pm_WP PT fr lo 185 (43, [some (.ref 162), some (.int l), some (.int u)], [.int (nI a + 1), .ref 162], h, 198, sl) _
      rw [nI_1 a]
      show pm_WP PT fr lo 185 (43, [some (.ref 162), some (.int l), some (.int u)], [.int (nI (a + 1)), .ref 162], h, 198, sl) _
      refine wp_pfm rfl rfl rfl (by decide) h16 ?_
      refine wp_i rfl rfl rfl rfl ?_
      show pm_WP PT fr lo 185 (47, [some (.ref 162), some (.int l), some (.int u)], [.ref 162], (mset h 16 (.int (nI (a + 1)))), 198, sl) _
      refine wp_gfm rfl rfl (mF_ne (by decide) h14) ?_
      refine wp_i rfl rfl rfl rfl ?_
      show pm_WP PT fr lo 185 (51, [some (.ref 162), some (.int l), some (.int u)], [.ref 162, .ref 172], (mset h 16 (.int (nI (a + 1)))), 198, sl) _
      refine wp_gfm rfl rfl (mF_self h16) ?_
      refine wp_i rfl rfl rfl rfl ?_
      refine wp_i rfl rfl rfl rfl ?_
      show pm_WP PT fr lo 185 (56, [some (.ref 162), some (.int l), some (.int u)], [.int ((nI (a + 1)) - 1), .ref 172], (mset h 16 (.int (nI (a + 1)))), 198, sl) _
      rw [nI_pred a]
      show pm_WP PT fr lo 185 (56, [some (.ref 162), some (.int l), some (.int u)], [.int (nI a), .ref 172], (mset h 16 (.int (nI (a + 1)))), 198, sl) _
      refine wp_iam rfl (mset_arr (by decide) hA) (hI_in (by omega) (by omega)) (by decide) ?_
      rw [nI_clamp (by omega)]
      refine wp_i rfl rfl rfl rfl ?_
      refine wp_i rfl rfl rfl rfl ?_
      show pm_WP PT fr lo 185 (60, [some (.ref 162), some (.int l), some (.int u)], [.int ((tp a) - 48)], (mset h 16 (.int (nI (a + 1)))), 198, sl) _
      exact wp_iret rfl rfl rfl
end PRM
