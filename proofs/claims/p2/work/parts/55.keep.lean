/-! keep and again, by hand -/
section KEP
variable {fr lo sl : Nat} {h : pm_H} {Q : pm_Rs → Prop}
/-- an array of booleans -/
def zset (h : pm_H) (a n : Nat) (f : Nat → Int32) : pm_H := va_up h a (.inl (3, n, .inl f))
theorem zset_nei {a b n : Nat} {f : Nat → Int32} (hn : b ≠ a) : zset h a n f b = h b := by simp [zset, va_up, hn]
theorem zset_self (h : pm_H) (a n : Nat) (f : Nat → Int32) : zset h a n f a = .inl (3, n, .inl f) := by simp [zset, va_up]
theorem mF_zs {a n g : Nat} {f : Nat → Int32} {w : Value} (hn : 162 ≠ a) (q : mF h g w) : mF (zset h a n f) g w := by
  obtain ⟨fs, e, e1⟩ := q
  exact ⟨fs, by rw [zset_nei hn]; exact e, e1⟩
theorem pm_iar_z {a n : Nat} {f : Nat → Int32} (ha : h a = .inl (3, n, .inl f)) (hl : a < 198) : pm_iar PT .boolean h 198 a = some (3, n, f) := by
  unfold pm_iar
  rw [if_pos hl, ha]
  exact if_pos rfl
theorem wp_zam {k pc : Nat} {L : pm_L} {r : List Value} {a n : Nat} {i : Int32} {f : Nat → Int32} (hi : pm_ins PT k pc = some (.baload, 1)) (ha : h a = .inl (3, n, .inl f)) (hin : pm_in i n = true) (hl : a < 198) (kk : pm_WP PT fr lo k (pc + 1, L, .int (f i.toNatClampNeg) :: r, h, 198, sl) Q) : pm_WP PT fr lo k (pc, L, .int i :: .ref a :: r, h, 198, sl) Q := by
  refine wp_i hi rfl rfl ?_ kk
  show pm_ia PT .boolean pc L (.int i :: .ref a :: r) h 198 sl = _
  unfold pm_ia
  dsimp only
  rw [pm_iar_z ha hl]
  dsimp only
  rw [if_pos hin]
theorem wp_zsm {k pc : Nat} {L : pm_L} {r : List Value} {a n : Nat} {i x : Int32} {f : Nat → Int32} (hi : pm_ins PT k pc = some (.bastore, 1)) (ha : h a = .inl (3, n, .inl f)) (hin : pm_in i n = true) (hl : a < 198) (kk : pm_WP PT fr lo k (pc + 1, L, r, zset h a n (upd f i.toNatClampNeg (vp_nar .boolean x)), 198, sl) Q) : pm_WP PT fr lo k (pc, L, .int x :: .int i :: .ref a :: r, h, 198, sl) Q := by
  refine wp_i hi rfl rfl ?_ kk
  show pm_iS PT .boolean (fun x => vp_nar .boolean x) pc L (.int x :: .int i :: .ref a :: r) h 198 sl = _
  unfold pm_iS
  dsimp only
  rw [pm_iar_z ha hl]
  dsimp only
  rw [if_pos hin]
  rfl
theorem in3 (i : Int32) : in_b i.toInt64 0 2 = true → ∃ j, j < 3 ∧ i = nI j := by
  intro q
  unfold in_b at q
  rw [Bool.and_eq_true] at q
  have e1 : ¬ i.toInt64 < 0 := by simpa using q.1
  have e2 : ¬ (2 : Int64) < i.toInt64 := by simpa using q.2
  rw [Int64.lt_iff_toInt_lt, Int32.toInt_toInt64] at e1 e2
  have n1 : (0 : Int64).toInt = 0 := by decide
  have n2 : (2 : Int64).toInt = 2 := by decide
  rw [n1] at e1
  rw [n2] at e2
  obtain ⟨j, rfl, hj, ej⟩ := hI_of (show 0 ≤ i.toInt by omega)
  exact ⟨j, by omega, rfl⟩
theorem cp_keep {f g : Nat → Int32} {i : Nat} (hi : i < 3) (h54 : mF h 54 (.ref 196)) (h12 : mF h 12 (.ref 170)) (hN : h 170 = .inl (0, 96, .inl f)) (kk : ∀ gk : Nat → Int32, cpk f g gk (0) (96 * i) 96 → pm_WP PT fr lo 264 (67, [some (.ref 162), some (.int (nI i)), some (.int (nI 96))], [], aset h 196 288 gk, 198, sl) Q) : ∀ (m k : Nat) (gk : Nat → Int32), k + m = 96 → cpk f g gk (0) (96 * i) k → pm_WP PT fr lo 264 (38, [some (.ref 162), some (.int (nI i)), some (.int (nI k))], [], aset h 196 288 gk, 198, sl) Q := by
  intro m
  induction m with
  | zero =>
    intro k gk hk hc
    obtain rfl : k = 96 := by omega
    refine wp_i rfl rfl rfl rfl ?_
    refine wp_i rfl rfl rfl rfl ?_
    show pm_WP PT fr lo 264 (41, [some (.ref 162), some (.int (nI i)), some (.int (nI 96))], [.int 96, .int (nI 96)], (aset h 196 288 gk), 198, sl) _
    refine wp_icmp (c := .ge) (off := 26) (t := 67) rfl rfl (fun _ => ?_) (fun q => absurd (q.symm.trans ((hI_ge (b := 96) (by omega) (by omega)).trans (decide_eq_true (by omega)))) (by decide))
    show pm_WP PT fr lo 264 (67, [some (.ref 162), some (.int (nI i)), some (.int (nI 96))], [], (aset h 196 288 gk), 198, sl) _
    exact kk gk hc
  | succ m ih =>
    intro k gk hk hc
    refine wp_i rfl rfl rfl rfl ?_
    refine wp_i rfl rfl rfl rfl ?_
    show pm_WP PT fr lo 264 (41, [some (.ref 162), some (.int (nI i)), some (.int (nI k))], [.int 96, .int (nI k)], (aset h 196 288 gk), 198, sl) _
    refine wp_icmp (c := .ge) (off := 26) (t := 67) rfl rfl (fun q => absurd (q.symm.trans ((hI_ge (b := 96) (by omega) (by omega)).trans (decide_eq_false (by omega)))) (by decide)) (fun _ => ?_)
    refine wp_i rfl rfl rfl rfl ?_
    show pm_WP PT fr lo 264 (45, [some (.ref 162), some (.int (nI i)), some (.int (nI k))], [.ref 162], (aset h 196 288 gk), 198, sl) _
    refine wp_gfm rfl rfl (mF_as (by decide) h54) ?_
    refine wp_i rfl rfl rfl rfl ?_
    refine wp_i rfl rfl rfl rfl ?_
    refine wp_i rfl rfl rfl rfl ?_
    refine wp_i rfl rfl rfl rfl ?_
    refine wp_i rfl rfl rfl rfl ?_
    refine wp_i rfl rfl rfl rfl ?_
    show pm_WP PT fr lo 264 (55, [some (.ref 162), some (.int (nI i)), some (.int (nI k))], [.ref 162, .int ((96 * (nI i)) + (nI k)), .ref 196], (aset h 196 288 gk), 198, sl) _
    refine wp_gfm rfl rfl (mF_as (by decide) h12) ?_
    refine wp_i rfl rfl rfl rfl ?_
    show pm_WP PT fr lo 264 (59, [some (.ref 162), some (.int (nI i)), some (.int (nI k))], [.int (nI k), .ref 170, .int ((96 * (nI i)) + (nI k)), .ref 196], (aset h 196 288 gk), 198, sl) _
    refine wp_iam rfl (aset_ne (by decide) hN) (hI_in (by omega) (by omega)) (by decide) ?_
    rw [nI_clamp (by omega), ix96 i k]
    show pm_WP PT fr lo 264 (60, [some (.ref 162), some (.int (nI i)), some (.int (nI k))], [.int (f k), .int (nI (96 * i + k)), .ref 196], (aset h 196 288 gk), 198, sl) _
    refine wp_ism rfl (aset_self _ _ _ _) (hI_in (by omega) (by omega)) (by decide) ?_
    rw [nI_clamp (by omega)]
    have e0 : upd gk (96 * i + k) (f k) = upd gk (96 * i + k) (f (0 + k)) := by rw [Nat.zero_add]
    rw [e0]
    refine wp_i rfl rfl rfl rfl ?_
    refine wp_i rfl rfl rfl rfl ?_
    show pm_WP PT fr lo 264 (38, [some (.ref 162), some (.int (nI i)), some (.int (nI k + 1))], [], (aset (aset h 196 288 gk) 196 288 (upd gk (96 * i + k) (f (0 + k)))), 198, sl) _
    rw [nI_1 k, aset_aset]
    exact ih (k + 1) _ (by omega) (cpk_up hc)
theorem hd_keep {f g b c : Nat → Int32} {ch : Int32} {x0 : Value} (v : Int32) (h0 : mF h 0 x0) (h5 : mF h 5 (.int ch)) (h52 : mF h 52 (.ref 194)) (h53 : mF h 53 (.ref 195)) (h54 : mF h 54 (.ref 196)) (h12 : mF h 12 (.ref 170)) (hN : h 170 = .inl (0, 96, .inl f)) (hK : h 196 = .inl (0, 288, .inl g)) (hB : h 194 = .inl (3, 3, .inl b)) (hCh : h 195 = .inl (0, 3, .inl c)) (hf : 1 ≤ fr) (hl : 30 ≤ lo) : pm_WP PT fr lo 264 (0, pm_l0 [.ref 162, .int v] 3, [], h, 198, sl) (fun r => (in_b v.toInt64 0 2 = false ∧ r = (some (.int 0), mset h 0 (.int 0), 198, sl)) ∨ ∃ (i : Nat) (g2 : Nat → Int32), i < 3 ∧ v = nI i ∧ r = (some (.int 1), aset (aset (zset (mset h 0 (.int 0)) 194 3 (upd b i 1)) 195 3 (upd c i ch)) 196 288 g2, 198, sl) ∧ cpk f g g2 0 (96 * i) 96) := by
  refine wp_i rfl rfl rfl rfl ?_
  refine wp_i rfl rfl rfl rfl ?_
  show pm_WP PT fr lo 264 (2, [some (.ref 162), some (.int v), none], [.int 0, .ref 162], h, 198, sl) _
  refine wp_pfm rfl rfl rfl (by decide) h0 ?_
  refine wp_i rfl rfl rfl rfl ?_
  refine wp_i rfl rfl rfl rfl ?_
  refine wp_i rfl rfl rfl rfl ?_
  refine wp_i rfl rfl rfl rfl ?_
  show pm_WP PT fr lo 264 (11, [some (.ref 162), some (.int v), none], [.long 2, .long 0, .long (v).toInt64], (mset h 0 (.int 0)), 198, sl) _
  refine wp_callS (t := 163) (As := [.long (v).toInt64, .long 0, .long 2]) (rest := []) (mx := 6) rfl rfl rfl rfl (Nat.le_of_ble_eq_true rfl) (Nat.le_of_ble_eq_true rfl) (by omega) (by omega) (wp_mono (hd_in v.toInt64 0 2) ?_)
  rintro _ rfl
  cases hin : in_b v.toInt64 0 2 with
  | false =>
    refine wp_i rfl rfl rfl rfl ?_
    refine wp_i rfl rfl rfl rfl ?_
    show pm_WP PT fr lo 264 (18, [some (.ref 162), some (.int v), none], [.int 0], (mset h 0 (.int 0)), 198, sl) _
    exact wp_zret rfl rfl (by decide) (Or.inl ⟨rfl, rfl⟩)
  | true =>
    obtain ⟨i, hi, rfl⟩ := in3 v hin
    refine wp_i rfl rfl rfl rfl ?_
    refine wp_i rfl rfl rfl rfl ?_
    show pm_WP PT fr lo 264 (20, [some (.ref 162), some (.int (nI i)), none], [.ref 162], (mset h 0 (.int 0)), 198, sl) _
    refine wp_gfm rfl rfl (mF_ne (by decide) h52) ?_
    refine wp_i rfl rfl rfl rfl ?_
    refine wp_i rfl rfl rfl rfl ?_
    show pm_WP PT fr lo 264 (25, [some (.ref 162), some (.int (nI i)), none], [.int 1, .int (nI i), .ref 194], (mset h 0 (.int 0)), 198, sl) _
    refine wp_zsm rfl (by rw [mset_ne (by decide)]; exact hB) (hI_in hi (by decide)) (by decide) ?_
    rw [nI_clamp (by omega), show vp_nar .boolean 1 = (1 : Int32) from rfl]
    have z5 : mF (zset (mset h 0 (.int 0)) 194 3 (upd b i 1)) 5 (.int ch) := mF_zs (by decide) (mF_ne (by decide) h5)
    have z53 : mF (zset (mset h 0 (.int 0)) 194 3 (upd b i 1)) 53 (.ref 195) := mF_zs (by decide) (mF_ne (by decide) h53)
    have z54 : mF (zset (mset h 0 (.int 0)) 194 3 (upd b i 1)) 54 (.ref 196) := mF_zs (by decide) (mF_ne (by decide) h54)
    have z12 : mF (zset (mset h 0 (.int 0)) 194 3 (upd b i 1)) 12 (.ref 170) := mF_zs (by decide) (mF_ne (by decide) h12)
    have zN : (zset (mset h 0 (.int 0)) 194 3 (upd b i 1)) 170 = .inl (0, 96, .inl f) := by rw [zset_nei (by decide), mset_ne (by decide)]; exact hN
    have zK : (zset (mset h 0 (.int 0)) 194 3 (upd b i 1)) 196 = .inl (0, 288, .inl g) := by rw [zset_nei (by decide), mset_ne (by decide)]; exact hK
    have zC : (zset (mset h 0 (.int 0)) 194 3 (upd b i 1)) 195 = .inl (0, 3, .inl c) := by rw [zset_nei (by decide), mset_ne (by decide)]; exact hCh
    generalize hz : (zset (mset h 0 (.int 0)) 194 3 (upd b i 1)) = hh at z5 z53 z54 z12 zN zK zC
    show pm_WP PT fr lo 264 (26, [some (.ref 162), some (.int (nI i)), none], [], hh, 198, sl) _
    refine wp_i rfl rfl rfl rfl ?_
    show pm_WP PT fr lo 264 (27, [some (.ref 162), some (.int (nI i)), none], [.ref 162], hh, 198, sl) _
    refine wp_gfm rfl rfl z53 ?_
    refine wp_i rfl rfl rfl rfl ?_
    refine wp_i rfl rfl rfl rfl ?_
    show pm_WP PT fr lo 264 (32, [some (.ref 162), some (.int (nI i)), none], [.ref 162, .int (nI i), .ref 195], hh, 198, sl) _
    refine wp_gfm rfl rfl z5 ?_
    show pm_WP PT fr lo 264 (35, [some (.ref 162), some (.int (nI i)), none], [.int ch, .int (nI i), .ref 195], hh, 198, sl) _
    refine wp_ism rfl zC (hI_in hi (by decide)) (by decide) ?_
    rw [nI_clamp (by omega)]
    refine wp_i rfl rfl rfl rfl ?_
    refine wp_i rfl rfl rfl rfl ?_
    show pm_WP PT fr lo 264 (38, [some (.ref 162), some (.int (nI i)), some (.int 0)], [], (aset hh 195 3 (upd c i ch)), 198, sl) _
    have e9 := aset_same (aset_ne (a := 195) (n := 3) (f := upd c i ch) (by decide) zK)
    rw [← e9]
    refine cp_keep (f := f) (g := g) hi (mF_as (by decide) z54) (mF_as (by decide) z12) (aset_ne (by decide) zN) (fun gk hc => ?_) 96 0 g (by omega) (cpk_0 f g 0 (96 * i))
    refine wp_i rfl rfl rfl rfl ?_
    show pm_WP PT fr lo 264 (68, [some (.ref 162), some (.int (nI i)), some (.int (nI 96))], [.int 1], (aset (aset hh 195 3 (upd c i ch)) 196 288 gk), 198, sl) _
    exact wp_zret rfl rfl (by decide) (Or.inr ⟨i, gk, hi, rfl, by rw [hz], hc⟩)
theorem cp_again {f g : Nat → Int32} {i : Nat} (hi : i < 3) (h54 : mF h 54 (.ref 196)) (h12 : mF h 12 (.ref 170)) (hK : h 196 = .inl (0, 288, .inl f)) (kk : ∀ gk : Nat → Int32, cpk f g gk (96 * i) (0) 96 → pm_WP PT fr lo 265 (72, [some (.ref 162), some (.int (nI i)), some (.int (nI 96))], [], aset h 170 96 gk, 198, sl) Q) : ∀ (m k : Nat) (gk : Nat → Int32), k + m = 96 → cpk f g gk (96 * i) (0) k → pm_WP PT fr lo 265 (43, [some (.ref 162), some (.int (nI i)), some (.int (nI k))], [], aset h 170 96 gk, 198, sl) Q := by
  intro m
  induction m with
  | zero =>
    intro k gk hk hc
    obtain rfl : k = 96 := by omega
    refine wp_i rfl rfl rfl rfl ?_
    refine wp_i rfl rfl rfl rfl ?_
    show pm_WP PT fr lo 265 (46, [some (.ref 162), some (.int (nI i)), some (.int (nI 96))], [.int 96, .int (nI 96)], (aset h 170 96 gk), 198, sl) _
    refine wp_icmp (c := .ge) (off := 26) (t := 72) rfl rfl (fun _ => ?_) (fun q => absurd (q.symm.trans ((hI_ge (b := 96) (by omega) (by omega)).trans (decide_eq_true (by omega)))) (by decide))
    show pm_WP PT fr lo 265 (72, [some (.ref 162), some (.int (nI i)), some (.int (nI 96))], [], (aset h 170 96 gk), 198, sl) _
    exact kk gk hc
  | succ m ih =>
    intro k gk hk hc
    refine wp_i rfl rfl rfl rfl ?_
    refine wp_i rfl rfl rfl rfl ?_
    show pm_WP PT fr lo 265 (46, [some (.ref 162), some (.int (nI i)), some (.int (nI k))], [.int 96, .int (nI k)], (aset h 170 96 gk), 198, sl) _
    refine wp_icmp (c := .ge) (off := 26) (t := 72) rfl rfl (fun q => absurd (q.symm.trans ((hI_ge (b := 96) (by omega) (by omega)).trans (decide_eq_false (by omega)))) (by decide)) (fun _ => ?_)
    refine wp_i rfl rfl rfl rfl ?_
    show pm_WP PT fr lo 265 (50, [some (.ref 162), some (.int (nI i)), some (.int (nI k))], [.ref 162], (aset h 170 96 gk), 198, sl) _
    refine wp_gfm rfl rfl (mF_as (by decide) h12) ?_
    refine wp_i rfl rfl rfl rfl ?_
    refine wp_i rfl rfl rfl rfl ?_
    show pm_WP PT fr lo 265 (55, [some (.ref 162), some (.int (nI i)), some (.int (nI k))], [.ref 162, .int (nI k), .ref 170], (aset h 170 96 gk), 198, sl) _
    refine wp_gfm rfl rfl (mF_as (by decide) h54) ?_
    refine wp_i rfl rfl rfl rfl ?_
    refine wp_i rfl rfl rfl rfl ?_
    refine wp_i rfl rfl rfl rfl ?_
    refine wp_i rfl rfl rfl rfl ?_
    refine wp_i rfl rfl rfl rfl ?_
    show pm_WP PT fr lo 265 (64, [some (.ref 162), some (.int (nI i)), some (.int (nI k))], [.int ((96 * (nI i)) + (nI k)), .ref 196, .int (nI k), .ref 170], (aset h 170 96 gk), 198, sl) _
    rw [ix96 i k]
    show pm_WP PT fr lo 265 (64, [some (.ref 162), some (.int (nI i)), some (.int (nI k))], [.int (nI (96 * i + k)), .ref 196, .int (nI k), .ref 170], (aset h 170 96 gk), 198, sl) _
    refine wp_iam rfl (aset_ne (by decide) hK) (hI_in (by omega) (by omega)) (by decide) ?_
    rw [nI_clamp (by omega)]
    show pm_WP PT fr lo 265 (65, [some (.ref 162), some (.int (nI i)), some (.int (nI k))], [.int (f (96 * i + k)), .int (nI k), .ref 170], (aset h 170 96 gk), 198, sl) _
    refine wp_ism rfl (aset_self _ _ _ _) (hI_in (by omega) (by omega)) (by decide) ?_
    rw [nI_clamp (by omega)]
    have e0 : upd gk k (f (96 * i + k)) = upd gk (0 + k) (f (96 * i + k)) := by rw [Nat.zero_add]
    rw [e0]
    refine wp_i rfl rfl rfl rfl ?_
    refine wp_i rfl rfl rfl rfl ?_
    show pm_WP PT fr lo 265 (43, [some (.ref 162), some (.int (nI i)), some (.int (nI k + 1))], [], (aset (aset h 170 96 gk) 170 96 (upd gk (0 + k) (f (96 * i + k)))), 198, sl) _
    rw [nI_1 k, aset_aset]
    exact ih (k + 1) _ (by omega) (cpk_up hc)
theorem hd_again {f g b c : Nat → Int32} {ch : Int32} {x0 x27 : Value} (v : Int32) (h0 : mF h 0 x0) (h5 : mF h 5 (.int ch)) (h27 : mF h 27 x27) (h52 : mF h 52 (.ref 194)) (h53 : mF h 53 (.ref 195)) (h54 : mF h 54 (.ref 196)) (h12 : mF h 12 (.ref 170)) (hN : h 170 = .inl (0, 96, .inl g)) (hK : h 196 = .inl (0, 288, .inl f)) (hB : h 194 = .inl (3, 3, .inl b)) (hCh : h 195 = .inl (0, 3, .inl c)) (hf : 1 ≤ fr) (hl : 30 ≤ lo) : pm_WP PT fr lo 265 (0, pm_l0 [.ref 162, .int v] 3, [], h, 198, sl) (fun r => r = (some (.int 0), mset h 0 (.int 0), 198, sl) ∨ ∃ (i : Nat) (g2 : Nat → Int32), i < 3 ∧ v = nI i ∧ r = (some (.int 1), mset (aset (mset h 0 (.int 0)) 170 96 g2) 27 (.int 0), 198, sl) ∧ ∀ j, j < 96 → g2 j = f (96 * i + j)) := by
  refine wp_i rfl rfl rfl rfl ?_
  refine wp_i rfl rfl rfl rfl ?_
  show pm_WP PT fr lo 265 (2, [some (.ref 162), some (.int v), none], [.int 0, .ref 162], h, 198, sl) _
  refine wp_pfm rfl rfl rfl (by decide) h0 ?_
  refine wp_i rfl rfl rfl rfl ?_
  refine wp_i rfl rfl rfl rfl ?_
  refine wp_i rfl rfl rfl rfl ?_
  refine wp_i rfl rfl rfl rfl ?_
  show pm_WP PT fr lo 265 (11, [some (.ref 162), some (.int v), none], [.long 2, .long 0, .long (v).toInt64], (mset h 0 (.int 0)), 198, sl) _
  refine wp_callS (t := 163) (As := [.long (v).toInt64, .long 0, .long 2]) (rest := []) (mx := 6) rfl rfl rfl rfl (Nat.le_of_ble_eq_true rfl) (Nat.le_of_ble_eq_true rfl) (by omega) (by omega) (wp_mono (hd_in v.toInt64 0 2) ?_)
  rintro _ rfl
  cases hin : in_b v.toInt64 0 2 with
  | false =>
    refine wp_i rfl rfl rfl rfl ?_
    refine wp_i rfl rfl rfl rfl ?_
    show pm_WP PT fr lo 265 (40, [some (.ref 162), some (.int v), none], [.int 0], (mset h 0 (.int 0)), 198, sl) _
    exact wp_zret rfl rfl (by decide) (Or.inl rfl)
  | true =>
    obtain ⟨i, hi, rfl⟩ := in3 v hin
    refine wp_i rfl rfl rfl rfl ?_
    refine wp_i rfl rfl rfl rfl ?_
    show pm_WP PT fr lo 265 (18, [some (.ref 162), some (.int (nI i)), none], [.ref 162], (mset h 0 (.int 0)), 198, sl) _
    refine wp_gfm rfl rfl (mF_ne (by decide) h52) ?_
    refine wp_i rfl rfl rfl rfl ?_
    show pm_WP PT fr lo 265 (22, [some (.ref 162), some (.int (nI i)), none], [.int (nI i), .ref 194], (mset h 0 (.int 0)), 198, sl) _
    refine wp_zam rfl (by rw [mset_ne (by decide)]; exact hB) (hI_in hi (by decide)) (by decide) ?_
    rw [nI_clamp (by omega)]
    show pm_WP PT fr lo 265 (23, [some (.ref 162), some (.int (nI i)), none], [.int (b i)], (mset h 0 (.int 0)), 198, sl) _
    refine wp_if (c := .eq) (off := 16) (t := 39) rfl rfl (fun q => ?_) (fun q => ?_)
    · refine wp_i rfl rfl rfl rfl ?_
      show pm_WP PT fr lo 265 (40, [some (.ref 162), some (.int (nI i)), none], [.int 0], (mset h 0 (.int 0)), 198, sl) _
      exact wp_zret rfl rfl (by decide) (Or.inl rfl)
    · refine wp_i rfl rfl rfl rfl ?_
      show pm_WP PT fr lo 265 (27, [some (.ref 162), some (.int (nI i)), none], [.ref 162], (mset h 0 (.int 0)), 198, sl) _
      refine wp_gfm rfl rfl (mF_ne (by decide) h53) ?_
      refine wp_i rfl rfl rfl rfl ?_
      show pm_WP PT fr lo 265 (31, [some (.ref 162), some (.int (nI i)), none], [.int (nI i), .ref 195], (mset h 0 (.int 0)), 198, sl) _
      refine wp_iam rfl (mset_arr (by decide) hCh) (hI_in hi (by decide)) (by decide) ?_
      rw [nI_clamp (by omega)]
      refine wp_i rfl rfl rfl rfl ?_
      show pm_WP PT fr lo 265 (33, [some (.ref 162), some (.int (nI i)), none], [.ref 162, .int (c i)], (mset h 0 (.int 0)), 198, sl) _
      refine wp_gfm rfl rfl (mF_ne (by decide) h5) ?_
      show pm_WP PT fr lo 265 (36, [some (.ref 162), some (.int (nI i)), none], [.int ch, .int (c i)], (mset h 0 (.int 0)), 198, sl) _
      refine wp_icmp (c := .eq) (off := 5) (t := 41) rfl rfl (fun q => ?_) (fun q => ?_)
      · refine wp_i rfl rfl rfl rfl ?_
        refine wp_i rfl rfl rfl rfl ?_
        show pm_WP PT fr lo 265 (43, [some (.ref 162), some (.int (nI i)), some (.int 0)], [], (mset h 0 (.int 0)), 198, sl) _
        have e9 := aset_same (mset_arr (f := 0) (v := .int 0) (by decide) hN)
        rw [← e9]
        refine cp_again (f := f) (g := g) hi (mF_ne (by decide) h54) (mF_ne (by decide) h12) (mset_arr (by decide) hK) (fun gk hc => ?_) 96 0 g (by omega) (cpk_0 f g (96 * i) 0)
        refine wp_i rfl rfl rfl rfl ?_
        refine wp_i rfl rfl rfl rfl ?_
        show pm_WP PT fr lo 265 (74, [some (.ref 162), some (.int (nI i)), some (.int (nI 96))], [.int 0, .ref 162], (aset (mset h 0 (.int 0)) 170 96 gk), 198, sl) _
        refine wp_pfm rfl rfl rfl (by decide) (mF_as (by decide) (mF_ne (by decide) h27)) ?_
        refine wp_i rfl rfl rfl rfl ?_
        show pm_WP PT fr lo 265 (78, [some (.ref 162), some (.int (nI i)), some (.int (nI 96))], [.int 1], (mset (aset (mset h 0 (.int 0)) 170 96 gk) 27 (.int 0)), 198, sl) _
        exact wp_zret rfl rfl (by decide) (Or.inr ⟨i, gk, hi, rfl, by rw [aset_aset], fun j hj => by have := hc.1 j hj; rwa [Nat.zero_add] at this⟩)
      · refine wp_i rfl rfl rfl rfl ?_
        show pm_WP PT fr lo 265 (40, [some (.ref 162), some (.int (nI i)), none], [.int 0], (mset h 0 (.int 0)), 198, sl) _
        exact wp_zret rfl rfl (by decide) (Or.inl rfl)
theorem j64_rem {x y : Int64} (hx : 0 ≤ x.toInt) : (x - x / y * y).toInt = x.toInt % y.toInt := by
  have h1 : (x - x / y * y).toInt = (x.toInt.tmod y.toInt).bmod (2 ^ 64) := by
    rw [Int64.toInt_sub, Int64.toInt_mul, Int64.toInt_div, Int.bmod_mul_bmod, Int.sub_bmod_bmod, Int.mul_comm, ← Int.tmod_def]
  have h2 := (x % y).toInt_lt
  have h3 := (x % y).le_toInt
  rw [Int64.toInt_mod] at h2 h3
  rw [h1, Int.bmod_def]
  rw [Int.tmod_eq_emod_of_nonneg hx] at h2 h3 ⊢
  omega
theorem wp_lrem {k pc : Nat} {L : pm_L} {r : List Value} {x y : Int64} (hi : pm_ins PT k pc = some (.lrem, 1)) (hy : ¬ y = 0) (kk : pm_WP PT fr lo k (pc + 1, L, .long (x - x / y * y) :: r, h, 198, sl) Q) : pm_WP PT fr lo k (pc, L, .long y :: .long x :: r, h, 198, sl) Q := by
  refine wp_i hi rfl rfl ?_ kk
  show pm_bdL (fun x y => x - x / y * y) pc L (.long y :: .long x :: r) h 198 sl = _
  unfold pm_bdL
  dsimp only
  rw [if_neg hy]
theorem hd_common : ∀ (k : Nat) (fr lo : Nat) (a b : Int64), 0 ≤ a.toInt → 0 ≤ b.toInt → 1 ≤ a.toInt + b.toInt → b.toInt < 2 ^ k → 2 * k + 2 ≤ fr → 60 * k + 60 ≤ lo → pm_WP PT fr lo 166 (0, pm_l0 [.long a, .long b] 4, [], h, 198, sl) (fun r => ∃ c : Int64, 1 ≤ c.toInt ∧ r = (some (.long c), h, 198, sl)) := by
  have two : ∀ (fr lo : Nat) (a b : Int64), 0 ≤ a.toInt → 0 ≤ b.toInt → 1 ≤ a.toInt + b.toInt → 1 ≤ fr → 23 ≤ lo → (∀ c : Int64, ¬ b = 0 → c.toInt = a.toInt % b.toInt → pm_WP PT (fr - 1) (lo - 23) 166 (0, pm_l0 [.long b, .long c] 4, [], h, 198, sl) (fun r => ∃ c : Int64, 1 ≤ c.toInt ∧ r = (some (.long c), h, 198, sl))) → pm_WP PT fr lo 166 (0, pm_l0 [.long a, .long b] 4, [], h, 198, sl) (fun r => ∃ c : Int64, 1 ≤ c.toInt ∧ r = (some (.long c), h, 198, sl)) := by
    intro fr lo a b ha hb hab hf hl hrec
    refine wp_i rfl rfl rfl rfl ?_
    refine wp_i rfl rfl rfl rfl ?_
    refine wp_i rfl rfl rfl rfl ?_
    show pm_WP PT fr lo 166 (3, [some (.long a), none, some (.long b), none], [.int (lg_cmp b 0)], h, 198, sl) _
    refine wp_if (c := .ne) (off := 7) (t := 10) rfl rfl (fun q => ?_) (fun q => ?_)
    · have q : ¬ b = 0 := fun e => by rw [e] at q; exact absurd q (by decide)
      refine wp_i rfl rfl rfl rfl ?_
      refine wp_i rfl rfl rfl rfl ?_
      refine wp_i rfl rfl rfl rfl ?_
      show pm_WP PT fr lo 166 (13, [some (.long a), none, some (.long b), none], [.long b, .long a, .long b], h, 198, sl) _
      refine wp_lrem rfl q ?_
      show pm_WP PT fr lo 166 (14, [some (.long a), none, some (.long b), none], [.long (a - a / b * b), .long b], h, 198, sl) _
      refine wp_callS (t := 166) (As := [.long b, .long (a - a / b * b)]) (rest := []) (mx := 4) rfl rfl rfl rfl (Nat.le_of_ble_eq_true rfl) (Nat.le_of_ble_eq_true rfl) hf (by omega) (wp_mono (hrec (a - a / b * b) q (j64_rem ha)) ?_)
      rintro _ ⟨c, hc, rfl⟩
      show pm_WP PT fr lo 166 (17, [some (.long a), none, some (.long b), none], [.long c], h, 198, sl) _
      exact wp_lret rfl rfl ⟨c, hc, rfl⟩
    · have q : b = 0 := by
        apply Int64.toInt_inj.1
        have q1 := Decidable.not_not.mp ((rs_t (P := ¬ lg_cmp b 0 = 0) rfl).2 q)
        have l1 : ¬ b < 0 := fun e => by have := (lg_cmp_lt b 0).mpr e; rw [q1] at this; exact absurd this (by decide)
        have l2 : ¬ 0 < b := fun e => by have := (lg_cmp_gt b 0).mpr e; rw [q1] at this; exact absurd this (by decide)
        rw [Int64.lt_iff_toInt_lt] at l1 l2
        omega
      have hb0 : b.toInt = 0 := by rw [q]; rfl
      refine wp_i rfl rfl rfl rfl ?_
      refine wp_i rfl rfl rfl rfl ?_
      show pm_WP PT fr lo 166 (17, [some (.long a), none, some (.long b), none], [.long a], h, 198, sl) _
      exact wp_lret rfl rfl ⟨a, by omega, rfl⟩
  intro k
  induction k with
  | zero =>
    intro fr lo a b ha hb hab hk hf hl
    have hb0 : b.toInt = 0 := by have : (2 : Int) ^ 0 = 1 := rfl; omega
    refine two fr lo a b ha hb hab (by omega) (by omega) (fun c hne _ => absurd ?_ hne)
    apply Int64.toInt_inj.1
    rw [hb0]
    rfl
  | succ k ih =>
    intro fr lo a b ha hb hab hk hf hl
    refine two fr lo a b ha hb hab (by omega) (by omega) (fun c hne hc => ?_)
    have hbp : 1 ≤ b.toInt := by
      have : ¬ b.toInt = 0 := fun e => hne (by apply Int64.toInt_inj.1; rw [e]; rfl)
      omega
    have c1 := Int.emod_nonneg a.toInt (show b.toInt ≠ 0 by omega)
    have c2 := Int.emod_lt_of_pos a.toInt (show 0 < b.toInt by omega)
    rw [← hc] at c1 c2
    refine two (fr - 1) (lo - 23) b c hb c1 (by omega) (by omega) (by omega) (fun e hne2 he => ?_)
    have hcp : 1 ≤ c.toInt := by
      have : ¬ c.toInt = 0 := fun z => hne2 (by apply Int64.toInt_inj.1; rw [z]; rfl)
      omega
    have e1 := Int.emod_nonneg b.toInt (show c.toInt ≠ 0 by omega)
    have e2 := Int.emod_lt_of_pos b.toInt (show 0 < c.toInt by omega)
    rw [← he] at e1 e2
    have e3 : e.toInt + c.toInt ≤ b.toInt := by
      have d1 := Int.emod_add_mul_ediv b.toInt c.toInt
      have d2 : 1 ≤ b.toInt / c.toInt := by
        apply Int.le_ediv_of_mul_le (by omega)
        omega
      have d3 : c.toInt * 1 ≤ c.toInt * (b.toInt / c.toInt) := Int.mul_le_mul_of_nonneg_left d2 (by omega)
      rw [he]
      omega
    have p2 : (2 : Int) ^ (k + 1) = 2 ^ k * 2 := Int.pow_succ 2 k
    exact ih (fr - 1 - 1) (lo - 23 - 23) c e c1 e1 (by omega) (by omega) (by omega) (by omega)
end KEP
