section MG55keepx0
/-! keep and again, by hand -/
section KEP
variable {fr lo sl : Nat} {h : pm_H} {Q : pm_Rs → Prop}
/-- an array of booleans -/
def zset (h : pm_H) (a n : Nat) (f : Nat → Int32) : pm_H := va_up h a (.inl (3, n, .inl f))
theorem zset_nei {a b n : Nat} {f : Nat → Int32} (hn : b ≠ a) : zset h a n f b = h b := by simp [zset, va_up, hn]
theorem zset_self (h : pm_H) (a n : Nat) (f : Nat → Int32) : zset h a n f a = .inl (3, n, .inl f) := by simp [zset, va_up]
theorem mF_zs {a n g : Nat} {f : Nat → Int32} {w : Value} (hn : 162 ≠ a) (q : mF h g w) : mF (zset h a n f) g w := by
  obtain ⟨fs, e, e1⟩ := q
  exact ⟨fs, by rw [zset_nei hn]; exact e, e1⟩
theorem pm_iar_z {a n : Nat} {f : Nat → Int32} (ha : h a = .inl (3, n, .inl f)) (hl : a < 198) : pm_iar PT .boolean h 198 a = some (3, n, f) := by
  unfold pm_iar
  rw [if_pos hl, ha]
  exact if_pos rfl
theorem wp_zam {k pc : Nat} {L : pm_L} {r : List Value} {a n : Nat} {i : Int32} {f : Nat → Int32} (hi : pm_ins PT k pc = some (.baload, 1)) (ha : h a = .inl (3, n, .inl f)) (hin : pm_in i n = true) (hl : a < 198) (kk : pm_WP PT fr lo k (pc + 1, L, .int (f i.toNatClampNeg) :: r, h, 198, sl) Q) : pm_WP PT fr lo k (pc, L, .int i :: .ref a :: r, h, 198, sl) Q := by
  refine wp_i hi rfl rfl ?_ kk
  show pm_ia PT .boolean pc L (.int i :: .ref a :: r) h 198 sl = _
  unfold pm_ia
  dsimp only
  rw [pm_iar_z ha hl]
  dsimp only
  rw [if_pos hin]
theorem wp_zsm {k pc : Nat} {L : pm_L} {r : List Value} {a n : Nat} {i x : Int32} {f : Nat → Int32} (hi : pm_ins PT k pc = some (.bastore, 1)) (ha : h a = .inl (3, n, .inl f)) (hin : pm_in i n = true) (hl : a < 198) (kk : pm_WP PT fr lo k (pc + 1, L, r, zset h a n (upd f i.toNatClampNeg (vp_nar .boolean x)), 198, sl) Q) : pm_WP PT fr lo k (pc, L, .int x :: .int i :: .ref a :: r, h, 198, sl) Q := by
  refine wp_i hi rfl rfl ?_ kk
  show pm_iS PT .boolean (fun x => vp_nar .boolean x) pc L (.int x :: .int i :: .ref a :: r) h 198 sl = _
  unfold pm_iS
  dsimp only
  rw [pm_iar_z ha hl]
  dsimp only
  rw [if_pos hin]
  rfl
theorem in3 (i : Int32) : in_b i.toInt64 0 2 = true → ∃ j, j < 3 ∧ i = nI j := by
  intro q
  unfold in_b at q
  rw [Bool.and_eq_true] at q
  have e1 : ¬ i.toInt64 < 0 := by simpa using q.1
  have e2 : ¬ (2 : Int64) < i.toInt64 := by simpa using q.2
  rw [Int64.lt_iff_toInt_lt, Int32.toInt_toInt64] at e1 e2
  have n1 : (0 : Int64).toInt = 0 := by decide
  have n2 : (2 : Int64).toInt = 2 := by decide
  rw [n1] at e1
  rw [n2] at e2
  obtain ⟨j, rfl, hj, ej⟩ := hI_of (show 0 ≤ i.toInt by omega)
  exact ⟨j, by omega, rfl⟩
theorem cp_keep {f g : Nat → Int32} {i : Nat} (hi : i < 3) (h54 : mF h 54 (.ref 196)) (h12 : mF h 12 (.ref 170)) (hN : h 170 = .inl (0, 96, .inl f)) (kk : ∀ gk : Nat → Int32, cpk f g gk (0) (96 * i) 96 → pm_WP PT fr lo 264 (67, [some (.ref 162), some (.int (nI i)), some (.int (nI 96))], [], aset h 196 288 gk, 198, sl) Q) : ∀ (m k : Nat) (gk : Nat → Int32), k + m = 96 → cpk f g gk (0) (96 * i) k → pm_WP PT fr lo 264 (38, [some (.ref 162), some (.int (nI i)), some (.int (nI k))], [], aset h 196 288 gk, 198, sl) Q := by
  intro m
  induction m with
  | zero =>
    intro k gk hk hc
    obtain rfl : k = 96 := by omega
    refine wp_i rfl rfl rfl rfl ?_
    refine wp_i rfl rfl rfl rfl ?_
    show pm_WP PT fr lo 264 (41, [some (.ref 162), some (.int (nI i)), some (.int (nI 96))], [.int 96, .int (nI 96)], (aset h 196 288 gk), 198, sl) _
    refine wp_icmp (c := .ge) (off := 26) (t := 67) rfl rfl (fun _ => ?_) (fun q => absurd (q.symm.trans ((hI_ge (b := 96) (by omega) (by omega)).trans (decide_eq_true (by omega)))) (by decide))
    show pm_WP PT fr lo 264 (67, [some (.ref 162), some (.int (nI i)), some (.int (nI 96))], [], (aset h 196 288 gk), 198, sl) _
    exact kk gk hc
  | succ m ih =>
    intro k gk hk hc
    refine wp_i rfl rfl rfl rfl ?_
    refine wp_i rfl rfl rfl rfl ?_
    show pm_WP PT fr lo 264 (41, [some (.ref 162), some (.int (nI i)), some (.int (nI k))], [.int 96, .int (nI k)], (aset h 196 288 gk), 198, sl) _
    refine wp_icmp (c := .ge) (off := 26) (t := 67) rfl rfl (fun q => absurd (q.symm.trans ((hI_ge (b := 96) (by omega) (by omega)).trans (decide_eq_false (by omega)))) (by decide)) (fun _ => ?_)
    refine wp_i rfl rfl rfl rfl ?_
    show pm_WP PT fr lo 264 (45, [some (.ref 162), some (.int (nI i)), some (.int (nI k))], [.ref 162], (aset h 196 288 gk), 198, sl) _
    refine wp_gfm rfl rfl (mF_as (by decide) h54) ?_
    refine wp_i rfl rfl rfl rfl ?_
    refine wp_i rfl rfl rfl rfl ?_
    refine wp_i rfl rfl rfl rfl ?_
    refine wp_i rfl rfl rfl rfl ?_
    refine wp_i rfl rfl rfl rfl ?_
    refine wp_i rfl rfl rfl rfl ?_
    show pm_WP PT fr lo 264 (55, [some (.ref 162), some (.int (nI i)), some (.int (nI k))], [.ref 162, .int ((96 * (nI i)) + (nI k)), .ref 196], (aset h 196 288 gk), 198, sl) _
    refine wp_gfm rfl rfl (mF_as (by decide) h12) ?_
    refine wp_i rfl rfl rfl rfl ?_
    show pm_WP PT fr lo 264 (59, [some (.ref 162), some (.int (nI i)), some (.int (nI k))], [.int (nI k), .ref 170, .int ((96 * (nI i)) + (nI k)), .ref 196], (aset h 196 288 gk), 198, sl) _
    refine wp_iam rfl (aset_ne (by decide) hN) (hI_in (by omega) (by omega)) (by decide) ?_
    rw [nI_clamp (by omega), ix96 i k]
    show pm_WP PT fr lo 264 (60, [some (.ref 162), some (.int (nI i)), some (.int (nI k))], [.int (f k), .int (nI (96 * i + k)), .ref 196], (aset h 196 288 gk), 198, sl) _
    refine wp_ism rfl (aset_self _ _ _ _) (hI_in (by omega) (by omega)) (by decide) ?_
    rw [nI_clamp (by omega)]
    have e0 : upd gk (96 * i + k) (f k) = upd gk (96 * i + k) (f (0 + k)) := by rw [Nat.zero_add]
    rw [e0]
    refine wp_i rfl rfl rfl rfl ?_
    refine wp_i rfl rfl rfl rfl ?_
    show pm_WP PT fr lo 264 (38, [some (.ref 162), some (.int (nI i)), some (.int (nI k + 1))], [], (aset (aset h 196 288 gk) 196 288 (upd gk (96 * i + k) (f (0 + k)))), 198, sl) _
    rw [nI_1 k, aset_aset]
    exact ih (k + 1) _ (by omega) (cpk_up hc)
theorem hd_keep {f g b c : Nat → Int32} {ch : Int32} {x0 : Value} (v : Int32) (h0 : mF h 0 x0) (h5 : mF h 5 (.int ch)) (h52 : mF h 52 (.ref 194)) (h53 : mF h 53 (.ref 195)) (h54 : mF h 54 (.ref 196)) (h12 : mF h 12 (.ref 170)) (hN : h 170 = .inl (0, 96, .inl f)) (hK : h 196 = .inl (0, 288, .inl g)) (hB : h 194 = .inl (3, 3, .inl b)) (hCh : h 195 = .inl (0, 3, .inl c)) (hf : 1 ≤ fr) (hl : 30 ≤ lo) : pm_WP PT fr lo 264 (0, pm_l0 [.ref 162, .int v] 3, [], h, 198, sl) (fun r => (in_b v.toInt64 0 2 = false ∧ r = (some (.int 0), mset h 0 (.int 0), 198, sl)) ∨ ∃ (i : Nat) (g2 : Nat → Int32), i < 3 ∧ v = nI i ∧ r = (some (.int 1), aset (aset (zset (mset h 0 (.int 0)) 194 3 (upd b i 1)) 195 3 (upd c i ch)) 196 288 g2, 198, sl) ∧ cpk f g g2 0 (96 * i) 96) := by
  refine wp_i rfl rfl rfl rfl ?_
  refine wp_i rfl rfl rfl rfl ?_
  show pm_WP PT fr lo 264 (2, [some (.ref 162), some (.int v), none], [.int 0, .ref 162], h, 198, sl) _
  refine wp_pfm rfl rfl rfl (by decide) h0 ?_
  refine wp_i rfl rfl rfl rfl ?_
  refine wp_i rfl rfl rfl rfl ?_
  refine wp_i rfl rfl rfl rfl ?_
  refine wp_i rfl rfl rfl rfl ?_
  show pm_WP PT fr lo 264 (11, [some (.ref 162), some (.int v), none], [.long 2, .long 0, .long (v).toInt64], (mset h 0 (.int 0)), 198, sl) _
  refine wp_callS (t := 163) (As := [.long (v).toInt64, .long 0, .long 2]) (rest := []) (mx := 6) rfl rfl rfl rfl (Nat.le_of_ble_eq_true rfl) (Nat.le_of_ble_eq_true rfl) (by omega) (by omega) (wp_mono (hd_in v.toInt64 0 2) ?_)
  rintro _ rfl
  cases hin : in_b v.toInt64 0 2 with
  | false =>
    refine wp_i rfl rfl rfl rfl ?_
    refine wp_i rfl rfl rfl rfl ?_
    show pm_WP PT fr lo 264 (18, [some (.ref 162), some (.int v), none], [.int 0], (mset h 0 (.int 0)), 198, sl) _
    exact wp_zret rfl rfl (by decide) (Or.inl ⟨rfl, rfl⟩)
  | true =>
    obtain ⟨i, hi, rfl⟩ := in3 v hin
    refine wp_i rfl rfl rfl rfl ?_
    refine wp_i rfl rfl rfl rfl ?_
    show pm_WP PT fr lo 264 (20, [some (.ref 162), some (.int (nI i)), none], [.ref 162], (mset h 0 (.int 0)), 198, sl) _
    refine wp_gfm rfl rfl (mF_ne (by decide) h52) ?_
    refine wp_i rfl rfl rfl rfl ?_
    refine wp_i rfl rfl rfl rfl ?_
    show pm_WP PT fr lo 264 (25, [some (.ref 162), some (.int (nI i)), none], [.int 1, .int (nI i), .ref 194], (mset h 0 (.int 0)), 198, sl) _
    refine wp_zsm rfl (by rw [mset_ne (by decide)]; exact hB) (hI_in hi (by decide)) (by decide) ?_
    rw [nI_clamp (by omega), show vp_nar .boolean 1 = (1 : Int32) from rfl]
    have z5 : mF (zset (mset h 0 (.int 0)) 194 3 (upd b i 1)) 5 (.int ch) := mF_zs (by decide) (mF_ne (by decide) h5)
    have z53 : mF (zset (mset h 0 (.int 0)) 194 3 (upd b i 1)) 53 (.ref 195) := mF_zs (by decide) (mF_ne (by decide) h53)
    have z54 : mF (zset (mset h 0 (.int 0)) 194 3 (upd b i 1)) 54 (.ref 196) := mF_zs (by decide) (mF_ne (by decide) h54)
    have z12 : mF (zset (mset h 0 (.int 0)) 194 3 (upd b i 1)) 12 (.ref 170) := mF_zs (by decide) (mF_ne (by decide) h12)
    have zN : (zset (mset h 0 (.int 0)) 194 3 (upd b i 1)) 170 = .inl (0, 96, .inl f) := by rw [zset_nei (by decide), mset_ne (by decide)]; exact hN
    have zK : (zset (mset h 0 (.int 0)) 194 3 (upd b i 1)) 196 = .inl (0, 288, .inl g) := by rw [zset_nei (by decide), mset_ne (by decide)]; exact hK
    have zC : (zset (mset h 0 (.int 0)) 194 3 (upd b i 1)) 195 = .inl (0, 3, .inl c) := by rw [zset_nei (by decide), mset_ne (by decide)]; exact hCh
    generalize hz : (zset (mset h 0 (.int 0)) 194 3 (upd b i 1)) = hh at z5 z53 z54 z12 zN zK zC
    show pm_WP PT fr lo 264 (26, [some (.ref 162), some (.int (nI i)), none], [], hh, 198, sl) _
    refine wp_i rfl rfl rfl rfl ?_
    show pm_WP PT fr lo 264 (27, [some (.ref 162), some (.int (nI i)), none], [.ref 162], hh, 198, sl) _
    refine wp_gfm rfl rfl z53 ?_
    refine wp_i rfl rfl rfl rfl ?_
    refine wp_i rfl rfl rfl rfl ?_
    show pm_WP PT fr lo 264 (32, [some (.ref 162), some (.int (nI i)), none], [.ref 162, .int (nI i), .ref 195], hh, 198, sl) _
    refine wp_gfm rfl rfl z5 ?_
    show pm_WP PT fr lo 264 (35, [some (.ref 162), some (.int (nI i)), none], [.int ch, .int (nI i), .ref 195], hh, 198, sl) _
    refine wp_ism rfl zC (hI_in hi (by decide)) (by decide) ?_
    rw [nI_clamp (by omega)]
    refine wp_i rfl rfl rfl rfl ?_
    refine wp_i rfl rfl rfl rfl ?_
    show pm_WP PT fr lo 264 (38, [some (.ref 162), some (.int (nI i)), some (.int 0)], [], (aset hh 195 3 (upd c i ch)), 198, sl) _
    have e9 := aset_same (aset_ne (a := 195) (n := 3) (f := upd c i ch) (by decide) zK)
    rw [← e9]
    refine cp_keep (f := f) (g := g) hi (mF_as (by decide) z54) (mF_as (by decide) z12) (aset_ne (by decide) zN) (fun gk hc => ?_) 96 0 g (by omega) (cpk_0 f g 0 (96 * i))
    refine wp_i rfl rfl rfl rfl ?_
    show pm_WP PT fr lo 264 (68, [some (.ref 162), some (.int (nI i)), some (.int (nI 96))], [.int 1], (aset (aset hh 195 3 (upd c i ch)) 196 288 gk), 198, sl) _
    exact wp_zret rfl rfl (by decide) (Or.inr ⟨i, gk, hi, rfl, by rw [hz], hc⟩)
theorem cp_again {f g : Nat → Int32} {i : Nat} (hi : i < 3) (h54 : mF h 54 (.ref 196)) (h12 : mF h 12 (.ref 170)) (hK : h 196 = .inl (0, 288, .inl f)) (kk : ∀ gk : Nat → Int32, cpk f g gk (96 * i) (0) 96 → pm_WP PT fr lo 265 (72, [some (.ref 162), some (.int (nI i)), some (.int (nI 96))], [], aset h 170 96 gk, 198, sl) Q) : ∀ (m k : Nat) (gk : Nat → Int32), k + m = 96 → cpk f g gk (96 * i) (0) k → pm_WP PT fr lo 265 (43, [some (.ref 162), some (.int (nI i)), some (.int (nI k))], [], aset h 170 96 gk, 198, sl) Q := by
  intro m
  induction m with
  | zero =>
    intro k gk hk hc
    obtain rfl : k = 96 := by omega
    refine wp_i rfl rfl rfl rfl ?_
    refine wp_i rfl rfl rfl rfl ?_
    show pm_WP PT fr lo 265 (46, [some (.ref 162), some (.int (nI i)), some (.int (nI 96))], [.int 96, .int (nI 96)], (aset h 170 96 gk), 198, sl) _
    refine wp_icmp (c := .ge) (off := 26) (t := 72) rfl rfl (fun _ => ?_) (fun q => absurd (q.symm.trans ((hI_ge (b := 96) (by omega) (by omega)).trans (decide_eq_true (by omega)))) (by decide))
    show pm_WP PT fr lo 265 (72, [some (.ref 162), some (.int (nI i)), some (.int (nI 96))], [], (aset h 170 96 gk), 198, sl) _
    exact kk gk hc
  | succ m ih =>
    intro k gk hk hc
    refine wp_i rfl rfl rfl rfl ?_
    refine wp_i rfl rfl rfl rfl ?_
    show pm_WP PT fr lo 265 (46, [some (.ref 162), some (.int (nI i)), some (.int (nI k))], [.int 96, .int (nI k)], (aset h 170 96 gk), 198, sl) _
    refine wp_icmp (c := .ge) (off := 26) (t := 72) rfl rfl (fun q => absurd (q.symm.trans ((hI_ge (b := 96) (by omega) (by omega)).trans (decide_eq_false (by omega)))) (by decide)) (fun _ => ?_)
    refine wp_i rfl rfl rfl rfl ?_
    show pm_WP PT fr lo 265 (50, [some (.ref 162), some (.int (nI i)), some (.int (nI k))], [.ref 162], (aset h 170 96 gk), 198, sl) _
    refine wp_gfm rfl rfl (mF_as (by decide) h12) ?_
    refine wp_i rfl rfl rfl rfl ?_
    refine wp_i rfl rfl rfl rfl ?_
    show pm_WP PT fr lo 265 (55, [some (.ref 162), some (.int (nI i)), some (.int (nI k))], [.ref 162, .int (nI k), .ref 170], (aset h 170 96 gk), 198, sl) _
    refine wp_gfm rfl rfl (mF_as (by decide) h54) ?_
    refine wp_i rfl rfl rfl rfl ?_
    refine wp_i rfl rfl rfl rfl ?_
    refine wp_i rfl rfl rfl rfl ?_
    refine wp_i rfl rfl rfl rfl ?_
    refine wp_i rfl rfl rfl rfl ?_
    show pm_WP PT fr lo 265 (64, [some (.ref 162), some (.int (nI i)), some (.int (nI k))], [.int ((96 * (nI i)) + (nI k)), .ref 196, .int (nI k), .ref 170], (aset h 170 96 gk), 198, sl) _
    rw [ix96 i k]
    show pm_WP PT fr lo 265 (64, [some (.ref 162), some (.int (nI i)), some (.int (nI k))], [.int (nI (96 * i + k)), .ref 196, .int (nI k), .ref 170], (aset h 170 96 gk), 198, sl) _
    refine wp_iam rfl (aset_ne (by decide) hK) (hI_in (by omega) (by omega)) (by decide) ?_
    rw [nI_clamp (by omega)]
    show pm_WP PT fr lo 265 (65, [some (.ref 162), some (.int (nI i)), some (.int (nI k))], [.int (f (96 * i + k)), .int (nI k), .ref 170], (aset h 170 96 gk), 198, sl) _
    refine wp_ism rfl (aset_self _ _ _ _) (hI_in (by omega) (by omega)) (by decide) ?_
    rw [nI_clamp (by omega)]
    have e0 : upd gk k (f (96 * i + k)) = upd gk (0 + k) (f (96 * i + k)) := by rw [Nat.zero_add]
    rw [e0]
    refine wp_i rfl rfl rfl rfl ?_
    refine wp_i rfl rfl rfl rfl ?_
    show pm_WP PT fr lo 265 (43, [some (.ref 162), some (.int (nI i)), some (.int (nI k + 1))], [], (aset (aset h 170 96 gk) 170 96 (upd gk (0 + k) (f (96 * i + k)))), 198, sl) _
    rw [nI_1 k, aset_aset]
    exact ih (k + 1) _ (by omega) (cpk_up hc)
theorem hd_again {f g b c : Nat → Int32} {ch : Int32} {x0 x27 : Value} (v : Int32) (h0 : mF h 0 x0) (h5 : mF h 5 (.int ch)) (h27 : mF h 27 x27) (h52 : mF h 52 (.ref 194)) (h53 : mF h 53 (.ref 195)) (h54 : mF h 54 (.ref 196)) (h12 : mF h 12 (.ref 170)) (hN : h 170 = .inl (0, 96, .inl g)) (hK : h 196 = .inl (0, 288, .inl f)) (hB : h 194 = .inl (3, 3, .inl b)) (hCh : h 195 = .inl (0, 3, .inl c)) (hf : 1 ≤ fr) (hl : 30 ≤ lo) : pm_WP PT fr lo 265 (0, pm_l0 [.ref 162, .int v] 3, [], h, 198, sl) (fun r => r = (some (.int 0), mset h 0 (.int 0), 198, sl) ∨ ∃ (i : Nat) (g2 : Nat → Int32), i < 3 ∧ v = nI i ∧ r = (some (.int 1), mset (aset (mset h 0 (.int 0)) 170 96 g2) 27 (.int 0), 198, sl) ∧ ∀ j, j < 96 → g2 j = f (96 * i + j)) := by
  refine wp_i rfl rfl rfl rfl ?_
  refine wp_i rfl rfl rfl rfl ?_
  show pm_WP PT fr lo 265 (2, [some (.ref 162), some (.int v), none], [.int 0, .ref 162], h, 198, sl) _
  refine wp_pfm rfl rfl rfl (by decide) h0 ?_
  refine wp_i rfl rfl rfl rfl ?_
  refine wp_i rfl rfl rfl rfl ?_
  refine wp_i rfl rfl rfl rfl ?_
  refine wp_i rfl rfl rfl rfl ?_
  show pm_WP PT fr lo 265 (11, [some (.ref 162), some (.int v), none], [.long 2, .long 0, .long (v).toInt64], (mset h 0 (.int 0)), 198, sl) _
  refine wp_callS (t := 163) (As := [.long (v).toInt64, .long 0, .long 2]) (rest := []) (mx := 6) rfl rfl rfl rfl (Nat.le_of_ble_eq_true rfl) (Nat.le_of_ble_eq_true rfl) (by omega) (by omega) (wp_mono (hd_in v.toInt64 0 2) ?_)
  rintro _ rfl
  cases hin : in_b v.toInt64 0 2 with
  | false =>
    refine wp_i rfl rfl rfl rfl ?_
    refine wp_i rfl rfl rfl rfl ?_
    show pm_WP PT fr lo 265 (40, [some (.ref 162), some (.int v), none], [.int 0], (mset h 0 (.int 0)), 198, sl) _
    exact wp_zret rfl rfl (by decide) (Or.inl rfl)
  | true =>
    obtain ⟨i, hi, rfl⟩ := in3 v hin
    refine wp_i rfl rfl rfl rfl ?_
    refine wp_i rfl rfl rfl rfl ?_
    show pm_WP PT fr lo 265 (18, [some (.ref 162), some (.int (nI i)), none], [.ref 162], (mset h 0 (.int 0)), 198, sl) _
    refine wp_gfm rfl rfl (mF_ne (by decide) h52) ?_
    refine wp_i rfl rfl rfl rfl ?_
    show pm_WP PT fr lo 265 (22, [some (.ref 162), some (.int (nI i)), none], [.int (nI i), .ref 194], (mset h 0 (.int 0)), 198, sl) _
    refine wp_zam rfl (by rw [mset_ne (by decide)]; exact hB) (hI_in hi (by decide)) (by decide) ?_
    rw [nI_clamp (by omega)]
    show pm_WP PT fr lo 265 (23, [some (.ref 162), some (.int (nI i)), none], [.int (b i)], (mset h 0 (.int 0)), 198, sl) _
    refine wp_if (c := .eq) (off := 16) (t := 39) rfl rfl (fun q => ?_) (fun q => ?_)
    · refine wp_i rfl rfl rfl rfl ?_
      show pm_WP PT fr lo 265 (40, [some (.ref 162), some (.int (nI i)), none], [.int 0], (mset h 0 (.int 0)), 198, sl) _
      exact wp_zret rfl rfl (by decide) (Or.inl rfl)
    · refine wp_i rfl rfl rfl rfl ?_
      show pm_WP PT fr lo 265 (27, [some (.ref 162), some (.int (nI i)), none], [.ref 162], (mset h 0 (.int 0)), 198, sl) _
      refine wp_gfm rfl rfl (mF_ne (by decide) h53) ?_
      refine wp_i rfl rfl rfl rfl ?_
      show pm_WP PT fr lo 265 (31, [some (.ref 162), some (.int (nI i)), none], [.int (nI i), .ref 195], (mset h 0 (.int 0)), 198, sl) _
      refine wp_iam rfl (mset_arr (by decide) hCh) (hI_in hi (by decide)) (by decide) ?_
      rw [nI_clamp (by omega)]
      refine wp_i rfl rfl rfl rfl ?_
      show pm_WP PT fr lo 265 (33, [some (.ref 162), some (.int (nI i)), none], [.ref 162, .int (c i)], (mset h 0 (.int 0)), 198, sl) _
      refine wp_gfm rfl rfl (mF_ne (by decide) h5) ?_
      show pm_WP PT fr lo 265 (36, [some (.ref 162), some (.int (nI i)), none], [.int ch, .int (c i)], (mset h 0 (.int 0)), 198, sl) _
      refine wp_icmp (c := .eq) (off := 5) (t := 41) rfl rfl (fun q => ?_) (fun q => ?_)
      · refine wp_i rfl rfl rfl rfl ?_
        refine wp_i rfl rfl rfl rfl ?_
        show pm_WP PT fr lo 265 (43, [some (.ref 162), some (.int (nI i)), some (.int 0)], [], (mset h 0 (.int 0)), 198, sl) _
        have e9 := aset_same (mset_arr (f := 0) (v := .int 0) (by decide) hN)
        rw [← e9]
        refine cp_again (f := f) (g := g) hi (mF_ne (by decide) h54) (mF_ne (by decide) h12) (mset_arr (by decide) hK) (fun gk hc => ?_) 96 0 g (by omega) (cpk_0 f g (96 * i) 0)
        refine wp_i rfl rfl rfl rfl ?_
        refine wp_i rfl rfl rfl rfl ?_
        show pm_WP PT fr lo 265 (74, [some (.ref 162), some (.int (nI i)), some (.int (nI 96))], [.int 0, .ref 162], (aset (mset h 0 (.int 0)) 170 96 gk), 198, sl) _
        refine wp_pfm rfl rfl rfl (by decide) (mF_as (by decide) (mF_ne (by decide) h27)) ?_
        refine wp_i rfl rfl rfl rfl ?_
        show pm_WP PT fr lo 265 (78, [some (.ref 162), some (.int (nI i)), some (.int (nI 96))], [.int 1], (mset (aset (mset h 0 (.int 0)) 170 96 gk) 27 (.int 0)), 198, sl) _
        exact wp_zret rfl rfl (by decide) (Or.inr ⟨i, gk, hi, rfl, by rw [aset_aset], fun j hj => by have := hc.1 j hj; rwa [Nat.zero_add] at this⟩)
      · refine wp_i rfl rfl rfl rfl ?_
        show pm_WP PT fr lo 265 (40, [some (.ref 162), some (.int (nI i)), none], [.int 0], (mset h 0 (.int 0)), 198, sl) _
        exact wp_zret rfl rfl (by decide) (Or.inl rfl)
theorem j64_rem {x y : Int64} (hx : 0 ≤ x.toInt) : (x - x / y * y).toInt = x.toInt % y.toInt := by
  have h1 : (x - x / y * y).toInt = (x.toInt.tmod y.toInt).bmod (2 ^ 64) := by
    rw [Int64.toInt_sub, Int64.toInt_mul, Int64.toInt_div, Int.bmod_mul_bmod, Int.sub_bmod_bmod, Int.mul_comm, ← Int.tmod_def]
  have h2 := (x % y).toInt_lt
  have h3 := (x % y).le_toInt
  rw [Int64.toInt_mod] at h2 h3
  rw [h1, Int.bmod_def]
  rw [Int.tmod_eq_emod_of_nonneg hx] at h2 h3 ⊢
  omega
theorem wp_lrem {k pc : Nat} {L : pm_L} {r : List Value} {x y : Int64} (hi : pm_ins PT k pc = some (.lrem, 1)) (hy : ¬ y = 0) (kk : pm_WP PT fr lo k (pc + 1, L, .long (x - x / y * y) :: r, h, 198, sl) Q) : pm_WP PT fr lo k (pc, L, .long y :: .long x :: r, h, 198, sl) Q := by
  refine wp_i hi rfl rfl ?_ kk
  show pm_bdL (fun x y => x - x / y * y) pc L (.long y :: .long x :: r) h 198 sl = _
  unfold pm_bdL
  dsimp only
  rw [if_neg hy]
theorem hd_common : ∀ (k : Nat) (fr lo : Nat) (a b : Int64), 0 ≤ a.toInt → 0 ≤ b.toInt → 1 ≤ a.toInt + b.toInt → b.toInt < 2 ^ k → 2 * k + 2 ≤ fr → 60 * k + 60 ≤ lo → pm_WP PT fr lo 166 (0, pm_l0 [.long a, .long b] 4, [], h, 198, sl) (fun r => ∃ c : Int64, 1 ≤ c.toInt ∧ r = (some (.long c), h, 198, sl)) := by
  have two : ∀ (fr lo : Nat) (a b : Int64), 0 ≤ a.toInt → 0 ≤ b.toInt → 1 ≤ a.toInt + b.toInt → 1 ≤ fr → 23 ≤ lo → (∀ c : Int64, ¬ b = 0 → c.toInt = a.toInt % b.toInt → pm_WP PT (fr - 1) (lo - 23) 166 (0, pm_l0 [.long b, .long c] 4, [], h, 198, sl) (fun r => ∃ c : Int64, 1 ≤ c.toInt ∧ r = (some (.long c), h, 198, sl))) → pm_WP PT fr lo 166 (0, pm_l0 [.long a, .long b] 4, [], h, 198, sl) (fun r => ∃ c : Int64, 1 ≤ c.toInt ∧ r = (some (.long c), h, 198, sl)) := by
    intro fr lo a b ha hb hab hf hl hrec
    refine wp_i rfl rfl rfl rfl ?_
    refine wp_i rfl rfl rfl rfl ?_
    refine wp_i rfl rfl rfl rfl ?_
    show pm_WP PT fr lo 166 (3, [some (.long a), none, some (.long b), none], [.int (lg_cmp b 0)], h, 198, sl) _
    refine wp_if (c := .ne) (off := 7) (t := 10) rfl rfl (fun q => ?_) (fun q => ?_)
    · have q : ¬ b = 0 := fun e => by rw [e] at q; exact absurd q (by decide)
      refine wp_i rfl rfl rfl rfl ?_
      refine wp_i rfl rfl rfl rfl ?_
      refine wp_i rfl rfl rfl rfl ?_
      show pm_WP PT fr lo 166 (13, [some (.long a), none, some (.long b), none], [.long b, .long a, .long b], h, 198, sl) _
      refine wp_lrem rfl q ?_
      show pm_WP PT fr lo 166 (14, [some (.long a), none, some (.long b), none], [.long (a - a / b * b), .long b], h, 198, sl) _
      refine wp_callS (t := 166) (As := [.long b, .long (a - a / b * b)]) (rest := []) (mx := 4) rfl rfl rfl rfl (Nat.le_of_ble_eq_true rfl) (Nat.le_of_ble_eq_true rfl) hf (by omega) (wp_mono (hrec (a - a / b * b) q (j64_rem ha)) ?_)
      rintro _ ⟨c, hc, rfl⟩
      show pm_WP PT fr lo 166 (17, [some (.long a), none, some (.long b), none], [.long c], h, 198, sl) _
      exact wp_lret rfl rfl ⟨c, hc, rfl⟩
    · have q : b = 0 := by
        apply Int64.toInt_inj.1
        have q1 := Decidable.not_not.mp ((rs_t (P := ¬ lg_cmp b 0 = 0) rfl).2 q)
        have l1 : ¬ b < 0 := fun e => by have := (lg_cmp_lt b 0).mpr e; rw [q1] at this; exact absurd this (by decide)
        have l2 : ¬ 0 < b := fun e => by have := (lg_cmp_gt b 0).mpr e; rw [q1] at this; exact absurd this (by decide)
        rw [Int64.lt_iff_toInt_lt] at l1 l2
        omega
      have hb0 : b.toInt = 0 := by rw [q]; rfl
      refine wp_i rfl rfl rfl rfl ?_
      refine wp_i rfl rfl rfl rfl ?_
      show pm_WP PT fr lo 166 (17, [some (.long a), none, some (.long b), none], [.long a], h, 198, sl) _
      exact wp_lret rfl rfl ⟨a, by omega, rfl⟩
  intro k
  induction k with
  | zero =>
    intro fr lo a b ha hb hab hk hf hl
    have hb0 : b.toInt = 0 := by have : (2 : Int) ^ 0 = 1 := rfl; omega
    refine two fr lo a b ha hb hab (by omega) (by omega) (fun c hne _ => absurd ?_ hne)
    apply Int64.toInt_inj.1
    rw [hb0]
    rfl
  | succ k ih =>
    intro fr lo a b ha hb hab hk hf hl
    refine two fr lo a b ha hb hab (by omega) (by omega) (fun c hne hc => ?_)
    have hbp : 1 ≤ b.toInt := by
      have : ¬ b.toInt = 0 := fun e => hne (by apply Int64.toInt_inj.1; rw [e]; rfl)
      omega
    have c1 := Int.emod_nonneg a.toInt (show b.toInt ≠ 0 by omega)
    have c2 := Int.emod_lt_of_pos a.toInt (show 0 < b.toInt by omega)
    rw [← hc] at c1 c2
    refine two (fr - 1) (lo - 23) b c hb c1 (by omega) (by omega) (by omega) (fun e hne2 he => ?_)
    have hcp : 1 ≤ c.toInt := by
      have : ¬ c.toInt = 0 := fun z => hne2 (by apply Int64.toInt_inj.1; rw [z]; rfl)
      omega
    have e1 := Int.emod_nonneg b.toInt (show c.toInt ≠ 0 by omega)
    have e2 := Int.emod_lt_of_pos b.toInt (show 0 < c.toInt by omega)
    rw [← he] at e1 e2
    have e3 : e.toInt + c.toInt ≤ b.toInt := by
      have d1 := Int.emod_add_mul_ediv b.toInt c.toInt
      have d2 : 1 ≤ b.toInt / c.toInt := by
        apply Int.le_ediv_of_mul_le (by omega)
        omega
      have d3 : c.toInt * 1 ≤ c.toInt * (b.toInt / c.toInt) := Int.mul_le_mul_of_nonneg_left d2 (by omega)
      rw [he]
      omega
    have p2 : (2 : Int) ^ (k + 1) = 2 ^ k * 2 := Int.pow_succ 2 k
    exact ih (fr - 1 - 1) (lo - 23 - 23) c e c1 e1 (by omega) (by omega) (by omega) (by omega)
end KEP
end MG55keepx0
section MG55keepx1
/-! what is kept by the reference, and the callees that are known by hand -/
section RKN
def rowT (j : Nat) : av := match bB 170 with
  | .inr (_, as) => as.getD j (0, 0, 0)
  | _ => (0, 0, 0)
def rowsOk (h : pm_H) (a n : Nat) : Prop := ∃ f : Nat → Int32, h a = .inl (0, n, .inl f) ∧ ∀ j, j < n → av_ok (.int (f j)) (rowT (j % 96))
def codeOk (h : pm_H) : Prop := ∃ (n dn : Nat) (f : Nat → Int32), mF h 23 (.int (nI n)) ∧ h 174 = .inl (0, 80, .inl f) ∧ n ≤ 80 ∧ (n = 0 ∨ (dep f n = some dn ∧ 1 ≤ dn))
def cgOk (h : pm_H) : Prop := ∃ c g : Nat, mF h 3 (.int (nI c)) ∧ mF h 4 (.int (nI g)) ∧ c ≤ 6 ∧ g ≤ 8 ∧ (0 < g → 0 < c)
def rxQ (h : pm_H) : Prop := codeOk h ∧ cgOk h ∧ rowsOk h 178 1536 ∧ rowsOk h 196 288
def rxPf (ci f : Nat) : Bool := Nat.beq ci 11 && (Nat.beq f 3 || (Nat.beq f 4 || (Nat.beq f 23 || Nat.beq f 24)))
def rxC (i : Nat) : Bool := Nat.blt i 162 || (Nat.beq i 174 || (Nat.beq i 175 || Nat.beq i 193))
def rxF0 : fr_F := (fun i => rxC i || (Nat.beq i 178 || Nat.beq i 196), rxPf)
def rxF : fr_F := (rxC, rxPf)
variable {h h' : pm_H}
theorem rxle : ∀ h h', fm rxF0 h h' → fm rxF h h' := by
  intro h h' q
  refine ⟨fun i hi => q.1 i ?_, q.2⟩
  have hi : rxC i = true := hi
  show (rxC i || (Nat.beq i 178 || Nat.beq i 196)) = true
  rw [hi]
  rfl
theorem fm_mF {F : fr_F} {g : Nat} {v : Value} (q : fm F h h') (hg : F.2 11 g = true) (m : mF h g v) : mF h' g v := by
  obtain ⟨fs, e, e1⟩ := m
  obtain ⟨fs', e', -, hk⟩ := q.2 162 11 fs e
  exact ⟨fs', e', (hk g hg).trans e1⟩
theorem rxpp : pp_ok rxF0 rxQ := by
  intro h h' q hp
  obtain ⟨⟨n, dn, f, c1, c2, c3, c4⟩, ⟨c, g, d1, d2, d3⟩, ⟨f1, r1, r2⟩, f2, r3, r4⟩ := hp
  exact ⟨⟨n, dn, f, fm_mF q rfl c1, (q.1 174 rfl).trans c2, c3, c4⟩, ⟨c, g, fm_mF q rfl d1, fm_mF q rfl d2, d3⟩, ⟨f1, (q.1 178 rfl).trans r1, r2⟩, f2, (q.1 196 rfl).trans r3, r4⟩
theorem fm_ms {F : fr_F} {g : Nat} {v w : Value} (hF : F.1 162 = false) (hg : F.2 11 g = false) (m : mF h g w) : fm F h (mset h g v) := by
  obtain ⟨fs, e, -⟩ := m
  rw [mset_of e]
  exact fm_fld hF e hg
theorem fm_as {F : fr_F} {a n : Nat} {f g : Nat → Int32} (hF : F.1 a = false) (m : h a = .inl (0, n, .inl g)) : fm F h (aset h a n f) := fm_arr hF ⟨_, m⟩
/-! abstract heaps and updates -/
variable {o : ah} {as : List av}
theorem ob_fld (hh : ah_ok bB 198 o h) (e : ah_get bB o 162 = .inr (11, as)) {g : Nat} {a : av} (ha : as[g]? = some a) : ∃ v, mF h g v ∧ av_ok v a := by
  have h0 := hh 162 (by decide)
  rw [e] at h0
  obtain ⟨fs, ef, hl, hg⟩ := aE_obj h0 (by decide)
  have hlt : g < fs.length := by have := (List.getElem?_eq_some_iff.mp ha).1; omega
  exact ⟨fs[g], ⟨fs, ef, List.getElem?_eq_getElem hlt⟩, hg g fs[g] a (List.getElem?_eq_getElem hlt) ha⟩
theorem ob_ref (hh : ah_ok bB 198 o h) (e : ah_get bB o 162 = .inr (11, as)) {g p : Nat} (ha : as[g]? = some (2, (p : Int), 1)) : mF h g (.ref p) := by
  obtain ⟨v, h1, h2⟩ := ob_fld hh e ha
  obtain ⟨q, rfl, hq⟩ := av_ref rfl h2
  have : q = p := by simpa [av_ids] using hq
  subst this
  exact h1
theorem ob_nat (hh : ah_ok bB 198 o h) (e : ah_get bB o 162 = .inr (11, as)) {g : Nat} {l u : Int} (ha : as[g]? = some (0, l, u)) (hl : 0 ≤ l) (hu : u ≤ 1000000) : ∃ n : Nat, mF h g (.int (nI n)) ∧ l ≤ (n : Int) ∧ (n : Int) ≤ u := by
  obtain ⟨v, h1, h2⟩ := ob_fld hh e ha
  obtain ⟨x, rfl, h3, h4⟩ := av_int rfl h2
  dsimp only at h3 h4
  obtain ⟨n, rfl, hn, en⟩ := hI_of (show 0 ≤ x.toInt by omega)
  exact ⟨n, h1, by omega, by omega⟩
theorem ob_set (hh : ah_ok bB 198 o h) (e : ah_get bB o 162 = .inr (11, as)) {g : Nat} {v : Value} {a : av} (hv : av_ok v a) : ah_ok bB 198 (ah_put o 162 (.inr (11, as.set g a))) (mset h g v) := by
  have h0 := hh 162 (by decide)
  rw [e] at h0
  obtain ⟨fs, ef, hl, hg⟩ := aE_obj h0 (by decide)
  intro i hi
  rw [ah_put_get]
  by_cases q : i = 162
  · subst q
    rw [if_pos rfl, mset_of ef]
    simp only [va_up, if_pos]
    refine ⟨⟨rfl, by decide⟩, by simp [hl], fun j w b hw hb => ?_⟩
    by_cases ej : g = j
    · subst ej
      have hlt : g < fs.length := by
        have := (List.getElem?_eq_some_iff.mp hw).1
        simpa using this
      rw [List.getElem?_set_self hlt] at hw
      rw [List.getElem?_set_self (by omega)] at hb
      cases hw
      cases hb
      exact hv
    · rw [List.getElem?_set_ne ej] at hw hb
      exact hg j w b hw hb
  · rw [if_neg q, mset_ne q]
    exact hh i hi
theorem ob_arr (hh : ah_ok bB 198 o h) {i n : Nat} {c : ac} {f : Nat → Int32} (hc : ac_ok (.inl (0, n, .inl f)) c) : ah_ok bB 198 (ah_put o i c) (aset h i n f) := by
  intro j hj
  rw [ah_put_get]
  by_cases q : j = i
  · subst q; rw [if_pos rfl, aset_self]; exact hc
  · rw [if_neg q, aset_nei q]; exact hh j hj
theorem ob_int (hh : ah_ok bB 198 o h) {i n : Nat} {a : av} (hi : i < 198) (e : ah_get bB o i = .inl (0, n, a)) (ha : a.1 = 0) (hn : 0 < n) : ∃ f : Nat → Int32, h i = .inl (0, n, .inl f) ∧ ∀ j, j < n → av_ok (.int (f j)) a := by
  have h0 := hh i hi
  rw [e] at h0
  cases e2 : h i with
  | inr q => rw [e2] at h0; obtain ⟨ci, fs⟩ := q; exact h0.elim
  | inl q =>
    rw [e2] at h0
    obtain ⟨kd, m, f | f | f | f | f⟩ := q
    · obtain ⟨rfl, rfl, q⟩ := h0
      exact ⟨f, rfl, q⟩
    · obtain ⟨rfl, rfl, q⟩ := h0
      have := (q 0 hn).1
      omega
    · exact h0.elim
    · exact h0.elim
    · obtain ⟨rfl, rfl, q⟩ := h0
      have q := q 0 hn
      unfold aq at q
      rw [if_neg (by omega)] at q
      cases e3 : f 0 with
      | none => rw [e3] at q; have q : a.1 = 3 := q; omega
      | some p => rw [e3] at q; have := q.1; omega
theorem ob_intE (hh : ah_ok bB 198 o h) {i : Nat} {bs : List av} (hi : i < 198) (e : ah_get bB o i = .inr (1000, bs)) : ∃ f : Nat → Int32, h i = .inl (0, bs.length, .inl f) ∧ ∀ j a, bs[j]? = some a → av_ok (.int (f j)) a := by
  have h0 := hh i hi
  rw [e] at h0
  cases e2 : h i with
  | inr q => rw [e2] at h0; obtain ⟨ci, fs⟩ := q; have h1 := h0.1.1; have h2 := h0.1.2; omega
  | inl q =>
    rw [e2] at h0
    obtain ⟨kd, m, f | f | f | f | f⟩ := q
    · obtain ⟨q1, rfl, q⟩ := h0
      have : kd = 0 := by omega
      subst this
      exact ⟨f, rfl, q⟩
    · exact h0.elim
    · exact h0.elim
    · exact h0.elim
    · exact h0.elim
/-- the object is there and its field g holds a -/
def ob_is (o : ah) (g : Nat) (a : av) : Bool := match ah_get bB o 162 with
  | .inr (ci, as) => Nat.beq ci 11 && decide (as[g]? = some a)
  | _ => false
theorem ob_is_ok {g : Nat} {a : av} (e : ob_is o g a = true) : ∃ as, ah_get bB o 162 = .inr (11, as) ∧ as[g]? = some a := by
  unfold ob_is at e
  split at e
  · rename_i ci as eo
    rw [Bool.and_eq_true] at e
    have := Nat.eq_of_beq_eq_true e.1
    subst this
    exact ⟨as, eo, of_decide_eq_true e.2⟩
  · cases e
/-- the text is being read: from where on, how far -/
def rk_txt (o : ah) : Option (List av × av) := match ah_get bB o 162, ah_get bB o 172 with
  | .inr (ci, as), .inl (kd, n, b) => (match as[16]?, as[17]? with
    | some x, some y => cond (Nat.beq ci 11 && (decide (as[14]? = some (2, 172, 1)) && (decide (x.1 = 0 ∧ 0 ≤ x.2.1 ∧ x.2.2 ≤ 900) && (decide (y.1 = 0 ∧ 0 ≤ y.2.1 ∧ y.2.2 ≤ 80) && decide (kd = 0 ∧ n = 80 ∧ b.1 = 0))))) (some (as, x)) none
    | _, _ => none)
  | _, _ => none
theorem rk_txt_ok {x : av} (hh : ah_ok bB 198 o h) (e : rk_txt o = some (as, x)) : ah_get bB o 162 = .inr (11, as) ∧ as[16]? = some x ∧ x.1 = 0 ∧ ∃ (a t : Nat) (tp : Nat → Int32), mF h 16 (.int (nI a)) ∧ mF h 17 (.int (nI t)) ∧ mF h 14 (.ref 172) ∧ h 172 = .inl (0, 80, .inl tp) ∧ t ≤ 80 ∧ a < 1000 ∧ x.2.1 ≤ (a : Int) ∧ (a : Int) ≤ x.2.2 := by
  unfold rk_txt at e
  split at e
  · rename_i ci as' kd n b e1 e2
    split at e
    · rename_i x' y ex ey
      cases hc : (Nat.beq ci 11 && (decide (as'[14]? = some (2, 172, 1)) && (decide (x'.1 = 0 ∧ 0 ≤ x'.2.1 ∧ x'.2.2 ≤ 900) && (decide (y.1 = 0 ∧ 0 ≤ y.2.1 ∧ y.2.2 ≤ 80) && decide (kd = 0 ∧ n = 80 ∧ b.1 = 0))))) with
      | false => rw [hc] at e; cases e
      | true =>
        rw [hc] at e
        cases e
        rw [Bool.and_eq_true, Bool.and_eq_true, Bool.and_eq_true, Bool.and_eq_true] at hc
        obtain ⟨g1, g2, g3, g4, g5⟩ := hc
        have g1 := Nat.eq_of_beq_eq_true g1
        subst g1
        have g2 := of_decide_eq_true g2
        obtain ⟨x1, x2, x3⟩ := of_decide_eq_true g3
        obtain ⟨y1, y2, y3⟩ := of_decide_eq_true g4
        obtain ⟨rfl, rfl, b1⟩ := of_decide_eq_true g5
        obtain ⟨xk, xl, xu⟩ := x
        obtain ⟨yk, yl, yu⟩ := y
        dsimp only at x1 x2 x3 y1 y2 y3
        subst x1 y1
        obtain ⟨a, m16, a1, a2⟩ := ob_nat hh e1 ex x2 (by omega)
        obtain ⟨t, m17, t1, t2⟩ := ob_nat hh e1 ey y2 (by omega)
        obtain ⟨tp, ht, -⟩ := ob_int hh (by decide) e2 b1 (by decide)
        exact ⟨e1, ex, rfl, a, t, tp, m16, m17, ob_ref hh e1 g2, ht, by omega, by omega, a1, a2⟩
    · cases e
  · cases e
def rk_bump (o : ah) (as : List av) (x : av) (l u : Int) : ah := ah_put o 162 (.inr (11, as.set 16 (0, x.2.1 + l, x.2.2 + u)))
theorem rk_bump_ok {x : av} {b : Nat} {l u : Int} (hh : ah_ok bB 198 o h) (e : ah_get bB o 162 = .inr (11, as)) (h1 : x.2.1 + l ≤ (b : Int)) (h2 : (b : Int) ≤ x.2.2 + u) (hb : b < 100000) : ah_ok bB 198 (rk_bump o as x l u) (mset h 16 (.int (nI b))) := ob_set hh e ⟨rfl, by rw [nI_toInt (by omega)]; exact h1, by rw [nI_toInt (by omega)]; exact h2⟩
theorem rk_keep {g : Nat} {v w : Value} (hg : rxPf 11 g = false) (m : mF h g w) (hp : rxQ h) : fm rxF h (mset h g v) ∧ rxQ (mset h g v) := ⟨fm_ms rfl hg m, rxpp _ _ (fm_ms rfl hg m) hp⟩
end RKN
end MG55keepx1
section MG55keepx2
/-! the callees that are known by hand -/
section RKF
def kn1_ok (F : fr_F) (PP : pm_H → Prop) (t : Nat) (f : List av → ah → Option (List ar × Nat × Nat)) : Prop := ∀ (as : List av) (o : ah) (R : List ar) (Fr Lo : Nat), f as o = some (R, Fr, Lo) → ∀ (As : List Value) (h : pm_H) (fr lo sl : Nat), as_ok As as → ah_ok bB 198 o h → PP h → Fr ≤ fr → Lo ≤ lo → pm_WP PT fr lo t (0, pm_l0 As (pm_max PT t), [], h, 198, sl) (fun x => (∃ r, r ∈ R ∧ ar_ok bB 198 sl r x) ∧ fm F h x.2.1 ∧ PP x.2.1)
def kn_of (t : Nat) (f : List av → ah → Option (List ar × Nat × Nat)) : kn := fun t' as o => cond (Nat.beq t' t) (f as o) none
theorem kn_of_ok {F : fr_F} {PP : pm_H → Prop} {t : Nat} {f : List av → ah → Option (List ar × Nat × Nat)} (h : kn1_ok F PP t f) : kn_ok (kn_of t f) PT bB 198 F PP := by
  intro t' as o R Fr Lo e
  unfold kn_of at e
  cases hb : Nat.beq t' t with
  | false => rw [hb] at e; cases e
  | true =>
    rw [hb] at e
    have := Nat.eq_of_beq_eq_true hb
    subst this
    exact h as o R Fr Lo e
theorem rf162 {v : Value} (q : av_ok v (2, 162, 1)) : v = .ref 162 := by
  obtain ⟨p, rfl, hp⟩ := av_ref rfl q
  have : p = 162 := by simpa [av_ids] using hp
  rw [this]
theorem as1 {As : List Value} {a : av} (q : as_ok As [a]) : ∃ v, As = [v] ∧ av_ok v a := by
  obtain ⟨v, r, rfl, hv, hr⟩ := as_cons q
  cases as_nil hr
  exact ⟨v, rfl, hv⟩
theorem as2 {As : List Value} {a b : av} (q : as_ok As [a, b]) : ∃ v w, As = [v, w] ∧ av_ok v a ∧ av_ok w b := by
  obtain ⟨v, r, rfl, hv, hr⟩ := as_cons q
  obtain ⟨w, rfl, hw⟩ := as1 hr
  exact ⟨v, w, rfl, hv, hw⟩
theorem as3 {As : List Value} {a b c : av} (q : as_ok As [a, b, c]) : ∃ v w x, As = [v, w, x] ∧ av_ok v a ∧ av_ok w b ∧ av_ok x c := by
  obtain ⟨v, r, rfl, hv, hr⟩ := as_cons q
  obtain ⟨w, x, rfl, hw, hx⟩ := as2 hr
  exact ⟨v, w, x, rfl, hv, hw, hx⟩
/-- where the place in the text may move -/
def at_ok (F : fr_F) (PP : pm_H → Prop) : Prop := ∀ (h : pm_H) (v w : Value), mF h 16 w → PP h → fm F h (mset h 16 v) ∧ PP (mset h 16 v)
theorem at_rx : at_ok rxF rxQ := fun _ _ _ m hp => rk_keep rfl m hp
variable {F : fr_F} {PP : pm_H → Prop}
/-- takes(sign) -/
def rk_takes (as : List av) (o : ah) : Option (List ar × Nat × Nat) := match as with
  | [m, s] => cond (decide (m = (2, 162, 1)) && Nat.beq s.1 0) (match rk_txt o with
    | some (bs, x) => some ([(some (0, 0, 0), o), (some (0, 1, 1), rk_bump o bs x 1 1)], 5, 300)
    | none => none) none
  | _ => none
theorem rk_takes_ok (hat : at_ok F PP) : kn1_ok F PP 181 rk_takes := by
  intro as o R Fr Lo e As h fr lo sl hAs hh hp hF hL
  unfold rk_takes at e
  split at e
  · rename_i m s
    cases hb : (decide (m = (2, 162, 1)) && Nat.beq s.1 0) with
    | false => rw [hb] at e; cases e
    | true =>
      rw [hb] at e
      dsimp only [cond] at e
      rw [Bool.and_eq_true] at hb
      have hm := of_decide_eq_true hb.1
      subst hm
      obtain ⟨v, w, rfl, hv, hw⟩ := as2 hAs
      cases rf162 hv
      obtain ⟨s1, rfl, -, -⟩ := av_int (Nat.eq_of_beq_eq_true hb.2) hw
      split at e
      · rename_i bs x ex
        cases e
        obtain ⟨e1, e2, e3, a, t, tp, m16, m17, m14, hA, ht, ha, x1, x2⟩ := rk_txt_ok hh ex
        refine wp_mono (hd_takes m16 m17 m14 hA ht ha (by omega) (by omega) s1) ?_
        rintro _ rfl
        by_cases q : a < t ∧ tp a = s1
        · rw [decide_eq_true q]
          exact ⟨⟨_, List.mem_cons_of_mem _ (List.mem_singleton_self _), ⟨rfl, by decide⟩, rk_bump_ok (b := a + 1) hh e1 (by omega) (by omega) (by omega), rfl, rfl⟩, hat _ _ _ m16 hp⟩
        · rw [decide_eq_false q]
          refine ⟨⟨_, List.mem_cons_self, ⟨rfl, by decide⟩, ?_, rfl, rfl⟩, hat _ _ _ m16 hp⟩
          show ah_ok bB 198 o (mset h 16 (.int (nI a)))
          rw [mset_same m16]
          exact hh
      · cases e
  · cases e
/-- isDigit() -/
def rk_isDigit (as : List av) (o : ah) : Option (List ar × Nat × Nat) := match as with
  | [m] => cond (decide (m = (2, 162, 1))) (match rk_txt o with
    | some _ => some ([(some (0, 0, 1), o)], 5, 300)
    | none => none) none
  | _ => none
theorem rk_isDigit_ok (hat : at_ok F PP) : kn1_ok F PP 182 rk_isDigit := by
  intro as o R Fr Lo e As h fr lo sl hAs hh hp hF hL
  unfold rk_isDigit at e
  split at e
  · rename_i m
    cases hb : decide (m = (2, 162, 1)) with
    | false => rw [hb] at e; cases e
    | true =>
      rw [hb] at e
      dsimp only [cond] at e
      have hm := of_decide_eq_true hb
      subst hm
      obtain ⟨v, rfl, hv⟩ := as1 hAs
      cases rf162 hv
      split at e
      · rename_i bsx ex
        obtain ⟨bs, x⟩ := bsx
        cases e
        obtain ⟨e1, e2, e3, a, t, tp, m16, m17, m14, hA, ht, ha, x1, x2⟩ := rk_txt_ok hh ex
        refine wp_mono (hd_isDigit m16 m17 m14 hA ht ha (by omega) (by omega)) ?_
        rintro _ rfl
        refine ⟨⟨_, List.mem_cons_self, ?_, hh, rfl, rfl⟩, fm_rf _, hp⟩
        cases dg tp a t
        · exact ⟨rfl, by decide⟩
        · exact ⟨rfl, by decide⟩
      · cases e
  · cases e
/-- takesOf(String) -/
def rk_takesOf (as : List av) (o : ah) : Option (List ar × Nat × Nat) := match as with
  | [m, s] => cond (decide (m = (2, 162, 1)) && decide (s.1 = 4 ∧ 0 ≤ s.2.1 ∧ s.2.1 < 5)) (match rk_txt o with
    | some (bs, x) => some ([(some (0, -1, -1), o), (some (0, 0, 6), rk_bump o bs x 1 1)], 6, 300)
    | none => none) none
  | _ => none
theorem st_le7 : ∀ i, i < 5 → (st_tx i).length ≤ 7 := by decide
theorem rk_takesOf_ok (hat : at_ok F PP) : kn1_ok F PP 183 rk_takesOf := by
  intro as o R Fr Lo e As h fr lo sl hAs hh hp hF hL
  unfold rk_takesOf at e
  split at e
  · rename_i m s
    cases hb : (decide (m = (2, 162, 1)) && decide (s.1 = 4 ∧ 0 ≤ s.2.1 ∧ s.2.1 < 5)) with
    | false => rw [hb] at e; cases e
    | true =>
      rw [hb] at e
      dsimp only [cond] at e
      rw [Bool.and_eq_true] at hb
      have hm := of_decide_eq_true hb.1
      subst hm
      obtain ⟨v, w, rfl, hv, hw⟩ := as2 hAs
      cases rf162 hv
      obtain ⟨k1, k2, k3⟩ := of_decide_eq_true hb.2
      have hw2 : ∃ i : Nat, w = .retAddr i ∧ s.2.1 = (i : Int) := by
        cases w with
        | retAddr i => exact ⟨i, rfl, hw.2⟩
        | int x => have := hw.1; omega
        | long x => have := hw.1; omega
        | ref x => have := hw.1; omega
        | null => have hw : s.1 = 3 := hw; omega
        | _ => exact hw.elim
      obtain ⟨i, rfl, hi⟩ := hw2
      have hi5 : i < 5 := by omega
      split at e
      · rename_i bs x ex
        cases e
        obtain ⟨e1, e2, e3, a, t, tp, m16, m17, m14, hA, ht, ha, x1, x2⟩ := rk_txt_ok hh ex
        refine wp_mono (hd_takesOf m16 m17 m14 hA ht ha (by omega) (by omega) hi5) ?_
        rintro _ rfl
        cases hk : tko i tp a t (st_tx i).length 0 with
        | none => exact ⟨⟨_, List.mem_cons_self, ⟨rfl, by decide⟩, hh, rfl, rfl⟩, fm_rf _, hp⟩
        | some j =>
          obtain ⟨j1, j2, j3⟩ := tko_some hk
          have j4 := st_le7 i hi5
          refine ⟨⟨_, List.mem_cons_of_mem _ (List.mem_singleton_self _), ⟨rfl, ?_, ?_⟩, rk_bump_ok hh e1 (by omega) (by omega) (by omega), rfl, rfl⟩, hat _ _ _ m16 hp⟩
          · rw [nI_toInt (by omega)]; dsimp only; omega
          · rw [nI_toInt (by omega)]; dsimp only; omega
      · cases e
  · cases e
/-- number(digits) -/
def rk_number (as : List av) (o : ah) : Option (List ar × Nat × Nat) := match as with
  | [m, s] => cond (decide (m = (2, 162, 1)) && decide (s.1 = 0 ∧ s.2.1 = s.2.2 ∧ 1 ≤ s.2.1 ∧ s.2.1 ≤ 3)) (match rk_txt o with
    | some (bs, x) => some ([(some (0, -1, -1), o), (some (0, 0, 10 ^ s.2.1.toNat - 1), rk_bump o bs x 1 s.2.1)], 5, 300)
    | none => none) none
  | _ => none
theorem rk_number_ok (hat : at_ok F PP) : kn1_ok F PP 184 rk_number := by
  intro as o R Fr Lo e As h fr lo sl hAs hh hp hF hL
  unfold rk_number at e
  split at e
  · rename_i m s
    cases hb : (decide (m = (2, 162, 1)) && decide (s.1 = 0 ∧ s.2.1 = s.2.2 ∧ 1 ≤ s.2.1 ∧ s.2.1 ≤ 3)) with
    | false => rw [hb] at e; cases e
    | true =>
      rw [hb] at e
      dsimp only [cond] at e
      rw [Bool.and_eq_true] at hb
      have hm := of_decide_eq_true hb.1
      subst hm
      obtain ⟨v, w, rfl, hv, hw⟩ := as2 hAs
      cases rf162 hv
      obtain ⟨k1, k2, k3, k4⟩ := of_decide_eq_true hb.2
      obtain ⟨dv, rfl, d1, d2⟩ := av_int k1 hw
      obtain ⟨d, rfl, hd, ed⟩ := hI_of (show 0 ≤ dv.toInt by omega)
      have hs : s.2.1 = (d : Int) := by omega
      split at e
      · rename_i bs x ex
        cases e
        obtain ⟨e1, e2, e3, a, t, tp, m16, m17, m14, hA, ht, ha, x1, x2⟩ := rk_txt_ok hh ex
        refine wp_mono (hd_number m16 m17 m14 hA ht ha (by omega) (by omega) (d := d) (by omega)) ?_
        rintro _ rfl
        cases hg : dg tp a t with
        | false => exact ⟨⟨_, List.mem_cons_self, ⟨rfl, by decide⟩, hh, rfl, rfl⟩, fm_rf _, hp⟩
        | true =>
          have hpow : (10 : Int) ^ d * (0 + 1) ≤ 10000 := by
            have : d = 1 ∨ d = 2 ∨ d = 3 := by omega
            rcases this with rfl | rfl | rfl <;> decide
          have b1 := nbr_bd (tp := tp) t d a 0 0 (by decide) (by decide) (by decide) hpow
          obtain ⟨d', rfl⟩ : ∃ d', d = d' + 1 := ⟨d - 1, by omega⟩
          have hlt := (dg_iv hg).1
          have b2 : a + 1 ≤ (nbr tp t (d' + 1) a 0).1 := by
            rw [nbr_gt t hg]
            obtain ⟨q1, q2⟩ := nbr_step (v := 0) (x := tp a) (m := 0) ⟨by decide, by decide⟩ (by decide) (dg_iv hg).2
            have hpow2 : (10 : Int) ^ d' * (9 + 1) ≤ 10000 := by
              have : d' = 0 ∨ d' = 1 ∨ d' = 2 := by omega
              rcases this with rfl | rfl | rfl <;> decide
            exact (nbr_bd (tp := tp) t d' (a + 1) (10 * 0 + tp a - 48) 9 q1 (by omega) (by decide) hpow2).1
          refine ⟨⟨_, List.mem_cons_of_mem _ (List.mem_singleton_self _), ⟨rfl, ?_, ?_⟩, rk_bump_ok hh e1 (by omega) (by rw [hs]; omega) (by omega), rfl, rfl⟩, hat _ _ _ m16 hp⟩
          · exact b1.2.2.2.1
          · dsimp only
            rw [hs]
            have := b1.2.2.2.2
            rw [show ((d' + 1 : Nat) : Int).toNat = d' + 1 by omega]
            omega
      · cases e
  · cases e
/-- digitIn(low, high) -/
def rk_digitIn (as : List av) (o : ah) : Option (List ar × Nat × Nat) := match as with
  | [m, l, u] => cond (decide (m = (2, 162, 1)) && (Nat.beq l.1 0 && Nat.beq u.1 0)) (match rk_txt o with
    | some (bs, x) => some ((some (0, -1, -1), o) :: cond (decide (l.2.1 ≤ u.2.2)) [(some (0, l.2.1, u.2.2), rk_bump o bs x 1 1)] [], 5, 300)
    | none => none) none
  | _ => none
theorem in_b_iv {v l u : Int32} (q : in_b v.toInt64 l.toInt64 u.toInt64 = true) : l.toInt ≤ v.toInt ∧ v.toInt ≤ u.toInt := by
  unfold in_b at q
  rw [Bool.and_eq_true] at q
  have e1 : ¬ v.toInt64 < l.toInt64 := by simpa using q.1
  have e2 : ¬ u.toInt64 < v.toInt64 := by simpa using q.2
  rw [Int64.lt_iff_toInt_lt, Int32.toInt_toInt64, Int32.toInt_toInt64] at e1 e2
  omega
theorem rk_digitIn_ok (hat : at_ok F PP) : kn1_ok F PP 185 rk_digitIn := by
  intro as o R Fr Lo e As h fr lo sl hAs hh hp hF hL
  unfold rk_digitIn at e
  split at e
  · rename_i m l u
    cases hb : (decide (m = (2, 162, 1)) && (Nat.beq l.1 0 && Nat.beq u.1 0)) with
    | false => rw [hb] at e; cases e
    | true =>
      rw [hb] at e
      dsimp only [cond] at e
      rw [Bool.and_eq_true, Bool.and_eq_true] at hb
      have hm := of_decide_eq_true hb.1
      subst hm
      obtain ⟨v, w, z, rfl, hv, hw, hz⟩ := as3 hAs
      cases rf162 hv
      obtain ⟨lv, rfl, l1, l2⟩ := av_int (Nat.eq_of_beq_eq_true hb.2.1) hw
      obtain ⟨uv, rfl, u1, u2⟩ := av_int (Nat.eq_of_beq_eq_true hb.2.2) hz
      split at e
      · rename_i bs x ex
        cases e
        obtain ⟨e1, e2, e3, a, t, tp, m16, m17, m14, hA, ht, ha, x1, x2⟩ := rk_txt_ok hh ex
        refine wp_mono (hd_digitIn m16 m17 m14 hA ht ha (by omega) (by omega) lv uv) ?_
        rintro _ rfl
        cases hg : dgi tp a t lv uv with
        | false => exact ⟨⟨_, List.mem_cons_self, ⟨rfl, by decide⟩, hh, rfl, rfl⟩, fm_rf _, hp⟩
        | true =>
          unfold dgi at hg
          rw [Bool.and_eq_true] at hg
          obtain ⟨i1, i2⟩ := in_b_iv hg.2
          have hlt := of_decide_eq_true hg.1
          rw [decide_eq_true (show l.2.1 ≤ u.2.2 by omega)]
          exact ⟨⟨_, List.mem_cons_of_mem _ (List.mem_singleton_self _), ⟨rfl, (by dsimp only; omega), (by dsimp only; omega)⟩, rk_bump_ok hh e1 (by omega) (by omega) (by omega), rfl, rfl⟩, hat _ _ _ m16 hp⟩
      · cases e
  · cases e
/-- ruled() -/
def rk_ruled (as : List av) (o : ah) : Option (List ar × Nat × Nat) := match as with
  | [m] => cond (decide (m = (2, 162, 1)) && (ob_is o 21 (2, 174, 1) && (ob_is o 25 (2, 176, 1) && ob_is o 26 (2, 177, 1)))) (match ah_get bB o 176, ah_get bB o 177 with
    | .inl (k1, n1, b1), .inl (k2, n2, b2) => cond (decide (k1 = 0 ∧ n1 = 80 ∧ b1.1 = 0) && decide (k2 = 0 ∧ n2 = 7 ∧ b2.1 = 0)) (some ([(some ai_top, ah_put o 176 (.inl (0, 80, ai_top)))], 5, 300)) none
    | _, _ => none) none
  | _ => none
theorem rk_ruled_ok : kn1_ok rxF rxQ 200 rk_ruled := by
  intro as o R Fr Lo e As h fr lo sl hAs hh hp hF hL
  unfold rk_ruled at e
  split at e
  · rename_i m
    cases hb : (decide (m = (2, 162, 1)) && (ob_is o 21 (2, 174, 1) && (ob_is o 25 (2, 176, 1) && ob_is o 26 (2, 177, 1)))) with
    | false => rw [hb] at e; cases e
    | true =>
      rw [hb] at e
      dsimp only [cond] at e
      rw [Bool.and_eq_true, Bool.and_eq_true, Bool.and_eq_true] at hb
      obtain ⟨b1, b2, b3, b4⟩ := hb
      have hm := of_decide_eq_true b1
      subst hm
      obtain ⟨v, rfl, hv⟩ := as1 hAs
      cases rf162 hv
      obtain ⟨a1, e1, f1⟩ := ob_is_ok b2
      obtain ⟨a2, e2, f2⟩ := ob_is_ok b3
      obtain ⟨a3, e3, f3⟩ := ob_is_ok b4
      split at e
      · rename_i k1 n1 c1 k2 n2 c2 g1 g2
        cases hc : (decide (k1 = 0 ∧ n1 = 80 ∧ c1.1 = 0) && decide (k2 = 0 ∧ n2 = 7 ∧ c2.1 = 0)) with
        | false => rw [hc] at e; cases e
        | true =>
          rw [hc] at e
          cases e
          rw [Bool.and_eq_true] at hc
          obtain ⟨rfl, rfl, i1⟩ := of_decide_eq_true hc.1
          obtain ⟨rfl, rfl, i2⟩ := of_decide_eq_true hc.2
          obtain ⟨st, hS, -⟩ := ob_int hh (by decide) g1 i1 (by decide)
          obtain ⟨ask, hAk, -⟩ := ob_int hh (by decide) g2 i2 (by decide)
          obtain ⟨⟨n, dn, f, c1', c2', c3', c4'⟩, hp2⟩ := id hp
          refine wp_mono (hd_ruled c3' c4' (by omega) (by omega) c1' (ob_ref hh e1 f1) c2' (ob_ref hh e2 f2) hS (ob_ref hh e3 f3) hAk) ?_
          rintro _ ⟨v, st2, rfl⟩
          have hf0 : fm rxF0 h (aset h 176 80 st2) := fm_as rfl hS
          exact ⟨⟨_, List.mem_singleton_self _, ai_top_ok v, ob_arr hh ⟨rfl, rfl, fun j _ => ai_top_ok _⟩, rfl, rfl⟩, rxle _ _ hf0, rxpp _ _ hf0 hp⟩
      · cases e
  · cases e
/-- copies() -/
def rk_copies (as : List av) (o : ah) : Option (List ar × Nat × Nat) := match as with
  | [m] => cond (decide (m = (2, 162, 1)) && (ob_is o 12 (2, 170, 1) && ob_is o 13 (2, 171, 1))) (match ah_get bB o 170, ah_get bB o 171 with
    | .inr (k1, bs), .inr (k2, cs) => cond (decide (k1 = 1000 ∧ bs.length = 96) && decide (k2 = 1000 ∧ cs.length = 96)) (some ([(none, ah_put o 171 (.inr (1000, bs)))], 5, 300)) none
    | _, _ => none) none
  | _ => none
theorem rk_copies_ok : kn1_ok rxF rxQ 229 rk_copies := by
  intro as o R Fr Lo e As h fr lo sl hAs hh hp hF hL
  unfold rk_copies at e
  split at e
  · rename_i m
    cases hb : (decide (m = (2, 162, 1)) && (ob_is o 12 (2, 170, 1) && ob_is o 13 (2, 171, 1))) with
    | false => rw [hb] at e; cases e
    | true =>
      rw [hb] at e
      dsimp only [cond] at e
      rw [Bool.and_eq_true, Bool.and_eq_true] at hb
      obtain ⟨b1, b2, b3⟩ := hb
      have hm := of_decide_eq_true b1
      subst hm
      obtain ⟨v, rfl, hv⟩ := as1 hAs
      cases rf162 hv
      obtain ⟨a1, e1, f1⟩ := ob_is_ok b2
      obtain ⟨a2, e2, f2⟩ := ob_is_ok b3
      split at e
      · rename_i k1 bs k2 cs g1 g2
        cases hc : (decide (k1 = 1000 ∧ bs.length = 96) && decide (k2 = 1000 ∧ cs.length = 96)) with
        | false => rw [hc] at e; cases e
        | true =>
          rw [hc] at e
          cases e
          rw [Bool.and_eq_true] at hc
          obtain ⟨rfl, i1⟩ := of_decide_eq_true hc.1
          obtain ⟨rfl, i2⟩ := of_decide_eq_true hc.2
          obtain ⟨f, hN, tN⟩ := ob_intE hh (by decide) g1
          obtain ⟨g, hT, -⟩ := ob_intE hh (by decide) g2
          rw [i1] at hN
          rw [i2] at hT
          refine wp_mono (hd_copies (ob_ref hh e2 f2) (ob_ref hh e1 f1) hN hT) ?_
          rintro _ ⟨g3, rfl, q⟩
          have hf0 : fm rxF0 h (aset h 171 96 g3) := fm_as rfl hT
          refine ⟨⟨_, List.mem_singleton_self _, trivial, ob_arr hh ⟨rfl, i1.symm, fun j a ha => ?_⟩, rfl, rfl⟩, rxle _ _ hf0, rxpp _ _ hf0 hp⟩
          rw [q j (by have := (List.getElem?_eq_some_iff.mp ha).1; omega)]
          exact tN j a ha
      · cases e
  · cases e
/-- the rows that are put by lie as they must -/
theorem rowT_of {bs : List av} (e : ac_le (.inr (1000, bs)) (bB 170) = true) {f : Nat → Int32} (t : ∀ (j : Nat) (a : av), bs[j]? = some a → av_ok (.int (f j)) a) : ∀ j, j < 96 → av_ok (.int (f j)) (rowT j) := by
  intro j hj
  have hb : ∃ cs, bB 170 = .inr (1000, cs) ∧ cs.length = 96 := ⟨_, rfl, rfl⟩
  obtain ⟨cs, eb, hl⟩ := hb
  have er : rowT j = cs.getD j (0, 0, 0) := by unfold rowT; rw [eb]
  rw [eb] at e
  have e : (Nat.beq 1000 1000 && al_le bs cs) = true := e
  rw [Bool.and_eq_true] at e
  obtain ⟨l1, l2⟩ := al_le_get e.2
  have hc : cs[j]? = some cs[j] := List.getElem?_eq_getElem (by omega)
  obtain ⟨a, ha, hle⟩ := l2 j _ hc
  rw [er, List.getD_eq_getElem?_getD, hc]
  exact av_le_ok hle (t j a ha)
/-- putsBy() -/
def rk_putsBy (as : List av) (o : ah) : Option (List ar × Nat × Nat) := match as with
  | [m] => cond (decide (m = (2, 162, 1)) && (ob_is o 12 (2, 170, 1) && (ob_is o 28 (2, 178, 1) && decide (ah_get bB o 178 = .inl (0, 1536, ai_top))))) (match ah_get bB o 162, ah_get bB o 170 with
    | .inr (ci, cs), .inr (k1, bs) => (match cs[27]? with
      | some u => cond (decide (ci = 11 ∧ k1 = 1000 ∧ bs.length = 96) && (decide (u.1 = 0 ∧ 0 ≤ u.2.1 ∧ u.2.2 ≤ 15) && ac_le (.inr (1000, bs)) (bB 170))) (some ([(none, o)], 5, 300)) none
      | none => none)
    | _, _ => none) none
  | _ => none
theorem rk_putsBy_ok : kn1_ok rxF rxQ 211 rk_putsBy := by
  intro as o R Fr Lo e As h fr lo sl hAs hh hp hF hL
  unfold rk_putsBy at e
  split at e
  · rename_i m
    cases hb : (decide (m = (2, 162, 1)) && (ob_is o 12 (2, 170, 1) && (ob_is o 28 (2, 178, 1) && decide (ah_get bB o 178 = .inl (0, 1536, ai_top))))) with
    | false => rw [hb] at e; cases e
    | true =>
      rw [hb] at e
      dsimp only [cond] at e
      rw [Bool.and_eq_true, Bool.and_eq_true, Bool.and_eq_true] at hb
      obtain ⟨b1, b2, b3, b4⟩ := hb
      have hm := of_decide_eq_true b1
      subst hm
      obtain ⟨v, rfl, hv⟩ := as1 hAs
      cases rf162 hv
      obtain ⟨a1, e1, f1⟩ := ob_is_ok b2
      obtain ⟨a2, e2, f2⟩ := ob_is_ok b3
      have g178 := of_decide_eq_true b4
      split at e
      · rename_i ci cs k1 bs g1 g2
        split at e
        · rename_i u hu
          cases hc : (decide (ci = 11 ∧ k1 = 1000 ∧ bs.length = 96) && (decide (u.1 = 0 ∧ 0 ≤ u.2.1 ∧ u.2.2 ≤ 15) && ac_le (.inr (1000, bs)) (bB 170))) with
          | false => rw [hc] at e; cases e
          | true =>
            rw [hc] at e
            cases e
            rw [Bool.and_eq_true, Bool.and_eq_true] at hc
            obtain ⟨rfl, rfl, i1⟩ := of_decide_eq_true hc.1
            obtain ⟨u1, u2, u3⟩ := of_decide_eq_true hc.2.1
            obtain ⟨uk, ul, uu⟩ := u
            dsimp only at u1 u2 u3
            subst u1
            obtain ⟨un, m27, w1, w2⟩ := ob_nat hh g1 hu u2 (by omega)
            obtain ⟨f, hN, tN⟩ := ob_intE hh (by decide) g2
            rw [i1] at hN
            obtain ⟨hp1, hp2, ⟨g, hU, tU⟩, hp4⟩ := id hp
            refine wp_mono (hd_putsBy (ob_ref hh e2 f2) (ob_ref hh e1 f1) m27 (by omega) hN hU) ?_
            rintro _ ⟨g3, rfl, q1, q2⟩
            have tf := rowT_of hc.2.2 tN
            have hrow : rowsOk (aset h 178 1536 g3) 178 1536 := by
              refine ⟨g3, aset_self _ _ _ _, fun j hj => ?_⟩
              by_cases z : 96 * un ≤ j ∧ j < 96 * un + 96
              · have := q1 (j - 96 * un) (by omega)
                rw [show 96 * un + (j - 96 * un) = j by omega, Nat.zero_add] at this
                rw [this, show j % 96 = j - 96 * un by omega]
                exact tf _ (by omega)
              · rw [q2 j (by omega)]
                exact tU j hj
            have hf : fm rxF h (aset h 178 1536 g3) := fm_as rfl hU
            refine ⟨⟨_, List.mem_singleton_self _, trivial, fun i hi => ?_, rfl, rfl⟩, hf, ?_⟩
            · by_cases z : i = 178
              · subst z
                show ac_ok (aset h 178 1536 g3 178) (ah_get bB o 178)
                rw [aset_self, g178]
                exact ⟨rfl, rfl, fun j _ => ai_top_ok _⟩
              · show ac_ok (aset h 178 1536 g3 i) _
                rw [aset_nei z]
                exact hh i hi
            · show rxQ (aset h 178 1536 g3)
              obtain ⟨n, dn, ff, c1, c2, c3⟩ := hp1
              obtain ⟨c, gg, d1, d2, d3⟩ := hp2
              obtain ⟨f4, r1, r2⟩ := hp4
              exact ⟨⟨n, dn, ff, mF_as (by decide) c1, aset_ne (by decide) c2, c3⟩, ⟨c, gg, mF_as (by decide) d1, mF_as (by decide) d2, d3⟩, hrow, f4, aset_ne (by decide) r1, r2⟩
        · cases e
      · cases e
  · cases e
/-- adds(answer) -/
def rk_adds (as : List av) (o : ah) : Option (List ar × Nat × Nat) := match as with
  | [m, x] => cond (decide (m = (2, 162, 1)) && (Nat.beq x.1 0 && (ob_is o 28 (2, 178, 1) && decide (ah_get bB o 178 = .inl (0, 1536, ai_top))))) (match ah_get bB o 162 with
    | .inr (ci, cs) => (match cs[27]? with
      | some u => cond (decide (ci = 11) && decide (u.1 = 0 ∧ 0 ≤ u.2.1 ∧ u.2.2 ≤ 15)) (some ([(some x, ah_put o 162 (.inr (11, cs.set 27 (0, 1, 15))))], 5, 300)) none
      | none => none)
    | _ => none) none
  | _ => none
theorem rk_adds_ok : kn1_ok rxF rxQ 212 rk_adds := by
  intro as o R Fr Lo e As h fr lo sl hAs hh hp hF hL
  unfold rk_adds at e
  split at e
  · rename_i m x
    cases hb : (decide (m = (2, 162, 1)) && (Nat.beq x.1 0 && (ob_is o 28 (2, 178, 1) && decide (ah_get bB o 178 = .inl (0, 1536, ai_top))))) with
    | false => rw [hb] at e; cases e
    | true =>
      rw [hb] at e
      dsimp only [cond] at e
      rw [Bool.and_eq_true, Bool.and_eq_true, Bool.and_eq_true] at hb
      obtain ⟨b1, b2, b3, b4⟩ := hb
      have hm := of_decide_eq_true b1
      subst hm
      obtain ⟨v, w, rfl, hv, hw⟩ := as2 hAs
      cases rf162 hv
      obtain ⟨xv, rfl, x1, x2⟩ := av_int (Nat.eq_of_beq_eq_true b2) hw
      obtain ⟨a2, e2, f2⟩ := ob_is_ok b3
      have g178 := of_decide_eq_true b4
      split at e
      · rename_i ci cs g1
        split at e
        · rename_i u hu
          cases hc : (decide (ci = 11) && decide (u.1 = 0 ∧ 0 ≤ u.2.1 ∧ u.2.2 ≤ 15)) with
          | false => rw [hc] at e; cases e
          | true =>
            rw [hc] at e
            cases e
            rw [Bool.and_eq_true] at hc
            have hci := of_decide_eq_true hc.1
            subst hci
            obtain ⟨u1, u2, u3⟩ := of_decide_eq_true hc.2
            obtain ⟨uk, ul, uu⟩ := u
            dsimp only at u1 u2 u3
            subst u1
            obtain ⟨un, m27, w1, w2⟩ := ob_nat hh g1 hu u2 (by omega)
            obtain ⟨hp1, hp2, ⟨g, hU, tU⟩, hp4⟩ := id hp
            refine wp_mono (hd_adds xv (ob_ref hh e2 f2) m27 (by omega) hU) ?_
            rintro _ ⟨g3, u2', rfl, q1, q2, q3⟩
            have hrow : rowsOk (aset (mset h 27 (.int (nI u2'))) 178 1536 g3) 178 1536 := by
              refine ⟨g3, aset_self _ _ _ _, fun j hj => ?_⟩
              rcases q3 with ⟨-, -, rfl⟩ | ⟨-, -, c1, c2⟩
              · exact tU j hj
              · by_cases z : j < 1440
                · have := c1 j z
                  rw [Nat.zero_add] at this
                  rw [this]
                  have t := tU (96 + j) (by omega)
                  rw [show (96 + j) % 96 = j % 96 by omega] at t
                  exact t
                · rw [c2 j (by omega)]
                  exact tU j hj
            have hf1 : fm rxF h (mset h 27 (.int (nI u2'))) := fm_ms rfl rfl m27
            have hf : fm rxF h (aset (mset h 27 (.int (nI u2'))) 178 1536 g3) := fm_tr hf1 (fm_as rfl (mset_arr (by decide) hU))
            have hs := ob_set (v := .int (nI u2')) (g := 27) (a := (0, 1, 15)) hh g1 ⟨rfl, by rw [nI_toInt (by omega)]; dsimp only; omega, by rw [nI_toInt (by omega)]; dsimp only; omega⟩
            refine ⟨⟨_, List.mem_singleton_self _, hw, fun i hi => ?_, rfl, rfl⟩, hf, ?_⟩
            · by_cases z : i = 178
              · subst z
                have e9 : ah_get bB (ah_put o 162 (.inr (11, cs.set 27 (0, 1, 15)))) 178 = ah_get bB o 178 := by rw [ah_put_get, if_neg (by decide)]
                show ac_ok (aset (mset h 27 (.int (nI u2'))) 178 1536 g3 178) (ah_get bB (ah_put o 162 (.inr (11, cs.set 27 (0, 1, 15)))) 178)
                rw [aset_self, e9, g178]
                exact ⟨rfl, rfl, fun j _ => ai_top_ok _⟩
              · show ac_ok (aset (mset h 27 (.int (nI u2'))) 178 1536 g3 i) _
                rw [aset_nei z]
                exact hs i hi
            · show rxQ (aset (mset h 27 (.int (nI u2'))) 178 1536 g3)
              obtain ⟨n, dn, ff, c1, c2, c3⟩ := hp1
              obtain ⟨c, gg, d1, d2, d3⟩ := hp2
              obtain ⟨f4, r1, r2⟩ := hp4
              exact ⟨⟨n, dn, ff, mF_as (by decide) (mF_ne (by decide) c1), aset_ne (by decide) (mset_arr (by decide) c2), c3⟩, ⟨c, gg, mF_as (by decide) (mF_ne (by decide) d1), mF_as (by decide) (mF_ne (by decide) d2), d3⟩, hrow, f4, aset_ne (by decide) (mset_arr (by decide) r1), r2⟩
        · cases e
      · cases e
  · cases e
/-- reading alone -/
def rkp : kn := kn_or (kn_of 181 rk_takes) (kn_or (kn_of 182 rk_isDigit) (kn_or (kn_of 183 rk_takesOf) (kn_or (kn_of 184 rk_number) (kn_of 185 rk_digitIn))))
theorem rkp_ok (hat : at_ok F PP) : kn_ok rkp PT bB 198 F PP := kn_or_ok (kn_of_ok (rk_takes_ok hat)) (kn_or_ok (kn_of_ok (rk_isDigit_ok hat)) (kn_or_ok (kn_of_ok (rk_takesOf_ok hat)) (kn_or_ok (kn_of_ok (rk_number_ok hat)) (kn_of_ok (rk_digitIn_ok hat)))))
def rk : kn := kn_or (kn_of 181 rk_takes) (kn_or (kn_of 182 rk_isDigit) (kn_or (kn_of 183 rk_takesOf) (kn_or (kn_of 184 rk_number) (kn_or (kn_of 185 rk_digitIn) (kn_or (kn_of 200 rk_ruled) (kn_or (kn_of 229 rk_copies) (kn_or (kn_of 211 rk_putsBy) (kn_of 212 rk_adds))))))))
theorem rk_ok : kn_ok rk PT bB 198 rxF rxQ := kn_or_ok (kn_of_ok (rk_takes_ok at_rx)) (kn_or_ok (kn_of_ok (rk_isDigit_ok at_rx)) (kn_or_ok (kn_of_ok (rk_takesOf_ok at_rx)) (kn_or_ok (kn_of_ok (rk_number_ok at_rx)) (kn_or_ok (kn_of_ok (rk_digitIn_ok at_rx)) (kn_or_ok (kn_of_ok rk_ruled_ok) (kn_or_ok (kn_of_ok rk_copies_ok) (kn_or_ok (kn_of_ok rk_putsBy_ok) (kn_of_ok rk_adds_ok))))))))
end RKF
end MG55keepx2
section MG55keepx3
/-! enters, isCourt, rule; by hand -/
section RLE
variable {fr lo sl : Nat} {h : pm_H} {Q : pm_Rs → Prop}
def lset (h : pm_H) (a n : Nat) (f : Nat → Int64) : pm_H := va_up h a (.inl (2, n, .inr (.inl f)))
theorem lset_nei {a b n : Nat} {f : Nat → Int64} (hn : b ≠ a) : lset h a n f b = h b := by simp [lset, va_up, hn]
theorem lset_self (h : pm_H) (a n : Nat) (f : Nat → Int64) : lset h a n f a = .inl (2, n, .inr (.inl f)) := by simp [lset, va_up]
theorem mF_ls {a n g : Nat} {f : Nat → Int64} {w : Value} (hn : 162 ≠ a) (q : mF h g w) : mF (lset h a n f) g w := by
  obtain ⟨fs, e, e1⟩ := q
  exact ⟨fs, by rw [lset_nei hn]; exact e, e1⟩
theorem wp_lsm {k pc : Nat} {L : pm_L} {r : List Value} {a n : Nat} {i : Int32} {x : Int64} {f : Nat → Int64} (hi : pm_ins PT k pc = some (.lastore, 1)) (ha : h a = .inl (2, n, .inr (.inl f))) (hin : pm_in i n = true) (hl : a < 198) (kk : pm_WP PT fr lo k (pc + 1, L, r, lset h a n (vp_updL f i.toNatClampNeg x), 198, sl) Q) : pm_WP PT fr lo k (pc, L, .long x :: .int i :: .ref a :: r, h, 198, sl) Q := by
  refine wp_i hi rfl rfl ?_ kk
  show pm_lS PT pc L (.long x :: .int i :: .ref a :: r) h 198 sl = _
  unfold pm_lS
  dsimp only
  have e : pm_lar PT h 198 a = some (2, n, f) := by
    unfold pm_lar
    rw [if_pos hl, ha]
    exact if_pos rfl
  rw [e]
  dsimp only
  rw [if_pos hin]
  rfl
theorem dD_lset {C G : Nat → Bool} {a n : Nat} {f : Nat → Int64} (ha : C a = true) (ha2 : 162 ≠ a) : dD C G h (lset h a n f) := by
  refine ⟨fun i _ b => lset_nei (fun q => by rw [q, ha] at b; cases b), fun fs e => ⟨fs, ?_, rfl, fun _ _ => rfl⟩⟩
  rw [lset_nei ha2]
  exact e
theorem hd_enters {k : Nat} {f : Nat → Int64} (v : Int64) (h1 : mF h 1 (.int (nI k))) (hk : k < 128) (h2 : mF h 2 (.ref 163)) (hR : h 163 = .inl (2, 128, .inr (.inl f))) : pm_WP PT fr lo 167 (0, pm_l0 [.ref 162, .long v] 3, [], h, 198, sl) (fun r => r = (none, mset (lset h 163 128 (vp_updL f k v)) 1 (.int (nI (k + 1))), 198, sl)) := by
  refine wp_i rfl rfl rfl rfl ?_
  show pm_WP PT fr lo 167 (1, [some (.ref 162), some (.long v), none], [.ref 162], h, 198, sl) _
  refine wp_gfm rfl rfl h2 ?_
  refine wp_i rfl rfl rfl rfl ?_
  show pm_WP PT fr lo 167 (5, [some (.ref 162), some (.long v), none], [.ref 162, .ref 163], h, 198, sl) _
  refine wp_gfm rfl rfl h1 ?_
  refine wp_i rfl rfl rfl rfl ?_
  show pm_WP PT fr lo 167 (9, [some (.ref 162), some (.long v), none], [.long v, .int (nI k), .ref 163], h, 198, sl) _
  refine wp_lsm rfl hR (hI_in hk (by decide)) (by decide) ?_
  rw [nI_clamp (by omega)]
  have z1 : mF (lset h 163 128 (vp_updL f k v)) 1 (.int (nI k)) := mF_ls (by decide) h1
  generalize lset h 163 128 (vp_updL f k v) = hh at z1 ⊢
  refine wp_i rfl rfl rfl rfl ?_
  refine wp_i rfl rfl rfl rfl ?_
  show pm_WP PT fr lo 167 (12, [some (.ref 162), some (.long v), none], [.ref 162, .ref 162], hh, 198, sl) _
  refine wp_gfm rfl rfl z1 ?_
  refine wp_i rfl rfl rfl rfl ?_
  refine wp_i rfl rfl rfl rfl ?_
  show pm_WP PT fr lo 167 (17, [some (.ref 162), some (.long v), none], [.int (nI k + 1), .ref 162], hh, 198, sl) _
  rw [nI_1 k]
  show pm_WP PT fr lo 167 (17, [some (.ref 162), some (.long v), none], [.int (nI (k + 1)), .ref 162], hh, 198, sl) _
  refine wp_pfm rfl rfl rfl (by decide) z1 ?_
  show pm_WP PT fr lo 167 (20, [some (.ref 162), some (.long v), none], [], (mset hh 1 (.int (nI (k + 1)))), 198, sl) _
  exact wp_vret rfl rfl rfl
theorem hd_isCourt {c : Nat} (x : Int32) (h3 : mF h 3 (.int (nI c))) (hf : 1 ≤ fr) (hl : 30 ≤ lo) : pm_WP PT fr lo 168 (0, pm_l0 [.ref 162, .int x] 2, [], h, 198, sl) (fun r => r = (some (.int (cond (in_b x.toInt64 0 (nI c - 1).toInt64) 1 0)), h, 198, sl)) := by
  refine wp_i rfl rfl rfl rfl ?_
  refine wp_i rfl rfl rfl rfl ?_
  refine wp_i rfl rfl rfl rfl ?_
  refine wp_i rfl rfl rfl rfl ?_
  show pm_WP PT fr lo 168 (4, [some (.ref 162), some (.int x)], [.ref 162, .long 0, .long (x).toInt64], h, 198, sl) _
  refine wp_gfm rfl rfl h3 ?_
  refine wp_i rfl rfl rfl rfl ?_
  refine wp_i rfl rfl rfl rfl ?_
  refine wp_i rfl rfl rfl rfl ?_
  show pm_WP PT fr lo 168 (10, [some (.ref 162), some (.int x)], [.long (((nI c) - 1)).toInt64, .long 0, .long (x).toInt64], h, 198, sl) _
  refine wp_callS (t := 163) (As := [.long (x).toInt64, .long 0, .long (((nI c) - 1)).toInt64]) (rest := []) (mx := 6) rfl rfl rfl rfl (Nat.le_of_ble_eq_true rfl) (Nat.le_of_ble_eq_true rfl) hf (by omega) (wp_mono (hd_in x.toInt64 0 (nI c - 1).toInt64) ?_)
  rintro _ rfl
  show pm_WP PT fr lo 168 (13, [some (.ref 162), some (.int x)], [.int (cond (in_b x.toInt64 0 (nI c - 1).toInt64) 1 0)], h, 198, sl) _
  exact wp_zret rfl rfl (by cases in_b x.toInt64 0 (nI c - 1).toInt64; exact Or.inl rfl; exact Or.inr rfl) rfl
theorem isC_iv {x : Int32} {c : Nat} (hc : c ≤ 6) (q : in_b x.toInt64 0 (nI c - 1).toInt64 = true) : ∃ j, x = nI j ∧ j < c := by
  unfold in_b at q
  rw [Bool.and_eq_true] at q
  have e1 : ¬ x.toInt64 < 0 := by simpa using q.1
  have e2 : ¬ (nI c - 1).toInt64 < x.toInt64 := by simpa using q.2
  rw [Int64.lt_iff_toInt_lt, Int32.toInt_toInt64] at e1
  rw [Int64.lt_iff_toInt_lt, Int32.toInt_toInt64, Int32.toInt_toInt64] at e2
  have n1 : (0 : Int64).toInt = 0 := by decide
  have n2 : ∀ c : Nat, c ≤ 6 → (nI c - 1).toInt = (c : Int) - 1 := by decide
  rw [n1] at e1
  rw [n2 c hc] at e2
  obtain ⟨j, rfl, hj, ej⟩ := hI_of (show 0 ≤ x.toInt by omega)
  exact ⟨j, rfl, by omega⟩
/-- what holds between calls -/
def mInv (h : pm_H) : Prop := ah_ok bB 198 [] h ∧ rxQ h
/-- a call of the reference, of any answer v that A allows -/
def mPost (A : Option Value → Prop) (h : pm_H) (sl : Nat) (x : pm_Rs) : Prop := A x.1 ∧ x.2.2 = (198, sl) ∧ (∀ i, i < 162 → x.2.1 i = h i) ∧ mInv x.2.1
def anInt (v : Option Value) : Prop := ∃ x : Int32, v = some (.int x)
theorem rxQ_dD {C G : Nat → Bool} {h h' : pm_H} (p : dD C G h h') (c1 : C 174 = false) (c2 : C 178 = false) (c3 : C 196 = false) (g1 : G 3 = false) (g2 : G 4 = false) (g3 : G 23 = false) (q : rxQ h) : rxQ h' := by
  obtain ⟨⟨n, dn, f, a1, a2, a3⟩, ⟨c, g, b1, b2, b3⟩, ⟨f1, r1, r2⟩, f2, r3, r4⟩ := q
  exact ⟨⟨n, dn, f, dD_mF p g3 a1, (p.1 174 (by decide) c1).trans a2, a3⟩, ⟨c, g, dD_mF p g1 b1, dD_mF p g2 b2, b3⟩, ⟨f1, (p.1 178 (by decide) c2).trans r1, r2⟩, f2, (p.1 196 (by decide) c3).trans r3, r4⟩
def ruC (i : Nat) : Bool := Nat.beq i 175 || Nat.beq i 174
def ruG (g : Nat) : Bool := Nat.beq g 0 || (Nat.beq g 23 || rDG g)
theorem av_nI {n : Nat} {l u : Int} (h1 : l ≤ (n : Int)) (h2 : (n : Int) ≤ u) (hn : n < 1000000) : av_ok (.int (nI n)) (0, l, u) := ⟨rfl, by rw [nI_toInt (by omega)]; exact h1, by rw [nI_toInt (by omega)]; exact h2⟩
theorem nb_ne {i k : Nat} (h : i ≠ k) : Nat.beq i k = false := by
  cases hb : Nat.beq i k with
  | false => rfl
  | true => exact absurd (Nat.eq_of_beq_eq_true hb) h
theorem ruC_lt {i : Nat} (hi : i < 162) : ruC i = false := by
  unfold ruC
  rw [nb_ne (by omega), nb_ne (by omega)]
  rfl
theorem ru_cell {h : pm_H} {f g : Nat → Int32} {i : Nat} (hi : ruC i = true) (h1 : h 175 = .inl (0, 80, .inl f)) (h2 : h 174 = .inl (0, 80, .inl g)) : ac_ok (h i) (bB i) := by
  unfold ruC at hi
  rw [Bool.or_eq_true] at hi
  rcases hi with hi | hi
  · have := Nat.eq_of_beq_eq_true hi
    subst this
    rw [h1]
    exact ⟨rfl, rfl, fun j _ => ai_top_ok _⟩
  · have := Nat.eq_of_beq_eq_true hi
    subst this
    rw [h2]
    exact ⟨rfl, rfl, fun j _ => ai_top_ok _⟩
theorem ru_fld {h : pm_H} {g a t nn c : Nat} {b : av} {x23 : Value} (hg : ruG g = true) (hb : sp_fld bB [] 162 g = some b) (m0 : mF h 0 (.int 0)) (m15 : mF h 15 (.int 0)) (m16 : mF h 16 (.int (nI a))) (m17 : mF h 17 (.int (nI t))) (m18 : mF h 18 (.int (nI nn))) (m24 : mF h 24 (.int (nI c))) (m23 : mF h 23 x23) (v23 : av_ok x23 (0, 0, 80)) (ha : a ≤ 40) (ht : t ≤ 40) (hn : nn ≤ 4) (hc : c ≤ 40) : ∃ v, mF h g v ∧ av_ok v b := by
  have hg2 : g = 0 ∨ g = 23 ∨ g = 15 ∨ g = 16 ∨ g = 17 ∨ g = 18 ∨ g = 24 := by
    unfold ruG rDG at hg
    simp only [Bool.or_eq_true, Nat.beq_eq] at hg
    omega
  rcases hg2 with rfl | rfl | rfl | rfl | rfl | rfl | rfl
  · cases (Option.some.inj hb : _ = b); exact ⟨_, m0, ⟨rfl, by decide, by decide⟩⟩
  · cases (Option.some.inj hb : _ = b); exact ⟨_, m23, v23⟩
  · cases (Option.some.inj hb : _ = b); exact ⟨_, m15, ⟨rfl, by decide, by decide⟩⟩
  · cases (Option.some.inj hb : _ = b); exact ⟨_, m16, av_nI (by omega) (by omega) (by omega)⟩
  · cases (Option.some.inj hb : _ = b); exact ⟨_, m17, av_nI (by omega) (by omega) (by omega)⟩
  · cases (Option.some.inj hb : _ = b); exact ⟨_, m18, av_nI (by omega) (by omega) (by omega)⟩
  · cases (Option.some.inj hb : _ = b); exact ⟨_, m24, av_nI (by omega) (by omega) (by omega)⟩
theorem hd_rule (hI : mInv h) (hf : 500 ≤ fr) (hl : 12000 ≤ lo) : pm_WP PT fr lo 198 (0, pm_l0 [.ref 162] 2, [], h, 198, sl) (mPost anInt h sl) := by
  obtain ⟨hh, hq⟩ := hI
  obtain ⟨x0, h0, -⟩ := ty_fld hh (g := 0) rfl
  obtain ⟨n, h15, hn⟩ := ty_nat hh (g := 15) (u := 80) rfl (by decide)
  obtain ⟨x16, h16, -⟩ := ty_fld hh (g := 16) rfl
  obtain ⟨x17, h17, -⟩ := ty_fld hh (g := 17) rfl
  obtain ⟨x18, h18, -⟩ := ty_fld hh (g := 18) rfl
  obtain ⟨x24, h24, -⟩ := ty_fld hh (g := 24) rfl
  have h14 := ty_ref hh (g := 14) (p := 172) rfl
  have h22 := ty_ref hh (g := 22) (p := 175) rfl
  have h21 := ty_ref hh (g := 21) (p := 174) rfl
  obtain ⟨tp, hA, -⟩ := ty_arr hh (i := 172) (by decide) rfl rfl (by decide)
  obtain ⟨rc, hR, -⟩ := ty_arr hh (i := 175) (by decide) rfl rfl (by decide)
  obtain ⟨cd, hC, -⟩ := ty_arr hh (i := 174) (by decide) rfl rfl (by decide)
  refine wp_i rfl rfl rfl rfl ?_
  refine wp_i rfl rfl rfl rfl ?_
  show pm_WP PT fr lo 198 (2, [some (.ref 162), none], [.int 0, .ref 162], h, 198, sl) _
  refine wp_pfm rfl rfl rfl (by decide) h0 ?_
  refine wp_i rfl rfl rfl rfl ?_
  show pm_WP PT fr lo 198 (6, [some (.ref 162), none], [.ref 162], (mset h 0 (.int 0)), 198, sl) _
  refine wp_callM (t := 196) (As := []) (rest := []) (mx := 3) rfl rfl rfl rfl (Nat.le_of_ble_eq_true rfl) (Nat.le_of_ble_eq_true rfl) (by omega) (by omega) rfl (mF_obj (mF_self h0)) (wp_mono (hd_readsRule (n := n) (mF_ne (by decide) h15) (mF_ne (by decide) h16) (mF_ne (by decide) h17) (mF_ne (by decide) h18) (mF_ne (by decide) h24) (mF_ne (by decide) h14) (mset_arr (by decide) hA) (mF_ne (by decide) h22) (mset_arr (by decide) hR) hn (by omega) (by omega)) ?_)
  rintro _ ⟨f, h2, a, t, nn, c, rc2, tp2, rfl, d2, s2, m15, ha, ht, hnn, hc, f1, f2, f3⟩
  obtain ⟨p1, p2, p3, p4, p5, p6, p7, p8⟩ := s2
  have d0 : dD ruC ruG h h2 := dD_tr (dD_set rfl) (dD_mono d2 (fun i q => by unfold ruC at q; rw [Bool.or_eq_false_iff] at q; exact q.1) (fun g q => by unfold ruG at q; rw [Bool.or_eq_false_iff, Bool.or_eq_false_iff] at q; exact q.2.2))
  have m0 : mF h2 0 (.int 0) := dD_mF d2 rfl (mF_self h0)
  have m21 : mF h2 21 (.ref 174) := dD_mF d2 rfl (mF_ne (by decide) h21)
  obtain ⟨x23, h23, v23⟩ := ty_fld hh (g := 23) rfl
  have m23 : mF h2 23 x23 := dD_mF d2 rfl (mF_ne (by decide) h23)
  have mC : h2 174 = .inl (0, 80, .inl cd) := (d2.1 174 (by decide) rfl).trans (mset_arr (by decide) hC)
  refine wp_i rfl rfl rfl rfl ?_
  refine wp_i rfl rfl rfl rfl ?_
  show pm_WP PT fr lo 198 (11, [some (.ref 162), some (.int f)], [.int f], h2, 198, sl) _
  refine wp_if (c := .ne) (off := 15) (t := 26) rfl rfl (fun q => ?_) (fun q => ?_)
  · have q : ¬ f = 0 := (rs_t (P := ¬ f = 0) rfl).1 q
    refine wp_i rfl rfl rfl rfl ?_
    show pm_WP PT fr lo 198 (27, [some (.ref 162), some (.int f)], [.int f], h2, 198, sl) _
    refine wp_iret rfl rfl ?_
    have dq : dD rDC (fun g => Nat.beq g 0 || rDG g) h h2 := dD_tr (dD_set rfl) (dD_mono d2 (fun _ q => q) (fun g q => by rw [Bool.or_eq_false_iff] at q; exact q.2))
    refine ⟨⟨f, rfl⟩, rfl, fun i hi => (d0).1 i (by omega) (ruC_lt hi), dD_ty hh d0 (fun i hi _ _ => ?_) (fun g hg b hb => ?_), rxQ_dD dq rfl rfl rfl rfl rfl rfl hq⟩
    · exact ru_cell hi p8 mC
    · exact ru_fld hg hb m0 m15 p1 p2 p5 p6 m23 v23 ha ht hnn hc
  · have q : f = 0 := Decidable.not_not.mp ((rs_t (P := ¬ f = 0) rfl).2 q)
    refine wp_i rfl rfl rfl rfl ?_
    refine wp_i rfl rfl rfl rfl ?_
    show pm_WP PT fr lo 198 (16, [some (.ref 162), some (.int f)], [.ref 162, .ref 162], h2, 198, sl) _
    refine wp_gfm rfl rfl p7 ?_
    refine wp_i rfl rfl rfl rfl ?_
    show pm_WP PT fr lo 198 (20, [some (.ref 162), some (.int f)], [.ref 162, .ref 175, .ref 162], h2, 198, sl) _
    refine wp_gfm rfl rfl p6 ?_
    show pm_WP PT fr lo 198 (23, [some (.ref 162), some (.int f)], [.int (nI c), .ref 175, .ref 162], h2, 198, sl) _
    refine wp_callM (t := 197) (As := [.ref 175, .int (nI c)]) (rest := []) (mx := 4) rfl rfl rfl rfl (Nat.le_of_ble_eq_true rfl) (Nat.le_of_ble_eq_true rfl) (by omega) (by omega) rfl (mF_obj m21) (wp_mono (hd_lays175 (f := rc2) (g := cd) (n := c) (by omega) m23 m21 p8 mC) ?_)
    rintro _ ⟨g2, rfl, hg2⟩
    refine wp_i rfl rfl rfl rfl ?_
    show pm_WP PT fr lo 198 (27, [some (.ref 162), some (.int f)], [.int f], (aset (mset h2 23 (.int (nI c))) 174 80 g2), 198, sl) _
    refine wp_iret rfl rfl ?_
    have d3 : dD ruC ruG h (aset (mset h2 23 (.int (nI c))) 174 80 g2) := dD_tr (dD_tr d0 (dD_set rfl)) (dD_arr rfl (by decide))
    obtain ⟨q1, ⟨qc, qg, qb1, qb2, qb3⟩, ⟨qf, qr1, qr2⟩, qf2, qr3, qr4⟩ := hq
    have hq2 : rxQ (aset (mset h2 23 (.int (nI c))) 174 80 g2) := ⟨⟨c, 1, g2, mF_as (by decide) (mF_self m23), aset_self _ _ _ _, by omega, (f3 q).imp id (fun e => ⟨by rw [dep_cong hg2]; exact e, Nat.le_refl _⟩)⟩, ⟨qc, qg, dD_mF d3 rfl qb1, dD_mF d3 rfl qb2, qb3⟩, ⟨qf, (d3.1 178 (by decide) rfl).trans qr1, qr2⟩, qf2, (d3.1 196 (by decide) rfl).trans qr3, qr4⟩
    refine ⟨⟨f, rfl⟩, rfl, fun i hi => (d3).1 i (by omega) (ruC_lt hi), dD_ty hh d3 (fun i hi _ _ => ?_) (fun g hg b hb => ?_), hq2⟩
    · exact ru_cell (h := aset (mset h2 23 (.int (nI c))) 174 80 g2) hi (aset_ne (by decide) (mset_arr (by decide) p8)) (aset_self _ _ _ _)
    · exact ru_fld hg hb (mF_as (by decide) (mF_ne (by decide) m0)) (mF_as (by decide) (mF_ne (by decide) m15)) (mF_as (by decide) (mF_ne (by decide) p1)) (mF_as (by decide) (mF_ne (by decide) p2)) (mF_as (by decide) (mF_ne (by decide) p5)) (mF_as (by decide) (mF_ne (by decide) p6)) (mF_as (by decide) (mF_self m23)) (av_nI (l := 0) (u := 80) (by omega) (by omega) (by omega)) ha ht hnn hc
end RLE
end MG55keepx3
