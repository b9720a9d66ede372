/-! the operations on intervals (ab_num, ab_and .. ab_asI: rows out of kit/laws, turned) -/
theorem ab_bm {z : Int} (h1 : ai_lo ≤ z) (h2 : z ≤ ai_hi) : z.bmod (2 ^ 32) = z := by
  unfold ai_lo at h1
  unfold ai_hi at h2
  rw [Int.bmod_eq_of_le (by omega) (by omega)]
theorem ab_bmL {z : Int} (h1 : al_lo ≤ z) (h2 : z ≤ al_hi) : z.bmod (2 ^ 64) = z := by
  unfold al_lo at h1
  unfold al_hi at h2
  rw [Int.bmod_eq_of_le (by omega) (by omega)]
theorem ab_and (a b : Nat) : nI a &&& nI b = nI (a &&& b) := by
  apply Int32.toBitVec_inj.1
  show BitVec.ofNat 32 a &&& BitVec.ofNat 32 b = BitVec.ofNat 32 (a &&& b)
  apply BitVec.eq_of_getLsbD_eq
  intro i hi
  simp [hi]
theorem ab_or (a b : Nat) : nI a ||| nI b = nI (a ||| b) := by
  apply Int32.toBitVec_inj.1
  show BitVec.ofNat 32 a ||| BitVec.ofNat 32 b = BitVec.ofNat 32 (a ||| b)
  apply BitVec.eq_of_getLsbD_eq
  intro i hi
  simp [hi]
theorem ab_xor (a b : Nat) : nI a ^^^ nI b = nI (a ^^^ b) := by
  apply Int32.toBitVec_inj.1
  show BitVec.ofNat 32 a ^^^ BitVec.ofNat 32 b = BitVec.ofNat 32 (a ^^^ b)
  apply BitVec.eq_of_getLsbD_eq
  intro i hi
  simp [hi]
theorem ab_of32 (x : Int32) : ∃ n, n < 2 ^ 32 ∧ x = nI n := ⟨x.toBitVec.toNat, x.toBitVec.isLt, Int32.toBitVec_inj.mp (by show _ = BitVec.ofNat 32 _; simp)⟩
theorem ab_sl : ∀ n, n < 32 → ((nI n &&& 31).toBitVec.smod 32).toNat = n := by decide +kernel
theorem ab_su : ∀ n, n < 32 → (((nI n).toUInt32 &&& Int32.toUInt32 31).toBitVec % 32).toNat = n := by decide +kernel
theorem ab_nn {x : Int32} {lo : Int} (h : lo ≤ x.toInt) (h0 : 0 ≤ lo) : ∃ j : Nat, j < 2 ^ 31 ∧ x = nI j ∧ x.toInt = j := by
  have h1 : ¬ x < 0 := by
    rw [Int32.lt_iff_toInt_lt, Int32.toInt_zero]
    omega
  obtain ⟨j, hj, rfl⟩ := nI_of h1
  exact ⟨j, hj, rfl, nI_toInt hj⟩
/-- both operands are known: the machine's own operation; else g -/
def ab_ex (F : Int32 → Int32 → Int32) (g : av → av → Option av) (a b : av) : Option av := if a.2.1 = a.2.2 ∧ b.2.1 = b.2.2 then some (0, (F (Int32.ofInt a.2.1) (Int32.ofInt b.2.1)).toInt, (F (Int32.ofInt a.2.1) (Int32.ofInt b.2.1)).toInt) else g a b
/-- g is right for F -/
def ab_S (F : Int32 → Int32 → Int32) (g : av → av → Option av) : Prop := ∀ (a b c : av) (x y : Int32), g a b = some c → a.2.1 ≤ x.toInt → x.toInt ≤ a.2.2 → b.2.1 ≤ y.toInt → y.toInt ≤ b.2.2 → av_ok (.int (F x y)) c
theorem ab_ex_ok {F : Int32 → Int32 → Int32} {g : av → av → Option av} (h : ab_S F g) : ab_S F (ab_ex F g) := by
  intro a b c x y e h1 h2 h3 h4
  unfold ab_ex at e
  split at e
  · rename_i q
    cases e
    have ex : Int32.ofInt a.2.1 = x := by rw [show a.2.1 = x.toInt by omega]; exact Int32.ofInt_toInt x
    have ey : Int32.ofInt b.2.1 = y := by rw [show b.2.1 = y.toInt by omega]; exact Int32.ofInt_toInt y
    rw [ex, ey]
    exact ⟨rfl, Int.le_refl _, Int.le_refl _⟩
  · exact h a b c x y e h1 h2 h3 h4
def ag_add (a b : av) : Option av := some (ai_mk (a.2.1 + b.2.1) (a.2.2 + b.2.2))
theorem ag_add_ok : ab_S (fun x y => x + y) ag_add := by
  intro a b c x y e h1 h2 h3 h4
  cases e
  exact ai_mk_ok (z := x.toInt + y.toInt) (fun q1 q2 => by rw [Int32.toInt_add, ab_bm q1 q2]) (by omega) (by omega)
def ag_sub (a b : av) : Option av := some (ai_mk (a.2.1 - b.2.2) (a.2.2 - b.2.1))
theorem ag_sub_ok : ab_S (fun x y => x - y) ag_sub := by
  intro a b c x y e h1 h2 h3 h4
  cases e
  exact ai_mk_ok (z := x.toInt - y.toInt) (fun q1 q2 => by rw [Int32.toInt_sub, ab_bm q1 q2]) (by omega) (by omega)
def ag_mul (a b : av) : Option av := if 0 ≤ a.2.1 ∧ 0 ≤ b.2.1 then some (ai_mk 0 (a.2.2 * b.2.2)) else some ai_top
theorem ag_mul_ok : ab_S (fun x y => x * y) ag_mul := by
  intro a b c x y e h1 h2 h3 h4
  unfold ag_mul at e
  split at e
  · rename_i q
    cases e
    exact ai_mk_ok (z := x.toInt * y.toInt) (fun q1 q2 => by rw [Int32.toInt_mul, ab_bm q1 q2]) (Int.mul_nonneg (by omega) (by omega)) (Int.mul_le_mul h2 h4 (by omega) (by omega))
  · cases e; exact ai_top_ok _
def ag_and (a b : av) : Option av := if 0 ≤ a.2.1 then some (0, 0, a.2.2) else if 0 ≤ b.2.1 then some (0, 0, b.2.2) else some ai_top
theorem ag_and_ok : ab_S (fun x y => x &&& y) ag_and := by
  intro a b c x y e h1 h2 h3 h4
  unfold ag_and at e
  split at e
  · rename_i q
    cases e
    obtain ⟨n, hn, rfl, hx⟩ := ab_nn h1 q
    obtain ⟨m, hm, rfl⟩ := ab_of32 y
    show av_ok (.int (nI n &&& nI m)) _
    rw [ab_and]
    have h5 : n &&& m ≤ n := Nat.and_le_left
    have h6 := nI_toInt (n := n &&& m) (by omega)
    exact ⟨rfl, by rw [h6]; dsimp only; omega, by rw [h6]; dsimp only; omega⟩
  · split at e
    · rename_i q
      cases e
      obtain ⟨n, hn, rfl, hx⟩ := ab_nn h3 q
      obtain ⟨m, hm, rfl⟩ := ab_of32 x
      show av_ok (.int (nI m &&& nI n)) _
      rw [ab_and]
      have h5 : m &&& n ≤ n := Nat.and_le_right
      have h6 := nI_toInt (n := m &&& n) (by omega)
      exact ⟨rfl, by rw [h6]; dsimp only; omega, by rw [h6]; dsimp only; omega⟩
    · cases e; exact ai_top_ok _
theorem ab_or_le : ∀ (a b : Nat), a ||| b ≤ a + b := by
  intro a
  induction a using Nat.strongRecOn with
  | _ a ih =>
    intro b
    by_cases h0 : a = 0
    · subst h0; simp
    · have h1 := ih (a / 2) (by omega) (b / 2)
      have h2 := Nat.or_div_two (a := a) (b := b)
      have h3 := Nat.or_mod_two_eq_one (a := a) (b := b)
      rw [← h2] at h1
      by_cases hm : (a ||| b) % 2 = 1
      · have := h3.mp hm
        omega
      · omega
theorem ab_xor_le : ∀ (a b : Nat), a ^^^ b ≤ a + b := by
  intro a
  induction a using Nat.strongRecOn with
  | _ a ih =>
    intro b
    by_cases h0 : a = 0
    · subst h0; simp
    · have h1 := ih (a / 2) (by omega) (b / 2)
      have h2 := Nat.xor_div_two (a := a) (b := b)
      have h3 := Nat.xor_mod_two_eq_one (a := a) (b := b)
      rw [← h2] at h1
      by_cases hm : (a ^^^ b) % 2 = 1
      · have := h3.mp hm
        omega
      · omega
def ag_or (a b : av) : Option av := if 0 ≤ a.2.1 ∧ 0 ≤ b.2.1 ∧ a.2.2 + b.2.2 ≤ ai_hi then some (0, 0, a.2.2 + b.2.2) else some ai_top
theorem ag_or_ok : ab_S (fun x y => x ||| y) ag_or := by
  intro a b c x y e h1 h2 h3 h4
  unfold ag_or at e
  split at e
  · rename_i q
    cases e
    obtain ⟨n, hn, rfl, hx⟩ := ab_nn h1 q.1
    obtain ⟨m, hm, rfl, hy⟩ := ab_nn h3 q.2.1
    show av_ok (.int (nI n ||| nI m)) _
    rw [ab_or]
    have h5 := ab_or_le n m
    have h7 := q.2.2
    unfold ai_hi at h7
    have h6 := nI_toInt (n := n ||| m) (by omega)
    exact ⟨rfl, by rw [h6]; dsimp only; omega, by rw [h6]; dsimp only; omega⟩
  · cases e; exact ai_top_ok _
def ag_xor (a b : av) : Option av := if 0 ≤ a.2.1 ∧ 0 ≤ b.2.1 ∧ a.2.2 + b.2.2 ≤ ai_hi then some (0, 0, a.2.2 + b.2.2) else if b.2.1 = -1 ∧ b.2.2 = -1 then some (0, -1 - a.2.2, -1 - a.2.1) else some ai_top
theorem ab_not (x : Int32) : (x ^^^ (-1)).toInt = -1 - x.toInt := by
  have e : x ^^^ (-1) = -1 - x := by
    apply Int32.toBitVec_inj.1
    show x.toBitVec ^^^ (-1 : Int32).toBitVec = (-1 : Int32).toBitVec - x.toBitVec
    have h1 : (-1 : Int32).toBitVec = BitVec.allOnes 32 := by decide
    rw [h1, BitVec.xor_allOnes, BitVec.allOnes_sub_eq_not]
  rw [e, Int32.toInt_sub]
  have h2 : (-1 : Int32).toInt = -1 := by decide
  rw [h2]
  have := ai_rng x
  unfold ai_lo ai_hi at this
  exact ab_bm (by unfold ai_lo; omega) (by unfold ai_hi; omega)
theorem ag_xor_ok : ab_S (fun x y => x ^^^ y) ag_xor := by
  intro a b c x y e h1 h2 h3 h4
  unfold ag_xor at e
  split at e
  · rename_i q
    cases e
    obtain ⟨n, hn, rfl, hx⟩ := ab_nn h1 q.1
    obtain ⟨m, hm, rfl, hy⟩ := ab_nn h3 q.2.1
    show av_ok (.int (nI n ^^^ nI m)) _
    rw [ab_xor]
    have h5 := ab_xor_le n m
    have h7 := q.2.2
    unfold ai_hi at h7
    have h6 := nI_toInt (n := n ^^^ m) (by omega)
    exact ⟨rfl, by rw [h6]; dsimp only; omega, by rw [h6]; dsimp only; omega⟩
  · split at e
    · rename_i q
      cases e
      have ey : y = -1 := by
        apply Int32.toInt_inj.1
        have h2 : (-1 : Int32).toInt = -1 := by decide
        rw [h2]
        omega
      subst ey
      show av_ok (.int (x ^^^ (-1))) _
      exact ⟨rfl, by rw [ab_not]; dsimp only; omega, by rw [ab_not]; dsimp only; omega⟩
    · cases e; exact ai_top_ok _
def ag_shl (a b : av) : Option av := if 0 ≤ a.2.1 ∧ 0 ≤ b.2.1 ∧ b.2.2 ≤ 30 ∧ a.2.2 * 2 ^ b.2.2.toNat ≤ ai_hi then some (0, 0, a.2.2 * 2 ^ b.2.2.toNat) else some ai_top
theorem ag_shl_ok : ab_S (fun x y => x <<< (y &&& 31)) ag_shl := by
  intro a b c x y e h1 h2 h3 h4
  unfold ag_shl at e
  split at e
  · rename_i q
    cases e
    obtain ⟨n, hn, rfl, hx⟩ := ab_nn h1 q.1
    obtain ⟨m, hm, rfl, hy⟩ := ab_nn h3 q.2.1
    have h7 := q.2.2.2
    have h8 : m ≤ b.2.2.toNat := by omega
    have h9 : (n : Int) * 2 ^ m ≤ a.2.2 * 2 ^ b.2.2.toNat := by
      have p1 : (2 : Int) ^ m ≤ 2 ^ b.2.2.toNat := by
        have := Nat.pow_le_pow_right (n := 2) (by omega) h8
        exact_mod_cast this
      exact Int.mul_le_mul (by omega) p1 (by exact Int.le_of_lt (Int.pow_pos (by omega))) (by omega)
    have h10 : (n : Int) * 2 ^ m = ((n * 2 ^ m : Nat) : Int) := by simp
    unfold ai_hi at h7
    show av_ok (.int (nI n <<< (nI m &&& 31))) _
    rw [pk_shlN _ m (ab_sl m (by omega)) (by omega)]
    have h6 := nI_toInt (n := n * 2 ^ m) (by omega)
    exact ⟨rfl, by rw [h6]; dsimp only; omega, by rw [h6]; dsimp only; omega⟩
  · cases e; exact ai_top_ok _
def ag_shr (a b : av) : Option av := if 0 ≤ a.2.1 ∧ 0 ≤ b.2.1 ∧ b.2.2 ≤ 31 then some (0, 0, a.2.2) else some ai_top
theorem ag_shr_ok : ab_S (fun x y => x >>> (y &&& 31)) ag_shr := by
  intro a b c x y e h1 h2 h3 h4
  unfold ag_shr at e
  split at e
  · rename_i q
    cases e
    obtain ⟨n, hn, rfl, hx⟩ := ab_nn h1 q.1
    obtain ⟨m, hm, rfl, hy⟩ := ab_nn h3 q.2.1
    show av_ok (.int (nI n >>> (nI m &&& 31))) _
    rw [pk_shrN hn _ m (ab_sl m (by omega))]
    have h5 : n / 2 ^ m ≤ n := Nat.div_le_self _ _
    generalize n / 2 ^ m = z at h5 ⊢
    have h6 := nI_toInt (n := z) (by omega)
    exact ⟨rfl, by rw [h6]; dsimp only; omega, by rw [h6]; dsimp only; omega⟩
  · cases e; exact ai_top_ok _
def ag_ushr (a b : av) : Option av := if 0 ≤ a.2.1 ∧ 0 ≤ b.2.1 ∧ b.2.2 ≤ 31 then some (0, 0, a.2.2) else if 1 ≤ b.2.1 ∧ b.2.2 ≤ 31 then some (0, 0, 4294967295 / 2 ^ b.2.1.toNat) else some ai_top
theorem ag_ushr_ok : ab_S (fun x y => (x.toUInt32 >>> (y.toUInt32 &&& Int32.toUInt32 31)).toInt32) ag_ushr := by
  intro a b c x y e h1 h2 h3 h4
  unfold ag_ushr at e
  split at e
  · rename_i q
    cases e
    obtain ⟨n, hn, rfl, hx⟩ := ab_nn h1 q.1
    obtain ⟨m, hm, rfl, hy⟩ := ab_nn h3 q.2.1
    show av_ok (.int (((nI n).toUInt32 >>> ((nI m).toUInt32 &&& Int32.toUInt32 31)).toInt32)) _
    rw [pk_ushrN (by omega) _ m (ab_su m (by omega))]
    have h5 : n / 2 ^ m ≤ n := Nat.div_le_self _ _
    generalize n / 2 ^ m = z at h5 ⊢
    have h6 := nI_toInt (n := z) (by omega)
    exact ⟨rfl, by rw [h6]; dsimp only; omega, by rw [h6]; dsimp only; omega⟩
  · split at e
    · rename_i q
      cases e
      obtain ⟨m, hm, rfl, hy⟩ := ab_nn h3 (by omega)
      obtain ⟨n, hn, rfl⟩ := ab_of32 x
      show av_ok (.int (((nI n).toUInt32 >>> ((nI m).toUInt32 &&& Int32.toUInt32 31)).toInt32)) _
      rw [pk_ushrN hn _ m (ab_su m (by omega))]
      have h5 : n / 2 ^ m ≤ 4294967295 / 2 ^ b.2.1.toNat := by
        have p1 : 2 ^ b.2.1.toNat ≤ 2 ^ m := Nat.pow_le_pow_right (by omega) (by omega)
        exact Nat.le_trans (Nat.div_le_div_right (by omega)) (Nat.div_le_div_left p1 (Nat.two_pow_pos _))
      have h8 : 2 ≤ 2 ^ b.2.1.toNat := by
        have := Nat.pow_le_pow_right (n := 2) (by omega) (show 1 ≤ b.2.1.toNat by omega)
        omega
      have h9 : 4294967295 / 2 ^ b.2.1.toNat ≤ 4294967295 / 2 := Nat.div_le_div_left h8 (by omega)
      have h10 : (4294967295 : Int) / 2 ^ b.2.1.toNat = ((4294967295 / 2 ^ b.2.1.toNat : Nat) : Int) := by simp
      rw [h10]
      generalize n / 2 ^ m = z at h5 ⊢
      generalize 4294967295 / 2 ^ b.2.1.toNat = u at h5 h9 ⊢
      have h6 := nI_toInt (n := z) (by omega)
      exact ⟨rfl, by rw [h6]; dsimp only; omega, by rw [h6]; dsimp only; omega⟩
    · cases e; exact ai_top_ok _
/-- a divisor that is above 0 -/
def ag_div (a b : av) : Option av := if 0 < b.2.1 ∧ 0 ≤ a.2.1 then some (0, 0, a.2.2) else if 0 < b.2.1 ∨ b.2.2 < 0 then some ai_top else none
theorem ag_div_ok : ab_S (fun x y => x / y) ag_div := by
  intro a b c x y e h1 h2 h3 h4
  unfold ag_div at e
  split at e
  · rename_i q
    cases e
    obtain ⟨n, hn, rfl, hx⟩ := ab_nn h1 q.2
    obtain ⟨m, hm, rfl, hy⟩ := ab_nn h3 (by omega)
    show av_ok (.int (nI n / nI m)) _
    rw [pk_div hn (by omega) hm]
    have h5 : n / m ≤ n := Nat.div_le_self _ _
    generalize n / m = z at h5 ⊢
    have h6 := nI_toInt (n := z) (by omega)
    exact ⟨rfl, by rw [h6]; dsimp only; omega, by rw [h6]; dsimp only; omega⟩
  · split at e
    · cases e; exact ai_top_ok _
    · cases e
theorem ag_div_ne {a b c : av} {y : Int32} (e : ag_div a b = some c) (h3 : b.2.1 ≤ y.toInt) (h4 : y.toInt ≤ b.2.2) : ¬ y = 0 := by
  intro q
  subst q
  rw [Int32.toInt_zero] at h3 h4
  unfold ag_div at e
  split at e
  · omega
  · split at e
    · omega
    · cases e
def ag_rem (a b : av) : Option av := if 0 < b.2.1 ∧ 0 ≤ a.2.1 then some (0, 0, b.2.2 - 1) else if 0 < b.2.1 ∨ b.2.2 < 0 then some ai_top else none
theorem ag_rem_ok : ab_S (fun x y => x - x / y * y) ag_rem := by
  intro a b c x y e h1 h2 h3 h4
  unfold ag_rem at e
  split at e
  · rename_i q
    cases e
    obtain ⟨n, hn, rfl, hx⟩ := ab_nn h1 q.2
    obtain ⟨m, hm, rfl, hy⟩ := ab_nn h3 (by omega)
    show av_ok (.int (nI n - nI n / nI m * nI m)) _
    rw [pk_rem hn (by omega) hm]
    have h5 : n % m < m := Nat.mod_lt _ (by omega)
    generalize n % m = z at h5 ⊢
    have h6 := nI_toInt (n := z) (by omega)
    exact ⟨rfl, by rw [h6]; dsimp only; omega, by rw [h6]; dsimp only; omega⟩
  · split at e
    · cases e; exact ai_top_ok _
    · cases e
theorem ag_rem_ne {a b c : av} {y : Int32} (e : ag_rem a b = some c) (h3 : b.2.1 ≤ y.toInt) (h4 : y.toInt ≤ b.2.2) : ¬ y = 0 := by
  intro q
  subst q
  rw [Int32.toInt_zero] at h3 h4
  unfold ag_rem at e
  split at e
  · omega
  · split at e
    · omega
    · cases e
