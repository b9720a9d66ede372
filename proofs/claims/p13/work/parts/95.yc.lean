/-! the signs: bits alone -/
section CHE
variable {v s : Int32}
theorem m255 : ∀ i : Fin 32, (255#32).getLsbD i.val = decide (i.val < 8) := by decide
theorem ch_b (x y : BitVec 32) (h : ∀ i, i < 8 → x.getLsbD i = y.getLsbD i) : x &&& 255#32 = y &&& 255#32 := by
  apply BitVec.eq_of_getLsbD_eq
  intro i hi
  rw [BitVec.getLsbD_and, BitVec.getLsbD_and, m255 ⟨i, hi⟩]
  by_cases z : i < 8
  · rw [h i z]
  · simp [z]
theorem ch_s (x : BitVec 32) (k : Nat) (hk : k ≤ 24) : (x >>> k) &&& 255#32 = (x.sshiftRight k) &&& 255#32 := by
  refine ch_b _ _ (fun i hi => ?_)
  rw [BitVec.getLsbD_ushiftRight, BitVec.getLsbD_sshiftRight]
  have h1 : ¬ 32 ≤ i := by omega
  have h2 : k + i < 32 := by omega
  simp [h1, h2]
theorem and_lt (b : BitVec 32) : (b &&& 255#32).toNat < 256 := by
  rw [BitVec.toNat_and]
  exact Nat.lt_of_le_of_lt Nat.and_le_right (by decide)
theorem mod_id {x : UInt32} (h : x.toNat < 256) : x % 65536 = x := by
  apply UInt32.toNat_inj.1
  rw [UInt32.toNat_mod]
  exact Nat.mod_eq_of_lt (by show x.toNat < 65536; omega)
theorem nar_id {y : Int32} (h : y.toUInt32.toNat < 256) : vp_nar .char y = y := by
  show (y.toUInt32 % 65536).toInt32 = y
  rw [mod_id h]
  exact Int32.toInt32_toUInt32 y
theorem ch_gen {k : Nat} (hk : k ≤ 24) (hx : ((v.toUInt32 >>> (s.toUInt32 &&& Int32.toUInt32 31)).toInt32).toBitVec = v.toBitVec >>> k) (hm : (v >>> (s &&& 31)).toBitVec = v.toBitVec.sshiftRight k) : chX v s = chM v s := by
  have e1 : ((v.toUInt32 >>> (s.toUInt32 &&& Int32.toUInt32 31)).toInt32 &&& (Int16.ofInt 255).toInt32).toBitVec = (v.toBitVec >>> k) &&& 255#32 := by
    rw [Int32.toBitVec_and, hx]
    rfl
  have e2 : (chM v s).toBitVec = (v.toBitVec.sshiftRight k) &&& 255#32 := by
    unfold chM
    rw [Int32.toBitVec_and, hm]
    rfl
  unfold chX
  generalize ((v.toUInt32 >>> (s.toUInt32 &&& Int32.toUInt32 31)).toInt32 &&& (Int16.ofInt 255).toInt32) = z at e1 ⊢
  have hz : z.toUInt32.toNat < 256 := by
    show z.toBitVec.toNat < 256
    rw [e1]
    exact and_lt _
  rw [mod_id hz, Int32.toInt32_toUInt32, nar_id hz]
  apply Int32.toBitVec_inj.1
  rw [e1, e2, ch_s _ k hk]
theorem ch_24 : chX v 24 = chM v 24 := ch_gen (k := 24) (by decide) rfl rfl
theorem ch_16 : chX v 16 = chM v 16 := ch_gen (k := 16) (by decide) rfl rfl
theorem ch_8 : chX v 8 = chM v 8 := ch_gen (k := 8) (by decide) rfl rfl
theorem ch_0 : chX v 0 = chM v 0 := ch_gen (k := 0) (by decide) rfl rfl
end CHE
