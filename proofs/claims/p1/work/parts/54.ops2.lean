/-! months and years: states are joined in their loops -/
def fz_J : Nat → Nat → Bool := fun k _ => Nat.beq k 97 || (Nat.beq k 140 || (Nat.beq k 224 || (Nat.beq k 124 || Nat.beq k 264)))
def fz_jo : Nat → Bool := fun k => Nat.beq k 97 || (Nat.beq k 140 || Nat.beq k 124)
theorem op_months : bt_chk (fz_both fz_J fz_jo 5400 97 224) [(1, -1), (0, 0), (1, 60), (0, 0), (0, 0)] [bx_T 1] = true := by decide +kernel
theorem op_years : bt_chk (fz_both fz_J fz_jo 7900 124 264) [(2, 0), (0, 0), (2, 60), (0, 0), (0, 0)] [bx_T 2] = true := by decide +kernel
