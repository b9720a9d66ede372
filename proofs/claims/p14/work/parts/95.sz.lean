/-! THE TEXT is empty behind courts, gifts, rule, year, law of the reference -/
section ZTX
variable {n fr lo sl k pc j f t : Nat} {h : pm_H} {L : pm_L} {r : List Value} {R : pm_Rs}
/-- the fields of which the relation speaks: Text.length, taped -/
def sP (ci f : Nat) : Bool := (Nat.beq ci 8 && Nat.beq f 1) || ((Nat.beq ci 11 && Nat.beq f 15) || (Nat.beq ci 10 && Nat.beq f 0))
def sX : List Nat := [0, 6, 15, 22, 45, 52, 57, 72, 78, 79, 82, 85, 86, 87, 88, 89, 90, 91, 92, 93, 100, 122, 128, 161, 178, 179, 180, 188, 192, 196, 198, 228, 258]
def sfK : Nat → Bool := sf_X sX
theorem sfK_all : ((List.range 271).filter (fun k => !(sX.any (fun x => Nat.beq x k)))).all (sf_b sP sfK) = true := by decide +kernel
theorem sfK_ok : sf_ok sP sfK := sf_of sf_X_in sfK_all
theorem rn_gfm {v : Value} (hi : pm_ins PT k pc = some (.getfield j, 3)) (hf : pm_fld PT (pm_o PT k) j = some (11, f, t)) (hm : mF h f v) (hh : pm_run PT n fr lo k (pc, L, .ref 162 :: r, h, 198, sl) = some R) : ∃ m, pm_run PT m fr lo k (pc + 3, L, v :: r, h, 198, sl) = some R := by
  obtain ⟨fs, e, e1⟩ := hm
  refine rn_i hi rfl rfl ?_ hh
  show pm_gf PT k j pc L (.ref 162 :: r) h 198 sl = _
  unfold pm_gf pm_obj
  dsimp only
  rw [if_pos (by decide), e]
  dsimp only
  rw [hf]
  dsimp only
  rw [if_pos rfl, e1]
theorem rn_pfm {v w : Value} (hi : pm_ins PT k pc = some (.putfield j, 3)) (hf : pm_fld PT (pm_o PT k) j = some (11, f, t)) (ht : pm_fits (t % 10) v = true) (ht2 : t < 10) (hm : mF h f w) (hh : pm_run PT n fr lo k (pc, L, v :: .ref 162 :: r, h, 198, sl) = some R) : ∃ m, pm_run PT m fr lo k (pc + 3, L, r, mset h f v, 198, sl) = some R := by
  obtain ⟨fs, e, e1⟩ := hm
  rw [mset_of e]
  refine rn_i hi rfl rfl ?_ hh
  show pm_pf PT k j pc L (v :: .ref 162 :: r) h 198 sl = _
  unfold pm_pf pm_obj
  dsimp only
  rw [if_pos (by decide), e]
  dsimp only
  rw [hf]
  dsimp only
  rw [if_pos ⟨rfl, (List.getElem?_eq_some_iff.mp e1).1, ht, Or.inl ht2⟩]
def zT (h : pm_H) : Prop := mF h 15 (.int 0)
theorem z_of {h' : pm_H} (q : fm (sfF sP) h h') (z : zT h) : zT h' := fm_mF q rfl z
theorem zr_180 : sfr_ok sP sfK 180 10 := sfr_of (by decide +kernel)
theorem z_begins {x y : Int32} (h15 : mF h 15 (.int x)) (hh : pm_run PT n fr lo 180 (0, pm_l0 [.ref 162, .int y] 3, [], h, 198, sl) = some R) : zT R.2.1 := by
  obtain ⟨n, hh⟩ := rn_i rfl rfl rfl rfl hh
  obtain ⟨n, hh⟩ := rn_gfm rfl rfl h15 hh
  obtain ⟨n, hh⟩ := rn_i rfl rfl rfl rfl hh
  obtain ⟨n, hh⟩ := rn_i rfl rfl rfl rfl hh
  obtain ⟨n, hh⟩ := rn_i rfl rfl rfl rfl hh
  obtain ⟨n, hh⟩ := rn_pfm (w := .int x) rfl rfl rfl (by decide) h15 hh
  exact z_of (sfr_run sfK_ok zr_180 n fr lo _ R (Nat.le_of_ble_eq_true rfl) hh) (mF_self h15)
theorem zr_188 : sfr_ok sP sfK 188 11 := sfr_of (by decide +kernel)
theorem zr_192 : sfr_ok sP sfK 192 11 := sfr_of (by decide +kernel)
theorem zr_228 : sfr_ok sP sfK 228 11 := sfr_of (by decide +kernel)
theorem zr_196 : sfr_ok sP sfK 196 6 := sfr_of (by decide +kernel)
theorem zr_198 : sfr_ok sP sfK 198 9 := sfr_of (by decide +kernel)
theorem zr_258 : sfr_ok sP sfK 258 9 := sfr_of (by decide +kernel)
theorem z_readsRule {x : Int32} (h15 : mF h 15 (.int x)) (hh : pm_run PT n fr lo 196 (0, pm_l0 [.ref 162] 3, [], h, 198, sl) = some R) : zT R.2.1 := by
  obtain ⟨n, hh⟩ := rn_i rfl rfl rfl rfl hh
  obtain ⟨n, hh⟩ := rn_i rfl rfl rfl rfl hh
  obtain ⟨n, fr', lo', r1, h1, hh⟩ := rn_call (w := 0) (t := 180) rfl rfl hh
  exact z_of (sfr_run sfK_ok zr_196 n fr lo _ R (Nat.le_of_ble_eq_true rfl) hh) (z_begins (y := (Int8.ofInt 40).toInt32) h15 h1)
theorem z_courts {x w : Int32} (h0 : mF h 0 (.int w)) (h15 : mF h 15 (.int x)) (hh : pm_run PT n fr lo 188 (0, pm_l0 [.ref 162] 7, [], h, 198, sl) = some R) : zT R.2.1 := by
  obtain ⟨n, hh⟩ := rn_i rfl rfl rfl rfl hh
  obtain ⟨n, hh⟩ := rn_i rfl rfl rfl rfl hh
  obtain ⟨n, hh⟩ := rn_pfm (w := .int w) rfl rfl rfl (by decide) h0 hh
  obtain ⟨n, hh⟩ := rn_i rfl rfl rfl rfl hh
  obtain ⟨n, hh⟩ := rn_i rfl rfl rfl rfl hh
  obtain ⟨n, fr', lo', r1, h1, hh⟩ := rn_call (w := 0) (t := 180) rfl rfl hh
  exact z_of (sfr_run sfK_ok zr_188 n fr lo _ R (Nat.le_of_ble_eq_true rfl) hh) (z_begins (y := (Int8.ofInt 41).toInt32) (mF_ne (by decide) h15) h1)
theorem z_gifts {x w : Int32} (h0 : mF h 0 (.int w)) (h15 : mF h 15 (.int x)) (hh : pm_run PT n fr lo 192 (0, pm_l0 [.ref 162] 6, [], h, 198, sl) = some R) : zT R.2.1 := by
  obtain ⟨n, hh⟩ := rn_i rfl rfl rfl rfl hh
  obtain ⟨n, hh⟩ := rn_i rfl rfl rfl rfl hh
  obtain ⟨n, hh⟩ := rn_pfm (w := .int w) rfl rfl rfl (by decide) h0 hh
  obtain ⟨n, hh⟩ := rn_i rfl rfl rfl rfl hh
  obtain ⟨n, hh⟩ := rn_i rfl rfl rfl rfl hh
  obtain ⟨n, fr', lo', r1, h1, hh⟩ := rn_call (w := 0) (t := 180) rfl rfl hh
  exact z_of (sfr_run sfK_ok zr_192 n fr lo _ R (Nat.le_of_ble_eq_true rfl) hh) (z_begins (y := (Int8.ofInt 55).toInt32) (mF_ne (by decide) h15) h1)
theorem z_year {x w : Int32} (h0 : mF h 0 (.int w)) (h15 : mF h 15 (.int x)) (hh : pm_run PT n fr lo 228 (0, pm_l0 [.ref 162] 5, [], h, 198, sl) = some R) : zT R.2.1 := by
  obtain ⟨n, hh⟩ := rn_i rfl rfl rfl rfl hh
  obtain ⟨n, hh⟩ := rn_i rfl rfl rfl rfl hh
  obtain ⟨n, hh⟩ := rn_pfm (w := .int w) rfl rfl rfl (by decide) h0 hh
  obtain ⟨n, hh⟩ := rn_i rfl rfl rfl rfl hh
  obtain ⟨n, hh⟩ := rn_i rfl rfl rfl rfl hh
  obtain ⟨n, fr', lo', r1, h1, hh⟩ := rn_call (w := 0) (t := 180) rfl rfl hh
  exact z_of (sfr_run sfK_ok zr_228 n fr lo _ R (Nat.le_of_ble_eq_true rfl) hh) (z_begins (y := (Int8.ofInt 60).toInt32) (mF_ne (by decide) h15) h1)
theorem z_rule {x w : Int32} (h0 : mF h 0 (.int w)) (h15 : mF h 15 (.int x)) (hh : pm_run PT n fr lo 198 (0, pm_l0 [.ref 162] 2, [], h, 198, sl) = some R) : zT R.2.1 := by
  obtain ⟨n, hh⟩ := rn_i rfl rfl rfl rfl hh
  obtain ⟨n, hh⟩ := rn_i rfl rfl rfl rfl hh
  obtain ⟨n, hh⟩ := rn_pfm (w := .int w) rfl rfl rfl (by decide) h0 hh
  obtain ⟨n, hh⟩ := rn_i rfl rfl rfl rfl hh
  obtain ⟨n, fr', lo', r1, h1, hh⟩ := rn_call (w := 0) (t := 196) rfl rfl hh
  exact z_of (sfr_run sfK_ok zr_198 n fr lo _ R (Nat.le_of_ble_eq_true rfl) hh) (z_readsRule (mF_ne (by decide) h15) h1)
theorem z_law {x w : Int32} (h0 : mF h 0 (.int w)) (h15 : mF h 15 (.int x)) (hh : pm_run PT n fr lo 258 (0, pm_l0 [.ref 162] 5, [], h, 198, sl) = some R) : zT R.2.1 := by
  obtain ⟨n, hh⟩ := rn_i rfl rfl rfl rfl hh
  obtain ⟨n, hh⟩ := rn_i rfl rfl rfl rfl hh
  obtain ⟨n, hh⟩ := rn_pfm (w := .int w) rfl rfl rfl (by decide) h0 hh
  obtain ⟨n, hh⟩ := rn_i rfl rfl rfl rfl hh
  obtain ⟨n, fr', lo', r1, h1, hh⟩ := rn_call (w := 0) (t := 196) rfl rfl hh
  exact z_of (sfr_run sfK_ok zr_258 n fr lo _ R (Nat.le_of_ble_eq_true rfl) hh) (z_readsRule (mF_ne (by decide) h15) h1)
end ZTX
