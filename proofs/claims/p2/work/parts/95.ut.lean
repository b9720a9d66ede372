/-! THE TEXT's length: sign, end, and those that read it -/
section TXR
variable {n fr lo sl k i pc bS Ln : Nat} {h h1 : pm_H} {L : pm_L} {R : pm_Rs} {P : pm_St → Prop} {xs : Nat → Int32} {Q Q' : pm_Rs → Prop} {st : pm_St}
theorem rn_det {r : pm_Rs} (q : pm_WP PT fr lo k st Q) (hh : pm_run PT n fr lo k st = some r) : Q r := by
  obtain ⟨m, r', e, hq⟩ := q
  have a1 := pm_run_le (Nat.le_max_left m n) e
  have a2 := pm_run_le (Nat.le_max_right m n) hh
  rw [a1] at a2
  cases a2
  exact hq
theorem wp_det (q : pm_WP PT fr lo k st Q) (q' : pm_WP PT fr lo k st Q') : pm_WP PT fr lo k st (fun x => Q x ∧ Q' x) := by
  obtain ⟨m, r, e, hq⟩ := q
  exact ⟨m, r, e, hq, rn_det q' e⟩
def zc56 : con := (56, [(2, 3, 1), (1, (-9223372036854775808), 9223372036854775807), (1, (-9223372036854775808), 9223372036854775807)], zO, [none], zO, 10, 800, false)
def zc17 : con := (17, [(2, 25, 1)], zO, [none], zO, 5, 400, false)
theorem zk56 : con_chk (kl bB cxF []) PT bB 198 cxF cxJ cxjo cxP 700 zc56 = true := fq_chk1 (fq_jn_eq _) rfl (by decide +kernel)
theorem zk17 : con_chk (kl bB cxF []) PT bB 198 cxF cxJ cxjo cxP 700 zc17 = true := fq_chk1 (fq_jn_eq _) rfl (by decide +kernel)
theorem zo56 : con_ok PT bB 198 cxF cxQ zc56 := con_chk_ok (fun _ _ h => h) cxpp (kl_ok (fun _ h => by cases h)) nw_class (fun h => by cases h) zk56
theorem zo17 : con_ok PT bB 198 cxF cxQ zc17 := con_chk_ok (fun _ _ h => h) cxpp (kl_ok (fun _ h => by cases h)) nw_class (fun h => by cases h) zk17
def cz_year : con := (100, [(2, 0, 1)], [], [some (0, -2147483648, 2147483647)], zO, 30, 2400, false)
theorem zq_year : con_chkS (kl bB cxF [zc17, zc56, cxt33, cxt35, cxt42, cxt82, cxt97, cxt119, cxt120]) PT bB 198 cxF cxJ cxjo cxP2 [] 3117 cz_year = true := fq_chkS1 (fq_jn_eq _) rfl (by decide +kernel)
theorem zw_year : con_ok PT bB 198 cxF cxQ cz_year := con_chkS_ok (fun _ _ h => h) cxpp (kl_ok (List.forall_mem_cons.mpr ⟨zo17, List.forall_mem_cons.mpr ⟨zo56, List.forall_mem_cons.mpr ⟨cxo33, List.forall_mem_cons.mpr ⟨cxo35, List.forall_mem_cons.mpr ⟨cxo42, List.forall_mem_cons.mpr ⟨cxo82, List.forall_mem_cons.mpr ⟨cxo97, List.forall_mem_cons.mpr ⟨cxo119, List.forall_mem_cons.mpr ⟨cxo120, fun _ h => (by cases h)⟩⟩⟩⟩⟩⟩⟩⟩⟩)) nw_class (fun h => by cases h) zq_year
def hoT (kx : Nat) (bs : List av) (c c' : Nat) (a : Int) : con := (kx, (2, 0, 1) :: bs, [(1, .inr (8, asT.set 1 (0, c, c)))], [some (0, a, a)], [(1, .inr (8, asT.set 1 (0, c', c')))], 20, 1500, false)
def hoM (km : Nat) (bs : List av) (c c' : Nat) (a : Int) : con := (km, (2, 162, 1) :: bs, [(162, .inr (11, asM.set 15 (0, c, c)))], [some (0, a, a)], [(162, .inr (11, asM.set 15 (0, c', c')))], 20, 1500, false)
def ho_chk (kx km : Nat) (bs : List av) (c c' : Nat) (a : Int) : Bool := con_chk (kl bB cxF []) PT bB 198 cxF ho_J ho_jo ho_P 500 (hoT kx bs c c' a) && con_chk (kl bB rxF []) PT bB 198 rxF0 ho_J ho_jo ho_P 500 (hoM km bs c c' a)
theorem asM_15 : asM[15]? = some (0, 0, 80) := by decide +kernel
def si_c (c : Nat) : Nat := cond (Nat.ble c 76) (c + 4) c
def si_a (c : Nat) : Int := cond (Nat.ble c 76) ((c : Int) + 4) (-1)
theorem si_all : (List.range 81).all (fun c => ho_chk 86 178 [(0, -2147483648, 2147483647)] c (si_c c) (si_a c)) = true := by decide +kernel
def REL (h : pm_H) : Prop := ∃ c : Nat, c ≤ 80 ∧ cT h (.int (nI c)) ∧ mF h 15 (.int (nI c))
def LI (h : pm_H) : Prop := mInv h ∧ REL h
theorem REL_fm (q : fm (sfF sP) h h1) (r : REL h) : REL h1 := by
  obtain ⟨c, hc, r1, r2⟩ := r
  exact ⟨c, hc, cT_fm q r1, fm_mF q rfl r2⟩
theorem twX_LI (hI : LI h) (q : twX h h1) : LI h1 := by
  refine ⟨twX_inv hI.1 q, ?_⟩
  obtain ⟨c, hc, ⟨fs, e1, e2⟩, gs, g1, g2⟩ := hI.2
  exact ⟨c, hc, ⟨fs, (q.1 1 (by decide)).trans e1, e2⟩, gs, (q.1 162 (by decide)).trans g1, g2⟩
end TXR
