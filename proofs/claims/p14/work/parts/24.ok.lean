set_option maxRecDepth 100000 in
theorem pd_lib6 : Cond.instanceMethod Lib.objectInit ∈ PG ∧ Cond.code Lib.objectInit ⟨#[0xb1]⟩ 1 none ∈ PG := ⟨pd_w (i := 120) rfl rfl, pd_w (i := 121) rfl rfl⟩
set_option maxRecDepth 100000 in
theorem pd_lib_min : Cond.static Lib.Math.min.name ∈ PG ∧ Cond.initialized "java/lang/Math" ∈ PG ∧ Cond.code Lib.Math.min.name Lib.Math.min.code 2 (some .int) ∈ PG := ⟨pd_w (i := 557) rfl rfl, pd_w (i := 103) rfl rfl, pd_w (i := 558) rfl rfl⟩
set_option maxRecDepth 100000 in
theorem pd_lib_max : Cond.static Lib.Math.max.name ∈ PG ∧ Cond.initialized "java/lang/Math" ∈ PG ∧ Cond.code Lib.Math.max.name Lib.Math.max.code 2 (some .int) ∈ PG := ⟨pd_w (i := 560) rfl rfl, pd_w (i := 103) rfl rfl, pd_w (i := 561) rfl rfl⟩
set_option maxRecDepth 100000 in
theorem pd_lib9 : Cond.native arraycopyName ∈ PG ∧ Cond.static arraycopyName ∈ PG ∧ Cond.initialized "java/lang/System" ∈ PG := ⟨pd_w (i := 596) rfl rfl, pd_w (i := 595) rfl rfl, pd_w (i := 112) rfl rfl⟩
theorem pd_st0 : (st_ws.zip st_ps).all (fun e => pd_tb e.2 e.1) = true := by decide +kernel
theorem pd_st1 : st_ws = (st_ws.zip st_ps).map (fun e => e.1) := by rfl
theorem pd_st : ∀ w ∈ st_ws, w ∈ PG := by
  intro w hw
  rw [pd_st1] at hw
  obtain ⟨e, he, rfl⟩ := List.mem_map.mp hw
  exact pd_tb_in (List.all_eq_true.mp pd_st0 e he)
theorem pd_okW (o j w t : Nat) (h : pm_mlk PT o j = some (w, t)) : pm_okW PT PG PN o j w t := by
  have h : pd_mlk o j = some (w, t) := h
  unfold pd_mlk at h
  split at h
  case h_2 => cases h
  case h_1 l e1 =>
  obtain ⟨e, he, e2⟩ := Option.map_eq_some_iff.mp h
  have hc := pm_allI_at pd_W e1
  rw [Nat.zero_add] at hc
  have hc := List.all_eq_true.mp hc (j, e) (pm_fd_mem he)
  obtain ⟨⟨w', t'⟩, ps⟩ := e
  cases e2
  unfold pd_chkW at hc
  dsimp only at hc
  split at hc
  case h_12 => cases hc
  case h_1 a b c =>
    obtain ⟨c0, hc⟩ := Bool.and_eq_true_iff.mp hc
    obtain ⟨c1, hc⟩ := Bool.and_eq_true_iff.mp hc
    obtain ⟨c2, hc⟩ := Bool.and_eq_true_iff.mp hc
    obtain ⟨c3, hc⟩ := Bool.and_eq_true_iff.mp hc
    obtain ⟨c4, hc⟩ := Bool.and_eq_true_iff.mp hc
    obtain ⟨c5, c6⟩ := Bool.and_eq_true_iff.mp hc
    obtain ⟨e3, he3⟩ := Option.isSome_iff_exists.mp c0
    have c4 := Nat.le_of_ble_eq_true c4
    refine ⟨pd_okM he3, pd_tb_in c1, pd_tb_in c2, pd_tb_in c3, ⟨pm_na PT t - 1, by omega, pd_pr_ok c5⟩, ?_⟩
    split at c6
    case h_2 => cases c6
    case h_1 q q1 =>
    have hq : vwCl[pm_ci PT t]? = some q := by rw [← pm_nth_get]; exact q1
    refine ⟨q.2.1, q.2.2, ?_⟩
    rw [← of_decide_eq_true c6]
    exact hq
  case h_2 a b =>
    obtain ⟨c0, hc⟩ := Bool.and_eq_true_iff.mp hc
    obtain ⟨c1, hc⟩ := Bool.and_eq_true_iff.mp hc
    obtain ⟨c2, c3⟩ := Bool.and_eq_true_iff.mp hc
    obtain ⟨e3, he3⟩ := Option.isSome_iff_exists.mp c0
    exact ⟨pd_okM he3, pd_tb_in c1, pd_tb_in c2, pd_pr_ok c3⟩
  case h_3 a b =>
    obtain ⟨c0, hc⟩ := Bool.and_eq_true_iff.mp hc
    obtain ⟨c1, hc⟩ := Bool.and_eq_true_iff.mp hc
    obtain ⟨c2, c3⟩ := Bool.and_eq_true_iff.mp hc
    obtain ⟨e3, he3⟩ := Option.isSome_iff_exists.mp c0
    exact ⟨pd_okM he3, ⟨_, pd_nb_in c1⟩, pd_tb_in c2, pd_pr_ok c3⟩
  case h_4 a b =>
    obtain ⟨c0, hc⟩ := Bool.and_eq_true_iff.mp hc
    obtain ⟨c1, hc⟩ := Bool.and_eq_true_iff.mp hc
    obtain ⟨c2, hc⟩ := Bool.and_eq_true_iff.mp hc
    obtain ⟨c3, hc⟩ := Bool.and_eq_true_iff.mp hc
    obtain ⟨c4, hc⟩ := Bool.and_eq_true_iff.mp hc
    obtain ⟨c5, c6⟩ := Bool.and_eq_true_iff.mp hc
    obtain ⟨e3, he3⟩ := Option.isSome_iff_exists.mp c0
    have c5 := Nat.le_of_ble_eq_true c5
    exact ⟨pd_okM he3, pd_tb_in c1, pd_tb_in c2, of_decide_eq_true c3, Option.isNone_iff_eq_none.mp c4, pm_na PT t - 1, by omega, pd_pr_ok c6⟩
  case h_5 a b =>
    obtain ⟨c0, hc⟩ := Bool.and_eq_true_iff.mp hc
    obtain ⟨c1, hc⟩ := Bool.and_eq_true_iff.mp hc
    obtain ⟨c2, hc⟩ := Bool.and_eq_true_iff.mp hc
    obtain ⟨c3, hc⟩ := Bool.and_eq_true_iff.mp hc
    obtain ⟨c4, hc⟩ := Bool.and_eq_true_iff.mp hc
    obtain ⟨c5, c6⟩ := Bool.and_eq_true_iff.mp hc
    obtain ⟨e3, he3⟩ := Option.isSome_iff_exists.mp c0
    have c5 := Nat.le_of_ble_eq_true c5
    exact ⟨pd_okM he3, ⟨_, pd_nb_in c1⟩, pd_tb_in c2, of_decide_eq_true c3, Option.isNone_iff_eq_none.mp c4, pm_na PT t - 1, by omega, pd_pr_ok c6⟩
  case h_6 a => exact ⟨pd_tb_in hc, pd_lib6.1, pd_lib6.2⟩
  case h_7 a => exact ⟨pd_tb_in hc, pd_lib_min⟩
  case h_8 a => exact ⟨pd_tb_in hc, pd_lib_max⟩
  case h_9 a => exact ⟨pd_tb_in hc, pd_lib9⟩
  case h_10 a => exact ⟨pd_tb_in hc, pd_st⟩
  case h_11 a => exact ⟨pd_tb_in hc, pd_st⟩
def pd_inst (c p : Nat) : Bool := match pm_nth vwCl c with
  | some q => pd_tb p (.instantiable q.1 q.2.2)
  | none => false
def pd_iL : List Nat := [371, 319, 250, 155, 303, 139, 270, 205, 123, 339, 115, 1144]
def pd_niL : List Nat := [101, 99, 96, 94, 98, 93, 97, 95, 92, 100, 91, 102]
def pd_chkN (o : Nat) (e : Nat × Nat × Nat) : Bool := match pm_nth vwCl e.2.1, pm_nth pd_tyL e.2.1, pm_nth pd_iL e.2.1, pm_nth pd_niL e.2.1 with
  | some q, some _, some i, some n => (pm_nth pd_lay e.2.1).isSome && (pd_tb e.2.2 (.classLink (pd_own o) e.1 q.1) && (pd_tb i (.instantiable q.1 q.2.2) && pd_tb n (.initialized q.1)))
  | _, _, _, _ => false
theorem pd_N : pm_allI (fun o l => l.all (pd_chkN o)) 0 pd_CL = true := by decide +kernel
def pd_chkA (o : Nat) (e : Nat × Nat × Nat) : Bool := decide (e.2.1 = 1004) && pd_tb e.2.2 (.classLink (pd_own o) e.1 "GiftsOfCourts$State")
theorem pd_A : pm_allI (fun o l => l.all (pd_chkA o)) 0 pd_AL = true := by decide +kernel
theorem pd_ao : Cond.arrayOver (.object "GiftsOfCourts$State") ∈ PN := pd_nb_in (i := 256) (by decide +kernel)
theorem pd_okC : pm_okC PT PG PN := by
  intro o j q h
  have h : pd_clk o j = some q := h
  unfold pd_clk at h
  cases hb : Nat.ble 100 o with
  | false =>
    rw [hb] at h
    dsimp only [cond] at h
    split at h
    case h_2 => cases h
    case h_1 l e1 =>
    obtain ⟨e, he, e2⟩ := Option.map_eq_some_iff.mp h
    have hc := pm_allI_at pd_N e1
    rw [Nat.zero_add] at hc
    have hc := List.all_eq_true.mp hc (j, e) (pm_fd_mem he)
    obtain ⟨q', pos⟩ := e
    have e2 : q' = q := e2
    subst e2
    unfold pd_chkN at hc
    dsimp only at hc
    split at hc
    case h_2 => cases hc
    case h_1 cq ty i n q1 q2 q3 q4 =>
    obtain ⟨c0, hc⟩ := Bool.and_eq_true_iff.mp hc
    obtain ⟨c1, hc⟩ := Bool.and_eq_true_iff.mp hc
    obtain ⟨c2, c3⟩ := Bool.and_eq_true_iff.mp hc
    obtain ⟨ps, hps⟩ := Option.isSome_iff_exists.mp c0
    obtain ⟨k1, k2, k3⟩ := pd_classOf hps q1 q2
    have hq : vwCl[q']? = some cq := by rw [← pm_nth_get]; exact q1
    refine ⟨fun _ => ⟨cq.1, cq.2.1, cq.2.2, ty, hq, k1, fun k hk => (k2 k hk).1, pd_tb_in c1, pd_tb_in c2, pd_tb_in c3, k3, fun k hk => (k2 k hk).2, pd_noref q'⟩, fun hge => ?_⟩
    have hl := (List.getElem?_eq_some_iff.mp hq).1
    exact absurd (Nat.lt_of_le_of_lt hge hl) (by decide)
  | true =>
    rw [hb] at h
    dsimp only [cond] at h
    split at h
    case h_2 => cases h
    case h_1 l e1 =>
    obtain ⟨e, he, e2⟩ := Option.map_eq_some_iff.mp h
    have hc := pm_allI_at pd_A e1
    rw [Nat.zero_add] at hc
    have hc := List.all_eq_true.mp hc (j, e) (pm_fd_mem he)
    obtain ⟨q', pos⟩ := e
    have e2 : q' = q := e2
    subst e2
    unfold pd_chkA at hc
    obtain ⟨c1, c2⟩ := Bool.and_eq_true_iff.mp hc
    have c1 : q' = 1004 := of_decide_eq_true c1
    subst c1
    refine ⟨fun hlt => absurd hlt (by decide), fun _ o' ho => ⟨"GiftsOfCourts$State", rfl, ?_, pd_ao⟩⟩
    subst ho
    have e4 : 100 + o' - 100 = o' := by omega
    rw [e4] at c2
    exact pd_tb_in c2
theorem pd_isN_ok (w : Cond) (hw : w ∈ PN) : (∀ (s U : State), s.vm = U.vm → va_Nw w s → va_Nw w U) ∧ ∀ (s U : State), s.WarmedH U.vm → va_Nw w s → va_Nw w U := by
  have h := (List.mem_filter.mp hw).2
  unfold pd_isN at h
  split at h
  · exact ⟨fun s U hv h => va_Nw.same rfl hv h, fun s U hW h => va_Nw.warmM hW h⟩
  · rename_i C
    exact ⟨fun s U hv h => va_AO.moved (C := C) (by rw [hv]; exact Vm.Alike.refl U.vm) h, fun s U hW h => va_AO.moved (C := C) hW.alike h⟩
  · cases h
theorem pd_okA (ty : FieldType) (h : pm_tysAt PT ty ≠ none) : Cond.arrayClass ty ∈ PG ∨ ∃ C, ty = .object C := by
  have h2 : ty ∈ pd_ty := by
    cases hk : pm_tysAt PT ty with
    | none => exact absurd hk h
    | some k => exact List.mem_of_getElem? (pm_tysAt_get hk)
  simp only [pd_ty, List.mem_cons, List.not_mem_nil, or_false] at h2
  rcases h2 with rfl | rfl | rfl | rfl | rfl
  · exact Or.inl (pd_tb_in (i := 203) (by decide +kernel))
  · exact Or.inl (pd_tb_in (i := 137) (by decide +kernel))
  · exact Or.inl (pd_tb_in (i := 153) (by decide +kernel))
  · exact Or.inl (pd_tb_in (i := 1315) (by decide +kernel))
  · exact Or.inr ⟨_, rfl⟩
def pd_chkK (o : Nat) (e : Nat × Int32 × Nat) : Bool := pd_tb e.2.2 (Jvm.Cond.constant (pd_own o) e.1 e.2.1)
theorem pd_K : pm_allI (fun o l => l.all (pd_chkK o)) 0 pd_KL = true := by decide +kernel
def pd_chkJ (o : Nat) (e : Nat × Int64 × Nat) : Bool := pd_tb e.2.2 (Jvm.Cond.constantLong (pd_own o) e.1 e.2.1)
theorem pd_J : pm_allI (fun o l => l.all (pd_chkJ o)) 0 pd_KK = true := by decide +kernel
/-- THE TABLES ARE RIGHT -/
theorem PT_ok : pm_ok PT PG PN := by
  refine ⟨pd_ins_ok, fun w hw => (List.mem_filter.mp hw).2, pd_isN_ok, pd_okF, pd_okW, pd_okC, pd_okA, fun o j v h => ?_, fun o j v h => ?_⟩
  · have h : pd_con o j = some v := h
    unfold pd_con at h
    split at h
    case h_2 => cases h
    case h_1 l e1 =>
    obtain ⟨e, he, e2⟩ := Option.map_eq_some_iff.mp h
    have hc := pm_allI_at pd_K e1
    rw [Nat.zero_add] at hc
    have hc := List.all_eq_true.mp hc (j, e) (pm_fd_mem he)
    obtain ⟨q', pos⟩ := e
    cases e2
    exact pd_tb_in hc
  · have h : pd_conL o j = some v := h
    unfold pd_conL at h
    split at h
    case h_2 => cases h
    case h_1 l e1 =>
    obtain ⟨e, he, e2⟩ := Option.map_eq_some_iff.mp h
    have hc := pm_allI_at pd_J e1
    rw [Nat.zero_add] at hc
    have hc := List.all_eq_true.mp hc (j, e) (pm_fd_mem he)
    obtain ⟨q', pos⟩ := e
    cases e2
    exact pd_tb_in hc
