/-! THE LAW'S START: what the tables say, both objects made, the loop; the claim -/
section P1S
variable {p : Program} {l : Launch} {e : Env} {s : State} {m : MethodId} {args : Array Value} {below : List Frame} {meth : Method} {c : Code} {Q : State → Prop} {D : va_G} {aC : Nat → ClassId} {b bS Ln : Nat} {xs : Nat → Int32}
theorem p1_clk : ∀ c : Nat, c < 12 → ∃ o j, pm_clk PT o j = some c
  | 0, _ => ⟨10, 88, rfl⟩
  | 1, _ => ⟨10, 72, rfl⟩
  | 2, _ => ⟨10, 40, rfl⟩
  | 3, _ => ⟨10, 23, rfl⟩
  | 4, _ => ⟨10, 63, rfl⟩
  | 5, _ => ⟨10, 16, rfl⟩
  | 6, _ => ⟨10, 51, rfl⟩
  | 7, _ => ⟨10, 30, rfl⟩
  | 8, _ => ⟨10, 9, rfl⟩
  | 9, _ => ⟨10, 79, rfl⟩
  | 10, _ => ⟨13, 8, rfl⟩
  | 11, _ => ⟨13, 27, rfl⟩
  | n + 12, h => absurd h (by omega)
theorem p1_arr {ty : FieldType} (hG : ∀ w ∈ PG, w.before args s = true) (h : Cond.arrayClass ty ∈ PG) (hr : ∀ cA : ClassId, s.vm.findClass ("[" ++ ty.toString) = some cA → va_RA s cA ty) : ∃ cA : ClassId, ArrOfT s cA ty ∧ va_RA s cA ty := by
  obtain ⟨cA, k, comp, h1, h2, h3⟩ := Cond.arrayClass_spec (hG _ h)
  exact ⟨cA, fun n z => ⟨fun _ h => (by cases h), k, h2, comp, h3⟩, hr cA h1⟩
theorem p1_known (hG : ∀ w ∈ PG, w.before args s = true) (hN : ∀ w ∈ PN, w.before args s = true) : ∃ (D : va_G) (aC : Nat → ClassId), va_K D (pm_cl PT) (pm_tys PT aC) s ∧ ∀ w ∈ PN, va_Nw w s := by
  have hcls : ∀ c : Nat, ∃ d : ClassId × (Nat → Nat), ∀ q, (pm_cl PT)[c]? = some q → u_Kn s q.1 q.2.1 q.2.2 d.1 d.2 := by
    intro c
    by_cases hc : c < 12
    · obtain ⟨o, j, hk⟩ := p1_clk c hc
      obtain ⟨C, F, N, ty, e1, h1, -, -, h4, -⟩ := (PT_ok.2.2.2.2.2.1 o j c hk).1 (by omega)
      obtain ⟨cC, iS, hKn⟩ := u_known (ws := PG) hG h1 (hG _ h4)
      exact ⟨(cC, iS), fun q hq => by rw [e1] at hq; cases hq; exact hKn⟩
    · refine ⟨(0, fun _ => 0), fun q hq => ?_⟩
      have hl : c < (pm_cl PT).length := (List.getElem?_eq_some_iff.mp hq).1
      exact absurd (show c < 12 from hl) hc
  have harr : ∀ k : Nat, ∃ cA : ClassId, ∀ ty, (pm_ty PT)[k]? = some ty → ArrOfT s cA ty ∧ va_RA s cA ty := by
    intro k
    match k with
    | 0 =>
      obtain ⟨cA, h1⟩ := p1_arr (ty := .int) hG (List.mem_filter.mpr ⟨by decide +kernel, rfl⟩) (fun _ h => h)
      exact ⟨cA, fun ty hty => by cases hty; exact h1⟩
    | 1 =>
      obtain ⟨cA, h1⟩ := p1_arr (ty := .char) hG (List.mem_filter.mpr ⟨by decide +kernel, rfl⟩) (fun _ h => h)
      exact ⟨cA, fun ty hty => by cases hty; exact h1⟩
    | 2 =>
      obtain ⟨cA, h1⟩ := p1_arr (ty := .long) hG (List.mem_filter.mpr ⟨by decide +kernel, rfl⟩) (fun _ h => h)
      exact ⟨cA, fun ty hty => by cases hty; exact h1⟩
    | 3 =>
      obtain ⟨cA, h1⟩ := p1_arr (ty := .boolean) hG (List.mem_filter.mpr ⟨by decide +kernel, rfl⟩) (fun _ h => h)
      exact ⟨cA, fun ty hty => by cases hty; exact h1⟩
    | 4 =>
      obtain ⟨comp, cA, k, h1, h2, h3, h4, h5⟩ := Cond.arrayOver_spec (hN _ pd_ao)
      exact ⟨cA, fun ty hty => by cases hty; exact ⟨fun n z => ⟨fun _ h => (by cases h), k, h3, comp, h4⟩, k, comp, h3, h4, h1, h5⟩⟩
    | n + 5 =>
      refine ⟨0, fun ty hty => ?_⟩
      have hl : n + 5 < (pm_ty PT).length := (List.getElem?_eq_some_iff.mp hty).1
      exact absurd (show n + 5 < 5 from hl) (by omega)
  refine ⟨(fun c => (Classical.choose (hcls c)).1, fun c => (Classical.choose (hcls c)).2), fun k => Classical.choose (harr k), ⟨fun c q hq => Classical.choose_spec (hcls c) q hq, fun k q hk => ?_⟩, fun w hw => ?_⟩
  · have hl : k < (pm_tys PT (fun k => Classical.choose (harr k))).length := (List.getElem?_eq_some_iff.mp hk).1
    have hl2 : k < (pm_ty PT).length := by
      unfold pm_tys at hl
      rw [List.length_map, List.length_range] at hl
      exact hl
    have e1 : (pm_ty PT)[k]? = some (pm_ty PT)[k] := List.getElem?_eq_getElem hl2
    rw [pm_tys_get e1] at hk
    cases hk
    exact Classical.choose_spec (harr k) _ e1
  · have hb := hN w hw
    have h := (List.mem_filter.mp hw).2
    unfold pd_isN at h
    split at h
    · exact va_Nw.of rfl hb
    · exact va_AO.of hb
    · cases h
section PSN
variable {T : pm_Tab} {k fr lo pc sz sl : Nat} {L : pm_L} {S : List Value} {h : pm_H}
theorem ps_new {j ci n : Nat} (hk : pm_clk T (pm_o T k) j = some ci) (hlt : ci < 1000) (hn : (pm_df T ci).length = n) : pm_simple T fr lo k (.new j) pc L S h sz sl = some (pc + 3, L, .ref sz :: S, va_up h sz (.inr (ci, pm_df T ci)), sz + 1, sl + n) := by
  subst hn
  show pm_newO T k j pc L S h sz sl = _
  unfold pm_newO
  rw [hk]
  dsimp only
  rw [if_pos hlt]
  rfl
theorem ps_newL {kd c : Nat} {n : Int32} (hk : pm_tysAt T .long = some kd) (hc : n.toNatClampNeg = c) (hn : ¬ n < 0 ∧ c ≤ 65536) : pm_simple T fr lo k (.newarray .long) pc L (.int n :: S) h sz sl = some (pc + 2, L, .ref sz :: S, va_up h sz (.inl (kd, c, .inr (.inl (fun _ => 0)))), sz + 1, sl + c) := by
  subst hc
  show pm_newL T pc L (.int n :: S) h sz sl = _
  unfold pm_newL
  dsimp only
  rw [hk]
  dsimp only
  rw [if_pos hn]
  rfl
theorem cd_ctor {j t a ci : Nat} {fs rest : List Value} (hi : pm_ins T k pc = some (.invokespecial j, 3)) (hm : pm_mlk T (pm_o T k) j = some (4, t)) (hn : pm_na T t = 1) (ha : a < sz) (ho : h a = .inr (ci, fs)) (hci : pm_ci T t = ci) (hs : pm_sum rest ≤ 8) (hmx : 1 ≤ pm_max T t) : pm_cd T k (pc, L, .ref a :: rest, h, sz, sl) = some (t, [.ref a], rest) := by
  unfold pm_cd
  dsimp only
  rw [hi]
  dsimp only
  have hcal : pm_callee T k (.invokespecial j) = some (4, t) := by
    unfold pm_callee
    dsimp only
    rw [hm]
    rfl
  rw [if_pos (show pm_lenOk (Instr.invokespecial j) 3 = true from rfl), hcal]
  dsimp only
  rw [hn]
  refine if_pos ⟨?_, ?_, hs, hmx⟩
  · show 1 ≤ rest.length + 1
    omega
  · show pm_rcv T 4 t [.ref a] h sz = true
    unfold pm_rcv
    rw [if_neg (by omega)]
    dsimp only
    unfold pm_obj
    rw [if_pos ha, ho]
    dsimp only
    rw [hci]
    exact beq_self_eq_true ci
end PSN
theorem pv_p {ins : Instr} {len pc sz sl : Nat} {L : pm_L} {S : List Value} {h : pm_H} {st' : pm_St} (hC : pm_C PT PG PN D aC b 1000 p s m args meth c) (hs0 : s.heap.size = b + 0 + 0) (hi : pm_ins PT 1000 pc = some (ins, len)) (hl : pm_lenOk ins len = true) (hc : pm_callee PT 1000 ins = none) (hs : pm_simple PT 2048 84000 1000 ins pc L S h sz sl = some st') (hz : st'.2.2.2.2.1 ≤ 0 + 601024) (hz2 : st'.2.2.2.2.2 ≤ 0 + 7293034)
    (kk : pm_V p l e room_1 s m args below meth c Q PT D aC b 1000 0 0 st') : pm_V p l e room_1 s m args below meth c Q PT D aC b 1000 0 0 (pc, L, S, h, sz, sl) :=
  pm_step_ok PT_ok hC (R := room_1) (fr := 2048) (lo := 84000) rfl rfl (g := 0) (sz0 := 0) (sl0 := 0) hs0 (Or.inl rfl) (Nat.zero_le _) (Nat.zero_le _) hz hz2 (go := pm_go0) (fun _ _ _ _ _ _ _ _ _ _ q => by cases q) ((ls_of hi hl hc).trans hs) kk
theorem pm_V_0 {R : Room} {k sz sl pc : Nat} {L : pm_L} {S : List Value} {h : pm_H} {H : Heap} {locs : List Loc} {ls : Array Slot} (hV : pm_V p l e R s m args below meth c Q PT D aC b k sz sl (pc, L, S, h, sz, sl)) (hP : va_P D (pm_cl PT) (pm_w aC b h sz) H) (hS : va_S (fun q => b ≤ q) s.heap H locs) (hl : pm_loc aC b ls (pm_max PT k) L) : W p l e R s m args below meth c H locs 0 0 Q (F0 m pc ls (S.map (pm_tr aC b))) := by
  have hW := hV H locs ls hP hS hl
  dsimp only at hW
  rw [Nat.sub_self, Nat.sub_self] at hW
  exact hW
theorem p1_in (htr : l.stackTraces = false) (E : lw_Env D aC b bS Ln xs p s m meth c) (hret : meth.sig.returnType = ret) (hlk : meth.locks = false) (hs0 : s.heap.size = b + 0 + 0) (hLn : Ln ≤ 2560) (L : pm_L) (hL : lc_L bS 0 L) : pm_V p l e room_1 s m #[Value.ref (aC (1000 + bS))] below meth c (lw_Zb b 601024 7293034 below s) PT D aC b 1000 0 0 (23, L, [], fz_h2, 198, 7037) := by
  intro H locs ls hP hS hl
  refine pm_sized fun hzz => ?_
  dsimp only at hzz hP hl ⊢
  have hsz := pm_size (g := 0) (sz0 := 0) hS hP hs0 (Or.inl rfl) (Nat.zero_le _) hzz
  refine lw_rebase (b := b) (R' := { frames := 2048, locals := 84000, cells := 600000, slots := 7200000 }) (C' := 600000) (S' := 7200000) (Nat.le_of_ble_eq_true rfl) (Nat.le_of_ble_eq_true rfl) (Nat.le_of_ble_eq_true rfl) (Nat.le_of_ble_eq_true rfl) (Nat.le_of_ble_eq_true rfl) (Nat.le_of_ble_eq_true rfl) hS.2.2 (fun s' hvm hhp => ?_)
  have hV := lw_loop (l := l) (e := e) (below := below) (sl := 7037) htr hret hlk (show Ln < 2 ^ 29 by omega) rs_turn 512 0 s' { frames := 2048, locals := 84000, cells := 600000, slots := 7200000 } 0 600000 7200000 L fz_h2 (by omega) (by omega) (E.to hvm (fun a ha hba => by rw [hhp]; exact hS.2.1 a ha hba) (by rw [hhp]; omega)) (by rw [hhp]; exact hsz) rfl rfl (Nat.le_of_ble_eq_true rfl) (Nat.le_of_ble_eq_true rfl) (Nat.le_of_ble_eq_true rfl) (Nat.le_of_ble_eq_true rfl) hL fz_LI
  exact pm_V_0 hV hP (by rw [← hhp]; exact va_S.rf) hl
theorem p1_a (htr : l.stackTraces = false) (E : lw_Env D aC b bS Ln xs p s m meth c) (hret : meth.sig.returnType = ret) (hlk : meth.locks = false) (hs0 : s.heap.size = b + 0 + 0) (hLn : Ln ≤ 2560) (kk : pm_V p l e room_1 s m #[Value.ref (aC (1000 + bS))] below meth c (lw_Zb b 601024 7293034 below s) PT D aC b 1000 0 0 (3, [some (.retAddr bS), none, none, none, none, none, none, none], [.ref 0], fz_h0, 1, 14)) : pm_V p l e room_1 s m #[Value.ref (aC (1000 + bS))] below meth c (lw_Zb b 601024 7293034 below s) PT D aC b 1000 0 0 (0, pm_l0 [.retAddr bS] 8, [], fun _ => .inr (0, []), 0, 0) := by
  have hC := E.1
  refine pv_p hC hs0 rfl rfl rfl (ps_new (ci := 10) (n := 14) rfl (by decide) rfl) (Nat.le_of_ble_eq_true rfl) (Nat.le_of_ble_eq_true rfl) ?_
  exact kk
theorem p1_b (htr : l.stackTraces = false) (E : lw_Env D aC b bS Ln xs p s m meth c) (hret : meth.sig.returnType = ret) (hlk : meth.locks = false) (hs0 : s.heap.size = b + 0 + 0) (hLn : Ln ≤ 2560) (kk : pm_V p l e room_1 s m #[Value.ref (aC (1000 + bS))] below meth c (lw_Zb b 601024 7293034 below s) PT D aC b 1000 0 0 (7, [some (.retAddr bS), none, none, none, none, none, none, none], [.ref 0], fz_h fz_r1, 162, 3274)) : pm_V p l e room_1 s m #[Value.ref (aC (1000 + bS))] below meth c (lw_Zb b 601024 7293034 below s) PT D aC b 1000 0 0 (3, [some (.retAddr bS), none, none, none, none, none, none, none], [.ref 0], fz_h0, 1, 14) := by
  have hC := E.1
  refine pv_p hC hs0 rfl rfl rfl rfl (Nat.le_of_ble_eq_true rfl) (Nat.le_of_ble_eq_true rfl) ?_
  have r1 : pm_run PT 1361 2047 83979 85 (0, pm_l0 [.ref 0] 2, [], fz_h0, 1, 14) = some (none, fz_h fz_r1, 162, 3274) := fz_1
  have o0 : fz_h0 0 = .inr (10, pm_df PT 10) := by
    unfold fz_h0 va_up
    rw [if_pos rfl]
  exact pv_call (fr := 2048) (lo := 84000) (g := 0) PT_ok hC rfl rfl hs0 (cd_ctor (t := 85) (ci := 10) rfl rfl rfl (by decide) o0 rfl (Nat.le_of_ble_eq_true rfl) (Nat.le_of_ble_eq_true rfl)) (mx := 2) rfl (by decide) (by decide) (Nat.zero_le _) (Nat.zero_le _) ⟨1361, (none, fz_h fz_r1, 162, 3274), r1, Or.inl rfl, Nat.le_of_ble_eq_true rfl, Nat.le_of_ble_eq_true rfl, kk⟩
theorem p1_c (htr : l.stackTraces = false) (E : lw_Env D aC b bS Ln xs p s m meth c) (hret : meth.sig.returnType = ret) (hlk : meth.locks = false) (hs0 : s.heap.size = b + 0 + 0) (hLn : Ln ≤ 2560) (kk : pm_V p l e room_1 s m #[Value.ref (aC (1000 + bS))] below meth c (lw_Zb b 601024 7293034 below s) PT D aC b 1000 0 0 (11, [some (.retAddr bS), some (.ref 0), none, none, none, none, none, none], [.ref 162], fz_h1, 162 + 1, 3274 + 55)) : pm_V p l e room_1 s m #[Value.ref (aC (1000 + bS))] below meth c (lw_Zb b 601024 7293034 below s) PT D aC b 1000 0 0 (7, [some (.retAddr bS), none, none, none, none, none, none, none], [.ref 0], fz_h fz_r1, 162, 3274) := by
  have hC := E.1
  refine pv_p hC hs0 rfl rfl rfl rfl (Nat.le_of_ble_eq_true rfl) (Nat.le_of_ble_eq_true rfl) ?_
  refine pv_p hC hs0 rfl rfl rfl (ps_new (ci := 11) (n := 55) rfl (by decide) rfl) (Nat.le_of_ble_eq_true rfl) (Nat.le_of_ble_eq_true rfl) ?_
  exact kk
theorem p1_d (htr : l.stackTraces = false) (E : lw_Env D aC b bS Ln xs p s m meth c) (hret : meth.sig.returnType = ret) (hlk : meth.locks = false) (hs0 : s.heap.size = b + 0 + 0) (hLn : Ln ≤ 2560) (kk : pm_V p l e room_1 s m #[Value.ref (aC (1000 + bS))] below meth c (lw_Zb b 601024 7293034 below s) PT D aC b 1000 0 0 (15, [some (.retAddr bS), some (.ref 0), none, none, none, none, none, none], [.ref 162], fz_h fz_r2, 197, 7036)) : pm_V p l e room_1 s m #[Value.ref (aC (1000 + bS))] below meth c (lw_Zb b 601024 7293034 below s) PT D aC b 1000 0 0 (11, [some (.retAddr bS), some (.ref 0), none, none, none, none, none, none], [.ref 162], fz_h1, 162 + 1, 3274 + 55) := by
  have hC := E.1
  refine pv_p hC hs0 rfl rfl rfl rfl (Nat.le_of_ble_eq_true rfl) (Nat.le_of_ble_eq_true rfl) ?_
  have r2 : pm_run PT 339 2047 83980 161 (0, pm_l0 [.ref 162] 1, [], fz_h1, 162 + 1, 3274 + 55) = some (none, fz_h fz_r2, 197, 7036) := fz_2
  have o1 : fz_h1 162 = .inr (11, pm_df PT 11) := by
    unfold fz_h1 va_up
    rw [if_pos rfl]
  exact pv_call (fr := 2048) (lo := 84000) (g := 0) PT_ok hC rfl rfl hs0 (cd_ctor (t := 161) (ci := 11) rfl rfl rfl (by decide) o1 rfl (Nat.le_of_ble_eq_true rfl) (Nat.le_of_ble_eq_true rfl)) (mx := 1) rfl (by decide) (by decide) (Nat.zero_le _) (Nat.zero_le _) ⟨339, (none, fz_h fz_r2, 197, 7036), r2, Or.inl rfl, Nat.le_of_ble_eq_true rfl, Nat.le_of_ble_eq_true rfl, kk⟩
theorem p1_e (htr : l.stackTraces = false) (E : lw_Env D aC b bS Ln xs p s m meth c) (hret : meth.sig.returnType = ret) (hlk : meth.locks = false) (hs0 : s.heap.size = b + 0 + 0) (hLn : Ln ≤ 2560) (kk : pm_V p l e room_1 s m #[Value.ref (aC (1000 + bS))] below meth c (lw_Zb b 601024 7293034 below s) PT D aC b 1000 0 0 (19, [some (.retAddr bS), some (.ref 0), some (.ref 162), none, none, none, none, none], [.ref 197], fz_h2, 198, 7037)) : pm_V p l e room_1 s m #[Value.ref (aC (1000 + bS))] below meth c (lw_Zb b 601024 7293034 below s) PT D aC b 1000 0 0 (15, [some (.retAddr bS), some (.ref 0), none, none, none, none, none, none], [.ref 162], fz_h fz_r2, 197, 7036) := by
  have hC := E.1
  refine pv_p hC hs0 rfl rfl rfl rfl (Nat.le_of_ble_eq_true rfl) (Nat.le_of_ble_eq_true rfl) ?_
  refine pv_p hC hs0 rfl rfl rfl rfl (Nat.le_of_ble_eq_true rfl) (Nat.le_of_ble_eq_true rfl) ?_
  refine pv_p hC hs0 rfl rfl rfl (ps_newL (kd := 2) (c := 1) rfl rfl (by decide)) (Nat.le_of_ble_eq_true rfl) (Nat.le_of_ble_eq_true rfl) ?_
  exact kk
theorem p1_f (htr : l.stackTraces = false) (E : lw_Env D aC b bS Ln xs p s m meth c) (hret : meth.sig.returnType = ret) (hlk : meth.locks = false) (hs0 : s.heap.size = b + 0 + 0) (hLn : Ln ≤ 2560) (kk : pm_V p l e room_1 s m #[Value.ref (aC (1000 + bS))] below meth c (lw_Zb b 601024 7293034 below s) PT D aC b 1000 0 0 (23, [some (.retAddr bS), some (.ref 0), some (.ref 162), some (.ref 197), some (.int 0), none, none, none], [], fz_h2, 198, 7037)) : pm_V p l e room_1 s m #[Value.ref (aC (1000 + bS))] below meth c (lw_Zb b 601024 7293034 below s) PT D aC b 1000 0 0 (19, [some (.retAddr bS), some (.ref 0), some (.ref 162), none, none, none, none, none], [.ref 197], fz_h2, 198, 7037) := by
  have hC := E.1
  refine pv_p hC hs0 rfl rfl rfl rfl (Nat.le_of_ble_eq_true rfl) (Nat.le_of_ble_eq_true rfl) ?_
  refine pv_p hC hs0 rfl rfl rfl rfl (Nat.le_of_ble_eq_true rfl) (Nat.le_of_ble_eq_true rfl) ?_
  refine pv_p hC hs0 rfl rfl rfl rfl (Nat.le_of_ble_eq_true rfl) (Nat.le_of_ble_eq_true rfl) ?_
  exact kk
theorem p1_pre (htr : l.stackTraces = false) (E : lw_Env D aC b bS Ln xs p s m meth c) (hret : meth.sig.returnType = ret) (hlk : meth.locks = false) (hs0 : s.heap.size = b + 0 + 0) (hLn : Ln ≤ 2560) : pm_V p l e room_1 s m #[Value.ref (aC (1000 + bS))] below meth c (lw_Zb b 601024 7293034 below s) PT D aC b 1000 0 0 (0, pm_l0 [.retAddr bS] 8, [], fun _ => .inr (0, []), 0, 0) :=
  p1_a htr E hret hlk hs0 hLn (p1_b htr E hret hlk hs0 hLn (p1_c htr E hret hlk hs0 hLn (p1_d htr E hret hlk hs0 hLn (p1_e htr E hret hlk hs0 hLn (p1_f htr E hret hlk hs0 hLn (p1_in htr E hret hlk hs0 hLn _ ⟨rfl, rfl, rfl, rfl, rfl, rfl⟩))))))
end P1S
/-! the String constants of this start -/
section PSTR
theorem sz_one {args : Array Value} {s : State} {k : Nat} {tx : List Int32} (hn : tx.length < 2 ^ 31) (hex : (Cond.exactly (.string "GiftsOfCourtsModel" k) "java/lang/String").before args s = true) (hco : (Cond.eq (.field (.string "GiftsOfCourtsModel" k) "java/lang/String" "coder" "B") (.int 0)).before args s = true) (har : (Cond.arrayOf (.field (.string "GiftsOfCourtsModel" k) "java/lang/String" "value" "[B") .byte).before args s = true)
    (hle : (Cond.eq (.length (.field (.string "GiftsOfCourtsModel" k) "java/lang/String" "value" "[B")) (.int (Int32.ofNat tx.length))).before args s = true) (hel : ∀ j : Nat, j < tx.length → (Cond.eq (.elem (.field (.string "GiftsOfCourtsModel" k) "java/lang/String" "value" "[B") (.int (Int32.ofNat j))) (.int (tx.getD j 0))).before args s = true) :
    ∃ a v : Nat, (Term.string "GiftsOfCourtsModel" k).eval args s none [] s = some (.ref a) ∧ va_O "java/lang/String" a (fun q => s.heap.size ≤ q) s s.heap ∧ va_OF "java/lang/String" "coder" "B" (.int 0) a (fun q => s.heap.size ≤ q) s s.heap ∧ va_OF "java/lang/String" "value" "[B" (.ref v) a (fun q => s.heap.size ≤ q) s s.heap ∧ va_T .byte v tx.length (fun j => .int (tx.getD j 0)) (fun q => s.heap.size ≤ q) s s.heap := by
  have hA : ∀ a : Nat, a < s.heap.size → ¬ (fun q => s.heap.size ≤ q) a := fun a ha h => Nat.not_le_of_lt ha h
  obtain ⟨a, c, cA, kA, q1, q2, q3, q4, q5, q6, -⟩ := Cond.exactly_spec (args := args) (first := s) (o := none) (s := s) (idx := []) (t := .string "GiftsOfCourtsModel" k) (cls := "java/lang/String") hex
  obtain ⟨t, ht, hT⟩ := va_Tof (f := fun j => .int (tx.getD j 0)) (A := fun q => s.heap.size ≤ q) hn har (va_eqt hle) (fun j hj => va_eqt (hel j hj)) hA
  exact ⟨a, t, q1, ⟨cA, q3, q5, by rw [q6]; exact q2, hA a (Array.getElem?_eq_some_iff.mp q3).1⟩, vk_OFof q1 (va_eqt hco) hA, vk_OFof q1 ht hA, hT⟩
def sz_P (args : Array Value) (s : State) (i k : Nat) (q : Nat × Nat) : Prop := (Term.string "GiftsOfCourtsModel" k).eval args s none [] s = some (.ref q.1) ∧ va_O "java/lang/String" q.1 (fun q => s.heap.size ≤ q) s s.heap ∧ va_OF "java/lang/String" "coder" "B" (.int 0) q.1 (fun q => s.heap.size ≤ q) s s.heap ∧ va_OF "java/lang/String" "value" "[B" (.ref q.2) q.1 (fun q => s.heap.size ≤ q) s s.heap ∧ va_T .byte q.2 (st_tx i).length (fun j => .int ((st_tx i).getD j 0)) (fun q => s.heap.size ≤ q) s s.heap
theorem sz_0 {args : Array Value} {s : State} (hs : ∀ w ∈ flatC (Jvm.Cond.and given_1 narrow_1), w.before args s = true) : ∃ q, sz_P args s 0 236 q := by
  have hel : ∀ j : Nat, j < (st_tx 0).length → (Cond.eq (.elem (.field (.string "GiftsOfCourtsModel" 236) "java/lang/String" "value" "[B") (.int (Int32.ofNat j))) (.int ((st_tx 0).getD j 0))).before args s = true := by
    intro j hj
    have hj : j < 7 := hj
    match j, hj with
    | 0, _ => exact hs _ (by decide +kernel)
    | 1, _ => exact hs _ (by decide +kernel)
    | 2, _ => exact hs _ (by decide +kernel)
    | 3, _ => exact hs _ (by decide +kernel)
    | 4, _ => exact hs _ (by decide +kernel)
    | 5, _ => exact hs _ (by decide +kernel)
    | 6, _ => exact hs _ (by decide +kernel)
    | n + 7, hj => exact absurd hj (by omega)
  obtain ⟨a, v, h1, h2⟩ := sz_one (args := args) (s := s) (k := 236) (tx := st_tx 0) (by decide) (hs _ (by decide +kernel)) (hs _ (by decide +kernel)) (hs _ (by decide +kernel)) (hs _ (by decide +kernel)) hel
  exact ⟨(a, v), h1, h2⟩
theorem sz_r0 : Cond.stringRef "GiftsOfCourtsModel" 236 "wkrshed" ∈ lw_tbl := by decide +kernel
theorem sz_1 {args : Array Value} {s : State} (hs : ∀ w ∈ flatC (Jvm.Cond.and given_1 narrow_1), w.before args s = true) : ∃ q, sz_P args s 1 245 q := by
  have hel : ∀ j : Nat, j < (st_tx 1).length → (Cond.eq (.elem (.field (.string "GiftsOfCourtsModel" 245) "java/lang/String" "value" "[B") (.int (Int32.ofNat j))) (.int ((st_tx 1).getD j 0))).before args s = true := by
    intro j hj
    have hj : j < 3 := hj
    match j, hj with
    | 0, _ => exact hs _ (by decide +kernel)
    | 1, _ => exact hs _ (by decide +kernel)
    | 2, _ => exact hs _ (by decide +kernel)
    | n + 3, hj => exact absurd hj (by omega)
  obtain ⟨a, v, h1, h2⟩ := sz_one (args := args) (s := s) (k := 245) (tx := st_tx 1) (by decide) (hs _ (by decide +kernel)) (hs _ (by decide +kernel)) (hs _ (by decide +kernel)) (hs _ (by decide +kernel)) hel
  exact ⟨(a, v), h1, h2⟩
theorem sz_r1 : Cond.stringRef "GiftsOfCourtsModel" 245 "<>=" ∈ lw_tbl := by decide +kernel
theorem sz_2 {args : Array Value} {s : State} (hs : ∀ w ∈ flatC (Jvm.Cond.and given_1 narrow_1), w.before args s = true) : ∃ q, sz_P args s 2 247 q := by
  have hel : ∀ j : Nat, j < (st_tx 2).length → (Cond.eq (.elem (.field (.string "GiftsOfCourtsModel" 247) "java/lang/String" "value" "[B") (.int (Int32.ofNat j))) (.int ((st_tx 2).getD j 0))).before args s = true := by
    intro j hj
    have hj : j < 2 := hj
    match j, hj with
    | 0, _ => exact hs _ (by decide +kernel)
    | 1, _ => exact hs _ (by decide +kernel)
    | n + 2, hj => exact absurd hj (by omega)
  obtain ⟨a, v, h1, h2⟩ := sz_one (args := args) (s := s) (k := 247) (tx := st_tx 2) (by decide) (hs _ (by decide +kernel)) (hs _ (by decide +kernel)) (hs _ (by decide +kernel)) (hs _ (by decide +kernel)) hel
  exact ⟨(a, v), h1, h2⟩
theorem sz_r2 : Cond.stringRef "GiftsOfCourtsModel" 247 "+-" ∈ lw_tbl := by decide +kernel
theorem sz_3 {args : Array Value} {s : State} (hs : ∀ w ∈ flatC (Jvm.Cond.and given_1 narrow_1), w.before args s = true) : ∃ q, sz_P args s 3 249 q := by
  have hel : ∀ j : Nat, j < (st_tx 3).length → (Cond.eq (.elem (.field (.string "GiftsOfCourtsModel" 249) "java/lang/String" "value" "[B") (.int (Int32.ofNat j))) (.int ((st_tx 3).getD j 0))).before args s = true := by
    intro j hj
    have hj : j < 2 := hj
    match j, hj with
    | 0, _ => exact hs _ (by decide +kernel)
    | 1, _ => exact hs _ (by decide +kernel)
    | n + 2, hj => exact absurd hj (by omega)
  obtain ⟨a, v, h1, h2⟩ := sz_one (args := args) (s := s) (k := 249) (tx := st_tx 3) (by decide) (hs _ (by decide +kernel)) (hs _ (by decide +kernel)) (hs _ (by decide +kernel)) (hs _ (by decide +kernel)) hel
  exact ⟨(a, v), h1, h2⟩
theorem sz_r3 : Cond.stringRef "GiftsOfCourtsModel" 249 "*/" ∈ lw_tbl := by decide +kernel
theorem sz_4 {args : Array Value} {s : State} (hs : ∀ w ∈ flatC (Jvm.Cond.and given_1 narrow_1), w.before args s = true) : ∃ q, sz_P args s 4 380 q := by
  have hel : ∀ j : Nat, j < (st_tx 4).length → (Cond.eq (.elem (.field (.string "GiftsOfCourtsModel" 380) "java/lang/String" "value" "[B") (.int (Int32.ofNat j))) (.int ((st_tx 4).getD j 0))).before args s = true := by
    intro j hj
    have hj : j < 5 := hj
    match j, hj with
    | 0, _ => exact hs _ (by decide +kernel)
    | 1, _ => exact hs _ (by decide +kernel)
    | 2, _ => exact hs _ (by decide +kernel)
    | 3, _ => exact hs _ (by decide +kernel)
    | 4, _ => exact hs _ (by decide +kernel)
    | n + 5, hj => exact absurd hj (by omega)
  obtain ⟨a, v, h1, h2⟩ := sz_one (args := args) (s := s) (k := 380) (tx := st_tx 4) (by decide) (hs _ (by decide +kernel)) (hs _ (by decide +kernel)) (hs _ (by decide +kernel)) (hs _ (by decide +kernel)) hel
  exact ⟨(a, v), h1, h2⟩
theorem sz_r4 : Cond.stringRef "GiftsOfCourtsModel" 380 "smfpq" ∈ lw_tbl := by decide +kernel
def sz_v (q0 q1 q2 q3 q4 : Nat) (k : Nat) : Nat := match k with
  | 0 => q0
  | 1 => q1
  | 2 => q2
  | 3 => q3
  | _ => q4
def sz_a (A : Nat → ClassId) (q : Nat → Nat) (b0 k : Nat) : ClassId := cond (Nat.blt k 1000) (A k) (cond (Nat.beq k 1005) b0 (q (k - 1000)))
theorem sz_tys (A : Nat → ClassId) (q : Nat → Nat) (b0 : Nat) : pm_tys PT (sz_a A q b0) = pm_tys PT A := rfl
theorem sz_str {o j i : Nat} (h : st_str o j = some i) : o = 11 ∧ ((j = 236 ∧ i = 0) ∨ (j = 245 ∧ i = 1) ∨ (j = 247 ∧ i = 2) ∨ (j = 249 ∧ i = 3) ∨ (j = 380 ∧ i = 4)) := by
  unfold st_str at h
  cases ho : Nat.beq o 11 with
  | false => rw [ho] at h; cases h
  | true =>
    rw [ho] at h
    refine ⟨Nat.eq_of_beq_eq_true ho, ?_⟩
    have h : pm_fd [(236, 0), (245, 1), (247, 2), (249, 3), (380, 4)] j = some i := h
    cases g0 : Nat.beq 236 j with
    | true =>
      have h2 : cond (Nat.beq 236 j) (some 0) (pm_fd [(245, 1), (247, 2), (249, 3), (380, 4)] j) = some i := h
      rw [g0] at h2
      have h3 : (some 0 : Option Nat) = some i := h2
      cases h3
      exact Or.inl ⟨(Nat.eq_of_beq_eq_true g0).symm, rfl⟩
    | false =>
      have h2 : cond (Nat.beq 236 j) (some 0) (pm_fd [(245, 1), (247, 2), (249, 3), (380, 4)] j) = some i := h
      rw [g0] at h2
      have h : pm_fd [(245, 1), (247, 2), (249, 3), (380, 4)] j = some i := h2
      cases g1 : Nat.beq 245 j with
      | true =>
        have h2 : cond (Nat.beq 245 j) (some 1) (pm_fd [(247, 2), (249, 3), (380, 4)] j) = some i := h
        rw [g1] at h2
        have h3 : (some 1 : Option Nat) = some i := h2
        cases h3
        exact Or.inr (Or.inl ⟨(Nat.eq_of_beq_eq_true g1).symm, rfl⟩)
      | false =>
        have h2 : cond (Nat.beq 245 j) (some 1) (pm_fd [(247, 2), (249, 3), (380, 4)] j) = some i := h
        rw [g1] at h2
        have h : pm_fd [(247, 2), (249, 3), (380, 4)] j = some i := h2
        cases g2 : Nat.beq 247 j with
        | true =>
          have h2 : cond (Nat.beq 247 j) (some 2) (pm_fd [(249, 3), (380, 4)] j) = some i := h
          rw [g2] at h2
          have h3 : (some 2 : Option Nat) = some i := h2
          cases h3
          exact Or.inr (Or.inr (Or.inl ⟨(Nat.eq_of_beq_eq_true g2).symm, rfl⟩))
        | false =>
          have h2 : cond (Nat.beq 247 j) (some 2) (pm_fd [(249, 3), (380, 4)] j) = some i := h
          rw [g2] at h2
          have h : pm_fd [(249, 3), (380, 4)] j = some i := h2
          cases g3 : Nat.beq 249 j with
          | true =>
            have h2 : cond (Nat.beq 249 j) (some 3) (pm_fd [(380, 4)] j) = some i := h
            rw [g3] at h2
            have h3 : (some 3 : Option Nat) = some i := h2
            cases h3
            exact Or.inr (Or.inr (Or.inr (Or.inl ⟨(Nat.eq_of_beq_eq_true g3).symm, rfl⟩)))
          | false =>
            have h2 : cond (Nat.beq 249 j) (some 3) (pm_fd [(380, 4)] j) = some i := h
            rw [g3] at h2
            have h : pm_fd [(380, 4)] j = some i := h2
            cases g4 : Nat.beq 380 j with
            | true =>
              have h2 : cond (Nat.beq 380 j) (some 4) (pm_fd [] j) = some i := h
              rw [g4] at h2
              have h3 : (some 4 : Option Nat) = some i := h2
              cases h3
              exact Or.inr (Or.inr (Or.inr (Or.inr (⟨(Nat.eq_of_beq_eq_true g4).symm, rfl⟩))))
            | false =>
              have h2 : cond (Nat.beq 380 j) (some 4) (pm_fd [] j) = some i := h
              rw [g4] at h2
              have h : pm_fd [] j = some i := h2
              cases h
theorem sz_fmt {args : Array Value} {s : State} (hl : (Cond.laysStatic "jdk/internal/util/Preconditions" "SIOOBE_FORMATTER" "Ljava/util/function/BiFunction;").before args s = true) (hini : (Cond.initialized "jdk/internal/util/Preconditions").before args s = true) (h : (Cond.isRef (.static "jdk/internal/util/Preconditions" "SIOOBE_FORMATTER" "Ljava/util/function/BiFunction;")).before args s = true) : ∃ v, va_Z "jdk/internal/util/Preconditions" "SIOOBE_FORMATTER" "Ljava/util/function/BiFunction;" v (fun q => s.heap.size ≤ q) s s.heap ∧ v.category = 1 := by
  have hz := va_Zqof (A := fun q => s.heap.size ≤ q) hl hini h (fun a ha q => Nat.not_le_of_lt ha q)
  rcases hz with h | ⟨t, h⟩
  · exact ⟨_, h, rfl⟩
  · exact ⟨_, h, rfl⟩
theorem sz_l1 : Cond.laysStatic "java/lang/String" "COMPACT_STRINGS" "Z" ∈ lw_tbl := by decide +kernel
theorem sz_l2 : Cond.initialized "java/lang/String" ∈ lw_tbl := by decide +kernel
theorem sz_l3 : Cond.laysStatic "jdk/internal/util/Preconditions" "SIOOBE_FORMATTER" "Ljava/util/function/BiFunction;" ∈ lw_tbl := by decide +kernel
theorem sz_l4 : Cond.initialized "jdk/internal/util/Preconditions" ∈ lw_tbl := by decide +kernel
theorem p1_know {args : Array Value} {s : State} (hts : ∀ w ∈ lw_tbl, w.before args s = true) (hs : ∀ w ∈ flatC (Jvm.Cond.and given_1 narrow_1), w.before args s = true) (b0 : Nat) : ∃ (D : va_G) (aC : Nat → ClassId), pm_K PT PN D aC s.heap.size s ∧ aC (1000 + 5) = b0 := by
  obtain ⟨D, A, k1, k2⟩ := p1_known (args := args) (fun w hw => hts w (List.mem_filter.mp hw).1) (fun w hw => hts w (List.mem_filter.mp hw).1)
  obtain ⟨q0, r0⟩ := sz_0 hs
  obtain ⟨q1, r1⟩ := sz_1 hs
  obtain ⟨q2, r2⟩ := sz_2 hs
  obtain ⟨q3, r3⟩ := sz_3 hs
  obtain ⟨q4, r4⟩ := sz_4 hs
  refine ⟨D, sz_a A (sz_v q0.1 q1.1 q2.1 q3.1 q4.1) b0, ⟨k1, k2, ?_, va_Zof (hts _ sz_l1) (hts _ sz_l2) (va_eqi (hs _ (by decide +kernel))) (fun a ha q => Nat.not_le_of_lt ha q), sz_fmt (hts _ sz_l3) (hts _ sz_l4) (hs _ (by decide +kernel)), sz_v q0.2 q1.2 q2.2 q3.2 q4.2, ?_⟩, rfl⟩
  · intro o j i e
    obtain ⟨rfl, h⟩ := sz_str e
    rcases h with ⟨rfl, rfl⟩ | ⟨rfl, rfl⟩ | ⟨rfl, rfl⟩ | ⟨rfl, rfl⟩ | ⟨rfl, rfl⟩
    · exact ⟨_, vk_R.of (hts _ sz_r0) r0.1⟩
    · exact ⟨_, vk_R.of (hts _ sz_r1) r1.1⟩
    · exact ⟨_, vk_R.of (hts _ sz_r2) r2.1⟩
    · exact ⟨_, vk_R.of (hts _ sz_r3) r3.1⟩
    · exact ⟨_, vk_R.of (hts _ sz_r4) r4.1⟩
  · intro i hi
    match i, hi with
    | 0, _ => exact r0.2
    | 1, _ => exact r1.2
    | 2, _ => exact r2.2
    | 3, _ => exact r3.2
    | 4, _ => exact r4.2
    | n + 5, hi => exact absurd hi (by omega)
end PSTR
