section MG90wrapcallx0
/-! the law's four wrappers: on a heap on which the class's method throws they answer 1 -/
section TWM
variable {p : Program} {l : Launch} {e : Env} {R : Room} {s : State} {m : MethodId} {args : Array Value} {below : List Frame} {meth : Method} {c : Code} {Q : State → Prop} {D : va_G} {aC : Nat → ClassId} {b g k sz sl : Nat}
/-- one simple step; no cell is made -/
theorem pv_i (hC : pm_C PT PG PN D aC b k p s m args meth c) (hs0 : s.heap.size = b + sz + g) {pc : Nat} {L : pm_L} {S : List Value} {h : pm_H} {ins : Instr} {len pc' : Nat} {L' : pm_L} {S' : List Value} {h' : pm_H} (hi : pm_ins PT k pc = some (ins, len)) (hl : pm_lenOk ins len = true) (hc : pm_callee PT k ins = none) (hs : pm_simple PT R.frames R.locals k ins pc L S h sz sl = some (pc', L', S', h', sz, sl))
    (kk : pm_V p l e R s m args below meth c Q PT D aC b k sz sl (pc', L', S', h', sz, sl)) : pm_V p l e R s m args below meth c Q PT D aC b k sz sl (pc, L, S, h, sz, sl) :=
  pm_step_ok PT_ok hC rfl rfl hs0 (Or.inr rfl) (Nat.le_refl _) (Nat.le_refl _) (Nat.le_add_right _ _) (Nat.le_add_right _ _) (go := pm_go0) (fun _ _ _ _ _ _ _ _ _ _ q => by cases q) ((ls_of hi hl hc).trans hs) kk
def tw_Qc (D : va_G) (aC : Nat → ClassId) (b sz : Nat) (XQ : pm_H → Prop) : Array Value → State → Outcome → State → Prop := fun _ st o t => o = .returned (some (.int 1)) ∧ (∃ h1, XQ h1 ∧ va_P D (pm_cl PT) (pm_w aC b h1 sz) t.heap) ∧ va_F (fun q => b ≤ q) st t
def tw_ws (w : Nat) (hh : List (Nat × Nat × Nat × Nat)) : List Cond := Cond.codeWith (pm_y PT w) (pm_code PT w) (pm_max PT w) (some .int) hh :: PG
/-- the call in a wrapper, and its catching -/
theorem tw_call (htr : l.stackTraces = false) {w t n j pc hpc lo' fr' : Nat} {x : ExceptionTableEntry} {L : pm_L} {vs rest : List Value} {h : pm_H} {fs : List Value} {XQ : pm_H → Prop}
    (hC : pm_C PT PG PN D aC b w p s m args meth c) (hown : pm_own PT (pm_o PT w) = "GiftsOfCourtsLaw") (hX : tx_K b s) (hs0 : s.heap.size = b + sz + g) (htab : c.exceptionTable.toList = [x]) (hcov : covers x pc = true) (hct : x.catchType = 13) (hhp : x.handlerPc = hpc)
    (hRf : R.frames = fr' + 1) (hRl : R.locals = lo' + (19 + pm_max PT t)) (hRc : 1 ≤ R.cells) (hRs : 6 ≤ R.slots) (hf6 : 6 ≤ fr') (hl89 : 89 ≤ lo')
    (hi : pm_ins PT w pc = some (.invokevirtual j, 3)) (hm : pm_mlk PT (pm_o PT w) j = some (0, t)) (hto : pm_own PT (pm_o PT t) = "GiftsOfCourts") (htc : pm_ci PT t = 10) (hn : vs.length = n) (hna : pm_na PT t = n + 1) (ho : h 0 = .inr (10, fs)) (hz : 0 < sz) (hsum : pm_sum rest ≤ 8) (hlen : (pm_args (.ref 0 :: vs)).length ≤ pm_max PT t)
    (hret : pm_ret PT t = some .int ∨ pm_ret PT t = some .long)
    (hrun : pw_X PT (tx_stop t) fr' lo' t (0, pm_l0 (.ref 0 :: vs) (pm_max PT t), [], h, sz, sl) (fun _ => False) (fun st => pm_sum st.2.2.1 ≤ 8 ∧ st.2.2.2.2 = (sz, sl) ∧ XQ st.2.2.2.1))
    (kk : ∀ (q9 : Addr) (h1 : pm_H) (H1 : Heap) (locs1 : List Loc) (ls : Array Slot), XQ h1 → va_P D (pm_cl PT) (pm_w aC b h1 sz) H1 → va_S (fun q => b ≤ q) s.heap H1 locs1 → pm_loc aC b ls (pm_max PT w) L → W p l e R s m args below meth c H1 locs1 1 6 Q (F0 m hpc ls [.ref q9])) :
    pm_V p l e R s m args below meth c Q PT D aC b w sz sl (pc, L, vs.reverse ++ .ref 0 :: rest, h, sz, sl) := by
  obtain ⟨hx, hb, hml, hown', hts, hK, hin⟩ := hC
  have hd := PT_ok.1 _ _ _ _ hi
  intro H locs ls hP hS hl
  refine pm_sized fun hzz => ?_
  dsimp only at hzz hP hl ⊢
  have hsz := pm_size (g := g) hS hP hs0 (Or.inr rfl) (Nat.le_refl _) hzz
  rw [Nat.sub_self, Nat.sub_self]
  obtain ⟨⟨m1, m2, m3, m4, m5, m6⟩, w1, w2, w3, ⟨n', w4, w5⟩, F, N, w6⟩ := PT_ok.2.2.2.2.1 _ _ _ _ hm
  have hnn : n' = n := by omega
  subst hnn
  have hM := fun (Qc : Array Value → State → Outcome → State → Prop) => tx_met (l := l) (g := g) (D := D) (aC := aC) (b := b) (Qc := Qc) htr ⟨m1, m2, m3, m4, m5, m6⟩ hto hf6 hl89 hlen hrun
  have hpre : ∀ U : State, U.heap = H → s.WarmedH U.vm → tx_Pc D aC b g (.ref 0 :: vs) h sz ((Value.ref 0 :: vs).map (pm_tr aC b)).toArray U := fun U hU hW => ⟨rfl, by rw [hU]; exact hsz, by rw [hU]; exact hP, hK.warm PT_ok hW (by rw [hU]; exact hS), hX.to hW (fun a ha hba => by rw [hU]; exact hS.2.1 a ha hba)⟩
  have hroom : 2 * (F0 m pc ls ((vs.reverse ++ .ref 0 :: rest).map (pm_tr aC b))).monitorRoom + ((rest.map (pm_tr aC b)).map fun v => v.category).sum ≤ 8 := lv_room (by rw [pm_sum_tr]; exact hsum)
  have hRR : (pm_rm fr' lo' 1 6).frames + 1 ≤ R.frames ∧ 8 + (pm_max PT t + 11) + (pm_rm fr' lo' 1 6).locals ≤ R.locals := by
    dsimp only
    omega
  have hst : (vs.reverse ++ .ref 0 :: rest).map (pm_tr aC b) = (vs.map (pm_tr aC b)).reverse ++ .ref (b + 0) :: rest.map (pm_tr aC b) := by
    rw [List.map_append, List.map_reverse, List.map_cons]
    rfl
  have hgd : GoodIn PG (wsV "GiftsOfCourtsLaw" j (pm_y PT t).cls (pm_y PT t) (pm_ws PT PG t)) := pm_good PT_ok (fun w hw => by
    simp only [wsV, pm_ws, List.mem_append, List.mem_cons, List.not_mem_nil, or_false] at hw
    rw [hown] at w1
    rcases hw with (rfl | rfl | rfl | rfl) | rfl | hw
    · exact w1
    · exact w2
    · exact w3
    · exact m4
    · exact m3
    · exact hw)
  have kx : ∀ (E : String) (ce : Cell) (q9 : Addr) (u : pm_H) (t : State) (H1 : Heap) (locs1 : List Loc), t.heap = H1 → s.vm.Alike t.vm → XQ u → tx_B D aC b sz E u t → H.size ≤ H1.size → (∀ q : Nat, q < H.size → ¬ b ≤ q → H1[q]? = H[q]?) → va_S (fun q => b ≤ q) s.heap H1 locs1 → H1[q9]? = some ce → ce.vm = .none → s.vm.findClass E = some ce.cls → vx_W p l e R s m args below meth c H1 locs1 (0 + 1) (0 + 6) Q (F0 m pc ls (rest.map (pm_tr aC b))) q9 := by
    intro E ce q9 u t H1 locs1 ht hal hu hB _ _ hS1 hce hcv hcl
    obtain ⟨rfl, hP1⟩ := hB
    rw [ht] at hP1
    refine tx_catch (own := "GiftsOfCourtsLaw") (name := tx_E) (E := tx_E) (by rw [← hown]; exact hown') htab hcov (by rw [hct]; decide) (by rw [hct]; exact hts _ (List.mem_filter.mpr ⟨by decide +kernel, rfl⟩)) (va_Nw.use rfl (hX.1 _ tx_cast)) hce hcv hcl ?_
    rw [hhp]
    exact kk q9 u H1 locs1 ls hu hP1 hS1 hl
  rw [hst]
  rcases hret with hret | hret
  · exact vx_calli (post := fun _ (_ : Unit) => False) (px := XQ) (B := fun _ _ => True) (BX := tx_B D aC b sz) (AX := fun q => b ≤ q) (A1 := fun q => b ≤ q) (A0 := fun q => b ≤ q) (vx_runV (As := vs.map (pm_tr aC b)) (rest := rest.map (pm_tr aC b)) ⟨hx, hb, hml, by rw [← hown]; exact hown', hts⟩ (hM (va_Qi (fun _ (_ : Unit) => False) (fun _ _ => True) (fun q => b ≤ q))) (cwV n' hts hgd rfl rfl rfl ⟨rfl, m5.1, m5.2, w5⟩ hRR) ⟨tx_blind, va_recv hK.1 hP w6 (by rw [htc]; exact pm_w_P hP hz ho), hpre⟩ rfl (by rw [List.length_map]; exact hn) hl.1 rfl hroom hd ⟨by omega, by omega⟩) hS (fun _ _ q => q) (fun _ q => q) (fun _ _ q => q) kx (fun _ _ _ _ _ _ _ q => q.elim)
  · exact vx_calll (post := fun _ (_ : Unit) => False) (px := XQ) (B := fun _ _ => True) (BX := tx_B D aC b sz) (AX := fun q => b ≤ q) (A1 := fun q => b ≤ q) (A0 := fun q => b ≤ q) (vx_runV (As := vs.map (pm_tr aC b)) (rest := rest.map (pm_tr aC b)) ⟨hx, hb, hml, by rw [← hown]; exact hown', hts⟩ (hM (va_Ql (fun _ (_ : Unit) => False) (fun _ _ => True) (fun q => b ≤ q))) (cwV n' hts hgd rfl rfl rfl ⟨rfl, m5.1, m5.2, w5⟩ hRR) ⟨tx_blind, va_recv hK.1 hP w6 (by rw [htc]; exact pm_w_P hP hz ho), hpre⟩ rfl (by rw [List.length_map]; exact hn) hl.1 rfl hroom hd ⟨by omega, by omega⟩) hS (fun _ _ q => q) (fun _ q => q) (fun _ _ q => q) kx (fun _ _ _ _ _ _ _ q => q.elim)
end TWM
end MG90wrapcallx0
section MG90wrapcallx1
/-! the law's four wrappers: they answer, whether the class's method returns or throws -/
section TWD
variable {p : Program} {l : Launch} {e : Env} {R : Room} {s : State} {m : MethodId} {args : Array Value} {below : List Frame} {meth : Method} {c : Code} {Q : State → Prop} {D : va_G} {aC : Nat → ClassId} {b g k sz sl : Nat}
theorem px_inl {T : pm_Tab} {stop : Nat → Bool} : ∀ (n fr lo k : Nat) (st : pm_St) (r : pm_Rs), px_run T stop n fr lo k st = some (.inl r) → pm_run T n fr lo k st = some r
  | 0, _, _, _, _, _, h => by cases h
  | n + 1, fr, lo, k, st, r, h => by
    unfold px_run at h
    unfold pm_run
    cases hs : stop st.1 with
    | true => rw [hs] at h; cases h
    | false =>
      rw [hs] at h
      dsimp only [cond] at h
      cases e1 : pm_end T k st with
      | some r' => rw [e1] at h; cases h; rfl
      | none =>
        rw [e1] at h
        dsimp only at h ⊢
        split at h
        · rename_i st' e2
          rw [e2]
          exact px_inl n fr lo k st' r h
        · cases h
/-- the call of x's method, told by the tables -/
theorem cd_x {w t mx j pc : Nat} {L : pm_L} {As rest : List Value} {h : pm_H} {fs : List Value} (hi : pm_ins PT w pc = some (.invokevirtual j, 3)) (hm : pm_mlk PT (pm_o PT w) j = some (0, t)) (hn : pm_na PT t = As.length + 1) (hmx : pm_max PT t = mx) (hsum : pm_sum rest ≤ 8) (ha : (pm_args (.ref 0 :: As)).length ≤ mx) (hci : pm_ci PT t = 10) (ho : h 0 = .inr (10, fs)) : pm_cd PT w (pc, L, As.reverse ++ .ref 0 :: rest, h, 198, sl) = some (t, .ref 0 :: As, rest) := by
  have hS : As.reverse ++ Value.ref 0 :: rest = (Value.ref 0 :: As).reverse ++ rest := by simp
  have hn' : pm_na PT t = (Value.ref 0 :: As).length := by simp [hn]
  rw [hS]
  generalize hA : (Value.ref 0 :: As) = A1 at hn' ha ⊢
  have htk : (A1.reverse ++ rest).take A1.length = A1.reverse := by rw [← List.length_reverse, List.take_left']; rfl
  have hdr : (A1.reverse ++ rest).drop A1.length = rest := by rw [← List.length_reverse, List.drop_left']; rfl
  unfold pm_cd
  dsimp only
  rw [hi]
  dsimp only
  have hcal : pm_callee PT w (.invokevirtual j) = some (0, t) := by
    unfold pm_callee
    dsimp only
    rw [hm]
    rfl
  rw [if_pos (show pm_lenOk (Instr.invokevirtual j) 3 = true from rfl), hcal]
  dsimp only
  rw [hn', htk, hdr, List.reverse_reverse, hmx]
  refine if_pos ⟨?_, ?_, hsum, ha⟩
  · rw [List.length_append, List.length_reverse]
    omega
  · rw [← hA]
    unfold pm_rcv
    rw [if_neg (by omega)]
    dsimp only [pm_obj]
    rw [if_pos (by decide), ho]
    dsimp only
    rw [hci]
    rfl
/-- behind a wrapper: the reference's cells are as they were -/
def twX (h h1 : pm_H) : Prop := (∀ i, i ≠ 197 → h1 i = h i) ∧ ah_ok bB 198 [] h1
def tw_Qd (D : va_G) (aC : Nat → ClassId) (b : Nat) (h : pm_H) : Array Value → State → Outcome → State → Prop := fun _ st o t => (∃ v : Int32, o = .returned (some (.int v))) ∧ (∃ h1, twX h h1 ∧ va_P D (pm_cl PT) (pm_w aC b h1 198) t.heap) ∧ va_F (fun q => b ≤ q) st t
theorem ty_197 {h : pm_H} (hh : ah_ok bB 198 [] h) : ∃ R : Nat → Int64, h 197 = .inl (2, 1, .inr (.inl R)) := by
  have h0 : ac_ok (h 197) (bB 197) := hh 197 (by decide)
  have hb : bB 197 = .inl (2, 1, al_top) := rfl
  rw [hb] at h0
  cases e : h 197 with
  | inr q => rw [e] at h0; obtain ⟨ci, fs⟩ := q; exact h0.elim
  | inl q =>
    rw [e] at h0
    obtain ⟨kd, m, f | f | f | f | f⟩ := q
    · have := (h0.2.2 0 (by rw [h0.2.1]; decide)).1
      cases this
    · obtain ⟨rfl, rfl, q⟩ := h0
      exact ⟨f, rfl⟩
    · exact h0.elim
    · exact h0.elim
    · have q := h0.2.2 0 (by rw [h0.2.1]; decide)
      cases e3 : f 0 with
      | none => rw [e3] at q; cases q
      | some p => rw [e3] at q; cases q.1
theorem tw_set {h h1 : pm_H} {R : Nat → Int64} (hf : h1 = h) (hh : ah_ok bB 198 [] h1) : twX h (lset h1 197 1 R) := by
  refine ⟨fun i h2' => (lset_nei h2').trans (congrFun hf i), fun i hi => ?_⟩
  by_cases z : i = 197
  · subst z
    show ac_ok (lset h1 197 1 R 197) (.inl (2, 1, al_top))
    rw [lset_self]
    exact ⟨rfl, rfl, fun j _ => al_top_ok _⟩
  · rw [lset_nei z]
    exact hh i hi
/-- the answer written down, 0 returned -/
theorem tw_store {w pc pg : Nat} {L : pm_L} {h h1 : pm_H} {v : Int64} (hC : pm_C PT PG PN D aC b w p s m args meth c) (hs0 : s.heap.size = b + 198 + g) (hf : h1 = h) (hh : ah_ok bB 198 [] h1) (i1 : pm_ins PT w pc = some (.lastore, 1)) {og : Int} (i2 : pm_ins PT w (pc + 1) = some (.goto og, 3)) (eg : ∀ h' : pm_H, pm_simple PT R.frames R.locals w (.goto og) (pc + 1) L [] h' 198 sl = some (pg, L, [], h', 198, sl))
    (kk : ∀ h2, twX h h2 → pm_V p l e R s m args below meth c Q PT D aC b w 198 sl (pg, L, [], h2, 198, sl)) : pm_V p l e R s m args below meth c Q PT D aC b w 198 sl (pc, L, [.long v, .int 0, .ref 197], h1, 198, sl) := by
  obtain ⟨R0, eR⟩ := ty_197 hh
  refine pv_i hC hs0 (h' := lset h1 197 1 (vp_updL R0 0 v)) (L' := L) (S' := []) (pc' := pc + 1) i1 rfl rfl ?_ ?_
  · show pm_lS PT pc L [.long v, .int 0, .ref 197] h1 198 sl = _
    unfold pm_lS
    dsimp only
    have e : pm_lar PT h1 198 197 = some (2, 1, R0) := by
      unfold pm_lar
      rw [if_pos (by decide), eR]
      exact if_pos rfl
    rw [e]
    rfl
  · exact pv_i hC hs0 i2 rfl rfl (eg _) (kk _ (tw_set hf hh))
set_option maxHeartbeats 1000000 in
theorem tw_court {l : Launch} (htr : l.stackTraces = false) {D : va_G} {aC : Nat → ClassId} {b g sl : Nat} {h : pm_H} {fs : List Value} (a1 a2 : Int32) (hH : ah_ok bB 198 [] h) (ho : h 0 = .inr (10, fs)) : Met l (pm_y PT 1001) (tw_ws 1001 [(0, 10, 13, 13)]) (pm_rm 2047 83976 1 6) (tx_Pc D aC b g [.ref 0, .int a1, .int a2, .ref 197] h 198) (tw_Qd D aC b h) 1 6 (fun q => b ≤ q) := by
  refine va_MetW (cc := pm_code PT 1001) (maxL := pm_max PT 1001) (ret := some .int) (hh := [(0, 10, 13, 13)]) (by decide) rfl ?_
  intro p e s m args below meth c s₁ B hml hv
  obtain ⟨rfl, hsz, hP, hK, hX⟩ := hv
  have hts := atoms_spec (ws := tw_ws 1001 [(0, 10, 13, 13)]) B.pre
  have hC : pm_C PT PG PN D aC b 1001 p s m ([Value.ref 0, Value.int a1, Value.int a2, Value.ref 197].map (pm_tr aC b)).toArray meth c := ⟨B.exec, B.bytes, hml, findClass_of_methodNamed B.named, fun w hw => hts w (List.mem_cons_of_mem _ hw), hK, fun q => absurd q (by decide)⟩
  have htab : c.exceptionTable.toList = [⟨0, 10, 13, 13⟩] := vx_table (x := pm_y PT 1001) B (hts _ List.mem_cons_self)
  obtain ⟨n, o, hr, ho2⟩ := sx_con (sl := sl) (As := [.ref 0, .int a1, .int a2]) cxKt_ok (fun z hz => by rcases List.mem_cons.mp hz with rfl | hz; exact rfl; cases List.mem_singleton.mp hz; exact rfl) th_court ⟨⟨rfl, List.mem_singleton_self _⟩, ai_top_ok _, ai_top_ok _, trivial⟩ hH
  have key : pm_V p l e (headSpec (tw_ws 1001 [(0, 10, 13, 13)]) (pm_rm 2047 83976 1 6)).room s m ([Value.ref 0, Value.int a1, Value.int a2, Value.ref 197].map (pm_tr aC b)).toArray below meth c (MQ below (tw_Qd D aC b h) ([Value.ref 0, Value.int a1, Value.int a2, Value.ref 197].map (pm_tr aC b)).toArray s 1 6 (fun q => b ≤ q)) PT D aC b 1001 198 sl (0, pm_l0 [.ref 0, .int a1, .int a2, .ref 197] 5, [], h, 198, sl) := by
    refine pv_i hC hsz rfl rfl rfl rfl ?_
    refine pv_i hC hsz rfl rfl rfl rfl ?_
    refine pv_i hC hsz rfl rfl rfl rfl ?_
    refine pv_i hC hsz rfl rfl rfl rfl ?_
    refine pv_i hC hsz rfl rfl rfl rfl ?_
    cases o with
    | inr st1 =>
      have hrun : pw_X PT (tx_stop 91) 2046 83954 91 (0, pm_l0 (.ref 0 :: [.int a1, .int a2]) (pm_max PT 91), [], h, 198, sl) (fun _ => False) (fun st => pm_sum st.2.2.1 ≤ 8 ∧ st.2.2.2.2 = (198, sl) ∧ twX h st.2.2.2.1) := ⟨n, .inr st1, hr, ho2.1, by rw [ho2.2.1]; decide, ho2.2.2.1, fun i _ => congrFun (px_run_nw nwx_91 n _ _ _ _ hr) i, ho2.2.2.2.2⟩
      refine tw_call (w := 1001) (t := 91) (n := 2) (pc := 5) (hpc := 13) (x := ⟨0, 10, 13, 13⟩) (vs := [.int a1, .int a2]) (rest := [.int 0, .ref 197]) (fr' := 2046) (lo' := 83954) htr hC rfl hX hsz htab rfl rfl rfl rfl rfl (Nat.le_refl _) (Nat.le_refl _) (by decide) (by decide) rfl rfl rfl rfl rfl rfl ho (by decide) (Nat.le_of_ble_eq_true rfl) (Nat.le_of_ble_eq_true rfl) (by first | exact Or.inl rfl | exact Or.inr rfl) hrun ?_
      intro q9 h1 H1 locs1 ls hXQ hP1 hS1 hl1
      refine lv_astore hC.1 hC.2.1 (i := 4) (PT_ok.1 1001 13 _ _ rfl) hl1.has (by decide) rfl (fun ls' hl' => ?_)
      refine lv_iconst hC.1 hC.2.1 (n := 1) (v := 1) (PT_ok.1 1001 15 _ _ rfl) rfl ?_
      exact W.iret hC.1 hC.2.1 B.returns (fun t ht hW => ⟨⟨1, rfl⟩, ⟨h1, hXQ, by rw [ht]; exact hP1⟩, hS1.F ht⟩) hS1.2.2 (PT_ok.1 1001 16 _ _ rfl) B.notSynchronized
    | inl r =>
      obtain ⟨⟨a, ha, hv⟩, hsr, hfr, hhr⟩ := ho2
      obtain ⟨rv, h1, s1⟩ := r
      dsimp only at hv hsr hfr hhr
      cases hsr
      cases List.mem_singleton.mp ha
      have hrv : ∃ v : Int32, rv = some (.int v) := (ao_i hv).imp (fun _ q => q.1)
      obtain ⟨v, rfl⟩ := hrv
      refine pv_call PT_ok hC rfl rfl hsz (t := 91) (mx := 3) (As := [.ref 0, .int a1, .int a2]) (rest := [.int 0, .ref 197]) (cd_x (As := [.int a1, .int a2]) rfl rfl rfl rfl (Nat.le_of_ble_eq_true rfl) (Nat.le_of_ble_eq_true rfl) rfl ho) rfl (Nat.le_of_ble_eq_true rfl) (Nat.le_of_ble_eq_true rfl) (Nat.le_refl _) (Nat.le_refl _) ⟨n, _, px_inl _ _ _ _ _ _ hr, Or.inr rfl, Nat.le_add_right _ _, Nat.le_add_right _ _, ?_⟩
      show pm_V _ _ _ _ _ _ _ _ _ _ _ _ _ _ _ 1001 198 sl (8, pm_l0 [.ref 0, .int a1, .int a2, .ref 197] 5, [.int v, .int 0, .ref 197], h1, 198, sl)
      refine pv_i hC hsz rfl rfl rfl rfl ?_
      refine tw_store (v := v.toInt64) hC hsz (px_run_nw nwx_91 n _ _ _ _ hr) hhr rfl rfl (fun _ => rfl) (fun h2 hX2 => ?_)
      refine pv_i hC hsz rfl rfl rfl rfl ?_
      intro H1 locs1 ls hP1 hS1 hl1
      dsimp only at hP1 hl1 ⊢
      refine W.widen (k := 1) (n := 6) (by omega) (by omega) ?_
      show W _ _ _ _ _ _ _ _ _ _ _ _ _ _ _ (F0 m 18 ls [.int 0])
      exact W.iret hC.1 hC.2.1 B.returns (fun t ht hW => ⟨⟨0, rfl⟩, ⟨h2, hX2, by rw [ht]; exact hP1⟩, hS1.F ht⟩) hS1.2.2 (PT_ok.1 1001 18 _ _ rfl) B.notSynchronized
  have hW := key s.heap [] _ hP va_S.rf (pm_l0_loc aC b [.ref 0, .int a1, .int a2, .ref 197] (n := 5) (Nat.le_of_ble_eq_true rfl))
  rw [lg_entry_eq]
  dsimp only at hW
  rw [Nat.sub_self, Nat.sub_self] at hW
  exact hW
set_option maxHeartbeats 1000000 in
theorem tw_between {l : Launch} (htr : l.stackTraces = false) {D : va_G} {aC : Nat → ClassId} {b g sl : Nat} {h : pm_H} {fs : List Value} (a1 a2 a3 : Int32) (hH : ah_ok bB 198 [] h) (ho : h 0 = .inr (10, fs)) : Met l (pm_y PT 1002) (tw_ws 1002 [(0, 12, 15, 13)]) (pm_rm 2047 83975 1 6) (tx_Pc D aC b g [.ref 0, .int a1, .int a2, .int a3, .ref 197] h 198) (tw_Qd D aC b h) 1 6 (fun q => b ≤ q) := by
  refine va_MetW (cc := pm_code PT 1002) (maxL := pm_max PT 1002) (ret := some .int) (hh := [(0, 12, 15, 13)]) (by decide) rfl ?_
  intro p e s m args below meth c s₁ B hml hv
  obtain ⟨rfl, hsz, hP, hK, hX⟩ := hv
  have hts := atoms_spec (ws := tw_ws 1002 [(0, 12, 15, 13)]) B.pre
  have hC : pm_C PT PG PN D aC b 1002 p s m ([Value.ref 0, Value.int a1, Value.int a2, Value.int a3, Value.ref 197].map (pm_tr aC b)).toArray meth c := ⟨B.exec, B.bytes, hml, findClass_of_methodNamed B.named, fun w hw => hts w (List.mem_cons_of_mem _ hw), hK, fun q => absurd q (by decide)⟩
  have htab : c.exceptionTable.toList = [⟨0, 12, 15, 13⟩] := vx_table (x := pm_y PT 1002) B (hts _ List.mem_cons_self)
  obtain ⟨n, o, hr, ho2⟩ := sx_con (sl := sl) (As := [.ref 0, .int a1, .int a2, .int a3]) cxKt_ok (fun z hz => by rcases List.mem_cons.mp hz with rfl | hz; exact rfl; cases List.mem_singleton.mp hz; exact rfl) th_between ⟨⟨rfl, List.mem_singleton_self _⟩, ai_top_ok _, ai_top_ok _, ai_top_ok _, trivial⟩ hH
  have key : pm_V p l e (headSpec (tw_ws 1002 [(0, 12, 15, 13)]) (pm_rm 2047 83975 1 6)).room s m ([Value.ref 0, Value.int a1, Value.int a2, Value.int a3, Value.ref 197].map (pm_tr aC b)).toArray below meth c (MQ below (tw_Qd D aC b h) ([Value.ref 0, Value.int a1, Value.int a2, Value.int a3, Value.ref 197].map (pm_tr aC b)).toArray s 1 6 (fun q => b ≤ q)) PT D aC b 1002 198 sl (0, pm_l0 [.ref 0, .int a1, .int a2, .int a3, .ref 197] 6, [], h, 198, sl) := by
    refine pv_i hC hsz rfl rfl rfl rfl ?_
    refine pv_i hC hsz rfl rfl rfl rfl ?_
    refine pv_i hC hsz rfl rfl rfl rfl ?_
    refine pv_i hC hsz rfl rfl rfl rfl ?_
    refine pv_i hC hsz rfl rfl rfl rfl ?_
    refine pv_i hC hsz rfl rfl rfl rfl ?_
    cases o with
    | inr st1 =>
      have hrun : pw_X PT (tx_stop 92) 2046 83951 92 (0, pm_l0 (.ref 0 :: [.int a1, .int a2, .int a3]) (pm_max PT 92), [], h, 198, sl) (fun _ => False) (fun st => pm_sum st.2.2.1 ≤ 8 ∧ st.2.2.2.2 = (198, sl) ∧ twX h st.2.2.2.1) := ⟨n, .inr st1, hr, ho2.1, by rw [ho2.2.1]; decide, ho2.2.2.1, fun i _ => congrFun (px_run_nw nwx_92 n _ _ _ _ hr) i, ho2.2.2.2.2⟩
      refine tw_call (w := 1002) (t := 92) (n := 3) (pc := 7) (hpc := 15) (x := ⟨0, 12, 15, 13⟩) (vs := [.int a1, .int a2, .int a3]) (rest := [.int 0, .ref 197]) (fr' := 2046) (lo' := 83951) htr hC rfl hX hsz htab rfl rfl rfl rfl rfl (Nat.le_refl _) (Nat.le_refl _) (by decide) (by decide) rfl rfl rfl rfl rfl rfl ho (by decide) (Nat.le_of_ble_eq_true rfl) (Nat.le_of_ble_eq_true rfl) (by first | exact Or.inl rfl | exact Or.inr rfl) hrun ?_
      intro q9 h1 H1 locs1 ls hXQ hP1 hS1 hl1
      refine lv_astore hC.1 hC.2.1 (i := 5) (PT_ok.1 1002 15 _ _ rfl) hl1.has (by decide) rfl (fun ls' hl' => ?_)
      refine lv_iconst hC.1 hC.2.1 (n := 1) (v := 1) (PT_ok.1 1002 17 _ _ rfl) rfl ?_
      exact W.iret hC.1 hC.2.1 B.returns (fun t ht hW => ⟨⟨1, rfl⟩, ⟨h1, hXQ, by rw [ht]; exact hP1⟩, hS1.F ht⟩) hS1.2.2 (PT_ok.1 1002 18 _ _ rfl) B.notSynchronized
    | inl r =>
      obtain ⟨⟨a, ha, hv⟩, hsr, hfr, hhr⟩ := ho2
      obtain ⟨rv, h1, s1⟩ := r
      dsimp only at hv hsr hfr hhr
      cases hsr
      cases List.mem_singleton.mp ha
      have hrv : ∃ v : Int32, rv = some (.int v) := (ao_i hv).imp (fun _ q => q.1)
      obtain ⟨v, rfl⟩ := hrv
      refine pv_call PT_ok hC rfl rfl hsz (t := 92) (mx := 5) (As := [.ref 0, .int a1, .int a2, .int a3]) (rest := [.int 0, .ref 197]) (cd_x (As := [.int a1, .int a2, .int a3]) rfl rfl rfl rfl (Nat.le_of_ble_eq_true rfl) (Nat.le_of_ble_eq_true rfl) rfl ho) rfl (Nat.le_of_ble_eq_true rfl) (Nat.le_of_ble_eq_true rfl) (Nat.le_refl _) (Nat.le_refl _) ⟨n, _, px_inl _ _ _ _ _ _ hr, Or.inr rfl, Nat.le_add_right _ _, Nat.le_add_right _ _, ?_⟩
      show pm_V _ _ _ _ _ _ _ _ _ _ _ _ _ _ _ 1002 198 sl (10, pm_l0 [.ref 0, .int a1, .int a2, .int a3, .ref 197] 6, [.int v, .int 0, .ref 197], h1, 198, sl)
      refine pv_i hC hsz rfl rfl rfl rfl ?_
      refine tw_store (v := v.toInt64) hC hsz (px_run_nw nwx_92 n _ _ _ _ hr) hhr rfl rfl (fun _ => rfl) (fun h2 hX2 => ?_)
      refine pv_i hC hsz rfl rfl rfl rfl ?_
      intro H1 locs1 ls hP1 hS1 hl1
      dsimp only at hP1 hl1 ⊢
      refine W.widen (k := 1) (n := 6) (by omega) (by omega) ?_
      show W _ _ _ _ _ _ _ _ _ _ _ _ _ _ _ (F0 m 20 ls [.int 0])
      exact W.iret hC.1 hC.2.1 B.returns (fun t ht hW => ⟨⟨0, rfl⟩, ⟨h2, hX2, by rw [ht]; exact hP1⟩, hS1.F ht⟩) hS1.2.2 (PT_ok.1 1002 20 _ _ rfl) B.notSynchronized
  have hW := key s.heap [] _ hP va_S.rf (pm_l0_loc aC b [.ref 0, .int a1, .int a2, .int a3, .ref 197] (n := 6) (Nat.le_of_ble_eq_true rfl))
  rw [lg_entry_eq]
  dsimp only at hW
  rw [Nat.sub_self, Nat.sub_self] at hW
  exact hW
set_option maxHeartbeats 1000000 in
theorem tw_gift {l : Launch} (htr : l.stackTraces = false) {D : va_G} {aC : Nat → ClassId} {b g sl : Nat} {h : pm_H} {fs : List Value} (a1 a2 : Int32) (hH : ah_ok bB 198 [] h) (ho : h 0 = .inr (10, fs)) : Met l (pm_y PT 1003) (tw_ws 1003 [(0, 10, 13, 13)]) (pm_rm 2047 83976 1 6) (tx_Pc D aC b g [.ref 0, .int a1, .int a2, .ref 197] h 198) (tw_Qd D aC b h) 1 6 (fun q => b ≤ q) := by
  refine va_MetW (cc := pm_code PT 1003) (maxL := pm_max PT 1003) (ret := some .int) (hh := [(0, 10, 13, 13)]) (by decide) rfl ?_
  intro p e s m args below meth c s₁ B hml hv
  obtain ⟨rfl, hsz, hP, hK, hX⟩ := hv
  have hts := atoms_spec (ws := tw_ws 1003 [(0, 10, 13, 13)]) B.pre
  have hC : pm_C PT PG PN D aC b 1003 p s m ([Value.ref 0, Value.int a1, Value.int a2, Value.ref 197].map (pm_tr aC b)).toArray meth c := ⟨B.exec, B.bytes, hml, findClass_of_methodNamed B.named, fun w hw => hts w (List.mem_cons_of_mem _ hw), hK, fun q => absurd q (by decide)⟩
  have htab : c.exceptionTable.toList = [⟨0, 10, 13, 13⟩] := vx_table (x := pm_y PT 1003) B (hts _ List.mem_cons_self)
  obtain ⟨n, o, hr, ho2⟩ := sx_con (sl := sl) (As := [.ref 0, .int a1, .int a2]) cxKt_ok (fun z hz => by rcases List.mem_cons.mp hz with rfl | hz; exact rfl; cases List.mem_singleton.mp hz; exact rfl) th_gift ⟨⟨rfl, List.mem_singleton_self _⟩, ai_top_ok _, ai_top_ok _, trivial⟩ hH
  have key : pm_V p l e (headSpec (tw_ws 1003 [(0, 10, 13, 13)]) (pm_rm 2047 83976 1 6)).room s m ([Value.ref 0, Value.int a1, Value.int a2, Value.ref 197].map (pm_tr aC b)).toArray below meth c (MQ below (tw_Qd D aC b h) ([Value.ref 0, Value.int a1, Value.int a2, Value.ref 197].map (pm_tr aC b)).toArray s 1 6 (fun q => b ≤ q)) PT D aC b 1003 198 sl (0, pm_l0 [.ref 0, .int a1, .int a2, .ref 197] 5, [], h, 198, sl) := by
    refine pv_i hC hsz rfl rfl rfl rfl ?_
    refine pv_i hC hsz rfl rfl rfl rfl ?_
    refine pv_i hC hsz rfl rfl rfl rfl ?_
    refine pv_i hC hsz rfl rfl rfl rfl ?_
    refine pv_i hC hsz rfl rfl rfl rfl ?_
    cases o with
    | inr st1 =>
      have hrun : pw_X PT (tx_stop 93) 2046 83954 93 (0, pm_l0 (.ref 0 :: [.int a1, .int a2]) (pm_max PT 93), [], h, 198, sl) (fun _ => False) (fun st => pm_sum st.2.2.1 ≤ 8 ∧ st.2.2.2.2 = (198, sl) ∧ twX h st.2.2.2.1) := ⟨n, .inr st1, hr, ho2.1, by rw [ho2.2.1]; decide, ho2.2.2.1, fun i _ => congrFun (px_run_nw nwx_93 n _ _ _ _ hr) i, ho2.2.2.2.2⟩
      refine tw_call (w := 1003) (t := 93) (n := 2) (pc := 5) (hpc := 13) (x := ⟨0, 10, 13, 13⟩) (vs := [.int a1, .int a2]) (rest := [.int 0, .ref 197]) (fr' := 2046) (lo' := 83954) htr hC rfl hX hsz htab rfl rfl rfl rfl rfl (Nat.le_refl _) (Nat.le_refl _) (by decide) (by decide) rfl rfl rfl rfl rfl rfl ho (by decide) (Nat.le_of_ble_eq_true rfl) (Nat.le_of_ble_eq_true rfl) (by first | exact Or.inl rfl | exact Or.inr rfl) hrun ?_
      intro q9 h1 H1 locs1 ls hXQ hP1 hS1 hl1
      refine lv_astore hC.1 hC.2.1 (i := 4) (PT_ok.1 1003 13 _ _ rfl) hl1.has (by decide) rfl (fun ls' hl' => ?_)
      refine lv_iconst hC.1 hC.2.1 (n := 1) (v := 1) (PT_ok.1 1003 15 _ _ rfl) rfl ?_
      exact W.iret hC.1 hC.2.1 B.returns (fun t ht hW => ⟨⟨1, rfl⟩, ⟨h1, hXQ, by rw [ht]; exact hP1⟩, hS1.F ht⟩) hS1.2.2 (PT_ok.1 1003 16 _ _ rfl) B.notSynchronized
    | inl r =>
      obtain ⟨⟨a, ha, hv⟩, hsr, hfr, hhr⟩ := ho2
      obtain ⟨rv, h1, s1⟩ := r
      dsimp only at hv hsr hfr hhr
      cases hsr
      cases List.mem_singleton.mp ha
      have hrv : ∃ v : Int32, rv = some (.int v) := (ao_i hv).imp (fun _ q => q.1)
      obtain ⟨v, rfl⟩ := hrv
      refine pv_call PT_ok hC rfl rfl hsz (t := 93) (mx := 3) (As := [.ref 0, .int a1, .int a2]) (rest := [.int 0, .ref 197]) (cd_x (As := [.int a1, .int a2]) rfl rfl rfl rfl (Nat.le_of_ble_eq_true rfl) (Nat.le_of_ble_eq_true rfl) rfl ho) rfl (Nat.le_of_ble_eq_true rfl) (Nat.le_of_ble_eq_true rfl) (Nat.le_refl _) (Nat.le_refl _) ⟨n, _, px_inl _ _ _ _ _ _ hr, Or.inr rfl, Nat.le_add_right _ _, Nat.le_add_right _ _, ?_⟩
      show pm_V _ _ _ _ _ _ _ _ _ _ _ _ _ _ _ 1003 198 sl (8, pm_l0 [.ref 0, .int a1, .int a2, .ref 197] 5, [.int v, .int 0, .ref 197], h1, 198, sl)
      refine pv_i hC hsz rfl rfl rfl rfl ?_
      refine tw_store (v := v.toInt64) hC hsz (px_run_nw nwx_93 n _ _ _ _ hr) hhr rfl rfl (fun _ => rfl) (fun h2 hX2 => ?_)
      refine pv_i hC hsz rfl rfl rfl rfl ?_
      intro H1 locs1 ls hP1 hS1 hl1
      dsimp only at hP1 hl1 ⊢
      refine W.widen (k := 1) (n := 6) (by omega) (by omega) ?_
      show W _ _ _ _ _ _ _ _ _ _ _ _ _ _ _ (F0 m 18 ls [.int 0])
      exact W.iret hC.1 hC.2.1 B.returns (fun t ht hW => ⟨⟨0, rfl⟩, ⟨h2, hX2, by rw [ht]; exact hP1⟩, hS1.F ht⟩) hS1.2.2 (PT_ok.1 1003 18 _ _ rfl) B.notSynchronized
  have hW := key s.heap [] _ hP va_S.rf (pm_l0_loc aC b [.ref 0, .int a1, .int a2, .ref 197] (n := 5) (Nat.le_of_ble_eq_true rfl))
  rw [lg_entry_eq]
  dsimp only at hW
  rw [Nat.sub_self, Nat.sub_self] at hW
  exact hW
set_option maxHeartbeats 1000000 in
theorem tw_row {l : Launch} (htr : l.stackTraces = false) {D : va_G} {aC : Nat → ClassId} {b g sl : Nat} {h : pm_H} {fs : List Value} (a1 : Int32) (hH : ah_ok bB 198 [] h) (ho : h 0 = .inr (10, fs)) : Met l (pm_y PT 1004) (tw_ws 1004 [(0, 8, 11, 13)]) (pm_rm 2047 83977 1 6) (tx_Pc D aC b g [.ref 0, .int a1, .ref 197] h 198) (tw_Qd D aC b h) 1 6 (fun q => b ≤ q) := by
  refine va_MetW (cc := pm_code PT 1004) (maxL := pm_max PT 1004) (ret := some .int) (hh := [(0, 8, 11, 13)]) (by decide) rfl ?_
  intro p e s m args below meth c s₁ B hml hv
  obtain ⟨rfl, hsz, hP, hK, hX⟩ := hv
  have hts := atoms_spec (ws := tw_ws 1004 [(0, 8, 11, 13)]) B.pre
  have hC : pm_C PT PG PN D aC b 1004 p s m ([Value.ref 0, Value.int a1, Value.ref 197].map (pm_tr aC b)).toArray meth c := ⟨B.exec, B.bytes, hml, findClass_of_methodNamed B.named, fun w hw => hts w (List.mem_cons_of_mem _ hw), hK, fun q => absurd q (by decide)⟩
  have htab : c.exceptionTable.toList = [⟨0, 8, 11, 13⟩] := vx_table (x := pm_y PT 1004) B (hts _ List.mem_cons_self)
  obtain ⟨n, o, hr, ho2⟩ := sx_con (sl := sl) (As := [.ref 0, .int a1]) cxKt_ok (fun z hz => by cases List.mem_singleton.mp hz; exact rfl) th_row ⟨⟨rfl, List.mem_singleton_self _⟩, ai_top_ok _, trivial⟩ hH
  have key : pm_V p l e (headSpec (tw_ws 1004 [(0, 8, 11, 13)]) (pm_rm 2047 83977 1 6)).room s m ([Value.ref 0, Value.int a1, Value.ref 197].map (pm_tr aC b)).toArray below meth c (MQ below (tw_Qd D aC b h) ([Value.ref 0, Value.int a1, Value.ref 197].map (pm_tr aC b)).toArray s 1 6 (fun q => b ≤ q)) PT D aC b 1004 198 sl (0, pm_l0 [.ref 0, .int a1, .ref 197] 4, [], h, 198, sl) := by
    refine pv_i hC hsz rfl rfl rfl rfl ?_
    refine pv_i hC hsz rfl rfl rfl rfl ?_
    refine pv_i hC hsz rfl rfl rfl rfl ?_
    refine pv_i hC hsz rfl rfl rfl rfl ?_
    cases o with
    | inr st1 =>
      have hrun : pw_X PT (tx_stop 128) 2046 83956 128 (0, pm_l0 (.ref 0 :: [.int a1]) (pm_max PT 128), [], h, 198, sl) (fun _ => False) (fun st => pm_sum st.2.2.1 ≤ 8 ∧ st.2.2.2.2 = (198, sl) ∧ twX h st.2.2.2.1) := ⟨n, .inr st1, hr, ho2.1, by rw [ho2.2.1]; decide, ho2.2.2.1, fun i _ => congrFun (px_run_nw nwx_128 n _ _ _ _ hr) i, ho2.2.2.2.2⟩
      refine tw_call (w := 1004) (t := 128) (n := 1) (pc := 4) (hpc := 11) (x := ⟨0, 8, 11, 13⟩) (vs := [.int a1]) (rest := [.int 0, .ref 197]) (fr' := 2046) (lo' := 83956) htr hC rfl hX hsz htab rfl rfl rfl rfl rfl (Nat.le_refl _) (Nat.le_refl _) (by decide) (by decide) rfl rfl rfl rfl rfl rfl ho (by decide) (Nat.le_of_ble_eq_true rfl) (Nat.le_of_ble_eq_true rfl) (by first | exact Or.inl rfl | exact Or.inr rfl) hrun ?_
      intro q9 h1 H1 locs1 ls hXQ hP1 hS1 hl1
      refine lv_astore_n hC.1 hC.2.1 (k := 3) (i := 3) (PT_ok.1 1004 11 _ _ rfl) rfl hl1.has (by decide) rfl (fun ls' hl' => ?_)
      refine lv_iconst hC.1 hC.2.1 (n := 1) (v := 1) (PT_ok.1 1004 12 _ _ rfl) rfl ?_
      exact W.iret hC.1 hC.2.1 B.returns (fun t ht hW => ⟨⟨1, rfl⟩, ⟨h1, hXQ, by rw [ht]; exact hP1⟩, hS1.F ht⟩) hS1.2.2 (PT_ok.1 1004 13 _ _ rfl) B.notSynchronized
    | inl r =>
      obtain ⟨⟨a, ha, hv⟩, hsr, hfr, hhr⟩ := ho2
      obtain ⟨rv, h1, s1⟩ := r
      dsimp only at hv hsr hfr hhr
      cases hsr
      cases List.mem_singleton.mp ha
      have hrv : ∃ v : Int64, rv = some (.long v) := ao_l hv
      obtain ⟨v, rfl⟩ := hrv
      refine pv_call PT_ok hC rfl rfl hsz (t := 128) (mx := 2) (As := [.ref 0, .int a1]) (rest := [.int 0, .ref 197]) (cd_x (As := [.int a1]) rfl rfl rfl rfl (Nat.le_of_ble_eq_true rfl) (Nat.le_of_ble_eq_true rfl) rfl ho) rfl (Nat.le_of_ble_eq_true rfl) (Nat.le_of_ble_eq_true rfl) (Nat.le_refl _) (Nat.le_refl _) ⟨n, _, px_inl _ _ _ _ _ _ hr, Or.inr rfl, Nat.le_add_right _ _, Nat.le_add_right _ _, ?_⟩
      show pm_V _ _ _ _ _ _ _ _ _ _ _ _ _ _ _ 1004 198 sl (7, pm_l0 [.ref 0, .int a1, .ref 197] 4, [.long v, .int 0, .ref 197], h1, 198, sl)
      refine tw_store (v := v) hC hsz (px_run_nw nwx_128 n _ _ _ _ hr) hhr rfl rfl (fun _ => rfl) (fun h2 hX2 => ?_)
      refine pv_i hC hsz rfl rfl rfl rfl ?_
      intro H1 locs1 ls hP1 hS1 hl1
      dsimp only at hP1 hl1 ⊢
      refine W.widen (k := 1) (n := 6) (by omega) (by omega) ?_
      show W _ _ _ _ _ _ _ _ _ _ _ _ _ _ _ (F0 m 15 ls [.int 0])
      exact W.iret hC.1 hC.2.1 B.returns (fun t ht hW => ⟨⟨0, rfl⟩, ⟨h2, hX2, by rw [ht]; exact hP1⟩, hS1.F ht⟩) hS1.2.2 (PT_ok.1 1004 15 _ _ rfl) B.notSynchronized
  have hW := key s.heap [] _ hP va_S.rf (pm_l0_loc aC b [.ref 0, .int a1, .ref 197] (n := 4) (Nat.le_of_ble_eq_true rfl))
  rw [lg_entry_eq]
  dsimp only at hW
  rw [Nat.sub_self, Nat.sub_self] at hW
  exact hW
end TWD
end MG90wrapcallx1
section MG90wrapcallx2
/-! THE LAW'S OWN CODE, read by program: arguments out of the script, two calls, a comparison. P is what is to be shown of a state; lc_Cl: P goes back over steps, calls and readings of the script -/
section LC
def lc_Cl (sz sl bS Ln : Nat) (xs : Nat → Int32) (P : pm_St → Prop) : Prop :=
  (∀ (pc : Nat) (L : pm_L) (S : List Value) (h : pm_H) (pc' : Nat) (L' : pm_L) (S' : List Value) (h' : pm_H), pm_step PT pm_go0 2048 84000 1000 (pc, L, S, h, sz, sl) = some (pc', L', S', h', sz, sl) → P (pc', L', S', h', sz, sl) → P (pc, L, S, h, sz, sl)) ∧
  (∀ (pc : Nat) (L : pm_L) (S : List Value) (h : pm_H) (t : Nat) (As rest : List Value), pm_cd PT 1000 (pc, L, S, h, sz, sl) = some (t, As, rest) → 19 + pm_max PT t ≤ 84000 → pm_WP PT 2047 (84000 - (19 + pm_max PT t)) t (0, pm_l0 As (pm_max PT t), [], h, sz, sl) (fun r => r.2.2 = (sz, sl) ∧ P (pc + 3, L, r.1.toList ++ rest, r.2)) → P (pc, L, S, h, sz, sl)) ∧
  (∀ (pc : Nat) (L : pm_L) (S : List Value) (h : pm_H) (i : Nat), i < Ln → pm_ins PT 1000 pc = some (.iaload, 1) → P (pc + 1, L, .int (xs i) :: S, h, sz, sl) → P (pc, L, .int (nI i) :: .retAddr bS :: S, h, sz, sl)) ∧
  (∀ (pc : Nat) (L : pm_L) (S : List Value) (h : pm_H), pm_ins PT 1000 pc = some (.arraylength, 1) → P (pc + 1, L, .int (nI Ln) :: S, h, sz, sl) → P (pc, L, .retAddr bS :: S, h, sz, sl))
theorem lc_of {p : Program} {l : Launch} {e : Env} {R : Room} {s : State} {m : MethodId} {args : Array Value} {below : List Frame} {meth : Method} {c : Code} {Q : State → Prop} {D : va_G} {aC : Nat → ClassId} {b g sz sl bS Ln : Nat} {xs : Nat → Int32} (hC : pm_C PT PG PN D aC b 1000 p s m args meth c) (hfr : R.frames = 2048) (hlo : R.locals = 84000) (hs0 : s.heap.size = b + sz + g) (hX : va_X (aC (1000 + bS)) Ln xs s s.heap) (hbl : aC (1000 + bS) < s.heap.size) (hbA : ¬ b ≤ aC (1000 + bS)) (hLn : Ln < 2 ^ 31) : lc_Cl sz sl bS Ln xs (pm_V p l e R s m args below meth c Q PT D aC b 1000 sz sl) := by
  refine ⟨?_, ?_, ?_, ?_⟩
  · intro pc L S h pc' L' S' h' hs kk
    exact pm_step_ok PT_ok hC hfr hlo hs0 (Or.inr rfl) (Nat.le_refl _) (Nat.le_refl _) (Nat.le_add_right _ _) (Nat.le_add_right _ _) (go := pm_go0) (fun _ _ _ _ _ _ _ _ _ _ q => by cases q) hs kk
  · intro pc L S h t As rest hcd hl kk
    refine pv_call PT_ok hC hfr hlo hs0 hcd rfl (by omega) hl (Nat.le_refl _) (Nat.le_refl _) (wp_mono kk ?_)
    rintro ⟨rv, h1, sz1, sl1⟩ ⟨q1, q2⟩
    cases q1
    exact ⟨Or.inr rfl, Nat.le_add_right _ _, Nat.le_add_right _ _, q2⟩
  · intro pc L S h i hi hins kk
    have kk' := pv_sld (l := l) (e := e) (R := R) (below := below) (Q := Q) PT_ok hC hX hbl hbA (L := L) (S := S) (h := h) (sz := sz) (sl := sl) (sz0 := sz) (sl0 := sl) (i := nI i) (vp_in_nI hi hLn) hins
    rw [nI_clamp (by omega)] at kk'
    exact kk' kk
  · intro pc L S h hins kk
    exact pv_slen PT_ok hC hX hbl hbA hins kk
variable {P : pm_St → Prop} {sz sl bS Ln i pc : Nat} {xs : Nat → Int32} {L : pm_L} {S : List Value} {h : pm_H}
/-- load -/
theorem lc_ald (H : lc_Cl sz sl bS Ln xs P) {a : Fin 4} {v : Value} (hi : pm_ins PT 1000 pc = some (.aload_n a, 1)) (hg : pm_get L a.val = some v) (hv : pm_isT 2 v = true) (kk : P (pc + 1, L, v :: S, h, sz, sl)) : P (pc, L, S, h, sz, sl) := by
  refine H.1 _ _ _ _ _ _ _ _ ((ls_of hi rfl rfl).trans ?_) kk
  show pm_lo 2 1 pc a.val L S h sz sl = _
  unfold pm_lo pm_ld
  rw [hg]
  dsimp only
  rw [if_pos hv]
theorem lc_ild (H : lc_Cl sz sl bS Ln xs P) {a : Nat} {v : Int32} (hi : pm_ins PT 1000 pc = some (.iload a, 2)) (hg : pm_get L a = some (.int v)) (kk : P (pc + 2, L, .int v :: S, h, sz, sl)) : P (pc, L, S, h, sz, sl) := by
  refine H.1 _ _ _ _ _ _ _ _ ((ls_of hi rfl rfl).trans ?_) kk
  show pm_lo 0 2 pc a L S h sz sl = _
  unfold pm_lo pm_ld
  rw [hg]
  rfl
def lc_al (pc a : Nat) : Bool := match pm_ins PT 1000 pc with
  | some (.aload_n q, 1) => q.val == a
  | _ => false
theorem lc_al_ok (H : lc_Cl sz sl bS Ln xs P) {a : Nat} {v : Value} (hi : lc_al pc a = true) (hg : pm_get L a = some v) (hv : pm_isT 2 v = true) (kk : P (pc + 1, L, v :: S, h, sz, sl)) : P (pc, L, S, h, sz, sl) := by
  unfold lc_al at hi
  split at hi
  · rename_i q e
    have hq := eq_of_beq hi
    rw [← hq] at hg
    exact lc_ald H e hg hv kk
  · cases hi
/-- an argument: script[i + j] -/
def lc_arg (pc j : Nat) : Bool := match pm_ins PT 1000 pc, pm_ins PT 1000 (pc + 1), pm_ins PT 1000 (pc + 3), pm_ins PT 1000 (pc + 4), pm_ins PT 1000 (pc + 5) with
  | some (.aload_n q, 1), some (.iload 4, 2), some (.iconst n, 1), some (.iadd, 1), some (.iaload, 1) => q.val == 0 && decide (n = (j : Int))
  | _, _, _, _, _ => false
theorem lc_arg_ok (H : lc_Cl sz sl bS Ln xs P) {j : Nat} (ha : lc_arg pc j = true) (h0 : pm_get L 0 = some (.retAddr bS)) (h4 : pm_get L 4 = some (.int (nI i))) (hj : i + j < Ln) (kk : P (pc + 6, L, .int (xs (i + j)) :: S, h, sz, sl)) : P (pc, L, S, h, sz, sl) := by
  unfold lc_arg at ha
  split at ha
  · rename_i q n e1 e2 e3 e4 e5
    rw [Bool.and_eq_true] at ha
    have hq := eq_of_beq ha.1
    have hn : n = (j : Int) := of_decide_eq_true ha.2
    rw [← hq] at h0
    refine lc_ald H e1 h0 rfl ?_
    refine lc_ild H e2 h4 ?_
    refine H.1 _ _ _ _ (pc + 4) _ _ _ (ls_of e3 rfl rfl) ?_
    refine H.1 _ _ _ _ (pc + 5) _ _ _ (ls_of e4 rfl rfl) ?_
    have e : nI i + Int32.ofInt n = nI (i + j) := by
      rw [hn, ← nI_add]
      rfl
    show P (pc + 5, L, .int (nI i + Int32.ofInt n) :: .retAddr bS :: S, h, sz, sl)
    rw [e]
    exact H.2.2.1 _ _ _ _ _ hj e5 kk
  · cases ha
def lc_args : Nat → Nat → Nat → Bool
  | _, 0, _ => true
  | pc, n + 1, j => lc_arg pc j && lc_args (pc + 6) n (j + 1)
def lc_vals (xs : Nat → Int32) (i : Nat) : Nat → Nat → List Int32
  | 0, _ => []
  | n + 1, j => xs (i + j) :: lc_vals xs i n (j + 1)
theorem lc_vals_len (xs : Nat → Int32) (i : Nat) : ∀ n j, (lc_vals xs i n j).length = n
  | 0, _ => rfl
  | n + 1, j => by unfold lc_vals; rw [List.length_cons, lc_vals_len xs i n (j + 1)]
theorem lc_args_ok (H : lc_Cl sz sl bS Ln xs P) (h0 : pm_get L 0 = some (.retAddr bS)) (h4 : pm_get L 4 = some (.int (nI i))) : ∀ (n j pc : Nat) (S : List Value), lc_args pc n j = true → i + j + n ≤ Ln → P (pc + 6 * n, L, ((lc_vals xs i n j).map Value.int).reverse ++ S, h, sz, sl) → P (pc, L, S, h, sz, sl)
  | 0, _, _, _, _, _, kk => kk
  | n + 1, j, pc, S, ha, hb, kk => by
    unfold lc_args at ha
    rw [Bool.and_eq_true] at ha
    refine lc_arg_ok H ha.1 h0 h4 (by omega) (lc_args_ok H h0 h4 n (j + 1) (pc + 6) _ ha.2 (by omega) ?_)
    unfold lc_vals at kk
    rw [List.map_cons, List.reverse_cons, List.append_assoc] at kk
    rw [show pc + 6 + 6 * n = pc + 6 * (n + 1) by omega]
    exact kk
theorem lc_pargs : ∀ vs : List Int32, (pm_args (vs.map Value.int)).length = vs.length
  | [] => rfl
  | v :: r => by
    have ih := lc_pargs r
    rw [List.map_cons]
    unfold pm_args
    rw [if_neg (by show ¬ (1 : Nat) = 2; omega), List.length_cons, List.length_cons, ih]
/-- a call by the receiver's class -/
def lc_iv (pc t n ci : Nat) : Bool := match pm_ins PT 1000 pc with
  | some (.invokevirtual j, 3) => decide (pm_mlk PT (pm_o PT 1000) j = some (0, t) ∧ pm_na PT t = n + 1 ∧ pm_ci PT t = ci ∧ n + 1 ≤ pm_max PT t ∧ 19 + pm_max PT t ≤ 84000)
  | _ => false
theorem lc_iv_ok (H : lc_Cl sz sl bS Ln xs P) {t n ci a : Nat} {fs : List Value} {vs : List Int32} {rest : List Value} (hi : lc_iv pc t n ci = true) (ho : h a = .inr (ci, fs)) (ha : a < sz) (hn : vs.length = n) (hr : pm_sum rest ≤ 8)
    (kk : pm_WP PT 2047 (84000 - (19 + pm_max PT t)) t (0, pm_l0 (.ref a :: vs.map Value.int) (pm_max PT t), [], h, sz, sl) (fun r => r.2.2 = (sz, sl) ∧ P (pc + 3, L, r.1.toList ++ rest, r.2))) : P (pc, L, (vs.map Value.int).reverse ++ .ref a :: rest, h, sz, sl) := by
  unfold lc_iv at hi
  split at hi
  · rename_i j e
    obtain ⟨c1, c2, c3, c4, c5⟩ := of_decide_eq_true hi
    refine H.2.1 _ _ _ _ t (.ref a :: vs.map Value.int) rest ?_ c5 kk
    have hlen : ((vs.map Value.int).reverse ++ [Value.ref a]).length = n + 1 := by
      rw [List.length_append, List.length_reverse, List.length_map, hn]
      rfl
    have hsp : (vs.map Value.int).reverse ++ .ref a :: rest = ((vs.map Value.int).reverse ++ [Value.ref a]) ++ rest := by rw [List.append_assoc]; rfl
    have htk : ((vs.map Value.int).reverse ++ .ref a :: rest).take (n + 1) = (vs.map Value.int).reverse ++ [Value.ref a] := by rw [hsp, ← hlen, List.take_left']; rfl
    have hdr : ((vs.map Value.int).reverse ++ .ref a :: rest).drop (n + 1) = rest := by rw [hsp, ← hlen, List.drop_left']; rfl
    have hrev : ((vs.map Value.int).reverse ++ [Value.ref a]).reverse = .ref a :: vs.map Value.int := by rw [List.reverse_append, List.reverse_reverse]; rfl
    unfold pm_cd
    dsimp only
    rw [e]
    dsimp only
    have hcal : pm_callee PT 1000 (.invokevirtual j) = some (0, t) := by
      unfold pm_callee
      dsimp only
      rw [c1]
      rfl
    rw [if_pos (show pm_lenOk (Instr.invokevirtual j) 3 = true from rfl), hcal]
    dsimp only
    rw [c2, htk, hdr, hrev]
    refine if_pos ⟨?_, ?_, hr, ?_⟩
    · rw [hsp, List.length_append, hlen]
      omega
    · unfold pm_rcv
      rw [if_neg (by omega)]
      dsimp only
      unfold pm_obj
      rw [if_pos ha, ho]
      dsimp only
      rw [c3]
      exact beq_self_eq_true ci
    · show (pm_args (.ref a :: vs.map Value.int)).length ≤ _
      unfold pm_args
      rw [if_neg (by show ¬ (1 : Nat) = 2; omega), List.length_cons, lc_pargs, hn]
      exact c4
  · cases hi
def lc_eq (pc pe : Nat) : Bool := match pm_ins PT 1000 pc with
  | some (.if_icmp .eq off, 3) => decide (pm_tgt pc off = some pe)
  | _ => false
theorem lc_eq_ok (H : lc_Cl sz sl bS Ln xs P) {pe : Nat} {v : Int32} (hi : lc_eq pc pe = true) (kk : P (pe, L, S, h, sz, sl)) : P (pc, L, .int v :: .int v :: S, h, sz, sl) := by
  unfold lc_eq at hi
  split at hi
  · rename_i off e
    have ht : pm_tgt pc off = some pe := of_decide_eq_true hi
    refine H.1 _ _ _ _ _ _ _ _ ((ls_of e rfl rfl).trans ?_) kk
    show pm_br (pm_cmp .eq v v) pc off L S h sz sl = _
    unfold pm_br
    rw [ht, show pm_cmp .eq v v = true from decide_eq_true rfl]
  · cases hi
/-- an answer thrown away -/
def lc_pop (pc : Nat) : Bool := match pm_ins PT 1000 pc with
  | some (.pop, 1) => true
  | _ => false
theorem lc_pop_ok (H : lc_Cl sz sl bS Ln xs P) {v : Int32} (hi : lc_pop pc = true) (kk : P (pc + 1, L, S, h, sz, sl)) : P (pc, L, .int v :: S, h, sz, sl) := by
  unfold lc_pop at hi
  split at hi
  · rename_i e
    exact H.1 _ _ _ _ _ _ _ _ ((ls_of e rfl rfl).trans rfl) kk
  · cases hi
def lc_go (pc pe : Nat) : Bool := match pm_ins PT 1000 pc with
  | some (.goto off, 3) => decide (pm_tgt pc off = some pe)
  | _ => false
theorem lc_go_ok (H : lc_Cl sz sl bS Ln xs P) {pe : Nat} (hi : lc_go pc pe = true) (kk : P (pe, L, S, h, sz, sl)) : P (pc, L, S, h, sz, sl) := by
  unfold lc_go at hi
  split at hi
  · rename_i off e
    have ht : pm_tgt pc off = some pe := of_decide_eq_true hi
    refine H.1 _ _ _ _ _ _ _ _ ((ls_of e rfl rfl).trans ?_) kk
    show pm_jp pc off L S h sz sl = _
    unfold pm_jp
    rw [ht]
  · cases hi
/-- what stands in the law's locals in its loop -/
def lc_L (bS i : Nat) (L : pm_L) : Prop := pm_get L 0 = some (.retAddr bS) ∧ pm_get L 1 = some (.ref 0) ∧ pm_get L 2 = some (.ref 162) ∧ pm_get L 3 = some (.ref 197) ∧ pm_get L 4 = some (.int (nI i)) ∧ L.length = 8
/-- two calls, their answers thrown away -/
def lc_twp (pc n kx km pe : Nat) : Bool := lc_al pc 1 && (lc_args (pc + 1) n 1 && (lc_iv (pc + 1 + 6 * n) kx n 10 && (lc_pop (pc + 4 + 6 * n) && (lc_al (pc + 5 + 6 * n) 2 && (lc_args (pc + 6 + 6 * n) n 1 && (lc_iv (pc + 6 + 12 * n) km n 11 && (lc_pop (pc + 9 + 12 * n) && lc_go (pc + 10 + 12 * n) pe)))))))
theorem lc_twp_ok (H : lc_Cl sz sl bS Ln xs P) {n kx km pe : Nat} (hc : lc_twp pc n kx km pe = true) (hL : lc_L bS i L) (hb : i + 1 + n ≤ Ln) (hz : 162 < sz) {f1 : List Value} (o1 : h 0 = .inr (10, f1))
    (kk : pm_WP PT 2047 (84000 - (19 + pm_max PT kx)) kx (0, pm_l0 (.ref 0 :: (lc_vals xs i n 1).map Value.int) (pm_max PT kx), [], h, sz, sl) (fun x => x.2.2 = (sz, sl) ∧ (∃ v, x.1 = some (.int v)) ∧ (∃ f2, x.2.1 162 = .inr (11, f2)) ∧ pm_WP PT 2047 (84000 - (19 + pm_max PT km)) km (0, pm_l0 (.ref 162 :: (lc_vals xs i n 1).map Value.int) (pm_max PT km), [], x.2) (fun y => (∃ v, y.1 = some (.int v)) ∧ y.2.2 = (sz, sl) ∧ P (pe, L, [], y.2)))) : P (pc, L, [], h, sz, sl) := by
  unfold lc_twp at hc
  simp only [Bool.and_eq_true] at hc
  obtain ⟨c1, c2, c3, c4, c5, c6, c7, c8, c9⟩ := hc
  obtain ⟨l0, l1, l2, l3, l4, l5⟩ := hL
  refine lc_al_ok H c1 l1 rfl (lc_args_ok H l0 l4 n 1 _ _ c2 hb ?_)
  refine lc_iv_ok H c3 o1 (by omega) (lc_vals_len xs i n 1) (by decide) (wp_mono kk ?_)
  rintro ⟨rv, h1, sz1, sl1⟩ ⟨q1, ⟨v, q2⟩, ⟨f2, q3⟩, q4⟩
  cases q1
  dsimp only at q2 q3 q4
  subst q2
  refine ⟨rfl, ?_⟩
  show P (pc + 1 + 6 * n + 3, L, [.int v], h1, sz, sl)
  rw [show pc + 1 + 6 * n + 3 = pc + 4 + 6 * n by omega]
  refine lc_pop_ok H c4 ?_
  rw [show pc + 4 + 6 * n + 1 = pc + 5 + 6 * n by omega]
  refine lc_al_ok H c5 l2 rfl ?_
  rw [show pc + 5 + 6 * n + 1 = pc + 6 + 6 * n by omega]
  refine lc_args_ok H l0 l4 n 1 _ _ c6 hb ?_
  rw [show pc + 6 + 6 * n + 6 * n = pc + 6 + 12 * n by omega]
  refine lc_iv_ok H c7 q3 hz (lc_vals_len xs i n 1) (by decide) (wp_mono q4 ?_)
  rintro ⟨rw2, h2, sz2, sl2⟩ ⟨⟨u, p1⟩, p2, p3⟩
  cases p2
  dsimp only at p1 p3
  subst p1
  refine ⟨rfl, ?_⟩
  show P (pc + 6 + 12 * n + 3, L, [.int u], h2, sz, sl)
  rw [show pc + 6 + 12 * n + 3 = pc + 9 + 12 * n by omega]
  refine lc_pop_ok H c8 ?_
  rw [show pc + 9 + 12 * n + 1 = pc + 10 + 12 * n by omega]
  exact lc_go_ok H c9 p3
end LC
end MG90wrapcallx2
section MG90wrapcallx3
/-! the law's walk: its end, its start anew at a later state, what it knows of a state -/
section LW
variable {p : Program} {l : Launch} {e : Env} {R : Room} {s : State} {m : MethodId} {args : Array Value} {below : List Frame} {meth : Method} {c : Code} {H : Heap} {locs : List Loc} {cells slots : Nat}
variable {D : va_G} {aC : Nat → ClassId} {b g sz sl bS Ln : Nat} {xs : Nat → Int32}
/-- the law has answered true; what it wrote lies at b or behind -/
def lw_Zb (b C S : Nat) (below : List Frame) (s : State) : State → Prop := fun t => ∃ o, t.status = .running ∧ Ended t below o ∧ o = .returned (some (.int 1)) ∧ ∃ L, Framed s o t L C S ∧ ∀ q ∈ L, b ≤ q.base
theorem lw_retb (hx : p.tables.exec = Jvm.exec) (hb : c.code = code) (hr : meth.sig.returnType = ret) (hlocks : meth.locks = false) {pc C S : Nat} {ls : Array Slot} (hdg : decode code pc = .ok (.ireturn, 1)) (hL : ∀ q ∈ locs, b ≤ q.base) (h1 : cells ≤ C) (h2 : slots ≤ S) : W p l e R s m args below meth c H locs cells slots (lw_Zb b C S below s) (F0 m pc ls [.int 1]) := by
  intro T hT X0
  have X := stand_widen X0 h1 h2
  obtain ⟨fs, hret, hrun, hended, hW, hframe⟩ := X.leave (v := some (.int 1)) (hlocks := hlocks) (fun h => by rw [hr] at h; cases h)
  have hmeth' : T.vm.method? m = some meth := X.method'
  refine ⟨T.setFrames fs, ?_, .returned (some (.int 1)), hrun, hended, rfl, locs, ⟨⟨_, rfl⟩, hW, hframe⟩, hL⟩
  jvm_step X.here [X.here.top, hx, hb, hdg, hmeth', hr, ret, narrow_b1]
  (try refine ⟨rfl, ?_⟩); (try refine ⟨rfl, ?_⟩)
  first | (intro acts; rw [hret _ acts rfl rfl rfl]) | rw [hret _ _ rfl rfl rfl]
  exact Steps.refl _
/-- the walk begun anew where it stands -/
theorem lw_rebase {R' : Room} {C S C' S' : Nat} {gf : JFrame} (hf : R'.frames ≤ R.frames) (hl : R'.locals ≤ R.locals) (hc : cells + R'.cells ≤ R.cells) (hs : slots + R'.slots ≤ R.slots) (hC : cells + C' ≤ C) (hS : slots + S' ≤ S) (hL : ∀ q ∈ locs, b ≤ q.base)
    (kk : ∀ s' : State, s'.vm = s.vm → s'.heap = H → W p l e R' s' m args below meth c H [] 0 0 (lw_Zb b C' S' below s') gf) : W p l e R s m args below meth c H locs cells slots (lw_Zb b C S below s) gf := by
  intro T hT X
  have Y := vx_rebase X hf hl hc hs
  obtain ⟨s', hA⟩ : ∃ z, z = (T.setVm s.vm).setFrames (.invoking m args :: below) := ⟨_, rfl⟩
  rw [← hA] at Y
  have hvm : s'.vm = s.vm := by rw [hA]; rfl
  have hhp : s'.heap = H := by rw [hA]; exact hT
  obtain ⟨t, a1, o, b1, b2, b3, L', ⟨⟨v, b4⟩, hW, hsame⟩, b5⟩ := kk s' hvm hhp T hT Y
  have hW0 : s.WarmedH s'.vm := by rw [hvm]; exact State.WarmedH.refl s
  refine ⟨t, a1, o, b1, b2, b3, locs ++ L', ⟨⟨v, b4⟩, State.WarmedH.trans hW0 hW, ?_⟩, fun q hq => (List.mem_append.mp hq).elim (hL q) (b5 q)⟩
  subst hA
  obtain ⟨e1, e2⟩ := hsame
  rw [State.setFrames_setFrames] at e1
  have h2 : (T.setVm s.vm).sameButNew ({ t with vm := s.vm } : State) L' C' S' := ⟨e1, e2⟩
  exact (X.same.trans h2).mono hC hS
/-- what the law knows of a state -/
def lw_Env (D : va_G) (aC : Nat → ClassId) (b bS Ln : Nat) (xs : Nat → Int32) (p : Program) (s : State) (m : MethodId) (meth : Method) (c : Code) : Prop := pm_C PT PG PN D aC b 1000 p s m #[Value.ref (aC (1000 + bS))] meth c ∧ tx_K b s ∧ va_X (aC (1000 + bS)) Ln xs s s.heap ∧ aC (1000 + bS) < b ∧ b ≤ s.heap.size
theorem lw_Env.to {s' : State} (h : lw_Env D aC b bS Ln xs p s m meth c) (hvm : s'.vm = s.vm) (hq : ∀ a : Nat, a < s.heap.size → ¬ b ≤ a → s'.heap[a]? = s.heap[a]?) (hz : s.heap.size ≤ s'.heap.size) : lw_Env D aC b bS Ln xs p s' m meth c := by
  obtain ⟨⟨c1, c2, c3, c4, c5, c6, c7⟩, hX, hV, h1, h2⟩ := h
  have hW : s.WarmedH s'.vm := by rw [hvm]; exact State.WarmedH.refl s
  refine ⟨⟨c1, c2, c3, by rw [hvm]; exact c4, fun w hw => word_at hW (good_of_word (PT_ok.2.1 w hw)) (c5 w hw), c6.warm PT_ok hW (locs := []) ⟨hz, hq, fun _ q => (by cases q)⟩, c7⟩, hX.to hW hq, ?_, h1, Nat.le_trans h2 hz⟩
  exact va_X.moved hW.alike (hV.kept (hq (aC (1000 + bS)) (Nat.lt_of_lt_of_le h1 h2) (Nat.not_le_of_lt h1)))
/-- the call of a wrapper that answers 1, and the walk begun anew behind it -/
theorem lw_wrap {w jw lo1 n pc : Nat} {hh : List (Nat × Nat × Nat × Nat)} {As : List Value} {L : pm_L} {h : pm_H} {C S : Nat} (E : lw_Env D aC b bS Ln xs p s m meth c) (hz198 : sz = 198) (hs0 : s.heap.size = b + sz + g) (hfr : R.frames = 2048) (hlo : R.locals = 84000) (hRc : 1 ≤ R.cells) (hRs : 6 ≤ R.slots) (hC : 1 ≤ C) (hS : 6 ≤ S)
    (hi : pm_ins PT 1000 pc = some (.invokestatic jw, 3)) (hcls : (pm_y PT w).cls = "GiftsOfCourtsLaw") (hwd : ∀ z ∈ ([Cond.methodLink "GiftsOfCourtsLaw" jw (pm_y PT w), Cond.static (pm_y PT w), Cond.initialized "GiftsOfCourtsLaw", Cond.codeWith (pm_y PT w) (pm_code PT w) (pm_max PT w) (some .int) hh] : List Cond), z ∈ PG) (hpar : (parseMethodDescriptor (pm_y PT w).desc).map (fun d => d.parameters.length) = some n) (hn : As.length = n) (hlo1 : lo1 + (19 + pm_max PT w) ≤ 84000)
    (hM : Met l (pm_y PT w) (tw_ws w hh) (pm_rm 2047 lo1 1 6) (tx_Pc D aC b g As h sz) (tw_Qd D aC b h) 1 6 (fun q => b ≤ q))
    (kk : ∀ (s' : State) (g' : Nat) (h1 : pm_H), lw_Env D aC b bS Ln xs p s' m meth c → s'.heap.size = b + sz + g' → twX h h1 → ∀ v : Int32, pm_V p l e { frames := R.frames, locals := R.locals, cells := R.cells - 1, slots := R.slots - 6 } s' m #[Value.ref (aC (1000 + bS))] below meth c (lw_Zb b (C - 1) (S - 6) below s') PT D aC b 1000 sz sl (pc + 3, L, [.int v], h1, sz, sl)) :
    pm_V p l e R s m #[Value.ref (aC (1000 + bS))] below meth c (lw_Zb b C S below s) PT D aC b 1000 sz sl (pc, L, As.reverse, h, sz, sl) := by
  subst hz198
  have E0 := E
  obtain ⟨⟨hx, hb, hml, hown', hts, hK, hin⟩, hX, hV, hbS, hbs⟩ := E
  have hd := PT_ok.1 _ _ _ _ hi
  intro H locs ls hP hSS hl
  refine pm_sized fun hzz => ?_
  dsimp only at hzz hP hl ⊢
  have hsz := pm_size (g := g) hSS hP hs0 (Or.inr rfl) (Nat.le_refl _) hzz
  rw [Nat.sub_self, Nat.sub_self]
  have hpre : ∀ U : State, U.heap = H → s.WarmedH U.vm → tx_Pc D aC b g As h 198 (As.map (pm_tr aC b)).toArray U := fun U hU hW => ⟨rfl, by rw [hU]; exact hsz, by rw [hU]; exact hP, hK.warm PT_ok hW (by rw [hU]; exact hSS), hX.to hW (fun a ha hba => by rw [hU]; exact hSS.2.1 a ha hba)⟩
  have hroom : 2 * (F0 m pc ls (As.reverse.map (pm_tr aC b))).monitorRoom + ((([] : List Value).map (pm_tr aC b)).map fun v => v.category).sum ≤ 8 := lv_room (Nat.le_of_ble_eq_true rfl)
  have hRR : (pm_rm 2047 lo1 1 6).frames + 1 ≤ R.frames ∧ 8 + (pm_max PT w + 11) + (pm_rm 2047 lo1 1 6).locals ≤ R.locals := by
    dsimp only
    omega
  have hgd : GoodIn PG (va_wsS "GiftsOfCourtsLaw" jw (pm_y PT w) (tw_ws w hh)) := pm_good PT_ok (fun z hz => by
    simp only [va_wsS, tw_ws, List.mem_append, List.mem_cons, List.not_mem_nil, or_false] at hz
    rw [hcls] at hz
    rcases hz with (rfl | rfl | rfl) | rfl | hz
    · exact hwd _ (by simp)
    · exact hwd _ (by simp)
    · exact hwd _ (by simp)
    · exact hwd _ (by simp)
    · exact hz)
  have hr := vx_runSW (p := p) (l := l) (e := e) (below := below) (meth := meth) (locs := locs) (cells := 0) (slots := 0) (As := As.map (pm_tr aC b)) (rest := []) (g := F0 m pc ls (As.reverse.map (pm_tr aC b))) (own := "GiftsOfCourtsLaw") (H := H) ⟨hx, hb, hml, hown', hts⟩ hM (vx_cwSW n hts hgd rfl rfl rfl ⟨by rw [hcls]; decide, by rw [hcls]; decide, hpar⟩ hRR) ⟨tx_blind, hpre⟩ rfl (by rw [List.length_map]; exact hn) hl.1 (by show As.reverse.map (pm_tr aC b) = _; rw [List.map_reverse, List.append_nil]) hroom hd ⟨by omega, by omega⟩
  intro T hT X
  obtain ⟨v, st₀, t, T2, L2, h0, X', hL, e1, e2, ⟨hv, ⟨h1, hXQ, hP1⟩, hF⟩, st⟩ := hr T hT X
  obtain ⟨vv, hv⟩ := hv
  cases hv
  have hgz : s.heap.size ≤ T2.heap.size := by
    rw [e1]
    have h3 := hF.1
    rw [h0] at h3
    exact Nat.le_trans hSS.1 h3
  have hq : ∀ a : Nat, a < s.heap.size → ¬ b ≤ a → T2.heap[a]? = s.heap[a]? := fun a ha hba => by
    rw [e1, hF.2 a (by rw [h0]; exact Nat.lt_of_lt_of_le ha hSS.1) hba, h0]
    exact hSS.2.1 a ha hba
  have hbz : b + 198 ≤ T2.heap.size := by
    rw [e1]
    have h3 := hF.1
    rw [h0] at h3
    omega
  have key : W p l e R s m #[Value.ref (aC (1000 + bS))] below meth c T2.heap (locs ++ L2) (0 + 1) (0 + 6) (lw_Zb b C S below s) (F0 m (pc + 3) ls [.int vv]) := by
    refine lw_rebase (R' := { frames := R.frames, locals := R.locals, cells := R.cells - 1, slots := R.slots - 6 }) (C' := C - 1) (S' := S - 6) (Nat.le_refl _) (Nat.le_refl _) (by dsimp only; omega) (by dsimp only; omega) (by omega) (by omega) (fun q hq => (List.mem_append.mp hq).elim (hSS.2.2 q) (hL q)) (fun s' hvm hhp => ?_)
    have hV := kk s' (T2.heap.size - (b + 198)) h1 (E0.to hvm (fun a ha hba => by rw [hhp]; exact hq a ha hba) (by rw [hhp]; exact hgz)) (by rw [hhp]; omega) hXQ vv
    have hW := hV T2.heap [] ls (by rw [e1]; exact hP1) (by rw [← hhp]; exact va_S.rf) hl
    dsimp only at hW
    rw [Nat.sub_self, Nat.sub_self] at hW
    exact hW
  obtain ⟨t2, a1, b1⟩ := key T2 rfl X'
  exact ⟨t2, st t2 a1, b1⟩
end LW
end MG90wrapcallx3
section MG90wrapcallx4
/-! the law's loop: its head, its switch, its tail, and what follows a wrapper -/
section LLP
variable {P : pm_St → Prop} {sz sl bS Ln i j pc : Nat} {xs : Nat → Int32} {L : pm_L} {S : List Value} {h : pm_H} {v w : Value}
theorem gs_len {L : pm_L} {i : Nat} {v : Value} : (pm_st1 L i v).length = L.length := by
  unfold pm_st1 pm_cut
  rw [List.length_set]
  split
  · rfl
  · split
    · rw [List.length_set]
    · rfl
theorem gs_same (hi : i < L.length) : pm_get (pm_st1 L i v) i = some v := by
  have hl : i < (pm_cut L i).length := by
    unfold pm_cut
    split
    · exact hi
    · split
      · rw [List.length_set]; exact hi
      · exact hi
  unfold pm_st1 pm_get
  rw [List.getElem?_set_self hl]
theorem gs_other (hj : j ≠ i) (hc : pm_get L j = some w) (hw : w.category = 1) : pm_get (pm_st1 L i v) j = some w := by
  have key : (pm_cut L i)[j]? = L[j]? := by
    unfold pm_cut
    split
    · rfl
    · rename_i i'
      split
      · rename_i h2
        by_cases e : i' = j
        · subst e
          unfold pm_cat2 at h2
          rw [hc] at h2
          have h3 := eq_of_beq h2
          omega
        · rw [List.getElem?_set_ne e]
      · rfl
  unfold pm_get at hc ⊢
  unfold pm_st1
  rw [List.getElem?_set_ne (Ne.symm hj), key]
  exact hc
theorem gs2_len {L : pm_L} {i : Nat} {v : Value} : (pm_st2 L i v).length = L.length := by
  have h := gs_len (L := L) (i := i) (v := v)
  unfold pm_st1 at h
  unfold pm_st2
  rw [List.length_set]
  exact h
theorem gs2_other (hj : j ≠ i) (hj2 : j ≠ i + 1) (hc : pm_get L j = some w) (hw : w.category = 1) : pm_get (pm_st2 L i v) j = some w := by
  have h1 := gs_other (v := v) hj hc hw
  unfold pm_get pm_st1 at h1
  unfold pm_get pm_st2
  rw [List.getElem?_set_ne (Ne.symm hj2)]
  exact h1
theorem lc_L.st1 {k : Nat} (hL : lc_L bS i L) (hk : 5 ≤ k) : lc_L bS i (pm_st1 L k v) := by
  obtain ⟨l0, l1, l2, l3, l4, l5⟩ := hL
  exact ⟨gs_other (by omega) l0 rfl, gs_other (by omega) l1 rfl, gs_other (by omega) l2 rfl, gs_other (by omega) l3 rfl, gs_other (by omega) l4 rfl, gs_len.trans l5⟩
theorem lc_L.st2 {k : Nat} (hL : lc_L bS i L) (hk : 5 ≤ k) : lc_L bS i (pm_st2 L k v) := by
  obtain ⟨l0, l1, l2, l3, l4, l5⟩ := hL
  exact ⟨gs2_other (by omega) (by omega) l0 rfl, gs2_other (by omega) (by omega) l1 rfl, gs2_other (by omega) (by omega) l2 rfl, gs2_other (by omega) (by omega) l3 rfl, gs2_other (by omega) (by omega) l4 rfl, gs2_len.trans l5⟩
theorem lc_i (H : lc_Cl sz sl bS Ln xs P) {ins : Instr} {len pc' : Nat} {L' : pm_L} {S' : List Value} {h' : pm_H} (hi : pm_ins PT 1000 pc = some (ins, len)) (hl : pm_lenOk ins len = true) (hc : pm_callee PT 1000 ins = none) (hs : pm_simple PT 2048 84000 1000 ins pc L S h sz sl = some (pc', L', S', h', sz, sl)) (kk : P (pc', L', S', h', sz, sl)) : P (pc, L, S, h, sz, sl) := H.1 _ _ _ _ _ _ _ _ ((ls_of hi hl hc).trans hs) kk
theorem lc_icmp (H : lc_Cl sz sl bS Ln xs P) {cc : Jvm.ClassFile.Cond} {off : Int} {t : Nat} {x y : Int32} (hi : pm_ins PT 1000 pc = some (.if_icmp cc off, 3)) (ht : pm_tgt pc off = some t) (k1 : pm_cmp cc x y = true → P (t, L, S, h, sz, sl)) (k2 : pm_cmp cc x y = false → P (pc + 3, L, S, h, sz, sl)) : P (pc, L, .int y :: .int x :: S, h, sz, sl) := by
  cases hc : pm_cmp cc x y with
  | true =>
    refine H.1 _ _ _ _ _ _ _ _ ((ls_of hi rfl rfl).trans ?_) (k1 hc)
    show pm_br (pm_cmp cc x y) pc off L S h sz sl = _
    unfold pm_br
    rw [ht, hc]
  | false =>
    refine H.1 _ _ _ _ _ _ _ _ ((ls_of hi rfl rfl).trans ?_) (k2 hc)
    show pm_br (pm_cmp cc x y) pc off L S h sz sl = _
    unfold pm_br
    rw [ht, hc]
/-- the head: i <= script.length - 5 -/
theorem lc_head (H : lc_Cl sz sl bS Ln xs P) (hL : lc_L bS i L) (hi : i < 2 ^ 30) (hLn : Ln < 2 ^ 30) (k1 : i + 5 ≤ Ln → P (32, L, [], h, sz, sl)) (k2 : Ln < i + 5 → P (1449, L, [], h, sz, sl)) : P (23, L, [], h, sz, sl) := by
  obtain ⟨l0, l1, l2, l3, l4, l5⟩ := hL
  refine lc_ild H rfl l4 ?_
  refine lc_ald H (a := 0) rfl l0 rfl ?_
  refine H.2.2.2 _ _ _ _ rfl ?_
  refine lc_i H rfl rfl rfl rfl ?_
  refine lc_i H rfl rfl rfl rfl ?_
  refine lc_icmp H (cc := .gt) (x := nI i) (y := nI Ln - Int32.ofInt 5) (t := 1449) rfl rfl (fun q => ?_) (fun q => ?_)
  · have q1 : nI Ln - Int32.ofInt 5 < nI i := of_decide_eq_true q
    rw [Int32.lt_iff_toInt_lt, Int32.toInt_sub, nI_toInt (by omega), nI_toInt (by omega), show (Int32.ofInt 5).toInt = 5 by decide, ab_bm (by unfold ai_lo; omega) (by unfold ai_hi; omega)] at q1
    exact k2 (by omega)
  · have q1 : ¬ nI Ln - Int32.ofInt 5 < nI i := of_decide_eq_false q
    rw [Int32.lt_iff_toInt_lt, Int32.toInt_sub, nI_toInt (by omega), nI_toInt (by omega), show (Int32.ofInt 5).toInt = 5 by decide, ab_bm (by unfold ai_lo; omega) (by unfold ai_hi; omega)] at q1
    exact k1 (by omega)
def lc_T : List Nat := [224, 249, 274, 287, 300, 313, 353, 405, 445, 494, 555, 592, 617, 666, 703, 716, 729, 766, 791, 828, 865, 890, 903, 940, 1001, 1050, 1075, 1112, 1137, 1150, 1163, 1176, 1189, 1226, 1239, 1252, 1265, 1278, 1303, 1340, 1365, 1390, 1415]
def lc_Tb : Bool := match pm_ins PT 1000 39 with
  | some (.tableswitch d lo hi offs, _) => (decide (lo = 0) && (decide (hi = 42) && decide (pm_tgt 39 d = some 1443))) && (List.range 43).all (fun o => match offs[o]?, lc_T[o]? with
    | some off, some t => decide (pm_tgt 39 off = some t)
    | _, _ => false)
  | _ => false
theorem lc_Tok : lc_Tb = true := by decide +kernel
theorem lc_switch (H : lc_Cl sz sl bS Ln xs P) {o t : Nat} (ho : o < 43) (ht : lc_T[o]? = some t) (kk : P (t, L, S, h, sz, sl)) : P (39, L, .int (nI o) :: S, h, sz, sl) := by
  have hb := lc_Tok
  unfold lc_Tb at hb
  split at hb
  · rename_i d lo hi offs len e
    simp only [Bool.and_eq_true] at hb
    obtain ⟨⟨b1, b2, b3⟩, b4⟩ := hb
    have e1 : lo = 0 := of_decide_eq_true b1
    have e2 : hi = 42 := of_decide_eq_true b2
    subst e1 e2
    have b5 := List.all_eq_true.mp b4 o (List.mem_range.mpr ho)
    rw [ht] at b5
    refine H.1 _ _ _ _ _ _ _ _ ((ls_of e rfl rfl).trans ?_) kk
    unfold pm_simple
    dsimp only
    rw [nI_toInt (by omega), if_neg (by omega), show ((o : Int) - 0).toNat = o by omega]
    split at b5
    · rename_i off t' e3 e4
      cases e4
      have e5 : pm_tgt 39 off = some t := of_decide_eq_true b5
      rw [e3]
      dsimp only
      unfold pm_jp
      rw [e5]
    · cases b5
  · cases hb
theorem lc_default (H : lc_Cl sz sl bS Ln xs P) {o : Nat} (ho : 43 ≤ o) (ho2 : o < 2 ^ 31) (kk : P (1443, L, S, h, sz, sl)) : P (39, L, .int (nI o) :: S, h, sz, sl) := by
  have hb := lc_Tok
  unfold lc_Tb at hb
  split at hb
  · rename_i d lo hi offs len e
    simp only [Bool.and_eq_true] at hb
    obtain ⟨⟨b1, b2, b3⟩, b4⟩ := hb
    have e1 : lo = 0 := of_decide_eq_true b1
    have e2 : hi = 42 := of_decide_eq_true b2
    have e5 : pm_tgt 39 d = some 1443 := of_decide_eq_true b3
    subst e1 e2
    refine H.1 _ _ _ _ _ _ _ _ ((ls_of e rfl rfl).trans ?_) kk
    unfold pm_simple
    dsimp only
    rw [nI_toInt ho2, if_pos (by omega)]
    unfold pm_jp
    rw [e5]
  · cases hb
theorem lc_and (x : Int32) : ∃ o : Nat, o < 64 ∧ x &&& (Int8.ofInt 63).toInt32 = nI o := by
  have h1 := ag_and_ok (0, ai_lo, ai_hi) (0, 63, 63) (0, 0, 63) x ((Int8.ofInt 63).toInt32) (by decide) (ai_rng x).1 (ai_rng x).2 (by decide) (by decide)
  obtain ⟨y, e, y1, y2⟩ := av_int (a := (0, 0, 63)) rfl h1
  cases e
  dsimp only at y1 y2
  obtain ⟨j, hj, e1, e2⟩ := ab_nn y1 (Int.le_refl 0)
  refine ⟨j, ?_, e1⟩
  omega
/-- from the head into the switch -/
theorem lc_enter (H : lc_Cl sz sl bS Ln xs P) (hL : lc_L bS i L) (hi : i + 5 ≤ Ln) (kk : ∀ o : Nat, o < 64 → P (39, L, [.int (nI o)], h, sz, sl)) : P (32, L, [], h, sz, sl) := by
  obtain ⟨l0, l1, l2, l3, l4, l5⟩ := hL
  refine lc_ald H (a := 0) rfl l0 rfl ?_
  refine lc_ild H rfl l4 ?_
  refine H.2.2.1 _ _ _ _ _ (by omega) rfl ?_
  refine lc_i H rfl rfl rfl rfl ?_
  obtain ⟨o, ho, e⟩ := lc_and (xs i)
  refine lc_i H (L' := L) (S' := [.int (xs i &&& (Int8.ofInt 63).toInt32)]) (h' := h) (pc' := 39) rfl rfl rfl rfl ?_
  rw [e]
  exact kk o ho
/-- the tail: i += 5, and to the head -/
theorem lc_tail (H : lc_Cl sz sl bS Ln xs P) (hL : lc_L bS i L) (kk : ∀ L', lc_L bS (i + 5) L' → P (23, L', [], h, sz, sl)) : P (1443, L, [], h, sz, sl) := by
  have hL0 := hL
  obtain ⟨l0, l1, l2, l3, l4, l5⟩ := hL
  have e : nI i + Int32.ofInt 5 = nI (i + 5) := by rw [← nI_add]; rfl
  refine H.1 _ _ _ _ 1446 (pm_st1 L 4 (.int (nI i + Int32.ofInt 5))) [] h ((ls_of (ins := .iinc 4 5) (len := 3) rfl rfl rfl).trans ?_) ?_
  · unfold pm_simple
    dsimp only
    rw [l4]
    dsimp only
    rw [if_pos (show 4 < pm_max PT 1000 from Nat.le_of_ble_eq_true rfl)]
  refine lc_i H rfl rfl rfl rfl ?_
  rw [e]
  exact kk _ ⟨gs_other (by omega) l0 rfl, gs_other (by omega) l1 rfl, gs_other (by omega) l2 rfl, gs_other (by omega) l3 rfl, gs_same (by omega), gs_len.trans l5⟩
/-- what follows a wrapper: the reference answers, and both are put away -/
def lc_aft (q n km : Nat) (lng : Bool) (pe : Nat) : Bool := (match pm_ins PT 1000 q with
  | some (.istore 5, 2) => true
  | _ => false) && (lc_al (q + 2) 2 && (lc_args (q + 3) n 1 && (lc_iv (q + 3 + 6 * n) km n 11 && ((match pm_ins PT 1000 (q + 6 + 6 * n) with
  | some (.istore 6, 2) => !lng
  | some (.lstore 6, 2) => lng
  | _ => false) && lc_go (q + 8 + 6 * n) pe))))
theorem lc_aft_ok (H : lc_Cl sz sl bS Ln xs P) {q n km pe : Nat} {lng : Bool} {v : Int32} (hc : lc_aft q n km lng pe = true) (hL : lc_L bS i L) (hb : i + 1 + n ≤ Ln) (hz : 162 < sz) {f2 : List Value} (o2 : h 162 = .inr (11, f2))
    (hm : pm_WP PT 2047 (84000 - (19 + pm_max PT km)) km (0, pm_l0 (.ref 162 :: (lc_vals xs i n 1).map Value.int) (pm_max PT km), [], h, sz, sl) (fun x => (cond lng (∃ v, x.1 = some (.long v)) (∃ v, x.1 = some (.int v))) ∧ x.2.2 = (sz, sl) ∧ ∀ L' : pm_L, lc_L bS i L' → P (pe, L', [], x.2))) : P (q, L, [.int v], h, sz, sl) := by
  unfold lc_aft at hc
  simp only [Bool.and_eq_true] at hc
  obtain ⟨c1, c2, c3, c4, c5, c6⟩ := hc
  have hlen := hL.2.2.2.2.2
  split at c1
  · rename_i e1
    have hmx : pm_max PT 1000 = 8 := rfl
    refine H.1 _ _ _ _ (q + 2) (pm_st1 L 5 (.int v)) [] h ((ls_of e1 rfl rfl).trans ?_) ?_
    · show pm_so 0 2 (pm_max PT 1000) q 5 L [.int v] h sz sl = _
      unfold pm_so
      dsimp only
      rw [hmx, if_pos ⟨rfl, by omega⟩]
    have hL1 : lc_L bS i (pm_st1 L 5 (.int v)) := hL.st1 (by omega)
    revert hL1
    generalize pm_st1 L 5 (Value.int v) = L1
    intro hL1
    have hlen1 := hL1.2.2.2.2.2
    obtain ⟨l0, l1, l2, l3, l4, l5⟩ := id hL1
    refine lc_al_ok H c2 l2 rfl ?_
    rw [show q + 2 + 1 = q + 3 by omega]
    refine lc_args_ok H l0 l4 n 1 _ _ c3 hb ?_
    refine lc_iv_ok H c4 o2 hz (lc_vals_len xs i n 1) (by decide) (wp_mono hm ?_)
    rintro ⟨rv, h1, sz1, sl1⟩ ⟨hv, q1, q2⟩
    dsimp only at hv q1 q2
    cases q1
    refine ⟨rfl, ?_⟩
    rw [show q + 3 + 6 * n + 3 = q + 6 + 6 * n by omega]
    split at c5
    · rename_i e5
      cases lng with
      | true => cases c5
      | false =>
        obtain ⟨w, hv⟩ := hv
        subst hv
        refine H.1 _ _ _ _ (q + 6 + 6 * n + 2) (pm_st1 L1 6 (.int w)) [] h1 ((ls_of e5 rfl rfl).trans ?_) ?_
        · show pm_so 0 2 (pm_max PT 1000) (q + 6 + 6 * n) 6 L1 [.int w] h1 sz sl = _
          unfold pm_so
          dsimp only
          rw [hmx, if_pos ⟨rfl, by omega⟩]
        rw [show q + 6 + 6 * n + 2 = q + 8 + 6 * n by omega]
        exact lc_go_ok H c6 (q2 _ (hL1.st1 (by omega)))
    · rename_i e5
      cases lng with
      | false => cases c5
      | true =>
        obtain ⟨w, hv⟩ := hv
        subst hv
        refine H.1 _ _ _ _ (q + 6 + 6 * n + 2) (pm_st2 L1 6 (.long w)) [] h1 ((ls_of e5 rfl rfl).trans ?_) ?_
        · show pm_sL 2 (pm_max PT 1000) (q + 6 + 6 * n) 6 L1 [.long w] h1 sz sl = _
          unfold pm_sL
          dsimp only
          rw [hmx, if_pos (by omega)]
        rw [show q + 6 + 6 * n + 2 = q + 8 + 6 * n by omega]
        exact lc_go_ok H c6 (q2 _ (hL1.st2 (by omega)))
    · cases c5
  · cases c1
end LLP
end MG90wrapcallx4
section MG90wrapcallx5
/-! one turn of the law: two calls keep what must be kept -/
section RND
variable {P : pm_St → Prop} {sl bS Ln i pc : Nat} {xs : Nat → Int32} {L : pm_L} {h : pm_H}
theorem rxQ_hi {h h' : pm_H} (q : ∀ i, 162 ≤ i → i ≠ 197 → h' i = h i) (p : rxQ h) : rxQ h' := by
  have m : ∀ g v, mF h g v → mF h' g v := fun g v ⟨fs, e, e1⟩ => ⟨fs, by rw [q 162 (by decide) (by decide)]; exact e, e1⟩
  obtain ⟨⟨n, dn, f, a1, a2, a3⟩, ⟨c, g, b1, b2, b3⟩, ⟨f1, r1, r2⟩, f2, r3, r4⟩ := p
  exact ⟨⟨n, dn, f, m _ _ a1, (q 174 (by decide) (by decide)).trans a2, a3⟩, ⟨c, g, m _ _ b1, m _ _ b2, b3⟩, ⟨f1, (q 178 (by decide) (by decide)).trans r1, r2⟩, f2, (q 196 (by decide) (by decide)).trans r3, r4⟩
theorem twX_inv {h h1 : pm_H} (hI : mInv h) (q : twX h h1) : mInv h1 := ⟨q.2, rxQ_hi (fun i _ z => q.1 i z) hI.2⟩
theorem cx_inv {h h1 : pm_H} (hI : mInv h) (q : fm cxF h h1) (hh : ah_ok bB 198 [] h1) : mInv h1 := ⟨hh, rxQ_hi (fun i hi _ => q.1 i (Nat.ble_eq_true_of_le hi)) hI.2⟩
theorem ty_0 (hh : ah_ok bB 198 [] h) : ∃ fs, h 0 = .inr (10, fs) := by
  have h0 : ac_ok (h 0) (bB 0) := hh 0 (by decide)
  have hb : ∃ as, bB 0 = .inr (10, as) := ⟨_, rfl⟩
  obtain ⟨as, hb⟩ := hb
  rw [hb] at h0
  cases e : h 0 with
  | inr q => obtain ⟨ci, fs⟩ := q; rw [e] at h0; obtain ⟨⟨rfl, -⟩, -⟩ := h0; exact ⟨fs, rfl⟩
  | inl q =>
    rw [e] at h0
    obtain ⟨kd, m, f | f | f | f | f⟩ := q
    · exact absurd h0.1 (by omega)
    · exact h0.elim
    · exact h0.elim
    · exact h0.elim
    · exact h0.elim
theorem ty_162 (hh : ah_ok bB 198 [] h) : ∃ fs, h 162 = .inr (11, fs) := by
  obtain ⟨v, ⟨fs, e, -⟩, -⟩ := ty_fld hh (g := 0) rfl
  exact ⟨fs, e⟩
theorem as_top : ∀ vs : List Int32, as_ok (vs.map Value.int) (List.replicate vs.length ai_top)
  | [] => trivial
  | v :: vs => ⟨ai_top_ok v, as_top vs⟩
def cx_int (c : con) (n : Nat) : Bool := decide (c.2.1 = (2, 0, 1) :: List.replicate n ai_top) && (decide (c.2.2.1 = []) && (c.2.2.2.1.all (fun a => match a with
  | some b => Nat.beq b.1 0
  | none => false) && (decide (c.2.2.2.2.1 = []) && (Nat.ble c.2.2.2.2.2.1 2047 && (Nat.ble c.2.2.2.2.2.2.1 60000 && (!c.2.2.2.2.2.2.2 && Nat.ble (pm_max PT c.1) 1000))))))
end RND
end MG90wrapcallx5
section MG90wrapcallx6
/-! runs, told backwards: further steps -/
section RNB
variable {n fr lo sl k pc j f t a c : Nat} {h : pm_H} {L : pm_L} {r : List Value} {R : pm_Rs}
theorem rn_if {cc : Jvm.ClassFile.Cond} {off : Int} {x : Int32} (hi : pm_ins PT k pc = some (.ifCond cc off, 3)) (ht : pm_tgt pc off = some t) (hh : pm_run PT n fr lo k (pc, L, .int x :: r, h, 198, sl) = some R) : ∃ m, pm_run PT m fr lo k (cond (pm_cmp cc x 0) t (pc + 3), L, r, h, 198, sl) = some R := by
  refine rn_i hi rfl rfl ?_ hh
  show pm_br (pm_cmp cc x 0) pc off L r h 198 sl = _
  unfold pm_br
  rw [ht]
  cases pm_cmp cc x 0 <;> rfl
theorem rn_icmp {cc : Jvm.ClassFile.Cond} {off : Int} {x y : Int32} (hi : pm_ins PT k pc = some (.if_icmp cc off, 3)) (ht : pm_tgt pc off = some t) (hh : pm_run PT n fr lo k (pc, L, .int y :: .int x :: r, h, 198, sl) = some R) : ∃ m, pm_run PT m fr lo k (cond (pm_cmp cc x y) t (pc + 3), L, r, h, 198, sl) = some R := by
  refine rn_i hi rfl rfl ?_ hh
  show pm_br (pm_cmp cc x y) pc off L r h 198 sl = _
  unfold pm_br
  rw [ht]
  cases pm_cmp cc x y <;> rfl
theorem rn_iam {m : Nat} {i : Int32} {g : Nat → Int32} (hi : pm_ins PT k pc = some (.iaload, 1)) (ha : h a = .inl (0, m, .inl g)) (hin : pm_in i m = true) (hl : a < 198) (hh : pm_run PT n fr lo k (pc, L, .int i :: .ref a :: r, h, 198, sl) = some R) : ∃ q, pm_run PT q fr lo k (pc + 1, L, .int (g i.toNatClampNeg) :: r, h, 198, sl) = some R := by
  refine rn_i hi rfl rfl ?_ hh
  show pm_ia PT .int pc L (.int i :: .ref a :: r) h 198 sl = _
  unfold pm_ia
  dsimp only
  rw [pm_iar_m ha hl]
  dsimp only
  rw [if_pos hin]
theorem rn_ism {m : Nat} {i x : Int32} {g : Nat → Int32} (hi : pm_ins PT k pc = some (.iastore, 1)) (ha : h a = .inl (0, m, .inl g)) (hin : pm_in i m = true) (hl : a < 198) (hh : pm_run PT n fr lo k (pc, L, .int x :: .int i :: .ref a :: r, h, 198, sl) = some R) : ∃ q, pm_run PT q fr lo k (pc + 1, L, r, aset h a m (upd g i.toNatClampNeg x), 198, sl) = some R := by
  refine rn_i hi rfl rfl ?_ hh
  show pm_iS PT .int (fun x => x) pc L (.int x :: .int i :: .ref a :: r) h 198 sl = _
  unfold pm_iS
  dsimp only
  rw [pm_iar_m ha hl]
  dsimp only
  rw [if_pos hin]
  rfl
theorem rn_cam {m : Nat} {i : Int32} {g : Nat → Int32} (hi : pm_ins PT k pc = some (.caload, 1)) (ha : h a = .inl (1, m, .inl g)) (hin : pm_in i m = true) (hl : a < 198) (hh : pm_run PT n fr lo k (pc, L, .int i :: .ref a :: r, h, 198, sl) = some R) : ∃ q, pm_run PT q fr lo k (pc + 1, L, .int (g i.toNatClampNeg) :: r, h, 198, sl) = some R := by
  refine rn_i hi rfl rfl ?_ hh
  show pm_ia PT .char pc L (.int i :: .ref a :: r) h 198 sl = _
  unfold pm_ia
  dsimp only
  have e : pm_iar PT .char h 198 a = some (1, m, g) := by
    unfold pm_iar
    rw [if_pos hl, ha]
    exact if_pos rfl
  rw [e]
  dsimp only
  rw [if_pos hin]
theorem rn_ret {v : Int32} (hi : pm_ins PT k pc = some (.ireturn, 1)) (hr : pm_ret PT k = some .int ∨ pm_ret PT k = some .boolean) (hh : pm_run PT n fr lo k (pc, L, .int v :: r, h, 198, sl) = some R) : r = [] ∧ R = (some (.int v), h, 198, sl) := by
  cases n with
  | zero => cases hh
  | succ n =>
    unfold pm_run at hh
    split at hh
    · rename_i r' e1
      cases hh
      unfold pm_end at e1
      dsimp only at e1
      rw [hi] at e1
      dsimp only at e1
      split at e1
      · split at e1
        · rename_i rv er
          cases e1
          unfold pm_rets at er
          split at er
          · cases ‹Instr.ireturn = _›
          · rename_i v' hS
            cases hS
            refine ⟨rfl, ?_⟩
            rcases hr with hr | hr
            · rw [hr] at er
              cases er
              rfl
            · rw [hr] at er
              dsimp only at er
              split at er
              · cases er
                rfl
              · cases er
          · cases ‹Instr.ireturn = _›
          · cases er
        · cases e1
      · cases e1
    · rename_i e0
      split at hh
      · rename_i st' e2
        exfalso
        unfold pm_step at e2
        dsimp only at e2
        rw [hi] at e2
        dsimp only at e2
        split at e2
        · cases e2
        · cases e2
      · cases hh
end RNB
end MG90wrapcallx6
section MG90wrapcallx7
/-! a field known more closely than by its type -/
section OVR
variable {h : pm_H}
theorem ovf_out {a ci f : Nat} {as : List av} {x y : av} (hh : ah_ok bB 198 [(a, .inr (ci, as.set f x))] h) (ha : a < 198) (hlt : ci < 1000) (hb : bB a = .inr (ci, as)) (hy : as[f]? = some y) (hle : av_le x y = true) : ah_ok bB 198 [] h ∧ ∃ fs v, h a = .inr (ci, fs) ∧ fs[f]? = some v ∧ av_ok v x := by
  have hl : f < as.length := (List.getElem?_eq_some_iff.mp hy).1
  have e0 : ah_get bB [(a, .inr (ci, as.set f x))] a = .inr (ci, as.set f x) := by
    unfold ah_get pm_fd
    rw [Nat.beq_refl]
    rfl
  have h0 := hh a ha
  rw [e0] at h0
  obtain ⟨fs, ef, hlen, hg⟩ := aE_obj h0 hlt
  rw [List.length_set] at hlen
  have hlf : f < fs.length := by omega
  have ev : fs[f]? = some fs[f] := List.getElem?_eq_getElem hlf
  have hv := hg f _ x ev (List.getElem?_set_self hl)
  refine ⟨fun i hi => ?_, fs, fs[f], ef, ev, hv⟩
  by_cases z : i = a
  · subst z
    rw [show ah_get bB [] i = bB i from rfl, hb, ef]
    refine ⟨⟨rfl, hlt⟩, hlen, fun j w u hw hu => ?_⟩
    by_cases zj : f = j
    · subst zj
      rw [hy] at hu
      cases hu
      rw [ev] at hw
      cases hw
      exact av_le_ok hle hv
    · exact hg j w u hw (by rw [List.getElem?_set_ne zj]; exact hu)
  · have h1 := hh i hi
    have e1 : ah_get bB [(a, .inr (ci, as.set f x))] i = bB i := by
      unfold ah_get pm_fd
      rw [nb_ne (fun e => z e.symm)]
      rfl
    rw [e1] at h1
    exact h1
def asM : List av := match bB 162 with
  | .inr (_, as) => as
  | _ => []
theorem asM_eq : bB 162 = .inr (11, asM) := rfl
end OVR
end MG90wrapcallx7
