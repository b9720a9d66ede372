section MH89throwsx0
/-! a method of the class that throws: walked to its 'new', then thrown -/
section TXM
def tx_E : String := "java/util/NoSuchElementException"
def tx_n : List String := ["java/lang/RuntimeException", "java/lang/Exception"]
def tx_at : List Cond := vx_at0 "GiftsOfCourts" 131 tx_E tx_n
def tx_N : List Cond := tx_at.filter (fun w => !goodWord w)
def tx_isN : Cond → Bool
  | .declares _ => true
  | .castable _ _ => true
  | _ => false
theorem tx_N_is : tx_N.all tx_isN = true := by decide +kernel
theorem tx_in : ∀ w ∈ tx_at.filter goodWord, w ∈ lw_tbl := by decide +kernel
theorem tx_N_in : ∀ w ∈ tx_N, w ∈ lw_tbl := by decide +kernel
theorem tx_ot : ∀ w ∈ Cond.classLink "GiftsOfCourts" 129 tx_E :: Cond.initialized tx_E :: tx_at, vx_ot w = true := by decide +kernel
theorem tx_cl : Cond.classLink "GiftsOfCourts" 129 tx_E ∈ PG := List.mem_filter.mpr ⟨by decide +kernel, rfl⟩
theorem tx_ini : Cond.initialized tx_E ∈ PG := List.mem_filter.mpr ⟨by decide +kernel, rfl⟩
theorem tx_cast : Cond.castable tx_E tx_E ∈ tx_N := by decide +kernel
theorem tx_N_ok {w : Cond} (hw : w ∈ tx_N) : w.onTables = true ∧ ∀ (s U : State), s.WarmedH U.vm → va_Nw w s → va_Nw w U := by
  have h := List.all_eq_true.mp tx_N_is w hw
  unfold tx_isN at h
  split at h
  · exact ⟨rfl, fun s U hW h => va_Nw.warmD hW h⟩
  · exact ⟨rfl, fun s U hW h => va_Nw.warmC hW h⟩
  · cases h
/-- what a throw wants of the state, beside the words -/
def tx_K (b : Nat) (U : State) : Prop := (∀ w ∈ tx_N, va_Nw w U) ∧ vx_Zq Bundle.tN "UNASSIGNED_STACK" Bundle.steD (fun q => b ≤ q) U U.heap ∧ vx_Zq Bundle.tN "SUPPRESSED_SENTINEL" Bundle.listD (fun q => b ≤ q) U U.heap
theorem tx_K.to {b : Nat} {U V : State} (h : tx_K b U) (hW : U.WarmedH V.vm) (hq : ∀ a : Nat, a < U.heap.size → ¬ b ≤ a → V.heap[a]? = U.heap[a]?) : tx_K b V :=
  ⟨fun w hw => (tx_N_ok hw).2 U V hW (h.1 w hw), vx_Zq.moved hW.alike (h.2.1.kept hq), vx_Zq.moved hW.alike (h.2.2.kept hq)⟩
def tx_Pc (D : va_G) (aC : Nat → ClassId) (b g : Nat) (As : List Value) (h : pm_H) (sz : Nat) : Array Value → State → Prop := va_Pc (As.map (pm_tr aC b)) (fun U => U.heap.size = b + sz + g ∧ va_P D (pm_cl PT) (pm_w aC b h sz) U.heap ∧ pm_K PT PN D aC b U ∧ tx_K b U)
def tx_B (D : va_G) (aC : Nat → ClassId) (b sz : Nat) : String → pm_H → State → Prop := fun E h1 t => E = tx_E ∧ va_P D (pm_cl PT) (pm_w aC b h1 sz) t.heap
theorem tx_blind {D : va_G} {aC : Nat → ClassId} {b g sz : Nat} {As : List Value} {h : pm_H} : FrameBlind (tx_Pc D aC b g As h sz) := by
  intro a U g mk hp
  obtain ⟨q1, q2, q3, ⟨q4, q5, q9⟩, q6, q7, q8⟩ := hp
  exact ⟨q1, q2, q3, ⟨va_K.moved (u := U) (U := U.calling g mk a) (Vm.Alike.refl U.vm) q4, fun w hw => (PT_ok.2.2.1 w hw).1 U (U.calling g mk a) rfl (q5 w hw), q9.same rfl rfl⟩, fun w hw => va_Nw.same (u := U) (U := U.calling g mk a) (tx_N_ok hw).1 rfl (q6 w hw), vx_Zq.moved (U := U.calling g mk a) (Vm.Alike.refl U.vm) q7, vx_Zq.moved (U := U.calling g mk a) (Vm.Alike.refl U.vm) q8⟩
set_option maxHeartbeats 1000000 in
theorem tx_met {l : Launch} (htr : l.stackTraces = false) {D : va_G} {aC : Nat → ClassId} {b g fr lo t sz sl : Nat} {As : List Value} {h : pm_H} (hm : pm_okM PT PG t) (ho : pm_own PT (pm_o PT t) = "GiftsOfCourts") (hf : 6 ≤ fr) (hlo : 89 ≤ lo) (hlen : (pm_args As).length ≤ pm_max PT t) {XQ : pm_H → Prop} {Qc : Array Value → State → Outcome → State → Prop}
    (hrun : pw_X PT (tx_stop t) fr lo t (0, pm_l0 As (pm_max PT t), [], h, sz, sl) (fun _ => False) (fun st => pm_sum st.2.2.1 ≤ 8 ∧ st.2.2.2.2 = (sz, sl) ∧ XQ st.2.2.2.1)) :
    vx_Met l (pm_y PT t) (pm_ws PT PG t) (pm_rm fr lo 1 6) (tx_Pc D aC b g As h sz) Qc (vx_X XQ (tx_B D aC b sz) (fun q => b ≤ q)) 1 6 (fun q => b ≤ q) := by
  obtain ⟨m1, m2, m3, m4, m5, m6⟩ := hm
  obtain ⟨n, o, hr, ho2⟩ := hrun
  refine vx_ofW (cc := pm_code PT t) (maxL := pm_max PT t) (ret := pm_ret PT t) m1 rfl ?_
  intro p e s m args below meth c s₁ B hml htab hv
  obtain ⟨rfl, hsz, hP, hK, hX⟩ := hv
  have hts := atoms_spec (ws := pm_ws PT PG t) B.pre
  have hts' : ∀ w ∈ PG, w.before (As.map (pm_tr aC b)).toArray s = true := fun w hw => hts w (List.mem_cons_of_mem _ hw)
  have hown : s.vm.findClass (pm_y PT t).cls = some m.cls := findClass_of_methodNamed B.named
  have hC : pm_C PT PG PN D aC b t p s m (As.map (pm_tr aC b)).toArray meth c := ⟨B.exec, B.bytes, hml, by rw [m2]; exact hown, hts', hK, fun q => by rw [(name_of_methodNamed B.named B.method).1]; exact m6 q⟩
  cases o with
  | inl r => exact ho2.elim
  | inr st1 =>
    obtain ⟨hst, hsum, hsz1, hXQ⟩ := ho2
    have hxx : ∀ st2, (Sum.inr st1 : pm_Rs ⊕ pm_St) = .inr st2 → pm_V p l e (headSpec (pm_ws PT PG t) (pm_rm fr lo 1 6)).room s m (As.map (pm_tr aC b)).toArray below meth c (vx_MQ below Qc (vx_X XQ (tx_B D aC b sz) (fun q => b ≤ q)) (As.map (pm_tr aC b)).toArray s 1 6 (fun q => b ≤ q)) PT D aC b t sz sl st2 := by
      intro st2 e2
      cases e2
      obtain ⟨pc, L1, S1, h1, sz1, sl1⟩ := st1
      dsimp only at hsum hsz1 hXQ hst
      cases hsz1
      intro H locs ls hP1 hS1 hl1
      dsimp only at hP1 hl1 ⊢
      rw [Nat.sub_self, Nat.sub_self]
      unfold tx_stop at hst
      split at hst
      · rename_i e1 e2 e3 e4
        refine vx_throw0 (own := "GiftsOfCourts") (cls := tx_E) (names := tx_n) (ik := 129) (ic := 131) (A := fun q => b ≤ q) hC.1 hC.2.1 htr (by rw [← ho]; exact hC.2.2.2.1) (by decide) (by decide) (hts' _ tx_cl) (hts' _ tx_ini) (vx_hat (B := tx_N) (fun w hw => hts' w (List.mem_filter.mpr ⟨tx_in w hw, (List.mem_filter.mp hw).2⟩)) (fun w hw => hw) (fun w hw => va_Nw.use (tx_N_ok hw).1 (hX.1 w hw))) tx_ot hX.2.1 hX.2.2 hS1 (hl1.1.trans hml.symm) (PT_ok.1 _ _ _ _ e1) (PT_ok.1 _ _ _ _ e2) (PT_ok.1 _ _ _ _ e3) (PT_ok.1 _ _ _ _ e4) (fun x hx => (htab x hx).elim) ?_ ?_ ?_ ?_ B.notSynchronized ?_ hS1.2.2 (Nat.le_refl _) (Nat.le_refl _)
        · show 2 + 3 < fr
          omega
        · rw [pm_sum_tr]
          show pm_sum S1 + (13 * (2 + 1) + 42) ≤ lo
          omega
        · show 0 + 1 ≤ 1
          omega
        · show 0 + 6 ≤ 6
          omega
        · intro t' hal hsz' hq
          refine ⟨h1, hXQ, ⟨rfl, hP1.kept (fun k q hk => hq _ (vx_lt hP1 hk))⟩, Nat.le_trans hS1.1 hsz', fun q q1 q2 => ?_⟩
          rw [hq q (Nat.lt_of_lt_of_le q1 hS1.1)]
          exact hS1.2.1 q q1 q2
      · cases hst
    have key := px_V (stop := tx_stop t) (g := g) PT_ok hC rfl rfl hsz (o := .inr st1) hsz1 (fun r st2 q => by cases q) hxx n (0, pm_l0 As (pm_max PT t), [], h, sz, sl) (Nat.le_refl _) (Nat.le_refl _) hr
    have hW := key s.heap [] _ hP va_S.rf (pm_l0_loc aC b As hlen)
    rw [lg_entry_eq]
    dsimp only at hW
    rw [Nat.sub_self, Nat.sub_self] at hW
    exact hW
end TXM
end MH89throwsx0
section MH89throwsx1
section MG90wrapcallx0
/-! the law's four wrappers: on a heap on which the class's method throws they answer 1 -/
section TWM
variable {p : Program} {l : Launch} {e : Env} {R : Room} {s : State} {m : MethodId} {args : Array Value} {below : List Frame} {meth : Method} {c : Code} {Q : State → Prop} {D : va_G} {aC : Nat → ClassId} {b g k sz sl : Nat}
/-- one simple step; no cell is made -/
theorem pv_i (hC : pm_C PT PG PN D aC b k p s m args meth c) (hs0 : s.heap.size = b + sz + g) {pc : Nat} {L : pm_L} {S : List Value} {h : pm_H} {ins : Instr} {len pc' : Nat} {L' : pm_L} {S' : List Value} {h' : pm_H} (hi : pm_ins PT k pc = some (ins, len)) (hl : pm_lenOk ins len = true) (hc : pm_callee PT k ins = none) (hs : pm_simple PT R.frames R.locals k ins pc L S h sz sl = some (pc', L', S', h', sz, sl))
    (kk : pm_V p l e R s m args below meth c Q PT D aC b k sz sl (pc', L', S', h', sz, sl)) : pm_V p l e R s m args below meth c Q PT D aC b k sz sl (pc, L, S, h, sz, sl) :=
  pm_step_ok PT_ok hC rfl rfl hs0 (Or.inr rfl) (Nat.le_refl _) (Nat.le_refl _) (Nat.le_add_right _ _) (Nat.le_add_right _ _) (go := pm_go0) (fun _ _ _ _ _ _ _ _ _ _ q => by cases q) ((ls_of hi hl hc).trans hs) kk
def tw_Qc (D : va_G) (aC : Nat → ClassId) (b sz : Nat) (XQ : pm_H → Prop) : Array Value → State → Outcome → State → Prop := fun _ st o t => o = .returned (some (.int 1)) ∧ (∃ h1, XQ h1 ∧ va_P D (pm_cl PT) (pm_w aC b h1 sz) t.heap) ∧ va_F (fun q => b ≤ q) st t
def tw_ws (w : Nat) (hh : List (Nat × Nat × Nat × Nat)) : List Cond := Cond.codeWith (pm_y PT w) (pm_code PT w) (pm_max PT w) (some .int) hh :: PG
/-- the call in a wrapper, and its catching -/
theorem tw_call (htr : l.stackTraces = false) {w t n j pc hpc lo' fr' : Nat} {x : ExceptionTableEntry} {L : pm_L} {vs rest : List Value} {h : pm_H} {fs : List Value} {XQ : pm_H → Prop}
    (hC : pm_C PT PG PN D aC b w p s m args meth c) (hown : pm_own PT (pm_o PT w) = "GiftsOfCourtsLaw") (hX : tx_K b s) (hs0 : s.heap.size = b + sz + g) (htab : c.exceptionTable.toList = [x]) (hcov : covers x pc = true) (hct : x.catchType = 13) (hhp : x.handlerPc = hpc)
    (hRf : R.frames = fr' + 1) (hRl : R.locals = lo' + (19 + pm_max PT t)) (hRc : 1 ≤ R.cells) (hRs : 6 ≤ R.slots) (hf6 : 6 ≤ fr') (hl89 : 89 ≤ lo')
    (hi : pm_ins PT w pc = some (.invokevirtual j, 3)) (hm : pm_mlk PT (pm_o PT w) j = some (0, t)) (hto : pm_own PT (pm_o PT t) = "GiftsOfCourts") (htc : pm_ci PT t = 10) (hn : vs.length = n) (hna : pm_na PT t = n + 1) (ho : h 0 = .inr (10, fs)) (hz : 0 < sz) (hsum : pm_sum rest ≤ 8) (hlen : (pm_args (.ref 0 :: vs)).length ≤ pm_max PT t)
    (hret : pm_ret PT t = some .int ∨ pm_ret PT t = some .long)
    (hrun : pw_X PT (tx_stop t) fr' lo' t (0, pm_l0 (.ref 0 :: vs) (pm_max PT t), [], h, sz, sl) (fun _ => False) (fun st => pm_sum st.2.2.1 ≤ 8 ∧ st.2.2.2.2 = (sz, sl) ∧ XQ st.2.2.2.1))
    (kk : ∀ (q9 : Addr) (h1 : pm_H) (H1 : Heap) (locs1 : List Loc) (ls : Array Slot), XQ h1 → va_P D (pm_cl PT) (pm_w aC b h1 sz) H1 → va_S (fun q => b ≤ q) s.heap H1 locs1 → pm_loc aC b ls (pm_max PT w) L → W p l e R s m args below meth c H1 locs1 1 6 Q (F0 m hpc ls [.ref q9])) :
    pm_V p l e R s m args below meth c Q PT D aC b w sz sl (pc, L, vs.reverse ++ .ref 0 :: rest, h, sz, sl) := by
  obtain ⟨hx, hb, hml, hown', hts, hK, hin⟩ := hC
  have hd := PT_ok.1 _ _ _ _ hi
  intro H locs ls hP hS hl
  refine pm_sized fun hzz => ?_
  dsimp only at hzz hP hl ⊢
  have hsz := pm_size (g := g) hS hP hs0 (Or.inr rfl) (Nat.le_refl _) hzz
  rw [Nat.sub_self, Nat.sub_self]
  obtain ⟨⟨m1, m2, m3, m4, m5, m6⟩, w1, w2, w3, ⟨n', w4, w5⟩, F, N, w6⟩ := PT_ok.2.2.2.2.1 _ _ _ _ hm
  have hnn : n' = n := by omega
  subst hnn
  have hM := fun (Qc : Array Value → State → Outcome → State → Prop) => tx_met (l := l) (g := g) (D := D) (aC := aC) (b := b) (Qc := Qc) htr ⟨m1, m2, m3, m4, m5, m6⟩ hto hf6 hl89 hlen hrun
  have hpre : ∀ U : State, U.heap = H → s.WarmedH U.vm → tx_Pc D aC b g (.ref 0 :: vs) h sz ((Value.ref 0 :: vs).map (pm_tr aC b)).toArray U := fun U hU hW => ⟨rfl, by rw [hU]; exact hsz, by rw [hU]; exact hP, hK.warm PT_ok hW (by rw [hU]; exact hS), hX.to hW (fun a ha hba => by rw [hU]; exact hS.2.1 a ha hba)⟩
  have hroom : 2 * (F0 m pc ls ((vs.reverse ++ .ref 0 :: rest).map (pm_tr aC b))).monitorRoom + ((rest.map (pm_tr aC b)).map fun v => v.category).sum ≤ 8 := lv_room (by rw [pm_sum_tr]; exact hsum)
  have hRR : (pm_rm fr' lo' 1 6).frames + 1 ≤ R.frames ∧ 8 + (pm_max PT t + 11) + (pm_rm fr' lo' 1 6).locals ≤ R.locals := by
    dsimp only
    omega
  have hst : (vs.reverse ++ .ref 0 :: rest).map (pm_tr aC b) = (vs.map (pm_tr aC b)).reverse ++ .ref (b + 0) :: rest.map (pm_tr aC b) := by
    rw [List.map_append, List.map_reverse, List.map_cons]
    rfl
  have hgd : GoodIn PG (wsV "GiftsOfCourtsLaw" j (pm_y PT t).cls (pm_y PT t) (pm_ws PT PG t)) := pm_good PT_ok (fun w hw => by
    simp only [wsV, pm_ws, List.mem_append, List.mem_cons, List.not_mem_nil, or_false] at hw
    rw [hown] at w1
    rcases hw with (rfl | rfl | rfl | rfl) | rfl | hw
    · exact w1
    · exact w2
    · exact w3
    · exact m4
    · exact m3
    · exact hw)
  have kx : ∀ (E : String) (ce : Cell) (q9 : Addr) (u : pm_H) (t : State) (H1 : Heap) (locs1 : List Loc), t.heap = H1 → s.vm.Alike t.vm → XQ u → tx_B D aC b sz E u t → H.size ≤ H1.size → (∀ q : Nat, q < H.size → ¬ b ≤ q → H1[q]? = H[q]?) → va_S (fun q => b ≤ q) s.heap H1 locs1 → H1[q9]? = some ce → ce.vm = .none → s.vm.findClass E = some ce.cls → vx_W p l e R s m args below meth c H1 locs1 (0 + 1) (0 + 6) Q (F0 m pc ls (rest.map (pm_tr aC b))) q9 := by
    intro E ce q9 u t H1 locs1 ht hal hu hB _ _ hS1 hce hcv hcl
    obtain ⟨rfl, hP1⟩ := hB
    rw [ht] at hP1
    refine tx_catch (own := "GiftsOfCourtsLaw") (name := tx_E) (E := tx_E) (by rw [← hown]; exact hown') htab hcov (by rw [hct]; decide) (by rw [hct]; exact hts _ (List.mem_filter.mpr ⟨by decide +kernel, rfl⟩)) (va_Nw.use rfl (hX.1 _ tx_cast)) hce hcv hcl ?_
    rw [hhp]
    exact kk q9 u H1 locs1 ls hu hP1 hS1 hl
  rw [hst]
  rcases hret with hret | hret
  · exact vx_calli (post := fun _ (_ : Unit) => False) (px := XQ) (B := fun _ _ => True) (BX := tx_B D aC b sz) (AX := fun q => b ≤ q) (A1 := fun q => b ≤ q) (A0 := fun q => b ≤ q) (vx_runV (As := vs.map (pm_tr aC b)) (rest := rest.map (pm_tr aC b)) ⟨hx, hb, hml, by rw [← hown]; exact hown', hts⟩ (hM (va_Qi (fun _ (_ : Unit) => False) (fun _ _ => True) (fun q => b ≤ q))) (cwV n' hts hgd rfl rfl rfl ⟨rfl, m5.1, m5.2, w5⟩ hRR) ⟨tx_blind, va_recv hK.1 hP w6 (by rw [htc]; exact pm_w_P hP hz ho), hpre⟩ rfl (by rw [List.length_map]; exact hn) hl.1 rfl hroom hd ⟨by omega, by omega⟩) hS (fun _ _ q => q) (fun _ q => q) (fun _ _ q => q) kx (fun _ _ _ _ _ _ _ q => q.elim)
  · exact vx_calll (post := fun _ (_ : Unit) => False) (px := XQ) (B := fun _ _ => True) (BX := tx_B D aC b sz) (AX := fun q => b ≤ q) (A1 := fun q => b ≤ q) (A0 := fun q => b ≤ q) (vx_runV (As := vs.map (pm_tr aC b)) (rest := rest.map (pm_tr aC b)) ⟨hx, hb, hml, by rw [← hown]; exact hown', hts⟩ (hM (va_Ql (fun _ (_ : Unit) => False) (fun _ _ => True) (fun q => b ≤ q))) (cwV n' hts hgd rfl rfl rfl ⟨rfl, m5.1, m5.2, w5⟩ hRR) ⟨tx_blind, va_recv hK.1 hP w6 (by rw [htc]; exact pm_w_P hP hz ho), hpre⟩ rfl (by rw [List.length_map]; exact hn) hl.1 rfl hroom hd ⟨by omega, by omega⟩) hS (fun _ _ q => q) (fun _ q => q) (fun _ _ q => q) kx (fun _ _ _ _ _ _ _ q => q.elim)
end TWM
end MG90wrapcallx0
section MG90wrapcallx1
/-! the law's four wrappers: they answer, whether the class's method returns or throws -/
section TWD
variable {p : Program} {l : Launch} {e : Env} {R : Room} {s : State} {m : MethodId} {args : Array Value} {below : List Frame} {meth : Method} {c : Code} {Q : State → Prop} {D : va_G} {aC : Nat → ClassId} {b g k sz sl : Nat}
theorem px_inl {T : pm_Tab} {stop : Nat → Bool} : ∀ (n fr lo k : Nat) (st : pm_St) (r : pm_Rs), px_run T stop n fr lo k st = some (.inl r) → pm_run T n fr lo k st = some r
  | 0, _, _, _, _, _, h => by cases h
  | n + 1, fr, lo, k, st, r, h => by
    unfold px_run at h
    unfold pm_run
    cases hs : stop st.1 with
    | true => rw [hs] at h; cases h
    | false =>
      rw [hs] at h
      dsimp only [cond] at h
      cases e1 : pm_end T k st with
      | some r' => rw [e1] at h; cases h; rfl
      | none =>
        rw [e1] at h
        dsimp only at h ⊢
        split at h
        · rename_i st' e2
          rw [e2]
          exact px_inl n fr lo k st' r h
        · cases h
/-- the call of x's method, told by the tables -/
theorem cd_x {w t mx j pc : Nat} {L : pm_L} {As rest : List Value} {h : pm_H} {fs : List Value} (hi : pm_ins PT w pc = some (.invokevirtual j, 3)) (hm : pm_mlk PT (pm_o PT w) j = some (0, t)) (hn : pm_na PT t = As.length + 1) (hmx : pm_max PT t = mx) (hsum : pm_sum rest ≤ 8) (ha : (pm_args (.ref 0 :: As)).length ≤ mx) (hci : pm_ci PT t = 10) (ho : h 0 = .inr (10, fs)) : pm_cd PT w (pc, L, As.reverse ++ .ref 0 :: rest, h, 198, sl) = some (t, .ref 0 :: As, rest) := by
  have hS : As.reverse ++ Value.ref 0 :: rest = (Value.ref 0 :: As).reverse ++ rest := by simp
  have hn' : pm_na PT t = (Value.ref 0 :: As).length := by simp [hn]
  rw [hS]
  generalize hA : (Value.ref 0 :: As) = A1 at hn' ha ⊢
  have htk : (A1.reverse ++ rest).take A1.length = A1.reverse := by rw [← List.length_reverse, List.take_left']; rfl
  have hdr : (A1.reverse ++ rest).drop A1.length = rest := by rw [← List.length_reverse, List.drop_left']; rfl
  unfold pm_cd
  dsimp only
  rw [hi]
  dsimp only
  have hcal : pm_callee PT w (.invokevirtual j) = some (0, t) := by
    unfold pm_callee
    dsimp only
    rw [hm]
    rfl
  rw [if_pos (show pm_lenOk (Instr.invokevirtual j) 3 = true from rfl), hcal]
  dsimp only
  rw [hn', htk, hdr, List.reverse_reverse, hmx]
  refine if_pos ⟨?_, ?_, hsum, ha⟩
  · rw [List.length_append, List.length_reverse]
    omega
  · rw [← hA]
    unfold pm_rcv
    rw [if_neg (by omega)]
    dsimp only [pm_obj]
    rw [if_pos (by decide), ho]
    dsimp only
    rw [hci]
    rfl
/-- behind a wrapper: the reference's cells are as they were -/
def twX (h h1 : pm_H) : Prop := (∀ i, i ≠ 197 → h1 i = h i) ∧ ah_ok bB 198 [] h1
def tw_Qd (D : va_G) (aC : Nat → ClassId) (b : Nat) (h : pm_H) : Array Value → State → Outcome → State → Prop := fun _ st o t => (∃ v : Int32, o = .returned (some (.int v))) ∧ (∃ h1, twX h h1 ∧ va_P D (pm_cl PT) (pm_w aC b h1 198) t.heap) ∧ va_F (fun q => b ≤ q) st t
theorem ty_197 {h : pm_H} (hh : ah_ok bB 198 [] h) : ∃ R : Nat → Int64, h 197 = .inl (2, 1, .inr (.inl R)) := by
  have h0 : ac_ok (h 197) (bB 197) := hh 197 (by decide)
  have hb : bB 197 = .inl (2, 1, al_top) := rfl
  rw [hb] at h0
  cases e : h 197 with
  | inr q => rw [e] at h0; obtain ⟨ci, fs⟩ := q; exact h0.elim
  | inl q =>
    rw [e] at h0
    obtain ⟨kd, m, f | f | f | f | f⟩ := q
    · have := (h0.2.2 0 (by rw [h0.2.1]; decide)).1
      cases this
    · obtain ⟨rfl, rfl, q⟩ := h0
      exact ⟨f, rfl⟩
    · exact h0.elim
    · exact h0.elim
    · have q := h0.2.2 0 (by rw [h0.2.1]; decide)
      cases e3 : f 0 with
      | none => rw [e3] at q; cases q
      | some p => rw [e3] at q; cases q.1
theorem tw_set {h h1 : pm_H} {R : Nat → Int64} (hf : h1 = h) (hh : ah_ok bB 198 [] h1) : twX h (lset h1 197 1 R) := by
  refine ⟨fun i h2' => (lset_nei h2').trans (congrFun hf i), fun i hi => ?_⟩
  by_cases z : i = 197
  · subst z
    show ac_ok (lset h1 197 1 R 197) (.inl (2, 1, al_top))
    rw [lset_self]
    exact ⟨rfl, rfl, fun j _ => al_top_ok _⟩
  · rw [lset_nei z]
    exact hh i hi
/-- the answer written down, 0 returned -/
theorem tw_store {w pc pg : Nat} {L : pm_L} {h h1 : pm_H} {v : Int64} (hC : pm_C PT PG PN D aC b w p s m args meth c) (hs0 : s.heap.size = b + 198 + g) (hf : h1 = h) (hh : ah_ok bB 198 [] h1) (i1 : pm_ins PT w pc = some (.lastore, 1)) {og : Int} (i2 : pm_ins PT w (pc + 1) = some (.goto og, 3)) (eg : ∀ h' : pm_H, pm_simple PT R.frames R.locals w (.goto og) (pc + 1) L [] h' 198 sl = some (pg, L, [], h', 198, sl))
    (kk : ∀ h2, twX h h2 → pm_V p l e R s m args below meth c Q PT D aC b w 198 sl (pg, L, [], h2, 198, sl)) : pm_V p l e R s m args below meth c Q PT D aC b w 198 sl (pc, L, [.long v, .int 0, .ref 197], h1, 198, sl) := by
  obtain ⟨R0, eR⟩ := ty_197 hh
  refine pv_i hC hs0 (h' := lset h1 197 1 (vp_updL R0 0 v)) (L' := L) (S' := []) (pc' := pc + 1) i1 rfl rfl ?_ ?_
  · show pm_lS PT pc L [.long v, .int 0, .ref 197] h1 198 sl = _
    unfold pm_lS
    dsimp only
    have e : pm_lar PT h1 198 197 = some (2, 1, R0) := by
      unfold pm_lar
      rw [if_pos (by decide), eR]
      exact if_pos rfl
    rw [e]
    rfl
  · exact pv_i hC hs0 i2 rfl rfl (eg _) (kk _ (tw_set hf hh))
set_option maxHeartbeats 1000000 in
theorem tw_court {l : Launch} (htr : l.stackTraces = false) {D : va_G} {aC : Nat → ClassId} {b g sl : Nat} {h : pm_H} {fs : List Value} (a1 a2 : Int32) (hH : ah_ok bB 198 [] h) (ho : h 0 = .inr (10, fs)) : Met l (pm_y PT 1001) (tw_ws 1001 [(0, 10, 13, 13)]) (pm_rm 2047 83976 1 6) (tx_Pc D aC b g [.ref 0, .int a1, .int a2, .ref 197] h 198) (tw_Qd D aC b h) 1 6 (fun q => b ≤ q) := by
  refine va_MetW (cc := pm_code PT 1001) (maxL := pm_max PT 1001) (ret := some .int) (hh := [(0, 10, 13, 13)]) (by decide) rfl ?_
  intro p e s m args below meth c s₁ B hml hv
  obtain ⟨rfl, hsz, hP, hK, hX⟩ := hv
  have hts := atoms_spec (ws := tw_ws 1001 [(0, 10, 13, 13)]) B.pre
  have hC : pm_C PT PG PN D aC b 1001 p s m ([Value.ref 0, Value.int a1, Value.int a2, Value.ref 197].map (pm_tr aC b)).toArray meth c := ⟨B.exec, B.bytes, hml, findClass_of_methodNamed B.named, fun w hw => hts w (List.mem_cons_of_mem _ hw), hK, fun q => absurd q (by decide)⟩
  have htab : c.exceptionTable.toList = [⟨0, 10, 13, 13⟩] := vx_table (x := pm_y PT 1001) B (hts _ List.mem_cons_self)
  obtain ⟨n, o, hr, ho2⟩ := sx_con (sl := sl) (As := [.ref 0, .int a1, .int a2]) cxKt_ok (fun z hz => by rcases List.mem_cons.mp hz with rfl | hz; exact rfl; cases List.mem_singleton.mp hz; exact rfl) th_court ⟨⟨rfl, List.mem_singleton_self _⟩, ai_top_ok _, ai_top_ok _, trivial⟩ hH
  have key : pm_V p l e (headSpec (tw_ws 1001 [(0, 10, 13, 13)]) (pm_rm 2047 83976 1 6)).room s m ([Value.ref 0, Value.int a1, Value.int a2, Value.ref 197].map (pm_tr aC b)).toArray below meth c (MQ below (tw_Qd D aC b h) ([Value.ref 0, Value.int a1, Value.int a2, Value.ref 197].map (pm_tr aC b)).toArray s 1 6 (fun q => b ≤ q)) PT D aC b 1001 198 sl (0, pm_l0 [.ref 0, .int a1, .int a2, .ref 197] 5, [], h, 198, sl) := by
    refine pv_i hC hsz rfl rfl rfl rfl ?_
    refine pv_i hC hsz rfl rfl rfl rfl ?_
    refine pv_i hC hsz rfl rfl rfl rfl ?_
    refine pv_i hC hsz rfl rfl rfl rfl ?_
    refine pv_i hC hsz rfl rfl rfl rfl ?_
    cases o with
    | inr st1 =>
      have hrun : pw_X PT (tx_stop 91) 2046 83954 91 (0, pm_l0 (.ref 0 :: [.int a1, .int a2]) (pm_max PT 91), [], h, 198, sl) (fun _ => False) (fun st => pm_sum st.2.2.1 ≤ 8 ∧ st.2.2.2.2 = (198, sl) ∧ twX h st.2.2.2.1) := ⟨n, .inr st1, hr, ho2.1, by rw [ho2.2.1]; decide, ho2.2.2.1, fun i _ => congrFun (px_run_nw nwx_91 n _ _ _ _ hr) i, ho2.2.2.2.2⟩
      refine tw_call (w := 1001) (t := 91) (n := 2) (pc := 5) (hpc := 13) (x := ⟨0, 10, 13, 13⟩) (vs := [.int a1, .int a2]) (rest := [.int 0, .ref 197]) (fr' := 2046) (lo' := 83954) htr hC rfl hX hsz htab rfl rfl rfl rfl rfl (Nat.le_refl _) (Nat.le_refl _) (by decide) (by decide) rfl rfl rfl rfl rfl rfl ho (by decide) (Nat.le_of_ble_eq_true rfl) (Nat.le_of_ble_eq_true rfl) (by first | exact Or.inl rfl | exact Or.inr rfl) hrun ?_
      intro q9 h1 H1 locs1 ls hXQ hP1 hS1 hl1
      refine lv_astore hC.1 hC.2.1 (i := 4) (PT_ok.1 1001 13 _ _ rfl) hl1.has (by decide) rfl (fun ls' hl' => ?_)
      refine lv_iconst hC.1 hC.2.1 (n := 1) (v := 1) (PT_ok.1 1001 15 _ _ rfl) rfl ?_
      exact W.iret hC.1 hC.2.1 B.returns (fun t ht hW => ⟨⟨1, rfl⟩, ⟨h1, hXQ, by rw [ht]; exact hP1⟩, hS1.F ht⟩) hS1.2.2 (PT_ok.1 1001 16 _ _ rfl) B.notSynchronized
    | inl r =>
      obtain ⟨⟨a, ha, hv⟩, hsr, hfr, hhr⟩ := ho2
      obtain ⟨rv, h1, s1⟩ := r
      dsimp only at hv hsr hfr hhr
      cases hsr
      cases List.mem_singleton.mp ha
      have hrv : ∃ v : Int32, rv = some (.int v) := (ao_i hv).imp (fun _ q => q.1)
      obtain ⟨v, rfl⟩ := hrv
      refine pv_call PT_ok hC rfl rfl hsz (t := 91) (mx := 3) (As := [.ref 0, .int a1, .int a2]) (rest := [.int 0, .ref 197]) (cd_x (As := [.int a1, .int a2]) rfl rfl rfl rfl (Nat.le_of_ble_eq_true rfl) (Nat.le_of_ble_eq_true rfl) rfl ho) rfl (Nat.le_of_ble_eq_true rfl) (Nat.le_of_ble_eq_true rfl) (Nat.le_refl _) (Nat.le_refl _) ⟨n, _, px_inl _ _ _ _ _ _ hr, Or.inr rfl, Nat.le_add_right _ _, Nat.le_add_right _ _, ?_⟩
      show pm_V _ _ _ _ _ _ _ _ _ _ _ _ _ _ _ 1001 198 sl (8, pm_l0 [.ref 0, .int a1, .int a2, .ref 197] 5, [.int v, .int 0, .ref 197], h1, 198, sl)
      refine pv_i hC hsz rfl rfl rfl rfl ?_
      refine tw_store (v := v.toInt64) hC hsz (px_run_nw nwx_91 n _ _ _ _ hr) hhr rfl rfl (fun _ => rfl) (fun h2 hX2 => ?_)
      refine pv_i hC hsz rfl rfl rfl rfl ?_
      intro H1 locs1 ls hP1 hS1 hl1
      dsimp only at hP1 hl1 ⊢
      refine W.widen (k := 1) (n := 6) (by omega) (by omega) ?_
      show W _ _ _ _ _ _ _ _ _ _ _ _ _ _ _ (F0 m 18 ls [.int 0])
      exact W.iret hC.1 hC.2.1 B.returns (fun t ht hW => ⟨⟨0, rfl⟩, ⟨h2, hX2, by rw [ht]; exact hP1⟩, hS1.F ht⟩) hS1.2.2 (PT_ok.1 1001 18 _ _ rfl) B.notSynchronized
  have hW := key s.heap [] _ hP va_S.rf (pm_l0_loc aC b [.ref 0, .int a1, .int a2, .ref 197] (n := 5) (Nat.le_of_ble_eq_true rfl))
  rw [lg_entry_eq]
  dsimp only at hW
  rw [Nat.sub_self, Nat.sub_self] at hW
  exact hW
set_option maxHeartbeats 1000000 in
theorem tw_between {l : Launch} (htr : l.stackTraces = false) {D : va_G} {aC : Nat → ClassId} {b g sl : Nat} {h : pm_H} {fs : List Value} (a1 a2 a3 : Int32) (hH : ah_ok bB 198 [] h) (ho : h 0 = .inr (10, fs)) : Met l (pm_y PT 1002) (tw_ws 1002 [(0, 12, 15, 13)]) (pm_rm 2047 83975 1 6) (tx_Pc D aC b g [.ref 0, .int a1, .int a2, .int a3, .ref 197] h 198) (tw_Qd D aC b h) 1 6 (fun q => b ≤ q) := by
  refine va_MetW (cc := pm_code PT 1002) (maxL := pm_max PT 1002) (ret := some .int) (hh := [(0, 12, 15, 13)]) (by decide) rfl ?_
  intro p e s m args below meth c s₁ B hml hv
  obtain ⟨rfl, hsz, hP, hK, hX⟩ := hv
  have hts := atoms_spec (ws := tw_ws 1002 [(0, 12, 15, 13)]) B.pre
  have hC : pm_C PT PG PN D aC b 1002 p s m ([Value.ref 0, Value.int a1, Value.int a2, Value.int a3, Value.ref 197].map (pm_tr aC b)).toArray meth c := ⟨B.exec, B.bytes, hml, findClass_of_methodNamed B.named, fun w hw => hts w (List.mem_cons_of_mem _ hw), hK, fun q => absurd q (by decide)⟩
  have htab : c.exceptionTable.toList = [⟨0, 12, 15, 13⟩] := vx_table (x := pm_y PT 1002) B (hts _ List.mem_cons_self)
  obtain ⟨n, o, hr, ho2⟩ := sx_con (sl := sl) (As := [.ref 0, .int a1, .int a2, .int a3]) cxKt_ok (fun z hz => by rcases List.mem_cons.mp hz with rfl | hz; exact rfl; cases List.mem_singleton.mp hz; exact rfl) th_between ⟨⟨rfl, List.mem_singleton_self _⟩, ai_top_ok _, ai_top_ok _, ai_top_ok _, trivial⟩ hH
  have key : pm_V p l e (headSpec (tw_ws 1002 [(0, 12, 15, 13)]) (pm_rm 2047 83975 1 6)).room s m ([Value.ref 0, Value.int a1, Value.int a2, Value.int a3, Value.ref 197].map (pm_tr aC b)).toArray below meth c (MQ below (tw_Qd D aC b h) ([Value.ref 0, Value.int a1, Value.int a2, Value.int a3, Value.ref 197].map (pm_tr aC b)).toArray s 1 6 (fun q => b ≤ q)) PT D aC b 1002 198 sl (0, pm_l0 [.ref 0, .int a1, .int a2, .int a3, .ref 197] 6, [], h, 198, sl) := by
    refine pv_i hC hsz rfl rfl rfl rfl ?_
    refine pv_i hC hsz rfl rfl rfl rfl ?_
    refine pv_i hC hsz rfl rfl rfl rfl ?_
    refine pv_i hC hsz rfl rfl rfl rfl ?_
    refine pv_i hC hsz rfl rfl rfl rfl ?_
    refine pv_i hC hsz rfl rfl rfl rfl ?_
    cases o with
    | inr st1 =>
      have hrun : pw_X PT (tx_stop 92) 2046 83951 92 (0, pm_l0 (.ref 0 :: [.int a1, .int a2, .int a3]) (pm_max PT 92), [], h, 198, sl) (fun _ => False) (fun st => pm_sum st.2.2.1 ≤ 8 ∧ st.2.2.2.2 = (198, sl) ∧ twX h st.2.2.2.1) := ⟨n, .inr st1, hr, ho2.1, by rw [ho2.2.1]; decide, ho2.2.2.1, fun i _ => congrFun (px_run_nw nwx_92 n _ _ _ _ hr) i, ho2.2.2.2.2⟩
      refine tw_call (w := 1002) (t := 92) (n := 3) (pc := 7) (hpc := 15) (x := ⟨0, 12, 15, 13⟩) (vs := [.int a1, .int a2, .int a3]) (rest := [.int 0, .ref 197]) (fr' := 2046) (lo' := 83951) htr hC rfl hX hsz htab rfl rfl rfl rfl rfl (Nat.le_refl _) (Nat.le_refl _) (by decide) (by decide) rfl rfl rfl rfl rfl rfl ho (by decide) (Nat.le_of_ble_eq_true rfl) (Nat.le_of_ble_eq_true rfl) (by first | exact Or.inl rfl | exact Or.inr rfl) hrun ?_
      intro q9 h1 H1 locs1 ls hXQ hP1 hS1 hl1
      refine lv_astore hC.1 hC.2.1 (i := 5) (PT_ok.1 1002 15 _ _ rfl) hl1.has (by decide) rfl (fun ls' hl' => ?_)
      refine lv_iconst hC.1 hC.2.1 (n := 1) (v := 1) (PT_ok.1 1002 17 _ _ rfl) rfl ?_
      exact W.iret hC.1 hC.2.1 B.returns (fun t ht hW => ⟨⟨1, rfl⟩, ⟨h1, hXQ, by rw [ht]; exact hP1⟩, hS1.F ht⟩) hS1.2.2 (PT_ok.1 1002 18 _ _ rfl) B.notSynchronized
    | inl r =>
      obtain ⟨⟨a, ha, hv⟩, hsr, hfr, hhr⟩ := ho2
      obtain ⟨rv, h1, s1⟩ := r
      dsimp only at hv hsr hfr hhr
      cases hsr
      cases List.mem_singleton.mp ha
      have hrv : ∃ v : Int32, rv = some (.int v) := (ao_i hv).imp (fun _ q => q.1)
      obtain ⟨v, rfl⟩ := hrv
      refine pv_call PT_ok hC rfl rfl hsz (t := 92) (mx := 5) (As := [.ref 0, .int a1, .int a2, .int a3]) (rest := [.int 0, .ref 197]) (cd_x (As := [.int a1, .int a2, .int a3]) rfl rfl rfl rfl (Nat.le_of_ble_eq_true rfl) (Nat.le_of_ble_eq_true rfl) rfl ho) rfl (Nat.le_of_ble_eq_true rfl) (Nat.le_of_ble_eq_true rfl) (Nat.le_refl _) (Nat.le_refl _) ⟨n, _, px_inl _ _ _ _ _ _ hr, Or.inr rfl, Nat.le_add_right _ _, Nat.le_add_right _ _, ?_⟩
      show pm_V _ _ _ _ _ _ _ _ _ _ _ _ _ _ _ 1002 198 sl (10, pm_l0 [.ref 0, .int a1, .int a2, .int a3, .ref 197] 6, [.int v, .int 0, .ref 197], h1, 198, sl)
      refine pv_i hC hsz rfl rfl rfl rfl ?_
      refine tw_store (v := v.toInt64) hC hsz (px_run_nw nwx_92 n _ _ _ _ hr) hhr rfl rfl (fun _ => rfl) (fun h2 hX2 => ?_)
      refine pv_i hC hsz rfl rfl rfl rfl ?_
      intro H1 locs1 ls hP1 hS1 hl1
      dsimp only at hP1 hl1 ⊢
      refine W.widen (k := 1) (n := 6) (by omega) (by omega) ?_
      show W _ _ _ _ _ _ _ _ _ _ _ _ _ _ _ (F0 m 20 ls [.int 0])
      exact W.iret hC.1 hC.2.1 B.returns (fun t ht hW => ⟨⟨0, rfl⟩, ⟨h2, hX2, by rw [ht]; exact hP1⟩, hS1.F ht⟩) hS1.2.2 (PT_ok.1 1002 20 _ _ rfl) B.notSynchronized
  have hW := key s.heap [] _ hP va_S.rf (pm_l0_loc aC b [.ref 0, .int a1, .int a2, .int a3, .ref 197] (n := 6) (Nat.le_of_ble_eq_true rfl))
  rw [lg_entry_eq]
  dsimp only at hW
  rw [Nat.sub_self, Nat.sub_self] at hW
  exact hW
set_option maxHeartbeats 1000000 in
theorem tw_gift {l : Launch} (htr : l.stackTraces = false) {D : va_G} {aC : Nat → ClassId} {b g sl : Nat} {h : pm_H} {fs : List Value} (a1 a2 : Int32) (hH : ah_ok bB 198 [] h) (ho : h 0 = .inr (10, fs)) : Met l (pm_y PT 1003) (tw_ws 1003 [(0, 10, 13, 13)]) (pm_rm 2047 83976 1 6) (tx_Pc D aC b g [.ref 0, .int a1, .int a2, .ref 197] h 198) (tw_Qd D aC b h) 1 6 (fun q => b ≤ q) := by
  refine va_MetW (cc := pm_code PT 1003) (maxL := pm_max PT 1003) (ret := some .int) (hh := [(0, 10, 13, 13)]) (by decide) rfl ?_
  intro p e s m args below meth c s₁ B hml hv
  obtain ⟨rfl, hsz, hP, hK, hX⟩ := hv
  have hts := atoms_spec (ws := tw_ws 1003 [(0, 10, 13, 13)]) B.pre
  have hC : pm_C PT PG PN D aC b 1003 p s m ([Value.ref 0, Value.int a1, Value.int a2, Value.ref 197].map (pm_tr aC b)).toArray meth c := ⟨B.exec, B.bytes, hml, findClass_of_methodNamed B.named, fun w hw => hts w (List.mem_cons_of_mem _ hw), hK, fun q => absurd q (by decide)⟩
  have htab : c.exceptionTable.toList = [⟨0, 10, 13, 13⟩] := vx_table (x := pm_y PT 1003) B (hts _ List.mem_cons_self)
  obtain ⟨n, o, hr, ho2⟩ := sx_con (sl := sl) (As := [.ref 0, .int a1, .int a2]) cxKt_ok (fun z hz => by rcases List.mem_cons.mp hz with rfl | hz; exact rfl; cases List.mem_singleton.mp hz; exact rfl) th_gift ⟨⟨rfl, List.mem_singleton_self _⟩, ai_top_ok _, ai_top_ok _, trivial⟩ hH
  have key : pm_V p l e (headSpec (tw_ws 1003 [(0, 10, 13, 13)]) (pm_rm 2047 83976 1 6)).room s m ([Value.ref 0, Value.int a1, Value.int a2, Value.ref 197].map (pm_tr aC b)).toArray below meth c (MQ below (tw_Qd D aC b h) ([Value.ref 0, Value.int a1, Value.int a2, Value.ref 197].map (pm_tr aC b)).toArray s 1 6 (fun q => b ≤ q)) PT D aC b 1003 198 sl (0, pm_l0 [.ref 0, .int a1, .int a2, .ref 197] 5, [], h, 198, sl) := by
    refine pv_i hC hsz rfl rfl rfl rfl ?_
    refine pv_i hC hsz rfl rfl rfl rfl ?_
    refine pv_i hC hsz rfl rfl rfl rfl ?_
    refine pv_i hC hsz rfl rfl rfl rfl ?_
    refine pv_i hC hsz rfl rfl rfl rfl ?_
    cases o with
    | inr st1 =>
      have hrun : pw_X PT (tx_stop 93) 2046 83954 93 (0, pm_l0 (.ref 0 :: [.int a1, .int a2]) (pm_max PT 93), [], h, 198, sl) (fun _ => False) (fun st => pm_sum st.2.2.1 ≤ 8 ∧ st.2.2.2.2 = (198, sl) ∧ twX h st.2.2.2.1) := ⟨n, .inr st1, hr, ho2.1, by rw [ho2.2.1]; decide, ho2.2.2.1, fun i _ => congrFun (px_run_nw nwx_93 n _ _ _ _ hr) i, ho2.2.2.2.2⟩
      refine tw_call (w := 1003) (t := 93) (n := 2) (pc := 5) (hpc := 13) (x := ⟨0, 10, 13, 13⟩) (vs := [.int a1, .int a2]) (rest := [.int 0, .ref 197]) (fr' := 2046) (lo' := 83954) htr hC rfl hX hsz htab rfl rfl rfl rfl rfl (Nat.le_refl _) (Nat.le_refl _) (by decide) (by decide) rfl rfl rfl rfl rfl rfl ho (by decide) (Nat.le_of_ble_eq_true rfl) (Nat.le_of_ble_eq_true rfl) (by first | exact Or.inl rfl | exact Or.inr rfl) hrun ?_
      intro q9 h1 H1 locs1 ls hXQ hP1 hS1 hl1
      refine lv_astore hC.1 hC.2.1 (i := 4) (PT_ok.1 1003 13 _ _ rfl) hl1.has (by decide) rfl (fun ls' hl' => ?_)
      refine lv_iconst hC.1 hC.2.1 (n := 1) (v := 1) (PT_ok.1 1003 15 _ _ rfl) rfl ?_
      exact W.iret hC.1 hC.2.1 B.returns (fun t ht hW => ⟨⟨1, rfl⟩, ⟨h1, hXQ, by rw [ht]; exact hP1⟩, hS1.F ht⟩) hS1.2.2 (PT_ok.1 1003 16 _ _ rfl) B.notSynchronized
    | inl r =>
      obtain ⟨⟨a, ha, hv⟩, hsr, hfr, hhr⟩ := ho2
      obtain ⟨rv, h1, s1⟩ := r
      dsimp only at hv hsr hfr hhr
      cases hsr
      cases List.mem_singleton.mp ha
      have hrv : ∃ v : Int32, rv = some (.int v) := (ao_i hv).imp (fun _ q => q.1)
      obtain ⟨v, rfl⟩ := hrv
      refine pv_call PT_ok hC rfl rfl hsz (t := 93) (mx := 3) (As := [.ref 0, .int a1, .int a2]) (rest := [.int 0, .ref 197]) (cd_x (As := [.int a1, .int a2]) rfl rfl rfl rfl (Nat.le_of_ble_eq_true rfl) (Nat.le_of_ble_eq_true rfl) rfl ho) rfl (Nat.le_of_ble_eq_true rfl) (Nat.le_of_ble_eq_true rfl) (Nat.le_refl _) (Nat.le_refl _) ⟨n, _, px_inl _ _ _ _ _ _ hr, Or.inr rfl, Nat.le_add_right _ _, Nat.le_add_right _ _, ?_⟩
      show pm_V _ _ _ _ _ _ _ _ _ _ _ _ _ _ _ 1003 198 sl (8, pm_l0 [.ref 0, .int a1, .int a2, .ref 197] 5, [.int v, .int 0, .ref 197], h1, 198, sl)
      refine pv_i hC hsz rfl rfl rfl rfl ?_
      refine tw_store (v := v.toInt64) hC hsz (px_run_nw nwx_93 n _ _ _ _ hr) hhr rfl rfl (fun _ => rfl) (fun h2 hX2 => ?_)
      refine pv_i hC hsz rfl rfl rfl rfl ?_
      intro H1 locs1 ls hP1 hS1 hl1
      dsimp only at hP1 hl1 ⊢
      refine W.widen (k := 1) (n := 6) (by omega) (by omega) ?_
      show W _ _ _ _ _ _ _ _ _ _ _ _ _ _ _ (F0 m 18 ls [.int 0])
      exact W.iret hC.1 hC.2.1 B.returns (fun t ht hW => ⟨⟨0, rfl⟩, ⟨h2, hX2, by rw [ht]; exact hP1⟩, hS1.F ht⟩) hS1.2.2 (PT_ok.1 1003 18 _ _ rfl) B.notSynchronized
  have hW := key s.heap [] _ hP va_S.rf (pm_l0_loc aC b [.ref 0, .int a1, .int a2, .ref 197] (n := 5) (Nat.le_of_ble_eq_true rfl))
  rw [lg_entry_eq]
  dsimp only at hW
  rw [Nat.sub_self, Nat.sub_self] at hW
  exact hW
set_option maxHeartbeats 1000000 in
theorem tw_row {l : Launch} (htr : l.stackTraces = false) {D : va_G} {aC : Nat → ClassId} {b g sl : Nat} {h : pm_H} {fs : List Value} (a1 : Int32) (hH : ah_ok bB 198 [] h) (ho : h 0 = .inr (10, fs)) : Met l (pm_y PT 1004) (tw_ws 1004 [(0, 8, 11, 13)]) (pm_rm 2047 83977 1 6) (tx_Pc D aC b g [.ref 0, .int a1, .ref 197] h 198) (tw_Qd D aC b h) 1 6 (fun q => b ≤ q) := by
  refine va_MetW (cc := pm_code PT 1004) (maxL := pm_max PT 1004) (ret := some .int) (hh := [(0, 8, 11, 13)]) (by decide) rfl ?_
  intro p e s m args below meth c s₁ B hml hv
  obtain ⟨rfl, hsz, hP, hK, hX⟩ := hv
  have hts := atoms_spec (ws := tw_ws 1004 [(0, 8, 11, 13)]) B.pre
  have hC : pm_C PT PG PN D aC b 1004 p s m ([Value.ref 0, Value.int a1, Value.ref 197].map (pm_tr aC b)).toArray meth c := ⟨B.exec, B.bytes, hml, findClass_of_methodNamed B.named, fun w hw => hts w (List.mem_cons_of_mem _ hw), hK, fun q => absurd q (by decide)⟩
  have htab : c.exceptionTable.toList = [⟨0, 8, 11, 13⟩] := vx_table (x := pm_y PT 1004) B (hts _ List.mem_cons_self)
  obtain ⟨n, o, hr, ho2⟩ := sx_con (sl := sl) (As := [.ref 0, .int a1]) cxKt_ok (fun z hz => by cases List.mem_singleton.mp hz; exact rfl) th_row ⟨⟨rfl, List.mem_singleton_self _⟩, ai_top_ok _, trivial⟩ hH
  have key : pm_V p l e (headSpec (tw_ws 1004 [(0, 8, 11, 13)]) (pm_rm 2047 83977 1 6)).room s m ([Value.ref 0, Value.int a1, Value.ref 197].map (pm_tr aC b)).toArray below meth c (MQ below (tw_Qd D aC b h) ([Value.ref 0, Value.int a1, Value.ref 197].map (pm_tr aC b)).toArray s 1 6 (fun q => b ≤ q)) PT D aC b 1004 198 sl (0, pm_l0 [.ref 0, .int a1, .ref 197] 4, [], h, 198, sl) := by
    refine pv_i hC hsz rfl rfl rfl rfl ?_
    refine pv_i hC hsz rfl rfl rfl rfl ?_
    refine pv_i hC hsz rfl rfl rfl rfl ?_
    refine pv_i hC hsz rfl rfl rfl rfl ?_
    cases o with
    | inr st1 =>
      have hrun : pw_X PT (tx_stop 128) 2046 83956 128 (0, pm_l0 (.ref 0 :: [.int a1]) (pm_max PT 128), [], h, 198, sl) (fun _ => False) (fun st => pm_sum st.2.2.1 ≤ 8 ∧ st.2.2.2.2 = (198, sl) ∧ twX h st.2.2.2.1) := ⟨n, .inr st1, hr, ho2.1, by rw [ho2.2.1]; decide, ho2.2.2.1, fun i _ => congrFun (px_run_nw nwx_128 n _ _ _ _ hr) i, ho2.2.2.2.2⟩
      refine tw_call (w := 1004) (t := 128) (n := 1) (pc := 4) (hpc := 11) (x := ⟨0, 8, 11, 13⟩) (vs := [.int a1]) (rest := [.int 0, .ref 197]) (fr' := 2046) (lo' := 83956) htr hC rfl hX hsz htab rfl rfl rfl rfl rfl (Nat.le_refl _) (Nat.le_refl _) (by decide) (by decide) rfl rfl rfl rfl rfl rfl ho (by decide) (Nat.le_of_ble_eq_true rfl) (Nat.le_of_ble_eq_true rfl) (by first | exact Or.inl rfl | exact Or.inr rfl) hrun ?_
      intro q9 h1 H1 locs1 ls hXQ hP1 hS1 hl1
      refine lv_astore_n hC.1 hC.2.1 (k := 3) (i := 3) (PT_ok.1 1004 11 _ _ rfl) rfl hl1.has (by decide) rfl (fun ls' hl' => ?_)
      refine lv_iconst hC.1 hC.2.1 (n := 1) (v := 1) (PT_ok.1 1004 12 _ _ rfl) rfl ?_
      exact W.iret hC.1 hC.2.1 B.returns (fun t ht hW => ⟨⟨1, rfl⟩, ⟨h1, hXQ, by rw [ht]; exact hP1⟩, hS1.F ht⟩) hS1.2.2 (PT_ok.1 1004 13 _ _ rfl) B.notSynchronized
    | inl r =>
      obtain ⟨⟨a, ha, hv⟩, hsr, hfr, hhr⟩ := ho2
      obtain ⟨rv, h1, s1⟩ := r
      dsimp only at hv hsr hfr hhr
      cases hsr
      cases List.mem_singleton.mp ha
      have hrv : ∃ v : Int64, rv = some (.long v) := ao_l hv
      obtain ⟨v, rfl⟩ := hrv
      refine pv_call PT_ok hC rfl rfl hsz (t := 128) (mx := 2) (As := [.ref 0, .int a1]) (rest := [.int 0, .ref 197]) (cd_x (As := [.int a1]) rfl rfl rfl rfl (Nat.le_of_ble_eq_true rfl) (Nat.le_of_ble_eq_true rfl) rfl ho) rfl (Nat.le_of_ble_eq_true rfl) (Nat.le_of_ble_eq_true rfl) (Nat.le_refl _) (Nat.le_refl _) ⟨n, _, px_inl _ _ _ _ _ _ hr, Or.inr rfl, Nat.le_add_right _ _, Nat.le_add_right _ _, ?_⟩
      show pm_V _ _ _ _ _ _ _ _ _ _ _ _ _ _ _ 1004 198 sl (7, pm_l0 [.ref 0, .int a1, .ref 197] 4, [.long v, .int 0, .ref 197], h1, 198, sl)
      refine tw_store (v := v) hC hsz (px_run_nw nwx_128 n _ _ _ _ hr) hhr rfl rfl (fun _ => rfl) (fun h2 hX2 => ?_)
      refine pv_i hC hsz rfl rfl rfl rfl ?_
      intro H1 locs1 ls hP1 hS1 hl1
      dsimp only at hP1 hl1 ⊢
      refine W.widen (k := 1) (n := 6) (by omega) (by omega) ?_
      show W _ _ _ _ _ _ _ _ _ _ _ _ _ _ _ (F0 m 15 ls [.int 0])
      exact W.iret hC.1 hC.2.1 B.returns (fun t ht hW => ⟨⟨0, rfl⟩, ⟨h2, hX2, by rw [ht]; exact hP1⟩, hS1.F ht⟩) hS1.2.2 (PT_ok.1 1004 15 _ _ rfl) B.notSynchronized
  have hW := key s.heap [] _ hP va_S.rf (pm_l0_loc aC b [.ref 0, .int a1, .ref 197] (n := 4) (Nat.le_of_ble_eq_true rfl))
  rw [lg_entry_eq]
  dsimp only at hW
  rw [Nat.sub_self, Nat.sub_self] at hW
  exact hW
end TWD
end MG90wrapcallx1
section MG90wrapcallx2
/-! THE LAW'S OWN CODE, read by program: arguments out of the script, two calls, a comparison. P is what is to be shown of a state; lc_Cl: P goes back over steps, calls and readings of the script -/
section LC
def lc_Cl (sz sl bS Ln : Nat) (xs : Nat → Int32) (P : pm_St → Prop) : Prop :=
  (∀ (pc : Nat) (L : pm_L) (S : List Value) (h : pm_H) (pc' : Nat) (L' : pm_L) (S' : List Value) (h' : pm_H), pm_step PT pm_go0 2048 84000 1000 (pc, L, S, h, sz, sl) = some (pc', L', S', h', sz, sl) → P (pc', L', S', h', sz, sl) → P (pc, L, S, h, sz, sl)) ∧
  (∀ (pc : Nat) (L : pm_L) (S : List Value) (h : pm_H) (t : Nat) (As rest : List Value), pm_cd PT 1000 (pc, L, S, h, sz, sl) = some (t, As, rest) → 19 + pm_max PT t ≤ 84000 → pm_WP PT 2047 (84000 - (19 + pm_max PT t)) t (0, pm_l0 As (pm_max PT t), [], h, sz, sl) (fun r => r.2.2 = (sz, sl) ∧ P (pc + 3, L, r.1.toList ++ rest, r.2)) → P (pc, L, S, h, sz, sl)) ∧
  (∀ (pc : Nat) (L : pm_L) (S : List Value) (h : pm_H) (i : Nat), i < Ln → pm_ins PT 1000 pc = some (.iaload, 1) → P (pc + 1, L, .int (xs i) :: S, h, sz, sl) → P (pc, L, .int (nI i) :: .retAddr bS :: S, h, sz, sl)) ∧
  (∀ (pc : Nat) (L : pm_L) (S : List Value) (h : pm_H), pm_ins PT 1000 pc = some (.arraylength, 1) → P (pc + 1, L, .int (nI Ln) :: S, h, sz, sl) → P (pc, L, .retAddr bS :: S, h, sz, sl))
theorem lc_of {p : Program} {l : Launch} {e : Env} {R : Room} {s : State} {m : MethodId} {args : Array Value} {below : List Frame} {meth : Method} {c : Code} {Q : State → Prop} {D : va_G} {aC : Nat → ClassId} {b g sz sl bS Ln : Nat} {xs : Nat → Int32} (hC : pm_C PT PG PN D aC b 1000 p s m args meth c) (hfr : R.frames = 2048) (hlo : R.locals = 84000) (hs0 : s.heap.size = b + sz + g) (hX : va_X (aC (1000 + bS)) Ln xs s s.heap) (hbl : aC (1000 + bS) < s.heap.size) (hbA : ¬ b ≤ aC (1000 + bS)) (hLn : Ln < 2 ^ 31) : lc_Cl sz sl bS Ln xs (pm_V p l e R s m args below meth c Q PT D aC b 1000 sz sl) := by
  refine ⟨?_, ?_, ?_, ?_⟩
  · intro pc L S h pc' L' S' h' hs kk
    exact pm_step_ok PT_ok hC hfr hlo hs0 (Or.inr rfl) (Nat.le_refl _) (Nat.le_refl _) (Nat.le_add_right _ _) (Nat.le_add_right _ _) (go := pm_go0) (fun _ _ _ _ _ _ _ _ _ _ q => by cases q) hs kk
  · intro pc L S h t As rest hcd hl kk
    refine pv_call PT_ok hC hfr hlo hs0 hcd rfl (by omega) hl (Nat.le_refl _) (Nat.le_refl _) (wp_mono kk ?_)
    rintro ⟨rv, h1, sz1, sl1⟩ ⟨q1, q2⟩
    cases q1
    exact ⟨Or.inr rfl, Nat.le_add_right _ _, Nat.le_add_right _ _, q2⟩
  · intro pc L S h i hi hins kk
    have kk' := pv_sld (l := l) (e := e) (R := R) (below := below) (Q := Q) PT_ok hC hX hbl hbA (L := L) (S := S) (h := h) (sz := sz) (sl := sl) (sz0 := sz) (sl0 := sl) (i := nI i) (vp_in_nI hi hLn) hins
    rw [nI_clamp (by omega)] at kk'
    exact kk' kk
  · intro pc L S h hins kk
    exact pv_slen PT_ok hC hX hbl hbA hins kk
variable {P : pm_St → Prop} {sz sl bS Ln i pc : Nat} {xs : Nat → Int32} {L : pm_L} {S : List Value} {h : pm_H}
/-- load -/
theorem lc_ald (H : lc_Cl sz sl bS Ln xs P) {a : Fin 4} {v : Value} (hi : pm_ins PT 1000 pc = some (.aload_n a, 1)) (hg : pm_get L a.val = some v) (hv : pm_isT 2 v = true) (kk : P (pc + 1, L, v :: S, h, sz, sl)) : P (pc, L, S, h, sz, sl) := by
  refine H.1 _ _ _ _ _ _ _ _ ((ls_of hi rfl rfl).trans ?_) kk
  show pm_lo 2 1 pc a.val L S h sz sl = _
  unfold pm_lo pm_ld
  rw [hg]
  dsimp only
  rw [if_pos hv]
theorem lc_ild (H : lc_Cl sz sl bS Ln xs P) {a : Nat} {v : Int32} (hi : pm_ins PT 1000 pc = some (.iload a, 2)) (hg : pm_get L a = some (.int v)) (kk : P (pc + 2, L, .int v :: S, h, sz, sl)) : P (pc, L, S, h, sz, sl) := by
  refine H.1 _ _ _ _ _ _ _ _ ((ls_of hi rfl rfl).trans ?_) kk
  show pm_lo 0 2 pc a L S h sz sl = _
  unfold pm_lo pm_ld
  rw [hg]
  rfl
def lc_al (pc a : Nat) : Bool := match pm_ins PT 1000 pc with
  | some (.aload_n q, 1) => q.val == a
  | _ => false
theorem lc_al_ok (H : lc_Cl sz sl bS Ln xs P) {a : Nat} {v : Value} (hi : lc_al pc a = true) (hg : pm_get L a = some v) (hv : pm_isT 2 v = true) (kk : P (pc + 1, L, v :: S, h, sz, sl)) : P (pc, L, S, h, sz, sl) := by
  unfold lc_al at hi
  split at hi
  · rename_i q e
    have hq := eq_of_beq hi
    rw [← hq] at hg
    exact lc_ald H e hg hv kk
  · cases hi
/-- an argument: script[i + j] -/
def lc_arg (pc j : Nat) : Bool := match pm_ins PT 1000 pc, pm_ins PT 1000 (pc + 1), pm_ins PT 1000 (pc + 3), pm_ins PT 1000 (pc + 4), pm_ins PT 1000 (pc + 5) with
  | some (.aload_n q, 1), some (.iload 4, 2), some (.iconst n, 1), some (.iadd, 1), some (.iaload, 1) => q.val == 0 && decide (n = (j : Int))
  | _, _, _, _, _ => false
theorem lc_arg_ok (H : lc_Cl sz sl bS Ln xs P) {j : Nat} (ha : lc_arg pc j = true) (h0 : pm_get L 0 = some (.retAddr bS)) (h4 : pm_get L 4 = some (.int (nI i))) (hj : i + j < Ln) (kk : P (pc + 6, L, .int (xs (i + j)) :: S, h, sz, sl)) : P (pc, L, S, h, sz, sl) := by
  unfold lc_arg at ha
  split at ha
  · rename_i q n e1 e2 e3 e4 e5
    rw [Bool.and_eq_true] at ha
    have hq := eq_of_beq ha.1
    have hn : n = (j : Int) := of_decide_eq_true ha.2
    rw [← hq] at h0
    refine lc_ald H e1 h0 rfl ?_
    refine lc_ild H e2 h4 ?_
    refine H.1 _ _ _ _ (pc + 4) _ _ _ (ls_of e3 rfl rfl) ?_
    refine H.1 _ _ _ _ (pc + 5) _ _ _ (ls_of e4 rfl rfl) ?_
    have e : nI i + Int32.ofInt n = nI (i + j) := by
      rw [hn, ← nI_add]
      rfl
    show P (pc + 5, L, .int (nI i + Int32.ofInt n) :: .retAddr bS :: S, h, sz, sl)
    rw [e]
    exact H.2.2.1 _ _ _ _ _ hj e5 kk
  · cases ha
def lc_args : Nat → Nat → Nat → Bool
  | _, 0, _ => true
  | pc, n + 1, j => lc_arg pc j && lc_args (pc + 6) n (j + 1)
def lc_vals (xs : Nat → Int32) (i : Nat) : Nat → Nat → List Int32
  | 0, _ => []
  | n + 1, j => xs (i + j) :: lc_vals xs i n (j + 1)
theorem lc_vals_len (xs : Nat → Int32) (i : Nat) : ∀ n j, (lc_vals xs i n j).length = n
  | 0, _ => rfl
  | n + 1, j => by unfold lc_vals; rw [List.length_cons, lc_vals_len xs i n (j + 1)]
theorem lc_args_ok (H : lc_Cl sz sl bS Ln xs P) (h0 : pm_get L 0 = some (.retAddr bS)) (h4 : pm_get L 4 = some (.int (nI i))) : ∀ (n j pc : Nat) (S : List Value), lc_args pc n j = true → i + j + n ≤ Ln → P (pc + 6 * n, L, ((lc_vals xs i n j).map Value.int).reverse ++ S, h, sz, sl) → P (pc, L, S, h, sz, sl)
  | 0, _, _, _, _, _, kk => kk
  | n + 1, j, pc, S, ha, hb, kk => by
    unfold lc_args at ha
    rw [Bool.and_eq_true] at ha
    refine lc_arg_ok H ha.1 h0 h4 (by omega) (lc_args_ok H h0 h4 n (j + 1) (pc + 6) _ ha.2 (by omega) ?_)
    unfold lc_vals at kk
    rw [List.map_cons, List.reverse_cons, List.append_assoc] at kk
    rw [show pc + 6 + 6 * n = pc + 6 * (n + 1) by omega]
    exact kk
theorem lc_pargs : ∀ vs : List Int32, (pm_args (vs.map Value.int)).length = vs.length
  | [] => rfl
  | v :: r => by
    have ih := lc_pargs r
    rw [List.map_cons]
    unfold pm_args
    rw [if_neg (by show ¬ (1 : Nat) = 2; omega), List.length_cons, List.length_cons, ih]
/-- a call by the receiver's class -/
def lc_iv (pc t n ci : Nat) : Bool := match pm_ins PT 1000 pc with
  | some (.invokevirtual j, 3) => decide (pm_mlk PT (pm_o PT 1000) j = some (0, t) ∧ pm_na PT t = n + 1 ∧ pm_ci PT t = ci ∧ n + 1 ≤ pm_max PT t ∧ 19 + pm_max PT t ≤ 84000)
  | _ => false
theorem lc_iv_ok (H : lc_Cl sz sl bS Ln xs P) {t n ci a : Nat} {fs : List Value} {vs : List Int32} {rest : List Value} (hi : lc_iv pc t n ci = true) (ho : h a = .inr (ci, fs)) (ha : a < sz) (hn : vs.length = n) (hr : pm_sum rest ≤ 8)
    (kk : pm_WP PT 2047 (84000 - (19 + pm_max PT t)) t (0, pm_l0 (.ref a :: vs.map Value.int) (pm_max PT t), [], h, sz, sl) (fun r => r.2.2 = (sz, sl) ∧ P (pc + 3, L, r.1.toList ++ rest, r.2))) : P (pc, L, (vs.map Value.int).reverse ++ .ref a :: rest, h, sz, sl) := by
  unfold lc_iv at hi
  split at hi
  · rename_i j e
    obtain ⟨c1, c2, c3, c4, c5⟩ := of_decide_eq_true hi
    refine H.2.1 _ _ _ _ t (.ref a :: vs.map Value.int) rest ?_ c5 kk
    have hlen : ((vs.map Value.int).reverse ++ [Value.ref a]).length = n + 1 := by
      rw [List.length_append, List.length_reverse, List.length_map, hn]
      rfl
    have hsp : (vs.map Value.int).reverse ++ .ref a :: rest = ((vs.map Value.int).reverse ++ [Value.ref a]) ++ rest := by rw [List.append_assoc]; rfl
    have htk : ((vs.map Value.int).reverse ++ .ref a :: rest).take (n + 1) = (vs.map Value.int).reverse ++ [Value.ref a] := by rw [hsp, ← hlen, List.take_left']; rfl
    have hdr : ((vs.map Value.int).reverse ++ .ref a :: rest).drop (n + 1) = rest := by rw [hsp, ← hlen, List.drop_left']; rfl
    have hrev : ((vs.map Value.int).reverse ++ [Value.ref a]).reverse = .ref a :: vs.map Value.int := by rw [List.reverse_append, List.reverse_reverse]; rfl
    unfold pm_cd
    dsimp only
    rw [e]
    dsimp only
    have hcal : pm_callee PT 1000 (.invokevirtual j) = some (0, t) := by
      unfold pm_callee
      dsimp only
      rw [c1]
      rfl
    rw [if_pos (show pm_lenOk (Instr.invokevirtual j) 3 = true from rfl), hcal]
    dsimp only
    rw [c2, htk, hdr, hrev]
    refine if_pos ⟨?_, ?_, hr, ?_⟩
    · rw [hsp, List.length_append, hlen]
      omega
    · unfold pm_rcv
      rw [if_neg (by omega)]
      dsimp only
      unfold pm_obj
      rw [if_pos ha, ho]
      dsimp only
      rw [c3]
      exact beq_self_eq_true ci
    · show (pm_args (.ref a :: vs.map Value.int)).length ≤ _
      unfold pm_args
      rw [if_neg (by show ¬ (1 : Nat) = 2; omega), List.length_cons, lc_pargs, hn]
      exact c4
  · cases hi
def lc_eq (pc pe : Nat) : Bool := match pm_ins PT 1000 pc with
  | some (.if_icmp .eq off, 3) => decide (pm_tgt pc off = some pe)
  | _ => false
theorem lc_eq_ok (H : lc_Cl sz sl bS Ln xs P) {pe : Nat} {v : Int32} (hi : lc_eq pc pe = true) (kk : P (pe, L, S, h, sz, sl)) : P (pc, L, .int v :: .int v :: S, h, sz, sl) := by
  unfold lc_eq at hi
  split at hi
  · rename_i off e
    have ht : pm_tgt pc off = some pe := of_decide_eq_true hi
    refine H.1 _ _ _ _ _ _ _ _ ((ls_of e rfl rfl).trans ?_) kk
    show pm_br (pm_cmp .eq v v) pc off L S h sz sl = _
    unfold pm_br
    rw [ht, show pm_cmp .eq v v = true from decide_eq_true rfl]
  · cases hi
/-- an answer thrown away -/
def lc_pop (pc : Nat) : Bool := match pm_ins PT 1000 pc with
  | some (.pop, 1) => true
  | _ => false
theorem lc_pop_ok (H : lc_Cl sz sl bS Ln xs P) {v : Int32} (hi : lc_pop pc = true) (kk : P (pc + 1, L, S, h, sz, sl)) : P (pc, L, .int v :: S, h, sz, sl) := by
  unfold lc_pop at hi
  split at hi
  · rename_i e
    exact H.1 _ _ _ _ _ _ _ _ ((ls_of e rfl rfl).trans rfl) kk
  · cases hi
def lc_go (pc pe : Nat) : Bool := match pm_ins PT 1000 pc with
  | some (.goto off, 3) => decide (pm_tgt pc off = some pe)
  | _ => false
theorem lc_go_ok (H : lc_Cl sz sl bS Ln xs P) {pe : Nat} (hi : lc_go pc pe = true) (kk : P (pe, L, S, h, sz, sl)) : P (pc, L, S, h, sz, sl) := by
  unfold lc_go at hi
  split at hi
  · rename_i off e
    have ht : pm_tgt pc off = some pe := of_decide_eq_true hi
    refine H.1 _ _ _ _ _ _ _ _ ((ls_of e rfl rfl).trans ?_) kk
    show pm_jp pc off L S h sz sl = _
    unfold pm_jp
    rw [ht]
  · cases hi
/-- what stands in the law's locals in its loop -/
def lc_L (bS i : Nat) (L : pm_L) : Prop := pm_get L 0 = some (.retAddr bS) ∧ pm_get L 1 = some (.ref 0) ∧ pm_get L 2 = some (.ref 162) ∧ pm_get L 3 = some (.ref 197) ∧ pm_get L 4 = some (.int (nI i)) ∧ L.length = 8
/-- two calls, their answers thrown away -/
def lc_twp (pc n kx km pe : Nat) : Bool := lc_al pc 1 && (lc_args (pc + 1) n 1 && (lc_iv (pc + 1 + 6 * n) kx n 10 && (lc_pop (pc + 4 + 6 * n) && (lc_al (pc + 5 + 6 * n) 2 && (lc_args (pc + 6 + 6 * n) n 1 && (lc_iv (pc + 6 + 12 * n) km n 11 && (lc_pop (pc + 9 + 12 * n) && lc_go (pc + 10 + 12 * n) pe)))))))
theorem lc_twp_ok (H : lc_Cl sz sl bS Ln xs P) {n kx km pe : Nat} (hc : lc_twp pc n kx km pe = true) (hL : lc_L bS i L) (hb : i + 1 + n ≤ Ln) (hz : 162 < sz) {f1 : List Value} (o1 : h 0 = .inr (10, f1))
    (kk : pm_WP PT 2047 (84000 - (19 + pm_max PT kx)) kx (0, pm_l0 (.ref 0 :: (lc_vals xs i n 1).map Value.int) (pm_max PT kx), [], h, sz, sl) (fun x => x.2.2 = (sz, sl) ∧ (∃ v, x.1 = some (.int v)) ∧ (∃ f2, x.2.1 162 = .inr (11, f2)) ∧ pm_WP PT 2047 (84000 - (19 + pm_max PT km)) km (0, pm_l0 (.ref 162 :: (lc_vals xs i n 1).map Value.int) (pm_max PT km), [], x.2) (fun y => (∃ v, y.1 = some (.int v)) ∧ y.2.2 = (sz, sl) ∧ P (pe, L, [], y.2)))) : P (pc, L, [], h, sz, sl) := by
  unfold lc_twp at hc
  simp only [Bool.and_eq_true] at hc
  obtain ⟨c1, c2, c3, c4, c5, c6, c7, c8, c9⟩ := hc
  obtain ⟨l0, l1, l2, l3, l4, l5⟩ := hL
  refine lc_al_ok H c1 l1 rfl (lc_args_ok H l0 l4 n 1 _ _ c2 hb ?_)
  refine lc_iv_ok H c3 o1 (by omega) (lc_vals_len xs i n 1) (by decide) (wp_mono kk ?_)
  rintro ⟨rv, h1, sz1, sl1⟩ ⟨q1, ⟨v, q2⟩, ⟨f2, q3⟩, q4⟩
  cases q1
  dsimp only at q2 q3 q4
  subst q2
  refine ⟨rfl, ?_⟩
  show P (pc + 1 + 6 * n + 3, L, [.int v], h1, sz, sl)
  rw [show pc + 1 + 6 * n + 3 = pc + 4 + 6 * n by omega]
  refine lc_pop_ok H c4 ?_
  rw [show pc + 4 + 6 * n + 1 = pc + 5 + 6 * n by omega]
  refine lc_al_ok H c5 l2 rfl ?_
  rw [show pc + 5 + 6 * n + 1 = pc + 6 + 6 * n by omega]
  refine lc_args_ok H l0 l4 n 1 _ _ c6 hb ?_
  rw [show pc + 6 + 6 * n + 6 * n = pc + 6 + 12 * n by omega]
  refine lc_iv_ok H c7 q3 hz (lc_vals_len xs i n 1) (by decide) (wp_mono q4 ?_)
  rintro ⟨rw2, h2, sz2, sl2⟩ ⟨⟨u, p1⟩, p2, p3⟩
  cases p2
  dsimp only at p1 p3
  subst p1
  refine ⟨rfl, ?_⟩
  show P (pc + 6 + 12 * n + 3, L, [.int u], h2, sz, sl)
  rw [show pc + 6 + 12 * n + 3 = pc + 9 + 12 * n by omega]
  refine lc_pop_ok H c8 ?_
  rw [show pc + 9 + 12 * n + 1 = pc + 10 + 12 * n by omega]
  exact lc_go_ok H c9 p3
end LC
end MG90wrapcallx2
section MG90wrapcallx3
/-! the law's walk: its end, its start anew at a later state, what it knows of a state -/
section LW
variable {p : Program} {l : Launch} {e : Env} {R : Room} {s : State} {m : MethodId} {args : Array Value} {below : List Frame} {meth : Method} {c : Code} {H : Heap} {locs : List Loc} {cells slots : Nat}
variable {D : va_G} {aC : Nat → ClassId} {b g sz sl bS Ln : Nat} {xs : Nat → Int32}
/-- the law has answered true; what it wrote lies at b or behind -/
def lw_Zb (b C S : Nat) (below : List Frame) (s : State) : State → Prop := fun t => ∃ o, t.status = .running ∧ Ended t below o ∧ o = .returned (some (.int 1)) ∧ ∃ L, Framed s o t L C S ∧ ∀ q ∈ L, b ≤ q.base
theorem lw_retb (hx : p.tables.exec = Jvm.exec) (hb : c.code = code) (hr : meth.sig.returnType = ret) (hlocks : meth.locks = false) {pc C S : Nat} {ls : Array Slot} (hdg : decode code pc = .ok (.ireturn, 1)) (hL : ∀ q ∈ locs, b ≤ q.base) (h1 : cells ≤ C) (h2 : slots ≤ S) : W p l e R s m args below meth c H locs cells slots (lw_Zb b C S below s) (F0 m pc ls [.int 1]) := by
  intro T hT X0
  have X := stand_widen X0 h1 h2
  obtain ⟨fs, hret, hrun, hended, hW, hframe⟩ := X.leave (v := some (.int 1)) (hlocks := hlocks) (fun h => by rw [hr] at h; cases h)
  have hmeth' : T.vm.method? m = some meth := X.method'
  refine ⟨T.setFrames fs, ?_, .returned (some (.int 1)), hrun, hended, rfl, locs, ⟨⟨_, rfl⟩, hW, hframe⟩, hL⟩
  jvm_step X.here [X.here.top, hx, hb, hdg, hmeth', hr, ret, narrow_b1]
  (try refine ⟨rfl, ?_⟩); (try refine ⟨rfl, ?_⟩)
  first | (intro acts; rw [hret _ acts rfl rfl rfl]) | rw [hret _ _ rfl rfl rfl]
  exact Steps.refl _
/-- the walk begun anew where it stands -/
theorem lw_rebase {R' : Room} {C S C' S' : Nat} {gf : JFrame} (hf : R'.frames ≤ R.frames) (hl : R'.locals ≤ R.locals) (hc : cells + R'.cells ≤ R.cells) (hs : slots + R'.slots ≤ R.slots) (hC : cells + C' ≤ C) (hS : slots + S' ≤ S) (hL : ∀ q ∈ locs, b ≤ q.base)
    (kk : ∀ s' : State, s'.vm = s.vm → s'.heap = H → W p l e R' s' m args below meth c H [] 0 0 (lw_Zb b C' S' below s') gf) : W p l e R s m args below meth c H locs cells slots (lw_Zb b C S below s) gf := by
  intro T hT X
  have Y := vx_rebase X hf hl hc hs
  obtain ⟨s', hA⟩ : ∃ z, z = (T.setVm s.vm).setFrames (.invoking m args :: below) := ⟨_, rfl⟩
  rw [← hA] at Y
  have hvm : s'.vm = s.vm := by rw [hA]; rfl
  have hhp : s'.heap = H := by rw [hA]; exact hT
  obtain ⟨t, a1, o, b1, b2, b3, L', ⟨⟨v, b4⟩, hW, hsame⟩, b5⟩ := kk s' hvm hhp T hT Y
  have hW0 : s.WarmedH s'.vm := by rw [hvm]; exact State.WarmedH.refl s
  refine ⟨t, a1, o, b1, b2, b3, locs ++ L', ⟨⟨v, b4⟩, State.WarmedH.trans hW0 hW, ?_⟩, fun q hq => (List.mem_append.mp hq).elim (hL q) (b5 q)⟩
  subst hA
  obtain ⟨e1, e2⟩ := hsame
  rw [State.setFrames_setFrames] at e1
  have h2 : (T.setVm s.vm).sameButNew ({ t with vm := s.vm } : State) L' C' S' := ⟨e1, e2⟩
  exact (X.same.trans h2).mono hC hS
/-- what the law knows of a state -/
def lw_Env (D : va_G) (aC : Nat → ClassId) (b bS Ln : Nat) (xs : Nat → Int32) (p : Program) (s : State) (m : MethodId) (meth : Method) (c : Code) : Prop := pm_C PT PG PN D aC b 1000 p s m #[Value.ref (aC (1000 + bS))] meth c ∧ tx_K b s ∧ va_X (aC (1000 + bS)) Ln xs s s.heap ∧ aC (1000 + bS) < b ∧ b ≤ s.heap.size
theorem lw_Env.to {s' : State} (h : lw_Env D aC b bS Ln xs p s m meth c) (hvm : s'.vm = s.vm) (hq : ∀ a : Nat, a < s.heap.size → ¬ b ≤ a → s'.heap[a]? = s.heap[a]?) (hz : s.heap.size ≤ s'.heap.size) : lw_Env D aC b bS Ln xs p s' m meth c := by
  obtain ⟨⟨c1, c2, c3, c4, c5, c6, c7⟩, hX, hV, h1, h2⟩ := h
  have hW : s.WarmedH s'.vm := by rw [hvm]; exact State.WarmedH.refl s
  refine ⟨⟨c1, c2, c3, by rw [hvm]; exact c4, fun w hw => word_at hW (good_of_word (PT_ok.2.1 w hw)) (c5 w hw), c6.warm PT_ok hW (locs := []) ⟨hz, hq, fun _ q => (by cases q)⟩, c7⟩, hX.to hW hq, ?_, h1, Nat.le_trans h2 hz⟩
  exact va_X.moved hW.alike (hV.kept (hq (aC (1000 + bS)) (Nat.lt_of_lt_of_le h1 h2) (Nat.not_le_of_lt h1)))
/-- the call of a wrapper that answers 1, and the walk begun anew behind it -/
theorem lw_wrap {w jw lo1 n pc : Nat} {hh : List (Nat × Nat × Nat × Nat)} {As : List Value} {L : pm_L} {h : pm_H} {C S : Nat} (E : lw_Env D aC b bS Ln xs p s m meth c) (hz198 : sz = 198) (hs0 : s.heap.size = b + sz + g) (hfr : R.frames = 2048) (hlo : R.locals = 84000) (hRc : 1 ≤ R.cells) (hRs : 6 ≤ R.slots) (hC : 1 ≤ C) (hS : 6 ≤ S)
    (hi : pm_ins PT 1000 pc = some (.invokestatic jw, 3)) (hcls : (pm_y PT w).cls = "GiftsOfCourtsLaw") (hwd : ∀ z ∈ ([Cond.methodLink "GiftsOfCourtsLaw" jw (pm_y PT w), Cond.static (pm_y PT w), Cond.initialized "GiftsOfCourtsLaw", Cond.codeWith (pm_y PT w) (pm_code PT w) (pm_max PT w) (some .int) hh] : List Cond), z ∈ PG) (hpar : (parseMethodDescriptor (pm_y PT w).desc).map (fun d => d.parameters.length) = some n) (hn : As.length = n) (hlo1 : lo1 + (19 + pm_max PT w) ≤ 84000)
    (hM : Met l (pm_y PT w) (tw_ws w hh) (pm_rm 2047 lo1 1 6) (tx_Pc D aC b g As h sz) (tw_Qd D aC b h) 1 6 (fun q => b ≤ q))
    (kk : ∀ (s' : State) (g' : Nat) (h1 : pm_H), lw_Env D aC b bS Ln xs p s' m meth c → s'.heap.size = b + sz + g' → twX h h1 → ∀ v : Int32, pm_V p l e { frames := R.frames, locals := R.locals, cells := R.cells - 1, slots := R.slots - 6 } s' m #[Value.ref (aC (1000 + bS))] below meth c (lw_Zb b (C - 1) (S - 6) below s') PT D aC b 1000 sz sl (pc + 3, L, [.int v], h1, sz, sl)) :
    pm_V p l e R s m #[Value.ref (aC (1000 + bS))] below meth c (lw_Zb b C S below s) PT D aC b 1000 sz sl (pc, L, As.reverse, h, sz, sl) := by
  subst hz198
  have E0 := E
  obtain ⟨⟨hx, hb, hml, hown', hts, hK, hin⟩, hX, hV, hbS, hbs⟩ := E
  have hd := PT_ok.1 _ _ _ _ hi
  intro H locs ls hP hSS hl
  refine pm_sized fun hzz => ?_
  dsimp only at hzz hP hl ⊢
  have hsz := pm_size (g := g) hSS hP hs0 (Or.inr rfl) (Nat.le_refl _) hzz
  rw [Nat.sub_self, Nat.sub_self]
  have hpre : ∀ U : State, U.heap = H → s.WarmedH U.vm → tx_Pc D aC b g As h 198 (As.map (pm_tr aC b)).toArray U := fun U hU hW => ⟨rfl, by rw [hU]; exact hsz, by rw [hU]; exact hP, hK.warm PT_ok hW (by rw [hU]; exact hSS), hX.to hW (fun a ha hba => by rw [hU]; exact hSS.2.1 a ha hba)⟩
  have hroom : 2 * (F0 m pc ls (As.reverse.map (pm_tr aC b))).monitorRoom + ((([] : List Value).map (pm_tr aC b)).map fun v => v.category).sum ≤ 8 := lv_room (Nat.le_of_ble_eq_true rfl)
  have hRR : (pm_rm 2047 lo1 1 6).frames + 1 ≤ R.frames ∧ 8 + (pm_max PT w + 11) + (pm_rm 2047 lo1 1 6).locals ≤ R.locals := by
    dsimp only
    omega
  have hgd : GoodIn PG (va_wsS "GiftsOfCourtsLaw" jw (pm_y PT w) (tw_ws w hh)) := pm_good PT_ok (fun z hz => by
    simp only [va_wsS, tw_ws, List.mem_append, List.mem_cons, List.not_mem_nil, or_false] at hz
    rw [hcls] at hz
    rcases hz with (rfl | rfl | rfl) | rfl | hz
    · exact hwd _ (by simp)
    · exact hwd _ (by simp)
    · exact hwd _ (by simp)
    · exact hwd _ (by simp)
    · exact hz)
  have hr := vx_runSW (p := p) (l := l) (e := e) (below := below) (meth := meth) (locs := locs) (cells := 0) (slots := 0) (As := As.map (pm_tr aC b)) (rest := []) (g := F0 m pc ls (As.reverse.map (pm_tr aC b))) (own := "GiftsOfCourtsLaw") (H := H) ⟨hx, hb, hml, hown', hts⟩ hM (vx_cwSW n hts hgd rfl rfl rfl ⟨by rw [hcls]; decide, by rw [hcls]; decide, hpar⟩ hRR) ⟨tx_blind, hpre⟩ rfl (by rw [List.length_map]; exact hn) hl.1 (by show As.reverse.map (pm_tr aC b) = _; rw [List.map_reverse, List.append_nil]) hroom hd ⟨by omega, by omega⟩
  intro T hT X
  obtain ⟨v, st₀, t, T2, L2, h0, X', hL, e1, e2, ⟨hv, ⟨h1, hXQ, hP1⟩, hF⟩, st⟩ := hr T hT X
  obtain ⟨vv, hv⟩ := hv
  cases hv
  have hgz : s.heap.size ≤ T2.heap.size := by
    rw [e1]
    have h3 := hF.1
    rw [h0] at h3
    exact Nat.le_trans hSS.1 h3
  have hq : ∀ a : Nat, a < s.heap.size → ¬ b ≤ a → T2.heap[a]? = s.heap[a]? := fun a ha hba => by
    rw [e1, hF.2 a (by rw [h0]; exact Nat.lt_of_lt_of_le ha hSS.1) hba, h0]
    exact hSS.2.1 a ha hba
  have hbz : b + 198 ≤ T2.heap.size := by
    rw [e1]
    have h3 := hF.1
    rw [h0] at h3
    omega
  have key : W p l e R s m #[Value.ref (aC (1000 + bS))] below meth c T2.heap (locs ++ L2) (0 + 1) (0 + 6) (lw_Zb b C S below s) (F0 m (pc + 3) ls [.int vv]) := by
    refine lw_rebase (R' := { frames := R.frames, locals := R.locals, cells := R.cells - 1, slots := R.slots - 6 }) (C' := C - 1) (S' := S - 6) (Nat.le_refl _) (Nat.le_refl _) (by dsimp only; omega) (by dsimp only; omega) (by omega) (by omega) (fun q hq => (List.mem_append.mp hq).elim (hSS.2.2 q) (hL q)) (fun s' hvm hhp => ?_)
    have hV := kk s' (T2.heap.size - (b + 198)) h1 (E0.to hvm (fun a ha hba => by rw [hhp]; exact hq a ha hba) (by rw [hhp]; exact hgz)) (by rw [hhp]; omega) hXQ vv
    have hW := hV T2.heap [] ls (by rw [e1]; exact hP1) (by rw [← hhp]; exact va_S.rf) hl
    dsimp only at hW
    rw [Nat.sub_self, Nat.sub_self] at hW
    exact hW
  obtain ⟨t2, a1, b1⟩ := key T2 rfl X'
  exact ⟨t2, st t2 a1, b1⟩
end LW
end MG90wrapcallx3
section MG90wrapcallx4
/-! the law's loop: its head, its switch, its tail, and what follows a wrapper -/
section LLP
variable {P : pm_St → Prop} {sz sl bS Ln i j pc : Nat} {xs : Nat → Int32} {L : pm_L} {S : List Value} {h : pm_H} {v w : Value}
theorem gs_len {L : pm_L} {i : Nat} {v : Value} : (pm_st1 L i v).length = L.length := by
  unfold pm_st1 pm_cut
  rw [List.length_set]
  split
  · rfl
  · split
    · rw [List.length_set]
    · rfl
theorem gs_same (hi : i < L.length) : pm_get (pm_st1 L i v) i = some v := by
  have hl : i < (pm_cut L i).length := by
    unfold pm_cut
    split
    · exact hi
    · split
      · rw [List.length_set]; exact hi
      · exact hi
  unfold pm_st1 pm_get
  rw [List.getElem?_set_self hl]
theorem gs_other (hj : j ≠ i) (hc : pm_get L j = some w) (hw : w.category = 1) : pm_get (pm_st1 L i v) j = some w := by
  have key : (pm_cut L i)[j]? = L[j]? := by
    unfold pm_cut
    split
    · rfl
    · rename_i i'
      split
      · rename_i h2
        by_cases e : i' = j
        · subst e
          unfold pm_cat2 at h2
          rw [hc] at h2
          have h3 := eq_of_beq h2
          omega
        · rw [List.getElem?_set_ne e]
      · rfl
  unfold pm_get at hc ⊢
  unfold pm_st1
  rw [List.getElem?_set_ne (Ne.symm hj), key]
  exact hc
theorem gs2_len {L : pm_L} {i : Nat} {v : Value} : (pm_st2 L i v).length = L.length := by
  have h := gs_len (L := L) (i := i) (v := v)
  unfold pm_st1 at h
  unfold pm_st2
  rw [List.length_set]
  exact h
theorem gs2_other (hj : j ≠ i) (hj2 : j ≠ i + 1) (hc : pm_get L j = some w) (hw : w.category = 1) : pm_get (pm_st2 L i v) j = some w := by
  have h1 := gs_other (v := v) hj hc hw
  unfold pm_get pm_st1 at h1
  unfold pm_get pm_st2
  rw [List.getElem?_set_ne (Ne.symm hj2)]
  exact h1
theorem lc_L.st1 {k : Nat} (hL : lc_L bS i L) (hk : 5 ≤ k) : lc_L bS i (pm_st1 L k v) := by
  obtain ⟨l0, l1, l2, l3, l4, l5⟩ := hL
  exact ⟨gs_other (by omega) l0 rfl, gs_other (by omega) l1 rfl, gs_other (by omega) l2 rfl, gs_other (by omega) l3 rfl, gs_other (by omega) l4 rfl, gs_len.trans l5⟩
theorem lc_L.st2 {k : Nat} (hL : lc_L bS i L) (hk : 5 ≤ k) : lc_L bS i (pm_st2 L k v) := by
  obtain ⟨l0, l1, l2, l3, l4, l5⟩ := hL
  exact ⟨gs2_other (by omega) (by omega) l0 rfl, gs2_other (by omega) (by omega) l1 rfl, gs2_other (by omega) (by omega) l2 rfl, gs2_other (by omega) (by omega) l3 rfl, gs2_other (by omega) (by omega) l4 rfl, gs2_len.trans l5⟩
theorem lc_i (H : lc_Cl sz sl bS Ln xs P) {ins : Instr} {len pc' : Nat} {L' : pm_L} {S' : List Value} {h' : pm_H} (hi : pm_ins PT 1000 pc = some (ins, len)) (hl : pm_lenOk ins len = true) (hc : pm_callee PT 1000 ins = none) (hs : pm_simple PT 2048 84000 1000 ins pc L S h sz sl = some (pc', L', S', h', sz, sl)) (kk : P (pc', L', S', h', sz, sl)) : P (pc, L, S, h, sz, sl) := H.1 _ _ _ _ _ _ _ _ ((ls_of hi hl hc).trans hs) kk
theorem lc_icmp (H : lc_Cl sz sl bS Ln xs P) {cc : Jvm.ClassFile.Cond} {off : Int} {t : Nat} {x y : Int32} (hi : pm_ins PT 1000 pc = some (.if_icmp cc off, 3)) (ht : pm_tgt pc off = some t) (k1 : pm_cmp cc x y = true → P (t, L, S, h, sz, sl)) (k2 : pm_cmp cc x y = false → P (pc + 3, L, S, h, sz, sl)) : P (pc, L, .int y :: .int x :: S, h, sz, sl) := by
  cases hc : pm_cmp cc x y with
  | true =>
    refine H.1 _ _ _ _ _ _ _ _ ((ls_of hi rfl rfl).trans ?_) (k1 hc)
    show pm_br (pm_cmp cc x y) pc off L S h sz sl = _
    unfold pm_br
    rw [ht, hc]
  | false =>
    refine H.1 _ _ _ _ _ _ _ _ ((ls_of hi rfl rfl).trans ?_) (k2 hc)
    show pm_br (pm_cmp cc x y) pc off L S h sz sl = _
    unfold pm_br
    rw [ht, hc]
/-- the head: i <= script.length - 5 -/
theorem lc_head (H : lc_Cl sz sl bS Ln xs P) (hL : lc_L bS i L) (hi : i < 2 ^ 30) (hLn : Ln < 2 ^ 30) (k1 : i + 5 ≤ Ln → P (32, L, [], h, sz, sl)) (k2 : Ln < i + 5 → P (1449, L, [], h, sz, sl)) : P (23, L, [], h, sz, sl) := by
  obtain ⟨l0, l1, l2, l3, l4, l5⟩ := hL
  refine lc_ild H rfl l4 ?_
  refine lc_ald H (a := 0) rfl l0 rfl ?_
  refine H.2.2.2 _ _ _ _ rfl ?_
  refine lc_i H rfl rfl rfl rfl ?_
  refine lc_i H rfl rfl rfl rfl ?_
  refine lc_icmp H (cc := .gt) (x := nI i) (y := nI Ln - Int32.ofInt 5) (t := 1449) rfl rfl (fun q => ?_) (fun q => ?_)
  · have q1 : nI Ln - Int32.ofInt 5 < nI i := of_decide_eq_true q
    rw [Int32.lt_iff_toInt_lt, Int32.toInt_sub, nI_toInt (by omega), nI_toInt (by omega), show (Int32.ofInt 5).toInt = 5 by decide, ab_bm (by unfold ai_lo; omega) (by unfold ai_hi; omega)] at q1
    exact k2 (by omega)
  · have q1 : ¬ nI Ln - Int32.ofInt 5 < nI i := of_decide_eq_false q
    rw [Int32.lt_iff_toInt_lt, Int32.toInt_sub, nI_toInt (by omega), nI_toInt (by omega), show (Int32.ofInt 5).toInt = 5 by decide, ab_bm (by unfold ai_lo; omega) (by unfold ai_hi; omega)] at q1
    exact k1 (by omega)
def lc_T : List Nat := [224, 249, 274, 287, 300, 313, 353, 405, 445, 494, 555, 592, 617, 666, 703, 716, 729, 766, 791, 828, 865, 890, 903, 940, 1001, 1050, 1075, 1112, 1137, 1150, 1163, 1176, 1189, 1226, 1239, 1252, 1265, 1278, 1303, 1340, 1365, 1390, 1415]
def lc_Tb : Bool := match pm_ins PT 1000 39 with
  | some (.tableswitch d lo hi offs, _) => (decide (lo = 0) && (decide (hi = 42) && decide (pm_tgt 39 d = some 1443))) && (List.range 43).all (fun o => match offs[o]?, lc_T[o]? with
    | some off, some t => decide (pm_tgt 39 off = some t)
    | _, _ => false)
  | _ => false
theorem lc_Tok : lc_Tb = true := by decide +kernel
theorem lc_switch (H : lc_Cl sz sl bS Ln xs P) {o t : Nat} (ho : o < 43) (ht : lc_T[o]? = some t) (kk : P (t, L, S, h, sz, sl)) : P (39, L, .int (nI o) :: S, h, sz, sl) := by
  have hb := lc_Tok
  unfold lc_Tb at hb
  split at hb
  · rename_i d lo hi offs len e
    simp only [Bool.and_eq_true] at hb
    obtain ⟨⟨b1, b2, b3⟩, b4⟩ := hb
    have e1 : lo = 0 := of_decide_eq_true b1
    have e2 : hi = 42 := of_decide_eq_true b2
    subst e1 e2
    have b5 := List.all_eq_true.mp b4 o (List.mem_range.mpr ho)
    rw [ht] at b5
    refine H.1 _ _ _ _ _ _ _ _ ((ls_of e rfl rfl).trans ?_) kk
    unfold pm_simple
    dsimp only
    rw [nI_toInt (by omega), if_neg (by omega), show ((o : Int) - 0).toNat = o by omega]
    split at b5
    · rename_i off t' e3 e4
      cases e4
      have e5 : pm_tgt 39 off = some t := of_decide_eq_true b5
      rw [e3]
      dsimp only
      unfold pm_jp
      rw [e5]
    · cases b5
  · cases hb
theorem lc_default (H : lc_Cl sz sl bS Ln xs P) {o : Nat} (ho : 43 ≤ o) (ho2 : o < 2 ^ 31) (kk : P (1443, L, S, h, sz, sl)) : P (39, L, .int (nI o) :: S, h, sz, sl) := by
  have hb := lc_Tok
  unfold lc_Tb at hb
  split at hb
  · rename_i d lo hi offs len e
    simp only [Bool.and_eq_true] at hb
    obtain ⟨⟨b1, b2, b3⟩, b4⟩ := hb
    have e1 : lo = 0 := of_decide_eq_true b1
    have e2 : hi = 42 := of_decide_eq_true b2
    have e5 : pm_tgt 39 d = some 1443 := of_decide_eq_true b3
    subst e1 e2
    refine H.1 _ _ _ _ _ _ _ _ ((ls_of e rfl rfl).trans ?_) kk
    unfold pm_simple
    dsimp only
    rw [nI_toInt ho2, if_pos (by omega)]
    unfold pm_jp
    rw [e5]
  · cases hb
theorem lc_and (x : Int32) : ∃ o : Nat, o < 64 ∧ x &&& (Int8.ofInt 63).toInt32 = nI o := by
  have h1 := ag_and_ok (0, ai_lo, ai_hi) (0, 63, 63) (0, 0, 63) x ((Int8.ofInt 63).toInt32) (by decide) (ai_rng x).1 (ai_rng x).2 (by decide) (by decide)
  obtain ⟨y, e, y1, y2⟩ := av_int (a := (0, 0, 63)) rfl h1
  cases e
  dsimp only at y1 y2
  obtain ⟨j, hj, e1, e2⟩ := ab_nn y1 (Int.le_refl 0)
  refine ⟨j, ?_, e1⟩
  omega
/-- from the head into the switch -/
theorem lc_enter (H : lc_Cl sz sl bS Ln xs P) (hL : lc_L bS i L) (hi : i + 5 ≤ Ln) (kk : ∀ o : Nat, o < 64 → P (39, L, [.int (nI o)], h, sz, sl)) : P (32, L, [], h, sz, sl) := by
  obtain ⟨l0, l1, l2, l3, l4, l5⟩ := hL
  refine lc_ald H (a := 0) rfl l0 rfl ?_
  refine lc_ild H rfl l4 ?_
  refine H.2.2.1 _ _ _ _ _ (by omega) rfl ?_
  refine lc_i H rfl rfl rfl rfl ?_
  obtain ⟨o, ho, e⟩ := lc_and (xs i)
  refine lc_i H (L' := L) (S' := [.int (xs i &&& (Int8.ofInt 63).toInt32)]) (h' := h) (pc' := 39) rfl rfl rfl rfl ?_
  rw [e]
  exact kk o ho
/-- the tail: i += 5, and to the head -/
theorem lc_tail (H : lc_Cl sz sl bS Ln xs P) (hL : lc_L bS i L) (kk : ∀ L', lc_L bS (i + 5) L' → P (23, L', [], h, sz, sl)) : P (1443, L, [], h, sz, sl) := by
  have hL0 := hL
  obtain ⟨l0, l1, l2, l3, l4, l5⟩ := hL
  have e : nI i + Int32.ofInt 5 = nI (i + 5) := by rw [← nI_add]; rfl
  refine H.1 _ _ _ _ 1446 (pm_st1 L 4 (.int (nI i + Int32.ofInt 5))) [] h ((ls_of (ins := .iinc 4 5) (len := 3) rfl rfl rfl).trans ?_) ?_
  · unfold pm_simple
    dsimp only
    rw [l4]
    dsimp only
    rw [if_pos (show 4 < pm_max PT 1000 from Nat.le_of_ble_eq_true rfl)]
  refine lc_i H rfl rfl rfl rfl ?_
  rw [e]
  exact kk _ ⟨gs_other (by omega) l0 rfl, gs_other (by omega) l1 rfl, gs_other (by omega) l2 rfl, gs_other (by omega) l3 rfl, gs_same (by omega), gs_len.trans l5⟩
/-- what follows a wrapper: the reference answers, and both are put away -/
def lc_aft (q n km : Nat) (lng : Bool) (pe : Nat) : Bool := (match pm_ins PT 1000 q with
  | some (.istore 5, 2) => true
  | _ => false) && (lc_al (q + 2) 2 && (lc_args (q + 3) n 1 && (lc_iv (q + 3 + 6 * n) km n 11 && ((match pm_ins PT 1000 (q + 6 + 6 * n) with
  | some (.istore 6, 2) => !lng
  | some (.lstore 6, 2) => lng
  | _ => false) && lc_go (q + 8 + 6 * n) pe))))
theorem lc_aft_ok (H : lc_Cl sz sl bS Ln xs P) {q n km pe : Nat} {lng : Bool} {v : Int32} (hc : lc_aft q n km lng pe = true) (hL : lc_L bS i L) (hb : i + 1 + n ≤ Ln) (hz : 162 < sz) {f2 : List Value} (o2 : h 162 = .inr (11, f2))
    (hm : pm_WP PT 2047 (84000 - (19 + pm_max PT km)) km (0, pm_l0 (.ref 162 :: (lc_vals xs i n 1).map Value.int) (pm_max PT km), [], h, sz, sl) (fun x => (cond lng (∃ v, x.1 = some (.long v)) (∃ v, x.1 = some (.int v))) ∧ x.2.2 = (sz, sl) ∧ ∀ L' : pm_L, lc_L bS i L' → P (pe, L', [], x.2))) : P (q, L, [.int v], h, sz, sl) := by
  unfold lc_aft at hc
  simp only [Bool.and_eq_true] at hc
  obtain ⟨c1, c2, c3, c4, c5, c6⟩ := hc
  have hlen := hL.2.2.2.2.2
  split at c1
  · rename_i e1
    have hmx : pm_max PT 1000 = 8 := rfl
    refine H.1 _ _ _ _ (q + 2) (pm_st1 L 5 (.int v)) [] h ((ls_of e1 rfl rfl).trans ?_) ?_
    · show pm_so 0 2 (pm_max PT 1000) q 5 L [.int v] h sz sl = _
      unfold pm_so
      dsimp only
      rw [hmx, if_pos ⟨rfl, by omega⟩]
    have hL1 : lc_L bS i (pm_st1 L 5 (.int v)) := hL.st1 (by omega)
    revert hL1
    generalize pm_st1 L 5 (Value.int v) = L1
    intro hL1
    have hlen1 := hL1.2.2.2.2.2
    obtain ⟨l0, l1, l2, l3, l4, l5⟩ := id hL1
    refine lc_al_ok H c2 l2 rfl ?_
    rw [show q + 2 + 1 = q + 3 by omega]
    refine lc_args_ok H l0 l4 n 1 _ _ c3 hb ?_
    refine lc_iv_ok H c4 o2 hz (lc_vals_len xs i n 1) (by decide) (wp_mono hm ?_)
    rintro ⟨rv, h1, sz1, sl1⟩ ⟨hv, q1, q2⟩
    dsimp only at hv q1 q2
    cases q1
    refine ⟨rfl, ?_⟩
    rw [show q + 3 + 6 * n + 3 = q + 6 + 6 * n by omega]
    split at c5
    · rename_i e5
      cases lng with
      | true => cases c5
      | false =>
        obtain ⟨w, hv⟩ := hv
        subst hv
        refine H.1 _ _ _ _ (q + 6 + 6 * n + 2) (pm_st1 L1 6 (.int w)) [] h1 ((ls_of e5 rfl rfl).trans ?_) ?_
        · show pm_so 0 2 (pm_max PT 1000) (q + 6 + 6 * n) 6 L1 [.int w] h1 sz sl = _
          unfold pm_so
          dsimp only
          rw [hmx, if_pos ⟨rfl, by omega⟩]
        rw [show q + 6 + 6 * n + 2 = q + 8 + 6 * n by omega]
        exact lc_go_ok H c6 (q2 _ (hL1.st1 (by omega)))
    · rename_i e5
      cases lng with
      | false => cases c5
      | true =>
        obtain ⟨w, hv⟩ := hv
        subst hv
        refine H.1 _ _ _ _ (q + 6 + 6 * n + 2) (pm_st2 L1 6 (.long w)) [] h1 ((ls_of e5 rfl rfl).trans ?_) ?_
        · show pm_sL 2 (pm_max PT 1000) (q + 6 + 6 * n) 6 L1 [.long w] h1 sz sl = _
          unfold pm_sL
          dsimp only
          rw [hmx, if_pos (by omega)]
        rw [show q + 6 + 6 * n + 2 = q + 8 + 6 * n by omega]
        exact lc_go_ok H c6 (q2 _ (hL1.st2 (by omega)))
    · cases c5
  · cases c1
end LLP
end MG90wrapcallx4
section MG90wrapcallx5
/-! one turn of the law: two calls keep what must be kept -/
section RND
variable {P : pm_St → Prop} {sl bS Ln i pc : Nat} {xs : Nat → Int32} {L : pm_L} {h : pm_H}
theorem rxQ_hi {h h' : pm_H} (q : ∀ i, 162 ≤ i → i ≠ 197 → h' i = h i) (p : rxQ h) : rxQ h' := by
  have m : ∀ g v, mF h g v → mF h' g v := fun g v ⟨fs, e, e1⟩ => ⟨fs, by rw [q 162 (by decide) (by decide)]; exact e, e1⟩
  obtain ⟨⟨n, dn, f, a1, a2, a3⟩, ⟨c, g, b1, b2, b3⟩, ⟨f1, r1, r2⟩, f2, r3, r4⟩ := p
  exact ⟨⟨n, dn, f, m _ _ a1, (q 174 (by decide) (by decide)).trans a2, a3⟩, ⟨c, g, m _ _ b1, m _ _ b2, b3⟩, ⟨f1, (q 178 (by decide) (by decide)).trans r1, r2⟩, f2, (q 196 (by decide) (by decide)).trans r3, r4⟩
theorem twX_inv {h h1 : pm_H} (hI : mInv h) (q : twX h h1) : mInv h1 := ⟨q.2, rxQ_hi (fun i _ z => q.1 i z) hI.2⟩
theorem cx_inv {h h1 : pm_H} (hI : mInv h) (q : fm cxF h h1) (hh : ah_ok bB 198 [] h1) : mInv h1 := ⟨hh, rxQ_hi (fun i hi _ => q.1 i (Nat.ble_eq_true_of_le hi)) hI.2⟩
theorem ty_0 (hh : ah_ok bB 198 [] h) : ∃ fs, h 0 = .inr (10, fs) := by
  have h0 : ac_ok (h 0) (bB 0) := hh 0 (by decide)
  have hb : ∃ as, bB 0 = .inr (10, as) := ⟨_, rfl⟩
  obtain ⟨as, hb⟩ := hb
  rw [hb] at h0
  cases e : h 0 with
  | inr q => obtain ⟨ci, fs⟩ := q; rw [e] at h0; obtain ⟨⟨rfl, -⟩, -⟩ := h0; exact ⟨fs, rfl⟩
  | inl q =>
    rw [e] at h0
    obtain ⟨kd, m, f | f | f | f | f⟩ := q
    · exact absurd h0.1 (by omega)
    · exact h0.elim
    · exact h0.elim
    · exact h0.elim
    · exact h0.elim
theorem ty_162 (hh : ah_ok bB 198 [] h) : ∃ fs, h 162 = .inr (11, fs) := by
  obtain ⟨v, ⟨fs, e, -⟩, -⟩ := ty_fld hh (g := 0) rfl
  exact ⟨fs, e⟩
theorem as_top : ∀ vs : List Int32, as_ok (vs.map Value.int) (List.replicate vs.length ai_top)
  | [] => trivial
  | v :: vs => ⟨ai_top_ok v, as_top vs⟩
def cx_int (c : con) (n : Nat) : Bool := decide (c.2.1 = (2, 0, 1) :: List.replicate n ai_top) && (decide (c.2.2.1 = []) && (c.2.2.2.1.all (fun a => match a with
  | some b => Nat.beq b.1 0
  | none => false) && (decide (c.2.2.2.2.1 = []) && (Nat.ble c.2.2.2.2.2.1 2047 && (Nat.ble c.2.2.2.2.2.2.1 60000 && (!c.2.2.2.2.2.2.2 && Nat.ble (pm_max PT c.1) 1000))))))
end RND
end MG90wrapcallx5
section MG90wrapcallx6
/-! runs, told backwards: further steps -/
section RNB
variable {n fr lo sl k pc j f t a c : Nat} {h : pm_H} {L : pm_L} {r : List Value} {R : pm_Rs}
theorem rn_if {cc : Jvm.ClassFile.Cond} {off : Int} {x : Int32} (hi : pm_ins PT k pc = some (.ifCond cc off, 3)) (ht : pm_tgt pc off = some t) (hh : pm_run PT n fr lo k (pc, L, .int x :: r, h, 198, sl) = some R) : ∃ m, pm_run PT m fr lo k (cond (pm_cmp cc x 0) t (pc + 3), L, r, h, 198, sl) = some R := by
  refine rn_i hi rfl rfl ?_ hh
  show pm_br (pm_cmp cc x 0) pc off L r h 198 sl = _
  unfold pm_br
  rw [ht]
  cases pm_cmp cc x 0 <;> rfl
theorem rn_icmp {cc : Jvm.ClassFile.Cond} {off : Int} {x y : Int32} (hi : pm_ins PT k pc = some (.if_icmp cc off, 3)) (ht : pm_tgt pc off = some t) (hh : pm_run PT n fr lo k (pc, L, .int y :: .int x :: r, h, 198, sl) = some R) : ∃ m, pm_run PT m fr lo k (cond (pm_cmp cc x y) t (pc + 3), L, r, h, 198, sl) = some R := by
  refine rn_i hi rfl rfl ?_ hh
  show pm_br (pm_cmp cc x y) pc off L r h 198 sl = _
  unfold pm_br
  rw [ht]
  cases pm_cmp cc x y <;> rfl
theorem rn_iam {m : Nat} {i : Int32} {g : Nat → Int32} (hi : pm_ins PT k pc = some (.iaload, 1)) (ha : h a = .inl (0, m, .inl g)) (hin : pm_in i m = true) (hl : a < 198) (hh : pm_run PT n fr lo k (pc, L, .int i :: .ref a :: r, h, 198, sl) = some R) : ∃ q, pm_run PT q fr lo k (pc + 1, L, .int (g i.toNatClampNeg) :: r, h, 198, sl) = some R := by
  refine rn_i hi rfl rfl ?_ hh
  show pm_ia PT .int pc L (.int i :: .ref a :: r) h 198 sl = _
  unfold pm_ia
  dsimp only
  rw [pm_iar_m ha hl]
  dsimp only
  rw [if_pos hin]
theorem rn_ism {m : Nat} {i x : Int32} {g : Nat → Int32} (hi : pm_ins PT k pc = some (.iastore, 1)) (ha : h a = .inl (0, m, .inl g)) (hin : pm_in i m = true) (hl : a < 198) (hh : pm_run PT n fr lo k (pc, L, .int x :: .int i :: .ref a :: r, h, 198, sl) = some R) : ∃ q, pm_run PT q fr lo k (pc + 1, L, r, aset h a m (upd g i.toNatClampNeg x), 198, sl) = some R := by
  refine rn_i hi rfl rfl ?_ hh
  show pm_iS PT .int (fun x => x) pc L (.int x :: .int i :: .ref a :: r) h 198 sl = _
  unfold pm_iS
  dsimp only
  rw [pm_iar_m ha hl]
  dsimp only
  rw [if_pos hin]
  rfl
theorem rn_cam {m : Nat} {i : Int32} {g : Nat → Int32} (hi : pm_ins PT k pc = some (.caload, 1)) (ha : h a = .inl (1, m, .inl g)) (hin : pm_in i m = true) (hl : a < 198) (hh : pm_run PT n fr lo k (pc, L, .int i :: .ref a :: r, h, 198, sl) = some R) : ∃ q, pm_run PT q fr lo k (pc + 1, L, .int (g i.toNatClampNeg) :: r, h, 198, sl) = some R := by
  refine rn_i hi rfl rfl ?_ hh
  show pm_ia PT .char pc L (.int i :: .ref a :: r) h 198 sl = _
  unfold pm_ia
  dsimp only
  have e : pm_iar PT .char h 198 a = some (1, m, g) := by
    unfold pm_iar
    rw [if_pos hl, ha]
    exact if_pos rfl
  rw [e]
  dsimp only
  rw [if_pos hin]
theorem rn_ret {v : Int32} (hi : pm_ins PT k pc = some (.ireturn, 1)) (hr : pm_ret PT k = some .int ∨ pm_ret PT k = some .boolean) (hh : pm_run PT n fr lo k (pc, L, .int v :: r, h, 198, sl) = some R) : r = [] ∧ R = (some (.int v), h, 198, sl) := by
  cases n with
  | zero => cases hh
  | succ n =>
    unfold pm_run at hh
    split at hh
    · rename_i r' e1
      cases hh
      unfold pm_end at e1
      dsimp only at e1
      rw [hi] at e1
      dsimp only at e1
      split at e1
      · split at e1
        · rename_i rv er
          cases e1
          unfold pm_rets at er
          split at er
          · cases ‹Instr.ireturn = _›
          · rename_i v' hS
            cases hS
            refine ⟨rfl, ?_⟩
            rcases hr with hr | hr
            · rw [hr] at er
              cases er
              rfl
            · rw [hr] at er
              dsimp only at er
              split at er
              · cases er
                rfl
              · cases er
          · cases ‹Instr.ireturn = _›
          · cases er
        · cases e1
      · cases e1
    · rename_i e0
      split at hh
      · rename_i st' e2
        exfalso
        unfold pm_step at e2
        dsimp only at e2
        rw [hi] at e2
        dsimp only at e2
        split at e2
        · cases e2
        · cases e2
      · cases hh
end RNB
end MG90wrapcallx6
section MG90wrapcallx7
/-! a field known more closely than by its type -/
section OVR
variable {h : pm_H}
theorem ovf_out {a ci f : Nat} {as : List av} {x y : av} (hh : ah_ok bB 198 [(a, .inr (ci, as.set f x))] h) (ha : a < 198) (hlt : ci < 1000) (hb : bB a = .inr (ci, as)) (hy : as[f]? = some y) (hle : av_le x y = true) : ah_ok bB 198 [] h ∧ ∃ fs v, h a = .inr (ci, fs) ∧ fs[f]? = some v ∧ av_ok v x := by
  have hl : f < as.length := (List.getElem?_eq_some_iff.mp hy).1
  have e0 : ah_get bB [(a, .inr (ci, as.set f x))] a = .inr (ci, as.set f x) := by
    unfold ah_get pm_fd
    rw [Nat.beq_refl]
    rfl
  have h0 := hh a ha
  rw [e0] at h0
  obtain ⟨fs, ef, hlen, hg⟩ := aE_obj h0 hlt
  rw [List.length_set] at hlen
  have hlf : f < fs.length := by omega
  have ev : fs[f]? = some fs[f] := List.getElem?_eq_getElem hlf
  have hv := hg f _ x ev (List.getElem?_set_self hl)
  refine ⟨fun i hi => ?_, fs, fs[f], ef, ev, hv⟩
  by_cases z : i = a
  · subst z
    rw [show ah_get bB [] i = bB i from rfl, hb, ef]
    refine ⟨⟨rfl, hlt⟩, hlen, fun j w u hw hu => ?_⟩
    by_cases zj : f = j
    · subst zj
      rw [hy] at hu
      cases hu
      rw [ev] at hw
      cases hw
      exact av_le_ok hle hv
    · exact hg j w u hw (by rw [List.getElem?_set_ne zj]; exact hu)
  · have h1 := hh i hi
    have e1 : ah_get bB [(a, .inr (ci, as.set f x))] i = bB i := by
      unfold ah_get pm_fd
      rw [nb_ne (fun e => z e.symm)]
      rfl
    rw [e1] at h1
    exact h1
def asM : List av := match bB 162 with
  | .inr (_, as) => as
  | _ => []
theorem asM_eq : bB 162 = .inr (11, asM) := rfl
end OVR
end MG90wrapcallx7
end MH89throwsx1
section MH89throwsx2
/-! THE TEXT is empty behind courts, gifts, rule, year, law of the reference -/
section ZTX
variable {n fr lo sl k pc j f t : Nat} {h : pm_H} {L : pm_L} {r : List Value} {R : pm_Rs}
/-- the fields of which the relation speaks: Text.length, taped -/
def sP (ci f : Nat) : Bool := (Nat.beq ci 8 && Nat.beq f 1) || ((Nat.beq ci 11 && Nat.beq f 15) || (Nat.beq ci 10 && Nat.beq f 0))
def sX : List Nat := [0, 6, 15, 22, 45, 52, 57, 72, 78, 79, 82, 85, 86, 87, 88, 89, 90, 91, 92, 93, 100, 122, 128, 161, 178, 179, 180, 188, 192, 196, 198, 228, 258]
def sfK : Nat → Bool := sf_X sX
theorem sfK_all : ((List.range 271).filter (fun k => !(sX.any (fun x => Nat.beq x k)))).all (sf_b sP sfK) = true := by decide +kernel
theorem sfK_ok : sf_ok sP sfK := sf_of sf_X_in sfK_all
theorem rn_gfm {v : Value} (hi : pm_ins PT k pc = some (.getfield j, 3)) (hf : pm_fld PT (pm_o PT k) j = some (11, f, t)) (hm : mF h f v) (hh : pm_run PT n fr lo k (pc, L, .ref 162 :: r, h, 198, sl) = some R) : ∃ m, pm_run PT m fr lo k (pc + 3, L, v :: r, h, 198, sl) = some R := by
  obtain ⟨fs, e, e1⟩ := hm
  refine rn_i hi rfl rfl ?_ hh
  show pm_gf PT k j pc L (.ref 162 :: r) h 198 sl = _
  unfold pm_gf pm_obj
  dsimp only
  rw [if_pos (by decide), e]
  dsimp only
  rw [hf]
  dsimp only
  rw [if_pos rfl, e1]
theorem rn_pfm {v w : Value} (hi : pm_ins PT k pc = some (.putfield j, 3)) (hf : pm_fld PT (pm_o PT k) j = some (11, f, t)) (ht : pm_fits (t % 10) v = true) (ht2 : t < 10) (hm : mF h f w) (hh : pm_run PT n fr lo k (pc, L, v :: .ref 162 :: r, h, 198, sl) = some R) : ∃ m, pm_run PT m fr lo k (pc + 3, L, r, mset h f v, 198, sl) = some R := by
  obtain ⟨fs, e, e1⟩ := hm
  rw [mset_of e]
  refine rn_i hi rfl rfl ?_ hh
  show pm_pf PT k j pc L (v :: .ref 162 :: r) h 198 sl = _
  unfold pm_pf pm_obj
  dsimp only
  rw [if_pos (by decide), e]
  dsimp only
  rw [hf]
  dsimp only
  rw [if_pos ⟨rfl, (List.getElem?_eq_some_iff.mp e1).1, ht, Or.inl ht2⟩]
def zT (h : pm_H) : Prop := mF h 15 (.int 0)
theorem z_of {h' : pm_H} (q : fm (sfF sP) h h') (z : zT h) : zT h' := fm_mF q rfl z
theorem zr_180 : sfr_ok sP sfK 180 10 := sfr_of (by decide +kernel)
theorem z_begins {x y : Int32} (h15 : mF h 15 (.int x)) (hh : pm_run PT n fr lo 180 (0, pm_l0 [.ref 162, .int y] 3, [], h, 198, sl) = some R) : zT R.2.1 := by
  obtain ⟨n, hh⟩ := rn_i rfl rfl rfl rfl hh
  obtain ⟨n, hh⟩ := rn_gfm rfl rfl h15 hh
  obtain ⟨n, hh⟩ := rn_i rfl rfl rfl rfl hh
  obtain ⟨n, hh⟩ := rn_i rfl rfl rfl rfl hh
  obtain ⟨n, hh⟩ := rn_i rfl rfl rfl rfl hh
  obtain ⟨n, hh⟩ := rn_pfm (w := .int x) rfl rfl rfl (by decide) h15 hh
  exact z_of (sfr_run sfK_ok zr_180 n fr lo _ R (Nat.le_of_ble_eq_true rfl) hh) (mF_self h15)
theorem zr_188 : sfr_ok sP sfK 188 11 := sfr_of (by decide +kernel)
theorem zr_192 : sfr_ok sP sfK 192 11 := sfr_of (by decide +kernel)
theorem zr_228 : sfr_ok sP sfK 228 11 := sfr_of (by decide +kernel)
theorem zr_196 : sfr_ok sP sfK 196 6 := sfr_of (by decide +kernel)
theorem zr_198 : sfr_ok sP sfK 198 9 := sfr_of (by decide +kernel)
theorem zr_258 : sfr_ok sP sfK 258 9 := sfr_of (by decide +kernel)
theorem z_readsRule {x : Int32} (h15 : mF h 15 (.int x)) (hh : pm_run PT n fr lo 196 (0, pm_l0 [.ref 162] 3, [], h, 198, sl) = some R) : zT R.2.1 := by
  obtain ⟨n, hh⟩ := rn_i rfl rfl rfl rfl hh
  obtain ⟨n, hh⟩ := rn_i rfl rfl rfl rfl hh
  obtain ⟨n, fr', lo', r1, h1, hh⟩ := rn_call (w := 0) (t := 180) rfl rfl hh
  exact z_of (sfr_run sfK_ok zr_196 n fr lo _ R (Nat.le_of_ble_eq_true rfl) hh) (z_begins (y := (Int8.ofInt 40).toInt32) h15 h1)
theorem z_courts {x w : Int32} (h0 : mF h 0 (.int w)) (h15 : mF h 15 (.int x)) (hh : pm_run PT n fr lo 188 (0, pm_l0 [.ref 162] 7, [], h, 198, sl) = some R) : zT R.2.1 := by
  obtain ⟨n, hh⟩ := rn_i rfl rfl rfl rfl hh
  obtain ⟨n, hh⟩ := rn_i rfl rfl rfl rfl hh
  obtain ⟨n, hh⟩ := rn_pfm (w := .int w) rfl rfl rfl (by decide) h0 hh
  obtain ⟨n, hh⟩ := rn_i rfl rfl rfl rfl hh
  obtain ⟨n, hh⟩ := rn_i rfl rfl rfl rfl hh
  obtain ⟨n, fr', lo', r1, h1, hh⟩ := rn_call (w := 0) (t := 180) rfl rfl hh
  exact z_of (sfr_run sfK_ok zr_188 n fr lo _ R (Nat.le_of_ble_eq_true rfl) hh) (z_begins (y := (Int8.ofInt 41).toInt32) (mF_ne (by decide) h15) h1)
theorem z_gifts {x w : Int32} (h0 : mF h 0 (.int w)) (h15 : mF h 15 (.int x)) (hh : pm_run PT n fr lo 192 (0, pm_l0 [.ref 162] 6, [], h, 198, sl) = some R) : zT R.2.1 := by
  obtain ⟨n, hh⟩ := rn_i rfl rfl rfl rfl hh
  obtain ⟨n, hh⟩ := rn_i rfl rfl rfl rfl hh
  obtain ⟨n, hh⟩ := rn_pfm (w := .int w) rfl rfl rfl (by decide) h0 hh
  obtain ⟨n, hh⟩ := rn_i rfl rfl rfl rfl hh
  obtain ⟨n, hh⟩ := rn_i rfl rfl rfl rfl hh
  obtain ⟨n, fr', lo', r1, h1, hh⟩ := rn_call (w := 0) (t := 180) rfl rfl hh
  exact z_of (sfr_run sfK_ok zr_192 n fr lo _ R (Nat.le_of_ble_eq_true rfl) hh) (z_begins (y := (Int8.ofInt 55).toInt32) (mF_ne (by decide) h15) h1)
theorem z_year {x w : Int32} (h0 : mF h 0 (.int w)) (h15 : mF h 15 (.int x)) (hh : pm_run PT n fr lo 228 (0, pm_l0 [.ref 162] 5, [], h, 198, sl) = some R) : zT R.2.1 := by
  obtain ⟨n, hh⟩ := rn_i rfl rfl rfl rfl hh
  obtain ⟨n, hh⟩ := rn_i rfl rfl rfl rfl hh
  obtain ⟨n, hh⟩ := rn_pfm (w := .int w) rfl rfl rfl (by decide) h0 hh
  obtain ⟨n, hh⟩ := rn_i rfl rfl rfl rfl hh
  obtain ⟨n, hh⟩ := rn_i rfl rfl rfl rfl hh
  obtain ⟨n, fr', lo', r1, h1, hh⟩ := rn_call (w := 0) (t := 180) rfl rfl hh
  exact z_of (sfr_run sfK_ok zr_228 n fr lo _ R (Nat.le_of_ble_eq_true rfl) hh) (z_begins (y := (Int8.ofInt 60).toInt32) (mF_ne (by decide) h15) h1)
theorem z_rule {x w : Int32} (h0 : mF h 0 (.int w)) (h15 : mF h 15 (.int x)) (hh : pm_run PT n fr lo 198 (0, pm_l0 [.ref 162] 2, [], h, 198, sl) = some R) : zT R.2.1 := by
  obtain ⟨n, hh⟩ := rn_i rfl rfl rfl rfl hh
  obtain ⟨n, hh⟩ := rn_i rfl rfl rfl rfl hh
  obtain ⟨n, hh⟩ := rn_pfm (w := .int w) rfl rfl rfl (by decide) h0 hh
  obtain ⟨n, hh⟩ := rn_i rfl rfl rfl rfl hh
  obtain ⟨n, fr', lo', r1, h1, hh⟩ := rn_call (w := 0) (t := 196) rfl rfl hh
  exact z_of (sfr_run sfK_ok zr_198 n fr lo _ R (Nat.le_of_ble_eq_true rfl) hh) (z_readsRule (mF_ne (by decide) h15) h1)
theorem z_law {x w : Int32} (h0 : mF h 0 (.int w)) (h15 : mF h 15 (.int x)) (hh : pm_run PT n fr lo 258 (0, pm_l0 [.ref 162] 5, [], h, 198, sl) = some R) : zT R.2.1 := by
  obtain ⟨n, hh⟩ := rn_i rfl rfl rfl rfl hh
  obtain ⟨n, hh⟩ := rn_i rfl rfl rfl rfl hh
  obtain ⟨n, hh⟩ := rn_pfm (w := .int w) rfl rfl rfl (by decide) h0 hh
  obtain ⟨n, hh⟩ := rn_i rfl rfl rfl rfl hh
  obtain ⟨n, fr', lo', r1, h1, hh⟩ := rn_call (w := 0) (t := 196) rfl rfl hh
  exact z_of (sfr_run sfK_ok zr_258 n fr lo _ R (Nat.le_of_ble_eq_true rfl) hh) (z_readsRule (mF_ne (by decide) h15) h1)
end ZTX
end MH89throwsx2
section MH89throwsx3
section MG95tzx0
/-! THE TEXT is empty behind courts, gifts, rule, year, law of the class -/
section ZCX
variable {n fr lo sl k pc j f t a ci : Nat} {h : pm_H} {L : pm_L} {r fs : List Value} {R : pm_Rs} {Q : pm_Rs → Prop}
def asT : List av := match bB 1 with
  | .inr (_, as) => as
  | _ => []
theorem asT_eq : bB 1 = .inr (8, asT) := rfl
theorem asT_1 : asT[1]? = some (0, 0, 80) := by decide +kernel
def zO : ah := [(1, .inr (8, asT.set 1 (0, 0, 0)))]
theorem gf_eq {v : Value} (hf : pm_fld PT (pm_o PT k) j = some (ci, f, t)) (ha : a < 198) (e : h a = .inr (ci, fs)) (e1 : fs[f]? = some v) : pm_simple PT fr lo k (.getfield j) pc L (.ref a :: r) h 198 sl = some (pc + 3, L, v :: r, h, 198, sl) := by
  show pm_gf PT k j pc L (.ref a :: r) h 198 sl = _
  unfold pm_gf pm_obj
  dsimp only
  rw [if_pos ha, e]
  dsimp only
  rw [hf]
  dsimp only
  rw [if_pos rfl, e1]
theorem pf_eq {v w : Value} (hf : pm_fld PT (pm_o PT k) j = some (ci, f, t)) (ht : pm_fits (t % 10) v = true) (ht2 : t < 10) (ha : a < 198) (e : h a = .inr (ci, fs)) (e1 : fs[f]? = some w) : pm_simple PT fr lo k (.putfield j) pc L (v :: .ref a :: r) h 198 sl = some (pc + 3, L, r, va_up h a (.inr (ci, fs.set f v)), 198, sl) := by
  show pm_pf PT k j pc L (v :: .ref a :: r) h 198 sl = _
  unfold pm_pf pm_obj
  dsimp only
  rw [if_pos ha, e]
  dsimp only
  rw [hf]
  dsimp only
  rw [if_pos ⟨rfl, (List.getElem?_eq_some_iff.mp e1).1, ht, Or.inl ht2⟩]
/-- the class's object has its text; the text's length -/
def x0 (h : pm_H) : Prop := ∃ fs, h 0 = .inr (10, fs) ∧ fs[0]? = some (.ref 1)
def cT (h : pm_H) (v : Value) : Prop := ∃ gs, h 1 = .inr (8, gs) ∧ gs[1]? = some v
theorem cT_fm {h' : pm_H} {v : Value} (q : fm (sfF sP) h h') (z : cT h v) : cT h' v := by
  obtain ⟨gs, e1, e2⟩ := z
  obtain ⟨gs', a1, -, a2⟩ := q.2 1 8 gs e1
  exact ⟨gs', a1, (a2 1 rfl).trans e2⟩
theorem x0_fm {h' : pm_H} (q : fm (sfF sP) h h') (z : x0 h) : x0 h' := by
  obtain ⟨gs, e1, e2⟩ := z
  obtain ⟨gs', a1, -, a2⟩ := q.2 0 10 gs e1
  exact ⟨gs', a1, (a2 0 rfl).trans e2⟩
theorem cT_up {v w : Value} (z : cT h w) : ∃ gs, h 1 = .inr (8, gs) ∧ gs[1]? = some w ∧ cT (va_up h 1 (.inr (8, gs.set 1 v))) v := by
  obtain ⟨gs, e1, e2⟩ := z
  refine ⟨gs, e1, e2, gs.set 1 v, by simp [va_up], ?_⟩
  rw [List.getElem?_set_self (List.getElem?_eq_some_iff.mp e2).1]
theorem zr_88 : sfr_ok sP sfK 88 13 := sfr_of (by decide +kernel)
theorem zr_89 : sfr_ok sP sfK 89 13 := sfr_of (by decide +kernel)
theorem zr_90 : sfr_ok sP sfK 90 16 := sfr_of (by decide +kernel)
theorem zr_122 : sfr_ok sP sfK 122 16 := sfr_of (by decide +kernel)
theorem zx_courts {w : Value} (h0 : x0 h) (h1 : cT h w) (hh : pm_run PT n fr lo 88 (0, pm_l0 [.ref 0] 3, [], h, 198, sl) = some R) : cT R.2.1 (.int 0) := by
  obtain ⟨n, hh⟩ := rn_i rfl rfl rfl rfl hh
  obtain ⟨n, fr', lo', r1, hr1, hh⟩ := rn_call (w := 0) (t := 129) rfl rfl hh
  have q := sf_run sfK_ok _ _ _ 129 _ r1 rfl hr1
  obtain ⟨v, ev⟩ := pm_run_ty _ _ _ _ _ _ (Or.inl rfl) hr1
  obtain ⟨rv, hp, sz1, sl1⟩ := r1
  dsimp only at ev q hh
  subst ev
  have hsz := sz_run sfK_ok _ _ _ _ _ _ rfl hr1
  dsimp only at hsz
  cases hsz
  obtain ⟨fs, e0, e0'⟩ := x0_fm q h0
  obtain ⟨gs, g1, g2, g3⟩ := cT_up (v := .int (Int32.ofInt 0)) (cT_fm q h1)
  obtain ⟨n, hh⟩ := rn_i rfl rfl rfl rfl hh
  obtain ⟨n, hh⟩ := rn_i rfl rfl rfl rfl hh
  obtain ⟨n, hh⟩ := rn_i rfl rfl rfl (gf_eq (f := 0) rfl (by decide) e0 e0') hh
  obtain ⟨n, hh⟩ := rn_i rfl rfl rfl rfl hh
  obtain ⟨n, hh⟩ := rn_i rfl rfl rfl (pf_eq (f := 1) rfl rfl (by decide) (by decide) g1 g2) hh
  exact cT_fm (sfr_run sfK_ok zr_88 n fr lo _ R (Nat.le_of_ble_eq_true rfl) hh) g3
theorem zx_gifts {w : Value} (h0 : x0 h) (h1 : cT h w) (hh : pm_run PT n fr lo 89 (0, pm_l0 [.ref 0] 2, [], h, 198, sl) = some R) : cT R.2.1 (.int 0) := by
  obtain ⟨n, hh⟩ := rn_i rfl rfl rfl rfl hh
  obtain ⟨n, fr', lo', r1, hr1, hh⟩ := rn_call (w := 0) (t := 130) rfl rfl hh
  have q := sf_run sfK_ok _ _ _ 130 _ r1 rfl hr1
  obtain ⟨v, ev⟩ := pm_run_ty _ _ _ _ _ _ (Or.inl rfl) hr1
  obtain ⟨rv, hp, sz1, sl1⟩ := r1
  dsimp only at ev q hh
  subst ev
  have hsz := sz_run sfK_ok _ _ _ _ _ _ rfl hr1
  dsimp only at hsz
  cases hsz
  obtain ⟨fs, e0, e0'⟩ := x0_fm q h0
  obtain ⟨gs, g1, g2, g3⟩ := cT_up (v := .int (Int32.ofInt 0)) (cT_fm q h1)
  obtain ⟨n, hh⟩ := rn_i rfl rfl rfl rfl hh
  obtain ⟨n, hh⟩ := rn_i rfl rfl rfl rfl hh
  obtain ⟨n, hh⟩ := rn_i rfl rfl rfl (gf_eq (f := 0) rfl (by decide) e0 e0') hh
  obtain ⟨n, hh⟩ := rn_i rfl rfl rfl rfl hh
  obtain ⟨n, hh⟩ := rn_i rfl rfl rfl (pf_eq (f := 1) rfl rfl (by decide) (by decide) g1 g2) hh
  exact cT_fm (sfr_run sfK_ok zr_89 n fr lo _ R (Nat.le_of_ble_eq_true rfl) hh) g3
theorem zx_rule {w : Value} (h0 : x0 h) {q : Value} (h9 : ∃ fs, h 0 = .inr (10, fs) ∧ fs[9]? = some q) (h1 : cT h w) (hh : pm_run PT n fr lo 90 (0, pm_l0 [.ref 0] 3, [], h, 198, sl) = some R) : cT R.2.1 (.int 0) := by
  obtain ⟨n, hh⟩ := rn_i rfl rfl rfl rfl hh
  obtain ⟨fs9, e9, e9'⟩ := h9
  obtain ⟨n, hh⟩ := rn_i rfl rfl rfl (gf_eq (f := 9) rfl (by decide) e9 e9') hh
  obtain ⟨n, fr', lo', r1, hr1, hh⟩ := rn_call (w := 0) (t := 58) rfl rfl hh
  have q := sf_run sfK_ok _ _ _ 58 _ r1 rfl hr1
  obtain ⟨v, ev⟩ := pm_run_ty _ _ _ _ _ _ (Or.inl rfl) hr1
  obtain ⟨rv, hp, sz1, sl1⟩ := r1
  dsimp only at ev q hh
  subst ev
  have hsz := sz_run sfK_ok _ _ _ _ _ _ rfl hr1
  dsimp only at hsz
  cases hsz
  obtain ⟨fs, e0, e0'⟩ := x0_fm q h0
  obtain ⟨gs, g1, g2, g3⟩ := cT_up (v := .int (Int32.ofInt 0)) (cT_fm q h1)
  obtain ⟨n, hh⟩ := rn_i rfl rfl rfl rfl hh
  obtain ⟨n, hh⟩ := rn_i rfl rfl rfl rfl hh
  obtain ⟨n, hh⟩ := rn_i rfl rfl rfl (gf_eq (f := 0) rfl (by decide) e0 e0') hh
  obtain ⟨n, hh⟩ := rn_i rfl rfl rfl rfl hh
  obtain ⟨n, hh⟩ := rn_i rfl rfl rfl (pf_eq (f := 1) rfl rfl (by decide) (by decide) g1 g2) hh
  exact cT_fm (sfr_run sfK_ok zr_90 n fr lo _ R (Nat.le_of_ble_eq_true rfl) hh) g3
theorem zx_law {w : Value} (h0 : x0 h) {q : Value} (h9 : ∃ fs, h 0 = .inr (10, fs) ∧ fs[9]? = some q) (h1 : cT h w) (hh : pm_run PT n fr lo 122 (0, pm_l0 [.ref 0] 4, [], h, 198, sl) = some R) : cT R.2.1 (.int 0) := by
  obtain ⟨n, hh⟩ := rn_i rfl rfl rfl rfl hh
  obtain ⟨fs9, e9, e9'⟩ := h9
  obtain ⟨n, hh⟩ := rn_i rfl rfl rfl (gf_eq (f := 9) rfl (by decide) e9 e9') hh
  obtain ⟨n, fr', lo', r1, hr1, hh⟩ := rn_call (w := 0) (t := 58) rfl rfl hh
  have q := sf_run sfK_ok _ _ _ 58 _ r1 rfl hr1
  obtain ⟨v, ev⟩ := pm_run_ty _ _ _ _ _ _ (Or.inl rfl) hr1
  obtain ⟨rv, hp, sz1, sl1⟩ := r1
  dsimp only at ev q hh
  subst ev
  have hsz := sz_run sfK_ok _ _ _ _ _ _ rfl hr1
  dsimp only at hsz
  cases hsz
  obtain ⟨fs, e0, e0'⟩ := x0_fm q h0
  obtain ⟨gs, g1, g2, g3⟩ := cT_up (v := .int (Int32.ofInt 0)) (cT_fm q h1)
  obtain ⟨n, hh⟩ := rn_i rfl rfl rfl rfl hh
  obtain ⟨n, hh⟩ := rn_i rfl rfl rfl rfl hh
  obtain ⟨n, hh⟩ := rn_i rfl rfl rfl (gf_eq (f := 0) rfl (by decide) e0 e0') hh
  obtain ⟨n, hh⟩ := rn_i rfl rfl rfl rfl hh
  obtain ⟨n, hh⟩ := rn_i rfl rfl rfl (pf_eq (f := 1) rfl rfl (by decide) (by decide) g1 g2) hh
  exact cT_fm (sfr_run sfK_ok zr_122 n fr lo _ R (Nat.le_of_ble_eq_true rfl) hh) g3
end ZCX
end MG95tzx0
section MG95tzx1
/-! THE TEXT's length: sign, end, and those that read it -/
section TXR
variable {n fr lo sl k i pc bS Ln : Nat} {h h1 : pm_H} {L : pm_L} {R : pm_Rs} {P : pm_St → Prop} {xs : Nat → Int32} {Q Q' : pm_Rs → Prop} {st : pm_St}
theorem rn_det {r : pm_Rs} (q : pm_WP PT fr lo k st Q) (hh : pm_run PT n fr lo k st = some r) : Q r := by
  obtain ⟨m, r', e, hq⟩ := q
  have a1 := pm_run_le (Nat.le_max_left m n) e
  have a2 := pm_run_le (Nat.le_max_right m n) hh
  rw [a1] at a2
  cases a2
  exact hq
theorem wp_det (q : pm_WP PT fr lo k st Q) (q' : pm_WP PT fr lo k st Q') : pm_WP PT fr lo k st (fun x => Q x ∧ Q' x) := by
  obtain ⟨m, r, e, hq⟩ := q
  exact ⟨m, r, e, hq, rn_det q' e⟩
def zc56 : con := (56, [(2, 3, 1), (1, (-9223372036854775808), 9223372036854775807), (1, (-9223372036854775808), 9223372036854775807)], zO, [none], zO, 10, 800, false)
def zc17 : con := (17, [(2, 25, 1)], zO, [none], zO, 5, 400, false)
theorem zk56 : con_chk (kl bB cxF []) PT bB 198 cxF cxJ cxjo cxP 700 zc56 = true := fq_chk1 (fq_jn_eq _) rfl (by decide +kernel)
theorem zk17 : con_chk (kl bB cxF []) PT bB 198 cxF cxJ cxjo cxP 700 zc17 = true := fq_chk1 (fq_jn_eq _) rfl (by decide +kernel)
theorem zo56 : con_ok PT bB 198 cxF cxQ zc56 := con_chk_ok (fun _ _ h => h) cxpp (kl_ok (fun _ h => by cases h)) nw_class (fun h => by cases h) zk56
theorem zo17 : con_ok PT bB 198 cxF cxQ zc17 := con_chk_ok (fun _ _ h => h) cxpp (kl_ok (fun _ h => by cases h)) nw_class (fun h => by cases h) zk17
def cz_year : con := (100, [(2, 0, 1)], [], [some (0, -2147483648, 2147483647)], zO, 30, 2400, false)
theorem zq_year : con_chkS (kl bB cxF [zc17, zc56, cxt33, cxt35, cxt42, cxt82, cxt97, cxt119, cxt120]) PT bB 198 cxF cxJ cxjo cxP2 [] 3117 cz_year = true := fq_chkS1 (fq_jn_eq _) rfl (by decide +kernel)
theorem zw_year : con_ok PT bB 198 cxF cxQ cz_year := con_chkS_ok (fun _ _ h => h) cxpp (kl_ok (List.forall_mem_cons.mpr ⟨zo17, List.forall_mem_cons.mpr ⟨zo56, List.forall_mem_cons.mpr ⟨cxo33, List.forall_mem_cons.mpr ⟨cxo35, List.forall_mem_cons.mpr ⟨cxo42, List.forall_mem_cons.mpr ⟨cxo82, List.forall_mem_cons.mpr ⟨cxo97, List.forall_mem_cons.mpr ⟨cxo119, List.forall_mem_cons.mpr ⟨cxo120, fun _ h => (by cases h)⟩⟩⟩⟩⟩⟩⟩⟩⟩)) nw_class (fun h => by cases h) zq_year
theorem asM_15 : asM[15]? = some (0, 0, 80) := by decide +kernel
end TXR
end MG95tzx1
section MG95tzx2
/-! THE TEXT's length: end, and what the types tell -/
section TXP
variable {P : pm_St → Prop} {sl bS Ln i pc : Nat} {xs : Nat → Int32} {L : pm_L} {h h1 : pm_H}
/-! end, by hand -/
theorem in_bc (x : Int32) {c : Nat} (hc : c ≤ 80) : in_b x.toInt64 0 (nI c).toInt64 = decide (0 ≤ x.toInt ∧ x.toInt ≤ (c : Int)) := by
  unfold in_b
  have n1 : (0 : Int64).toInt = 0 := by decide
  have n2 : (nI c).toInt64.toInt = (c : Int) := by rw [Int32.toInt_toInt64, nI_toInt (by omega)]
  have e1 : decide (x.toInt64 < 0) = decide (x.toInt < 0) := by
    rw [Bool.eq_iff_iff, decide_eq_true_iff, decide_eq_true_iff, Int64.lt_iff_toInt_lt, Int32.toInt_toInt64, n1]
  have e2 : decide ((nI c).toInt64 < x.toInt64) = decide ((c : Int) < x.toInt) := by
    rw [Bool.eq_iff_iff, decide_eq_true_iff, decide_eq_true_iff, Int64.lt_iff_toInt_lt, n2, Int32.toInt_toInt64]
  rw [e1, e2, Bool.eq_iff_iff, Bool.and_eq_true, decide_eq_true_iff, Bool.not_eq_true', Bool.not_eq_true', decide_eq_false_iff_not, decide_eq_false_iff_not]
  omega
/-- the class's end: what it answers, what the length is then -/
theorem en_x {fr lo : Nat} {fs : List Value} {c : Nat} (hc : c ≤ 80) (h0 : x0 h) (r1 : cT h (.int (nI c))) (y : Int32) : pm_WP PT fr lo 87 (0, pm_l0 [.ref 0, .int y] 2, [], h, 198, sl) (fun q => q.1 = some (.int (cond (decide (0 ≤ y.toInt ∧ y.toInt ≤ (c : Int))) 1 0)) ∧ cT q.2.1 (.int (cond (decide (0 ≤ y.toInt ∧ y.toInt ≤ (c : Int))) y (nI c)))) := by
  have cI : (nI c).toInt = (c : Int) := nI_toInt (by omega)
  have z0 : (0 : Int32).toInt = 0 := by decide
  obtain ⟨f0, e0, e0'⟩ := h0
  obtain ⟨gs, g1, g2, g3⟩ := cT_up (v := .int y) r1
  refine wp_i rfl rfl rfl rfl ?_
  refine wp_if (c := .lt) (off := 14) (t := 15) rfl rfl (fun q => ?_) (fun q => ?_)
  · have q := of_decide_eq_true q
    rw [Int32.lt_iff_toInt_lt, z0] at q
    rw [decide_eq_false (by omega)]
    refine wp_i rfl rfl rfl rfl ?_
    exact wp_zret rfl rfl (Or.inl rfl) ⟨rfl, gs, g1, g2⟩
  · have q := of_decide_eq_false q
    rw [Int32.lt_iff_toInt_lt, z0] at q
    refine wp_i rfl rfl rfl rfl ?_
    refine wp_i rfl rfl rfl rfl ?_
    refine wp_i rfl rfl rfl (gf_eq (f := 0) rfl (by decide) e0 e0') ?_
    refine wp_i rfl rfl rfl (gf_eq (f := 1) rfl (by decide) g1 g2) ?_
    refine wp_icmp (c := .le) (off := 5) (t := 17) rfl rfl (fun q2 => ?_) (fun q2 => ?_)
    · have q2 := of_decide_eq_true q2
      rw [Int32.le_iff_toInt_le, cI] at q2
      rw [decide_eq_true (by omega)]
      refine wp_i rfl rfl rfl rfl ?_
      refine wp_i rfl rfl rfl (gf_eq (f := 0) rfl (by decide) e0 e0') ?_
      refine wp_i rfl rfl rfl rfl ?_
      refine wp_i rfl rfl rfl (pf_eq (f := 1) rfl rfl (by decide) (by decide) g1 g2) ?_
      refine wp_i rfl rfl rfl rfl ?_
      exact wp_zret rfl rfl (Or.inr rfl) ⟨rfl, g3⟩
    · have q2 := of_decide_eq_false q2
      rw [Int32.le_iff_toInt_le, cI] at q2
      rw [decide_eq_false (by omega)]
      refine wp_i rfl rfl rfl rfl ?_
      exact wp_zret rfl rfl (Or.inl rfl) ⟨rfl, gs, g1, g2⟩
theorem en_m {fr lo : Nat} {c : Nat} {w : Int32} (hc : c ≤ 80) (h0 : mF h 0 (.int w)) (r2 : mF h 15 (.int (nI c))) (y : Int32) (hf : 1 ≤ fr) (hl : 100 ≤ lo) : pm_WP PT fr lo 179 (0, pm_l0 [.ref 162, .int y] 2, [], h, 198, sl) (fun q => q.1 = some (.int (cond (decide (0 ≤ y.toInt ∧ y.toInt ≤ (c : Int))) 1 0)) ∧ mF q.2.1 15 (.int (cond (decide (0 ≤ y.toInt ∧ y.toInt ≤ (c : Int))) y (nI c)))) := by
  have r3 : mF (mset h 0 (.int (Int32.ofInt 0))) 15 (.int (nI c)) := mF_ne (by decide) r2
  refine wp_i rfl rfl rfl rfl ?_
  refine wp_i rfl rfl rfl rfl ?_
  refine wp_pfm (w := .int w) rfl rfl rfl (by decide) h0 ?_
  refine wp_i rfl rfl rfl rfl ?_
  refine wp_i rfl rfl rfl rfl ?_
  refine wp_i rfl rfl rfl rfl ?_
  refine wp_i rfl rfl rfl rfl ?_
  refine wp_gfm rfl rfl r3 ?_
  refine wp_i rfl rfl rfl rfl ?_
  refine wp_callS (t := 163) (As := [.long (y).toInt64, .long 0, .long ((nI c)).toInt64]) (rest := []) (mx := 6) rfl rfl rfl rfl (Nat.le_of_ble_eq_true rfl) (Nat.le_of_ble_eq_true rfl) hf (by omega) (wp_mono (hd_in y.toInt64 0 (nI c).toInt64) ?_)
  rintro _ rfl
  rw [in_bc y hc]
  show pm_WP PT fr lo 179 (16, [some (.ref 162), some (.int y)], [.int (cond (decide (0 ≤ y.toInt ∧ y.toInt ≤ (c : Int))) 1 0)], mset h 0 (.int (Int32.ofInt 0)), 198, sl) _
  cases decide (0 ≤ y.toInt ∧ y.toInt ≤ (c : Int)) with
  | true =>
    refine wp_if (c := .ne) (off := 5) (t := 21) rfl rfl (fun q => ?_) (fun q => by cases q)
    refine wp_i rfl rfl rfl rfl ?_
    refine wp_i rfl rfl rfl rfl ?_
    refine wp_pfm (w := .int (nI c)) rfl rfl rfl (by decide) r3 ?_
    refine wp_i rfl rfl rfl rfl ?_
    exact wp_zret rfl rfl (Or.inr rfl) ⟨rfl, mF_self r3⟩
  | false =>
    refine wp_if (c := .ne) (off := 5) (t := 21) rfl rfl (fun q => by cases q) (fun q => ?_)
    refine wp_i rfl rfl rfl rfl ?_
    exact wp_zret rfl rfl (Or.inl rfl) ⟨rfl, r3⟩
def asX0 : List av := match bB 0 with
  | .inr (_, as) => as
  | _ => []
def asM0 : av := asM.getD 0 (0, 0, 0)
theorem ty_x0 (hh : ah_ok bB 198 [] h) : x0 h := by
  have h0 := hh 0 (by decide)
  obtain ⟨fs, ef, hl, hg⟩ := aE_obj (ci := 10) (as := asX0) h0 (by decide)
  have hlf : 0 < fs.length := by rw [hl]; exact Nat.le_of_ble_eq_true rfl
  have ev : fs[0]? = some fs[0] := List.getElem?_eq_getElem hlf
  have hv := hg 0 _ (2, 1, 1) ev rfl
  have hr : fs[0] = .ref 1 := by
    cases e : fs[0] with
    | ref p =>
      rw [e] at hv
      have := hv.2
      rw [show p = 1 from List.mem_singleton.mp this]
    | null => rw [e] at hv; exact absurd (show (2 : Nat) = 3 from hv) (by decide)
    | _ => rw [e] at hv; first | exact hv.elim | (cases hv.1)
  exact ⟨fs, ef, by rw [ev, hr]⟩
theorem ty_x9 (hh : ah_ok bB 198 [] h) : ∃ q fs, h 0 = .inr (10, fs) ∧ fs[9]? = some q := by
  have h0 := hh 0 (by decide)
  obtain ⟨fs, ef, hl, hg⟩ := aE_obj (ci := 10) (as := asX0) h0 (by decide)
  have hlf : 9 < fs.length := by rw [hl]; exact Nat.le_of_ble_eq_true rfl
  exact ⟨fs[9], fs, ef, List.getElem?_eq_getElem hlf⟩
theorem ty_m0 (hh : ah_ok bB 198 [] h) : ∃ w : Int32, mF h 0 (.int w) := by
  obtain ⟨v, m, a⟩ := ob_fld (o := []) hh asM_eq (g := 0) (a := asM0) rfl
  obtain ⟨x, rfl, -⟩ := av_int rfl a
  exact ⟨x, m⟩
theorem ty_m15 (hh : ah_ok bB 198 [] h) : ∃ w : Int32, mF h 15 (.int w) := by
  obtain ⟨v, m, a⟩ := ob_fld (o := []) hh asM_eq (g := 15) (a := (0, 0, 80)) asM_15
  obtain ⟨x, rfl, -⟩ := av_int rfl a
  exact ⟨x, m⟩
theorem zx_year {n : Nat} {R : pm_Rs} (hI : mInv h) (hh : pm_run PT n 2047 (84000 - (19 + pm_max PT 100)) 100 (0, pm_l0 [.ref 0] (pm_max PT 100), [], h, 198, sl) = some R) : cT R.2.1 (.int 0) := by
  obtain ⟨-, -, -, q⟩ := rn_det (zw_year [.ref 0] h 2047 (84000 - (19 + pm_max PT 100)) sl ⟨⟨rfl, List.mem_singleton_self _⟩, trivial⟩ hI.1 trivial (Nat.le_of_ble_eq_true rfl) (Nat.le_of_ble_eq_true rfl)) hh
  obtain ⟨-, fs, v, k1, k2, k3⟩ := ovf_out q (by decide) (by decide) asT_eq asT_1 (by decide)
  obtain ⟨u, rfl, u1, u2⟩ := av_int rfl k3
  have u1 : (0 : Int) ≤ u.toInt := u1
  have u2 : u.toInt ≤ 0 := u2
  have : u = 0 := Int32.toInt_inj.1 (by rw [show (0 : Int32).toInt = 0 by decide]; omega)
  subst this
  exact ⟨fs, k1, k2⟩
end TXP
end MG95tzx2
section MG95tzx3
/-! the reference's courts: what it reads, what it answers -/
section CMM
variable {n fr lo F Lo sl k pc t cc a rm : Nat} {h : pm_H} {tp : Nat → Int32} {R r : pm_Rs} {Q : pm_Rs → Prop} {st : pm_St}
theorem rn_dt (q : pm_WP PT F Lo k st Q) (hh : pm_run PT n fr lo k st = some r) : Q r := by
  obtain ⟨m, r', e, hq⟩ := q
  have a1 := pm_run_le (Nat.le_max_left m n) (pm_run_room m F Lo (max F fr) (max Lo lo) k st r' (Nat.le_max_left _ _) (Nat.le_max_left _ _) e)
  have a2 := pm_run_le (Nat.le_max_right m n) (pm_run_room n fr lo (max F fr) (max Lo lo) k st r (Nat.le_max_right _ _) (Nat.le_max_right _ _) hh)
  rw [a1] at a2
  cases a2
  exact hq
/-- the state of the reader -/
def pR (h : pm_H) (tp : Nat → Int32) (t cc a rm : Nat) : Prop := (mF h 16 (.int (nI a)) ∧ mF h 17 (.int (nI t)) ∧ mF h 14 (.ref 172) ∧ h 172 = .inl (0, 80, .inl tp)) ∧ mF h 20 (.int (nI rm)) ∧ mF h 3 (.int (nI cc)) ∧ mF h 19 (.ref 173) ∧ ∃ f, h 173 = .inl (0, 36, .inl f)
theorem pR_16 {b : Nat} (p : pR h tp t cc a rm) : pR (mset h 16 (.int (nI b))) tp t cc b rm := by
  obtain ⟨⟨p1, p2, p3, p4⟩, p5, p6, p7, f, p8⟩ := p
  exact ⟨⟨mF_self p1, mF_ne (by decide) p2, mF_ne (by decide) p3, mset_arr (by decide) p4⟩, mF_ne (by decide) p5, mF_ne (by decide) p6, mF_ne (by decide) p7, f, mset_arr (by decide) p8⟩
theorem pR_20 {b : Nat} (p : pR h tp t cc a rm) : pR (mset h 20 (.int (nI b))) tp t cc a b := by
  obtain ⟨⟨p1, p2, p3, p4⟩, p5, p6, p7, f, p8⟩ := p
  exact ⟨⟨mF_ne (by decide) p1, mF_ne (by decide) p2, mF_ne (by decide) p3, mset_arr (by decide) p4⟩, mF_self p5, mF_ne (by decide) p6, mF_ne (by decide) p7, f, mset_arr (by decide) p8⟩
theorem aset_mF {b m g : Nat} {e : Nat → Int32} {v : Value} (hn : b ≠ 162) (q : mF h g v) : mF (aset h b m e) g v := by
  obtain ⟨fs, e1, e2⟩ := q
  exact ⟨fs, by unfold aset; simp [va_up, Ne.symm hn, e1], e2⟩
theorem asR_ne {b m i : Nat} {e : Nat → Int32} (hn : i ≠ b) : aset h b m e i = h i := by
  unfold aset
  simp [va_up, hn]
theorem asR_self {b m : Nat} {e : Nat → Int32} : aset h b m e b = .inl (0, m, .inl e) := by
  unfold aset
  simp [va_up]
theorem pR_rd {e : Nat → Int32} (p : pR h tp t cc a rm) : pR (aset h 173 36 e) tp t cc a rm := by
  obtain ⟨⟨p1, p2, p3, p4⟩, p5, p6, p7, f, p8⟩ := p
  exact ⟨⟨aset_mF (by decide) p1, aset_mF (by decide) p2, aset_mF (by decide) p3, (asR_ne (by decide)).trans p4⟩, aset_mF (by decide) p5, aset_mF (by decide) p6, aset_mF (by decide) p7, e, asR_self⟩
/-- so many digits from a on: all there, and where it ends -/
def rcD (tp : Nat → Int32) (t : Nat) : Nat → Nat → Bool × Nat
  | 0, a => (true, a)
  | k + 1, a => cond (dg tp a t) (rcD tp t k (a + 1)) (false, a)
def rcC (tp : Nat → Int32) (t a : Nat) : Bool × Nat := cond (dgi tp a t 1 9) (rcD tp t 5 (a + 1)) (false, a)
theorem dg_val (q : dg tp a t = true) : 0 ≤ (tp a - 48).toInt ∧ (tp a - 48).toInt ≤ 9 := by
  obtain ⟨-, h1, h2⟩ := dg_iv q
  have e : (tp a - 48).toInt = (tp a).toInt - 48 := by
    rw [Int32.toInt_sub, show (48 : Int32).toInt = 48 by decide]
    exact Int.bmod_eq_of_le (by omega) (by omega)
  omega
theorem lt0_val {x : Int32} (q : 0 ≤ x.toInt) : pm_cmp .lt x 0 = false := by
  refine decide_eq_false (fun z => ?_)
  rw [Int32.lt_iff_toInt_lt, show (0 : Int32).toInt = 0 by decide] at z
  omega
theorem lt0_m1 : pm_cmp .lt (-1 : Int32) 0 = true := by decide
theorem rc_loop (ht : t ≤ 80) : ∀ (k i a n : Nat) (b : Bool) (h : pm_H), i + k = 5 → a < 100 → rm < 6 → pR h tp t cc a rm → pm_run PT n fr lo 187 (54, [some (.ref 162), some (.int (nI (6 * rm))), some (.int (cond b 1 0)), some (.int (nI i))], [], h, 198, sl) = some R → R.1 = some (.int (cond (cond b (rcD tp t k a) (false, a)).1 1 0)) ∧ pR R.2.1 tp t cc (cond b (rcD tp t k a) (false, a)).2 (rm + 1) ∧ R.2.2 = (198, sl) := by
  have fin : ∀ (i a n : Nat) (b : Bool) (h : pm_H), pR h tp t cc a rm → pm_run PT n fr lo 187 (103, [some (.ref 162), some (.int (nI (6 * rm))), some (.int (cond b 1 0)), some (.int (nI i))], [], h, 198, sl) = some R → R.1 = some (.int (cond b 1 0)) ∧ pR R.2.1 tp t cc a (rm + 1) ∧ R.2.2 = (198, sl) := by
    intro i a n b h p hh
    obtain ⟨n, hh⟩ := rn_i rfl rfl rfl rfl hh
    obtain ⟨n, hh⟩ := rn_i rfl rfl rfl rfl hh
    obtain ⟨n, hh⟩ := rn_gfm rfl rfl p.2.1 hh
    obtain ⟨n, hh⟩ := rn_i rfl rfl rfl rfl hh
    obtain ⟨n, hh⟩ := rn_i rfl rfl rfl rfl hh
    obtain ⟨n, hh⟩ := rn_pfm (w := .int (nI rm)) rfl rfl rfl (by decide) p.2.1 hh
    obtain ⟨n, hh⟩ := rn_i rfl rfl rfl rfl hh
    obtain ⟨-, rfl⟩ := rn_ret rfl (Or.inr rfl) hh
    have e : nI rm + Int32.ofInt 1 = nI (rm + 1) := (Int32.ofNat_add rm 1).symm
    refine ⟨rfl, ?_, rfl⟩
    show pR (mset h 20 (.int (nI rm + Int32.ofInt 1))) tp t cc a (rm + 1)
    rw [e]
    exact pR_20 p
  intro k
  induction k with
  | zero =>
    intro i a n b h hi ha hrm p hh
    have hi : i = 5 := by omega
    subst hi
    obtain ⟨n, hh⟩ := rn_i rfl rfl rfl rfl hh
    obtain ⟨n, hh⟩ := rn_i rfl rfl rfl rfl hh
    obtain ⟨n, hh⟩ := rn_icmp (cc := .ge) (off := 47) (t := 103) rfl rfl hh
    have hh : pm_run PT n fr lo 187 (103, [some (.ref 162), some (.int (nI (6 * rm))), some (.int (cond b 1 0)), some (.int (nI 5))], [], h, 198, sl) = some R := hh
    obtain ⟨e1, e2, e3⟩ := fin 5 a n b h p hh
    cases b
    · exact ⟨e1, e2, e3⟩
    · exact ⟨e1, e2, e3⟩
  | succ k ih =>
    intro i a n b h hi ha hrm p hh
    obtain ⟨n, hh⟩ := rn_i rfl rfl rfl rfl hh
    obtain ⟨n, hh⟩ := rn_i rfl rfl rfl rfl hh
    obtain ⟨n, hh⟩ := rn_icmp (cc := .ge) (off := 47) (t := 103) rfl rfl hh
    have ec : pm_cmp .ge (nI i) (Int32.ofInt 5) = false := by
      have := hI_ge (a := i) (b := 5) (by omega) (by omega)
      rw [decide_eq_false (by omega)] at this
      exact this
    rw [ec] at hh
    obtain ⟨n, hh⟩ := rn_i rfl rfl rfl rfl hh
    obtain ⟨n, hh⟩ := rn_if (cc := .eq) (off := 43) (t := 103) rfl rfl hh
    cases b with
    | false =>
      have hh : pm_run PT n fr lo 187 (103, [some (.ref 162), some (.int (nI (6 * rm))), some (.int (cond false 1 0)), some (.int (nI i))], [], h, 198, sl) = some R := hh
      exact fin i a n false h p hh
    | true =>
      have hh : pm_run PT n fr lo 187 (63, [some (.ref 162), some (.int (nI (6 * rm))), some (.int 1), some (.int (nI i))], [], h, 198, sl) = some R := hh
      obtain ⟨⟨q1, q2, q3, q4⟩, q5, q6, q7, f, q8⟩ := id p
      obtain ⟨n, hh⟩ := rn_i rfl rfl rfl rfl hh
      obtain ⟨n, hh⟩ := rn_gfm rfl rfl q7 hh
      obtain ⟨n, hh⟩ := rn_i rfl rfl rfl rfl hh
      obtain ⟨n, hh⟩ := rn_i rfl rfl rfl rfl hh
      obtain ⟨n, hh⟩ := rn_i rfl rfl rfl rfl hh
      obtain ⟨n, hh⟩ := rn_i rfl rfl rfl rfl hh
      obtain ⟨n, hh⟩ := rn_i rfl rfl rfl rfl hh
      obtain ⟨n, hh⟩ := rn_i rfl rfl rfl rfl hh
      obtain ⟨n, hh⟩ := rn_i rfl rfl rfl rfl hh
      obtain ⟨n, fr', lo', r1, hr1, hh⟩ := rn_call (w := 0) (t := 184) rfl rfl hh
      have er := rn_dt (F := 10) (Lo := 1000) (hd_number (fr := 10) (lo := 1000) (sl := sl) q1 q2 q3 q4 ht (by omega) (by decide) (by decide) (d := 1) (by decide)) hr1
      have ei : nI (6 * rm) + Int32.ofInt 1 + nI i = nI (6 * rm + 1 + i) := by
        rw [show nI (6 * rm) + Int32.ofInt 1 = nI (6 * rm + 1) from (Int32.ofNat_add (6 * rm) 1).symm]
        exact (Int32.ofNat_add (6 * rm + 1) i).symm
      have hin : pm_in (nI (6 * rm + 1 + i)) 36 = true := hI_in (by omega) (by decide)
      cases hd : dg tp a t with
      | false =>
        rw [hd] at er
        dsimp only [cond] at er
        subst er
        have hh : pm_run PT n fr lo 187 (77, [some (.ref 162), some (.int (nI (6 * rm))), some (.int 1), some (.int (nI i))], [.int (-1), .int (nI (6 * rm) + Int32.ofInt 1 + nI i), .ref 173], h, 198, sl) = some R := hh
        rw [ei] at hh
        obtain ⟨n, hh⟩ := rn_ism rfl q8 hin (by decide) hh
        have p' := pR_rd (e := upd f (nI (6 * rm + 1 + i)).toNatClampNeg (-1)) p
        obtain ⟨n, hh⟩ := rn_i rfl rfl rfl rfl hh
        obtain ⟨n, hh⟩ := rn_gfm rfl rfl p'.2.2.2.1 hh
        obtain ⟨n, hh⟩ := rn_i rfl rfl rfl rfl hh
        obtain ⟨n, hh⟩ := rn_i rfl rfl rfl rfl hh
        obtain ⟨n, hh⟩ := rn_i rfl rfl rfl rfl hh
        obtain ⟨n, hh⟩ := rn_i rfl rfl rfl rfl hh
        obtain ⟨n, hh⟩ := rn_i rfl rfl rfl rfl hh
        have hh : pm_run PT n fr lo 187 (87, [some (.ref 162), some (.int (nI (6 * rm))), some (.int 1), some (.int (nI i))], [.int (nI (6 * rm) + Int32.ofInt 1 + nI i), .ref 173], _, 198, sl) = some R := hh
        rw [ei] at hh
        obtain ⟨n, hh⟩ := rn_iam rfl asR_self hin (by decide) hh
        have eu : upd f (nI (6 * rm + 1 + i)).toNatClampNeg (-1) (nI (6 * rm + 1 + i)).toNatClampNeg = (-1 : Int32) := by simp [upd]
        rw [eu] at hh
        obtain ⟨n, hh⟩ := rn_if (cc := .lt) (off := 7) (t := 95) rfl rfl hh
        rw [lt0_m1] at hh
        obtain ⟨n, hh⟩ := rn_i rfl rfl rfl rfl hh
        obtain ⟨n, hh⟩ := rn_i rfl rfl rfl rfl hh
        obtain ⟨n, hh⟩ := rn_i rfl rfl rfl rfl hh
        obtain ⟨n, hh⟩ := rn_i rfl rfl rfl rfl hh
        have e1 : nI i + Int32.ofInt 1 = nI (i + 1) := (Int32.ofNat_add i 1).symm
        have hh : pm_run PT n fr lo 187 (54, [some (.ref 162), some (.int (nI (6 * rm))), some (.int (cond false 1 0)), some (.int (nI i + Int32.ofInt 1))], [], aset h 173 36 (upd f (nI (6 * rm + 1 + i)).toNatClampNeg (-1)), 198, sl) = some R := hh
        rw [e1] at hh
        have hr := ih (i + 1) a n false _ (by omega) ha hrm p' hh
        show R.1 = some (.int (cond (rcD tp t (k + 1) a).1 1 0)) ∧ pR R.2.1 tp t cc (rcD tp t (k + 1) a).2 (rm + 1) ∧ R.2.2 = (198, sl)
        unfold rcD
        rw [hd]
        exact hr
      | true =>
        rw [hd] at er
        dsimp only [cond] at er
        subst er
        have en : nbr tp t 1 a 0 = (a + 1, 10 * 0 + tp a - 48) := by
          show nbr tp t (0 + 1) a 0 = _
          rw [nbr_gt t hd]
          rfl
        have ev : (10 * 0 + tp a - 48 : Int32) = tp a - 48 := by simp
        rw [en, ev] at hh
        obtain ⟨v1, v2⟩ := dg_val hd
        have p0 : pR (mset h 16 (.int (nI (a + 1)))) tp t cc (a + 1) rm := pR_16 p
        have hh : pm_run PT n fr lo 187 (77, [some (.ref 162), some (.int (nI (6 * rm))), some (.int 1), some (.int (nI i))], [.int (tp a - 48), .int (nI (6 * rm) + Int32.ofInt 1 + nI i), .ref 173], mset h 16 (.int (nI (a + 1))), 198, sl) = some R := hh
        rw [ei] at hh
        obtain ⟨f0, q80⟩ := p0.2.2.2.2
        obtain ⟨n, hh⟩ := rn_ism rfl q80 hin (by decide) hh
        have p' := pR_rd (e := upd f0 (nI (6 * rm + 1 + i)).toNatClampNeg (tp a - 48)) p0
        obtain ⟨n, hh⟩ := rn_i rfl rfl rfl rfl hh
        obtain ⟨n, hh⟩ := rn_gfm rfl rfl p'.2.2.2.1 hh
        obtain ⟨n, hh⟩ := rn_i rfl rfl rfl rfl hh
        obtain ⟨n, hh⟩ := rn_i rfl rfl rfl rfl hh
        obtain ⟨n, hh⟩ := rn_i rfl rfl rfl rfl hh
        obtain ⟨n, hh⟩ := rn_i rfl rfl rfl rfl hh
        obtain ⟨n, hh⟩ := rn_i rfl rfl rfl rfl hh
        have hh : pm_run PT n fr lo 187 (87, [some (.ref 162), some (.int (nI (6 * rm))), some (.int 1), some (.int (nI i))], [.int (nI (6 * rm) + Int32.ofInt 1 + nI i), .ref 173], _, 198, sl) = some R := hh
        rw [ei] at hh
        obtain ⟨n, hh⟩ := rn_iam rfl asR_self hin (by decide) hh
        have eu : upd f0 (nI (6 * rm + 1 + i)).toNatClampNeg (tp a - 48) (nI (6 * rm + 1 + i)).toNatClampNeg = tp a - 48 := by simp [upd]
        rw [eu] at hh
        obtain ⟨n, hh⟩ := rn_if (cc := .lt) (off := 7) (t := 95) rfl rfl hh
        rw [lt0_val v1] at hh
        obtain ⟨n, hh⟩ := rn_i rfl rfl rfl rfl hh
        obtain ⟨n, hh⟩ := rn_i rfl rfl rfl rfl hh
        obtain ⟨n, hh⟩ := rn_i rfl rfl rfl rfl hh
        obtain ⟨n, hh⟩ := rn_i rfl rfl rfl rfl hh
        obtain ⟨n, hh⟩ := rn_i rfl rfl rfl rfl hh
        have e1 : nI i + Int32.ofInt 1 = nI (i + 1) := (Int32.ofNat_add i 1).symm
        have hh : pm_run PT n fr lo 187 (54, [some (.ref 162), some (.int (nI (6 * rm))), some (.int (cond true 1 0)), some (.int (nI i + Int32.ofInt 1))], [], aset (mset h 16 (.int (nI (a + 1)))) 173 36 (upd f0 (nI (6 * rm + 1 + i)).toNatClampNeg (tp a - 48)), 198, sl) = some R := hh
        rw [e1] at hh
        have hat : a < t := dg_lt hd
        have hr := ih (i + 1) (a + 1) n true _ (by omega) (by omega) hrm p' hh
        show R.1 = some (.int (cond (rcD tp t (k + 1) a).1 1 0)) ∧ pR R.2.1 tp t cc (rcD tp t (k + 1) a).2 (rm + 1) ∧ R.2.2 = (198, sl)
        unfold rcD
        rw [hd]
        exact hr
theorem dgi_val (q : dgi tp a t 1 9 = true) : a < t ∧ 0 ≤ (tp a - 48).toInt := by
  unfold dgi in_b at q
  rw [Bool.and_eq_true, Bool.and_eq_true] at q
  refine ⟨of_decide_eq_true q.1, ?_⟩
  have e1 : ¬ (tp a - 48).toInt64 < (1 : Int32).toInt64 := by simpa using q.2.1
  rw [Int64.lt_iff_toInt_lt, Int32.toInt_toInt64, Int32.toInt_toInt64, show (1 : Int32).toInt = 1 by decide] at e1
  omega
theorem rcD_le : ∀ (k a : Nat), a ≤ t → (rcD tp t k a).2 ≤ t
  | 0, a, h => h
  | k + 1, a, h => by
    unfold rcD
    cases hd : dg tp a t with
    | true => exact rcD_le k (a + 1) (dg_lt hd)
    | false => exact h
theorem rcC_le (ha : a ≤ t) : (rcC tp t a).2 ≤ t := by
  unfold rcC
  cases hd : dgi tp a t 1 9 with
  | true => exact rcD_le 5 (a + 1) (dgi_val hd).1
  | false => exact ha
theorem rc_reads (ht : t ≤ 80) (ha : a < 99) (hcr : cc + rm ≤ 6) (p : pR h tp t cc a rm) (hh : pm_run PT n fr lo 187 (0, pm_l0 [.ref 162] 4, [], h, 198, sl) = some R) : R.1 = some (.int (cond (cond (decide (cc + rm = 6)) (false, a) (rcC tp t a)).1 1 0)) ∧ pR R.2.1 tp t cc (cond (decide (cc + rm = 6)) (false, a) (rcC tp t a)).2 (cond (decide (cc + rm = 6)) rm (rm + 1)) ∧ R.2.2 = (198, sl) := by
  obtain ⟨⟨q1, q2, q3, q4⟩, q5, q6, q7, f, q8⟩ := id p
  obtain ⟨n, hh⟩ := rn_i rfl rfl rfl rfl hh
  obtain ⟨n, hh⟩ := rn_gfm rfl rfl q6 hh
  obtain ⟨n, hh⟩ := rn_i rfl rfl rfl rfl hh
  obtain ⟨n, hh⟩ := rn_gfm rfl rfl q5 hh
  obtain ⟨n, hh⟩ := rn_i rfl rfl rfl rfl hh
  obtain ⟨n, hh⟩ := rn_i rfl rfl rfl rfl hh
  obtain ⟨n, hh⟩ := rn_icmp (cc := .ne) (off := 5) (t := 16) rfl rfl hh
  have ec : pm_cmp .ne ((fun x y => x + y) (nI cc) (nI rm)) (Int8.ofInt 6).toInt32 = decide (¬ (cc + rm = 6)) := by
    show pm_cmp .ne (nI cc + nI rm) (nI 6) = _
    rw [nI_add]
    exact hI_ne (by omega) (by omega)
  rw [ec] at hh
  by_cases z : cc + rm = 6
  · rw [decide_eq_false (fun q => q z)] at hh
    rw [decide_eq_true z]
    obtain ⟨n, hh⟩ := rn_i rfl rfl rfl rfl hh
    obtain ⟨-, rfl⟩ := rn_ret rfl (Or.inr rfl) hh
    exact ⟨rfl, p, rfl⟩
  · rw [decide_eq_true z] at hh
    rw [decide_eq_false z]
    have hh : pm_run PT n fr lo 187 (16, [some (.ref 162), none, none, none], [], h, 198, sl) = some R := hh
    obtain ⟨n, hh⟩ := rn_i rfl rfl rfl rfl hh
    obtain ⟨n, hh⟩ := rn_i rfl rfl rfl rfl hh
    obtain ⟨n, hh⟩ := rn_gfm rfl rfl q5 hh
    obtain ⟨n, hh⟩ := rn_i rfl rfl rfl rfl hh
    obtain ⟨n, hh⟩ := rn_i rfl rfl rfl rfl hh
    have e6 : (Int8.ofInt 6).toInt32 * nI rm = nI (6 * rm) := hI_mul 6 rm
    have hh : pm_run PT n fr lo 187 (24, [some (.ref 162), some (.int ((Int8.ofInt 6).toInt32 * nI rm)), none, none], [], h, 198, sl) = some R := hh
    rw [e6] at hh
    obtain ⟨n, hh⟩ := rn_i rfl rfl rfl rfl hh
    obtain ⟨n, hh⟩ := rn_gfm rfl rfl q7 hh
    obtain ⟨n, hh⟩ := rn_i rfl rfl rfl rfl hh
    obtain ⟨n, hh⟩ := rn_i rfl rfl rfl rfl hh
    obtain ⟨n, hh⟩ := rn_i rfl rfl rfl rfl hh
    obtain ⟨n, hh⟩ := rn_i rfl rfl rfl rfl hh
    obtain ⟨n, fr', lo', r1, hr1, hh⟩ := rn_call (w := 0) (t := 185) rfl rfl hh
    have er := rn_dt (F := 10) (Lo := 1000) (hd_digitIn (fr := 10) (lo := 1000) (sl := sl) q1 q2 q3 q4 ht (by omega) (by decide) (by decide) 1 9) hr1
    have hin : pm_in (nI (6 * rm)) 36 = true := hI_in (by omega) (by decide)
    cases hd : dgi tp a t 1 9 with
    | false =>
      rw [hd] at er
      dsimp only [cond] at er
      subst er
      have hh : pm_run PT n fr lo 187 (36, [some (.ref 162), some (.int (nI (6 * rm))), none, none], [.int (-1), .int (nI (6 * rm)), .ref 173], h, 198, sl) = some R := hh
      obtain ⟨n, hh⟩ := rn_ism rfl q8 hin (by decide) hh
      have p' := pR_rd (e := upd f (nI (6 * rm)).toNatClampNeg (-1)) p
      obtain ⟨n, hh⟩ := rn_i rfl rfl rfl rfl hh
      obtain ⟨n, hh⟩ := rn_gfm rfl rfl p'.2.2.2.1 hh
      obtain ⟨n, hh⟩ := rn_i rfl rfl rfl rfl hh
      obtain ⟨n, hh⟩ := rn_iam rfl asR_self hin (by decide) hh
      have eu : upd f (nI (6 * rm)).toNatClampNeg (-1) (nI (6 * rm)).toNatClampNeg = (-1 : Int32) := by simp [upd]
      rw [eu] at hh
      obtain ⟨n, hh⟩ := rn_if (cc := .lt) (off := 7) (t := 50) rfl rfl hh
      rw [lt0_m1] at hh
      obtain ⟨n, hh⟩ := rn_i rfl rfl rfl rfl hh
      obtain ⟨n, hh⟩ := rn_i rfl rfl rfl rfl hh
      obtain ⟨n, hh⟩ := rn_i rfl rfl rfl rfl hh
      obtain ⟨n, hh⟩ := rn_i rfl rfl rfl rfl hh
      have hh : pm_run PT n fr lo 187 (54, [some (.ref 162), some (.int (nI (6 * rm))), some (.int (cond false 1 0)), some (.int (nI 0))], [], aset h 173 36 (upd f (nI (6 * rm)).toNatClampNeg (-1)), 198, sl) = some R := hh
      have hr := rc_loop ht 5 0 a n false _ rfl (by omega) (by omega) p' hh
      show R.1 = some (.int (cond (rcC tp t a).1 1 0)) ∧ pR R.2.1 tp t cc (rcC tp t a).2 (rm + 1) ∧ R.2.2 = (198, sl)
      unfold rcC
      rw [hd]
      exact hr
    | true =>
      rw [hd] at er
      dsimp only [cond] at er
      subst er
      obtain ⟨v0, v1⟩ := dgi_val hd
      have p0 : pR (mset h 16 (.int (nI (a + 1)))) tp t cc (a + 1) rm := pR_16 p
      have hh : pm_run PT n fr lo 187 (36, [some (.ref 162), some (.int (nI (6 * rm))), none, none], [.int (tp a - 48), .int (nI (6 * rm)), .ref 173], mset h 16 (.int (nI (a + 1))), 198, sl) = some R := hh
      obtain ⟨f0, q80⟩ := p0.2.2.2.2
      obtain ⟨n, hh⟩ := rn_ism rfl q80 hin (by decide) hh
      have p' := pR_rd (e := upd f0 (nI (6 * rm)).toNatClampNeg (tp a - 48)) p0
      obtain ⟨n, hh⟩ := rn_i rfl rfl rfl rfl hh
      obtain ⟨n, hh⟩ := rn_gfm rfl rfl p'.2.2.2.1 hh
      obtain ⟨n, hh⟩ := rn_i rfl rfl rfl rfl hh
      obtain ⟨n, hh⟩ := rn_iam rfl asR_self hin (by decide) hh
      have eu : upd f0 (nI (6 * rm)).toNatClampNeg (tp a - 48) (nI (6 * rm)).toNatClampNeg = tp a - 48 := by simp [upd]
      rw [eu] at hh
      obtain ⟨n, hh⟩ := rn_if (cc := .lt) (off := 7) (t := 50) rfl rfl hh
      rw [lt0_val v1] at hh
      obtain ⟨n, hh⟩ := rn_i rfl rfl rfl rfl hh
      obtain ⟨n, hh⟩ := rn_i rfl rfl rfl rfl hh
      obtain ⟨n, hh⟩ := rn_i rfl rfl rfl rfl hh
      obtain ⟨n, hh⟩ := rn_i rfl rfl rfl rfl hh
      obtain ⟨n, hh⟩ := rn_i rfl rfl rfl rfl hh
      have hh : pm_run PT n fr lo 187 (54, [some (.ref 162), some (.int (nI (6 * rm))), some (.int (cond true 1 0)), some (.int (nI 0))], [], aset (mset h 16 (.int (nI (a + 1)))) 173 36 (upd f0 (nI (6 * rm)).toNatClampNeg (tp a - 48)), 198, sl) = some R := hh
      have hr := rc_loop ht 5 0 (a + 1) n true _ rfl (by omega) (by omega) p' hh
      show R.1 = some (.int (cond (rcC tp t a).1 1 0)) ∧ pR R.2.1 tp t cc (rcC tp t a).2 (rm + 1) ∧ R.2.2 = (198, sl)
      unfold rcC
      rw [hd]
      exact hr
/-- all LINES: did the last one stand, where it ends, how many were begun -/
def spL (tp : Nat → Int32) (t cc : Nat) : Nat → Nat → Nat → Bool × Nat × Nat
  | 0, rm, a => (false, a, rm)
  | k + 1, rm, a => cond (decide (cc + rm = 6)) (false, a, rm) (cond (rcC tp t a).1 (cond (decide ((rcC tp t a).2 < t ∧ tp (rcC tp t a).2 = 59)) (spL tp t cc k (rm + 1) ((rcC tp t a).2 + 1)) (true, (rcC tp t a).2, rm + 1)) (false, (rcC tp t a).2, rm + 1))
theorem cm_loop (ht : t ≤ 80) {n0 : Int32} : ∀ (k rm a n : Nat) (h : pm_H), cc + rm + k = 7 → 0 < k → a ≤ t → pR h tp t cc a rm → pm_run PT n fr lo 188 (29, [some (.ref 162), some (.int n0), some (.int 1), some (.int 1), none, none, none], [], h, 198, sl) = some R → ∃ m h', pm_run PT m fr lo 188 (60, [some (.ref 162), some (.int n0), some (.int (cond (spL tp t cc k rm a).1 1 0)), some (.int 0), none, none, none], [], h', 198, sl) = some R ∧ pR h' tp t cc (spL tp t cc k rm a).2.1 (spL tp t cc k rm a).2.2 := by
  have out : ∀ (n : Nat) (b : Int32) (h : pm_H), pm_run PT n fr lo 188 (29, [some (.ref 162), some (.int n0), some (.int b), some (.int 0), none, none, none], [], h, 198, sl) = some R → ∃ m, pm_run PT m fr lo 188 (60, [some (.ref 162), some (.int n0), some (.int b), some (.int 0), none, none, none], [], h, 198, sl) = some R := by
    intro n b h hh
    obtain ⟨n, hh⟩ := rn_i rfl rfl rfl rfl hh
    obtain ⟨n, hh⟩ := rn_if (cc := .eq) (off := 30) (t := 60) rfl rfl hh
    exact ⟨n, hh⟩
  intro k
  induction k with
  | zero => intro rm a n h hk h0; exact absurd h0 (by omega)
  | succ k ih =>
    intro rm a n h hk h0 ha p hh
    obtain ⟨n, hh⟩ := rn_i rfl rfl rfl rfl hh
    obtain ⟨n, hh⟩ := rn_if (cc := .eq) (off := 30) (t := 60) rfl rfl hh
    have hh : pm_run PT n fr lo 188 (33, [some (.ref 162), some (.int n0), some (.int 1), some (.int 1), none, none, none], [], h, 198, sl) = some R := hh
    obtain ⟨n, hh⟩ := rn_i rfl rfl rfl rfl hh
    obtain ⟨n, fr', lo', r1, hr1, hh⟩ := rn_call (w := 0) (t := 187) rfl rfl hh
    obtain ⟨e1, e2, e3⟩ := rc_reads ht (by omega) (by omega) p hr1
    obtain ⟨rv, h1, s1⟩ := r1
    dsimp only at e1 e2 e3
    subst e1
    subst e3
    show ∃ m h', pm_run PT m fr lo 188 (60, [some (.ref 162), some (.int n0), some (.int (cond (spL tp t cc (k + 1) rm a).1 1 0)), some (.int 0), none, none, none], [], h', 198, sl) = some R ∧ pR h' tp t cc (spL tp t cc (k + 1) rm a).2.1 (spL tp t cc (k + 1) rm a).2.2
    unfold spL
    cases z : decide (cc + rm = 6) with
    | true =>
      rw [z] at e2 hh
      have hh : pm_run PT n fr lo 188 (37, [some (.ref 162), some (.int n0), some (.int 1), some (.int 1), none, none, none], [.int 0], h1, 198, sl) = some R := hh
      obtain ⟨n, hh⟩ := rn_i rfl rfl rfl rfl hh
      obtain ⟨n, hh⟩ := rn_i rfl rfl rfl rfl hh
      obtain ⟨n, hh⟩ := rn_if (cc := .eq) (off := 16) (t := 55) rfl rfl hh
      have hh : pm_run PT n fr lo 188 (55, [some (.ref 162), some (.int n0), some (.int 0), some (.int 1), none, none, none], [], h1, 198, sl) = some R := hh
      obtain ⟨n, hh⟩ := rn_i rfl rfl rfl rfl hh
      obtain ⟨n, hh⟩ := rn_i rfl rfl rfl rfl hh
      obtain ⟨n, hh⟩ := rn_i rfl rfl rfl rfl hh
      obtain ⟨m, hm⟩ := out n 0 h1 hh
      exact ⟨m, h1, hm, e2⟩
    | false =>
      rw [z] at e2 hh
      dsimp only [cond] at e2 ⊢
      cases y : (rcC tp t a).1 with
      | false =>
        have hh : pm_run PT n fr lo 188 (37, [some (.ref 162), some (.int n0), some (.int 1), some (.int 1), none, none, none], [.int 0], h1, 198, sl) = some R := by rw [← hh]; dsimp only [cond]; rw [y]; rfl
        obtain ⟨n, hh⟩ := rn_i rfl rfl rfl rfl hh
        obtain ⟨n, hh⟩ := rn_i rfl rfl rfl rfl hh
        obtain ⟨n, hh⟩ := rn_if (cc := .eq) (off := 16) (t := 55) rfl rfl hh
        have hh : pm_run PT n fr lo 188 (55, [some (.ref 162), some (.int n0), some (.int 0), some (.int 1), none, none, none], [], h1, 198, sl) = some R := hh
        obtain ⟨n, hh⟩ := rn_i rfl rfl rfl rfl hh
        obtain ⟨n, hh⟩ := rn_i rfl rfl rfl rfl hh
        obtain ⟨n, hh⟩ := rn_i rfl rfl rfl rfl hh
        obtain ⟨m, hm⟩ := out n 0 h1 hh
        exact ⟨m, h1, hm, e2⟩
      | true =>
        have hh : pm_run PT n fr lo 188 (37, [some (.ref 162), some (.int n0), some (.int 1), some (.int 1), none, none, none], [.int 1], h1, 198, sl) = some R := by rw [← hh]; dsimp only [cond]; rw [y]; rfl
        have hle : (rcC tp t a).2 ≤ t := rcC_le ha
        generalize (rcC tp t a).2 = b at *
        obtain ⟨n, hh⟩ := rn_i rfl rfl rfl rfl hh
        obtain ⟨n, hh⟩ := rn_i rfl rfl rfl rfl hh
        obtain ⟨n, hh⟩ := rn_if (cc := .eq) (off := 16) (t := 55) rfl rfl hh
        have hh : pm_run PT n fr lo 188 (42, [some (.ref 162), some (.int n0), some (.int 1), some (.int 1), none, none, none], [], h1, 198, sl) = some R := hh
        obtain ⟨n, hh⟩ := rn_i rfl rfl rfl rfl hh
        obtain ⟨n, hh⟩ := rn_i rfl rfl rfl rfl hh
        obtain ⟨n, fr', lo', r1, hr1, hh⟩ := rn_call (w := 0) (t := 181) rfl rfl hh
        obtain ⟨⟨q1, q2, q3, q4⟩, -⟩ := id e2
        have er := rn_dt (F := 10) (Lo := 1000) (hd_takes (fr := 10) (lo := 1000) (sl := sl) q1 q2 q3 q4 ht (by omega) (by decide) (by decide) 59) hr1
        cases x : decide (b < t ∧ tp b = 59) with
        | false =>
          rw [x] at er
          dsimp only [cond] at er
          subst er
          have hh : pm_run PT n fr lo 188 (48, [some (.ref 162), some (.int n0), some (.int 1), some (.int 1), none, none, none], [.int 0], mset h1 16 (.int (nI (b + 0))), 198, sl) = some R := hh
          obtain ⟨n, hh⟩ := rn_if (cc := .eq) (off := 7) (t := 55) rfl rfl hh
          have hh : pm_run PT n fr lo 188 (55, [some (.ref 162), some (.int n0), some (.int 1), some (.int 1), none, none, none], [], mset h1 16 (.int (nI (b + 0))), 198, sl) = some R := hh
          obtain ⟨n, hh⟩ := rn_i rfl rfl rfl rfl hh
          obtain ⟨n, hh⟩ := rn_i rfl rfl rfl rfl hh
          obtain ⟨n, hh⟩ := rn_i rfl rfl rfl rfl hh
          obtain ⟨m, hm⟩ := out n 1 _ hh
          exact ⟨m, _, hm, pR_16 e2⟩
        | true =>
          rw [x] at er
          dsimp only [cond] at er
          subst er
          have xx := of_decide_eq_true x
          have hh : pm_run PT n fr lo 188 (48, [some (.ref 162), some (.int n0), some (.int 1), some (.int 1), none, none, none], [.int 1], mset h1 16 (.int (nI (b + 1))), 198, sl) = some R := hh
          obtain ⟨n, hh⟩ := rn_if (cc := .eq) (off := 7) (t := 55) rfl rfl hh
          have hh : pm_run PT n fr lo 188 (51, [some (.ref 162), some (.int n0), some (.int 1), some (.int 1), none, none, none], [], mset h1 16 (.int (nI (b + 1))), 198, sl) = some R := hh
          obtain ⟨n, hh⟩ := rn_i rfl rfl rfl rfl hh
          obtain ⟨n, hh⟩ := rn_i rfl rfl rfl rfl hh
          obtain ⟨n, hh⟩ := rn_i rfl rfl rfl rfl hh
          obtain ⟨n, hh⟩ := rn_i rfl rfl rfl rfl hh
          have zz := of_decide_eq_false z
          exact ih (rm + 1) (b + 1) n _ (by omega) (by omega) (by omega) (pR_16 e2) hh
end CMM
end MG95tzx3
section MG95tzx4
/-! the reference's faultOf -/
section FOO
variable {n fr lo sl t a : Nat} {h : pm_H} {R : pm_Rs} {N M B : Int32}
theorem fo_end (q1 : mF h 16 (.int (nI a))) (c : Bool) (hh : pm_run PT n fr lo 186 (44, [some (.ref 162), some (.int N), some (.int M), some (.int B), some (.int (cond c 1 0))], [], h, 198, sl) = some R) : R = (some (.int (cond c (Int32.ofInt 0) (Int32.ofInt (-1) - nI a))), h, 198, sl) := by
  obtain ⟨n, hh⟩ := rn_i rfl rfl rfl rfl hh
  obtain ⟨n, hh⟩ := rn_if (cc := .eq) (off := 7) (t := 53) rfl rfl hh
  cases c with
  | true =>
    have hh : pm_run PT n fr lo 186 (49, [some (.ref 162), some (.int N), some (.int M), some (.int B), some (.int 1)], [], h, 198, sl) = some R := hh
    obtain ⟨n, hh⟩ := rn_i rfl rfl rfl rfl hh
    obtain ⟨n, hh⟩ := rn_i rfl rfl rfl rfl hh
    exact (rn_ret rfl (Or.inl rfl) hh).2
  | false =>
    have hh : pm_run PT n fr lo 186 (53, [some (.ref 162), some (.int N), some (.int M), some (.int B), some (.int 0)], [], h, 198, sl) = some R := hh
    obtain ⟨n, hh⟩ := rn_i rfl rfl rfl rfl hh
    obtain ⟨n, hh⟩ := rn_i rfl rfl rfl rfl hh
    obtain ⟨n, hh⟩ := rn_gfm rfl rfl q1 hh
    obtain ⟨n, hh⟩ := rn_i rfl rfl rfl rfl hh
    exact (rn_ret rfl (Or.inl rfl) hh).2
theorem fo_m (c : Int32) (hh : pm_run PT n fr lo 186 (40, [some (.ref 162), some (.int N), some (.int M), some (.int B), some (.int c)], [], h, 198, sl) = some R) : R = (some (.int (Int32.ofInt (-1) - M)), h, 198, sl) := by
  obtain ⟨n, hh⟩ := rn_i rfl rfl rfl rfl hh
  obtain ⟨n, hh⟩ := rn_i rfl rfl rfl rfl hh
  obtain ⟨n, hh⟩ := rn_i rfl rfl rfl rfl hh
  exact (rn_ret rfl (Or.inl rfl) hh).2
def fO2 (n m a : Nat) (c : Bool) : Int32 := if m < n ∧ (c = true ∨ m ≤ a) then Int32.ofInt (-1) - nI m else cond c (Int32.ofInt 0) (Int32.ofInt (-1) - nI a)
def fO (n m t a : Nat) (b : Bool) : Int32 := fO2 n m a (b && decide (a = t))
theorem fo_two {n0 m : Nat} (hn : n0 ≤ 80) (hm : m ≤ 80) (ha : a < 100) (q1 : mF h 16 (.int (nI a))) (c : Bool) (hh : pm_run PT n fr lo 186 (22, [some (.ref 162), some (.int (nI n0)), some (.int (nI m)), some (.int B), some (.int (cond c 1 0))], [], h, 198, sl) = some R) : R = (some (.int (fO2 n0 m a c)), h, 198, sl) := by
  unfold fO2
  obtain ⟨n, hh⟩ := rn_i rfl rfl rfl rfl hh
  obtain ⟨n, hh⟩ := rn_i rfl rfl rfl rfl hh
  obtain ⟨n, hh⟩ := rn_icmp (cc := .le) (off := 20) (t := 44) rfl rfl hh
  rw [hI_le (by omega) (by omega)] at hh
  by_cases z : n0 ≤ m
  · rw [decide_eq_true z] at hh
    rw [if_neg (by omega)]
    exact fo_end q1 c hh
  · rw [decide_eq_false z] at hh
    obtain ⟨n, hh⟩ := rn_i rfl rfl rfl rfl hh
    obtain ⟨n, hh⟩ := rn_if (cc := .ne) (off := 11) (t := 40) rfl rfl hh
    cases c with
    | true =>
      rw [if_pos ⟨by omega, Or.inl rfl⟩]
      exact fo_m _ hh
    | false =>
      have hh : pm_run PT n fr lo 186 (32, [some (.ref 162), some (.int (nI n0)), some (.int (nI m)), some (.int B), some (.int (cond false 1 0))], [], h, 198, sl) = some R := hh
      obtain ⟨n, hh⟩ := rn_i rfl rfl rfl rfl hh
      obtain ⟨n, hh⟩ := rn_gfm rfl rfl q1 hh
      obtain ⟨n, hh⟩ := rn_i rfl rfl rfl rfl hh
      obtain ⟨n, hh⟩ := rn_icmp (cc := .lt) (off := 7) (t := 44) rfl rfl hh
      rw [hI_lt (by omega) (by omega)] at hh
      by_cases y : a < m
      · rw [decide_eq_true y] at hh
        rw [if_neg (fun q => by rcases q.2 with q | q; cases q; omega)]
        exact fo_end q1 false hh
      · rw [decide_eq_false y] at hh
        rw [if_pos ⟨by omega, Or.inr (by omega)⟩]
        exact fo_m _ hh
theorem fo_run {n0 m : Nat} {b : Bool} (hn : n0 ≤ 80) (hm : m ≤ 80) (ht : t ≤ 80) (ha : a < 100) (q1 : mF h 16 (.int (nI a))) (q2 : mF h 17 (.int (nI t))) (hh : pm_run PT n fr lo 186 (0, pm_l0 [.ref 162, .int (nI n0), .int (nI m), .int (cond b 1 0)] 5, [], h, 198, sl) = some R) : R = (some (.int (fO n0 m t a b)), h, 198, sl) := by
  unfold fO
  obtain ⟨n, hh⟩ := rn_i rfl rfl rfl rfl hh
  obtain ⟨n, hh⟩ := rn_if (cc := .eq) (off := 18) (t := 19) rfl rfl hh
  cases b with
  | false =>
    have hh : pm_run PT n fr lo 186 (19, [some (.ref 162), some (.int (nI n0)), some (.int (nI m)), some (.int 0), none], [], h, 198, sl) = some R := hh
    obtain ⟨n, hh⟩ := rn_i rfl rfl rfl rfl hh
    obtain ⟨n, hh⟩ := rn_i rfl rfl rfl rfl hh
    exact fo_two hn hm ha q1 false hh
  | true =>
    have hh : pm_run PT n fr lo 186 (4, [some (.ref 162), some (.int (nI n0)), some (.int (nI m)), some (.int 1), none], [], h, 198, sl) = some R := hh
    obtain ⟨n, hh⟩ := rn_i rfl rfl rfl rfl hh
    obtain ⟨n, hh⟩ := rn_gfm rfl rfl q1 hh
    obtain ⟨n, hh⟩ := rn_i rfl rfl rfl rfl hh
    obtain ⟨n, hh⟩ := rn_gfm rfl rfl q2 hh
    obtain ⟨n, hh⟩ := rn_icmp (cc := .ne) (off := 7) (t := 19) rfl rfl hh
    rw [hI_ne (by omega) (by omega)] at hh
    by_cases z : a = t
    · rw [decide_eq_false (fun q => q z)] at hh
      rw [decide_eq_true z]
      obtain ⟨n, hh⟩ := rn_i rfl rfl rfl rfl hh
      obtain ⟨n, hh⟩ := rn_i rfl rfl rfl rfl hh
      obtain ⟨n, hh⟩ := rn_i rfl rfl rfl rfl hh
      exact fo_two hn hm ha q1 true hh
    · rw [decide_eq_true z] at hh
      rw [decide_eq_false z]
      obtain ⟨n, hh⟩ := rn_i rfl rfl rfl rfl hh
      obtain ⟨n, hh⟩ := rn_i rfl rfl rfl rfl hh
      exact fo_two hn hm ha q1 false hh
end FOO
end MG95tzx4
section MG95tzx5
/-! the reference's courts: the LINES come -/
section CMN
variable {n fr lo sl k pc sz j cc r : Nat} {h : pm_H} {L : pm_L} {S : List Value} {R : pm_Rs}
theorem vd_run {n fr lo k : Nat} {st : pm_St} {r : pm_Rs} (hr : pm_ret PT k = none) (hh : pm_run PT n fr lo k st = some r) : r.1 = none := by
  induction n generalizing st with
  | zero => cases hh
  | succ n ih =>
    unfold pm_run at hh
    split at hh
    · rename_i r' e1
      cases hh
      unfold pm_end at e1
      split at e1
      · cases e1
      · split at e1
        · split at e1
          · rename_i rv er
            cases e1
            unfold pm_rets at er
            rw [hr] at er
            repeat' split at er
            all_goals first
              | (cases er; done)
              | (cases ‹(none : Option FieldType) = some _›; done)
              | (cases er; rfl)
          · cases e1
        · cases e1
    · split at hh
      · exact ih hh
      · cases hh
theorem ld_eq {tt nn : Nat} {v : Value} (hg : pm_get L j = some v) (hT : pm_isT tt v = true) : pm_lo tt nn pc j L S h sz sl = some (pc + nn, L, v :: S, h, sz, sl) := by
  unfold pm_lo pm_ld
  rw [hg]
  dsimp only
  rw [if_pos hT]
theorem iinc_eq {x : Int32} {d : Int} (hg : pm_get L j = some (.int x)) (hj : j < pm_max PT k) : pm_simple PT fr lo k (.iinc j d) pc L S h sz sl = some (pc + 3, pm_st1 L j (.int (x + Int32.ofInt d)), S, h, sz, sl) := by
  show (match pm_get L j with
    | some (.int x) => if j < pm_max PT k then some (pc + 3, pm_st1 L j (.int (x + Int32.ofInt d)), S, h, sz, sl) else none
    | _ => none) = _
  rw [hg]
  exact if_pos hj
theorem rn_aln {j : Fin 4} {v : Value} (hi : pm_ins PT k pc = some (.aload_n j, 1)) (hg : pm_get L j.val = some v) (hT : pm_isT 2 v = true) (hh : pm_run PT n fr lo k (pc, L, S, h, 198, sl) = some R) : ∃ m, pm_run PT m fr lo k (pc + 1, L, v :: S, h, 198, sl) = some R := rn_i hi rfl rfl (show pm_lo 2 1 pc j.val L S h 198 sl = _ from ld_eq hg hT) hh
theorem rn_iln {j : Fin 4} {v : Value} (hi : pm_ins PT k pc = some (.iload_n j, 1)) (hg : pm_get L j.val = some v) (hT : pm_isT 0 v = true) (hh : pm_run PT n fr lo k (pc, L, S, h, 198, sl) = some R) : ∃ m, pm_run PT m fr lo k (pc + 1, L, v :: S, h, 198, sl) = some R := rn_i hi rfl rfl (show pm_lo 0 1 pc j.val L S h 198 sl = _ from ld_eq hg hT) hh
theorem rn_il {j : Nat} {v : Value} (hi : pm_ins PT k pc = some (.iload j, 2)) (hg : pm_get L j = some v) (hT : pm_isT 0 v = true) (hh : pm_run PT n fr lo k (pc, L, S, h, 198, sl) = some R) : ∃ m, pm_run PT m fr lo k (pc + 2, L, v :: S, h, 198, sl) = some R := rn_i hi rfl rfl (show pm_lo 0 2 pc j L S h 198 sl = _ from ld_eq hg hT) hh
theorem get_lt {v : Value} (hg : pm_get L j = some v) : j < L.length := by
  unfold pm_get at hg
  split at hg
  · rename_i e
    exact (List.getElem?_eq_some_iff.mp e).1
  · cases hg
theorem cut_len (i : Nat) : (pm_cut L i).length = L.length := by
  unfold pm_cut
  split
  · rfl
  · split
    · exact List.length_set
    · rfl
theorem get_st1 {v w : Value} (hg : pm_get L j = some w) : pm_get (pm_st1 L j v) j = some v := by
  have := get_lt hg
  unfold pm_st1 pm_get
  rw [List.getElem?_set_self (by rw [cut_len]; exact this)]
def cmP (ci f : Nat) : Bool := Nat.beq ci 11 && (Nat.beq f 3 || Nat.beq f 20)
def cmK (k : Nat) : Bool := Nat.beq k 165 || (Nat.beq k 189 || Nat.beq k 190)
def cmJ (j : Nat) : Bool := Nat.beq j 0 || Nat.beq j 5
theorem cmK_in (k : Nat) (h : cmK k = true) : k ∈ [165, 189, 190] := by
  unfold cmK at h
  rw [Bool.or_eq_true, Bool.or_eq_true] at h
  rcases h with h | h | h
  · rw [Nat.eq_of_beq_eq_true h]; decide
  · rw [Nat.eq_of_beq_eq_true h]; decide
  · rw [Nat.eq_of_beq_eq_true h]; decide
theorem cm_ok : sf_ok cmP cmK := sf_of cmK_in (by decide +kernel)
theorem cm_blk : blk_ok cmP cmK cmJ 188 90 200 := blk_of (by decide +kernel)
theorem cm_add (hr : r ≤ 6) (hc : cc ≤ 6) : ∀ (d k n : Nat) (L : pm_L) (S : List Value) (h : pm_H), k + d = r → pm_get L 0 = some (.ref 162) → pm_get L 5 = some (.int (nI k)) → mF h 20 (.int (nI r)) → mF h 3 (.int (nI (cc + k))) → pm_run PT n fr lo 188 (81, L, S, h, 198, sl) = some R → R.1 = some (.int (nI r)) ∧ mF R.2.1 3 (.int (nI (cc + r))) := by
  intro d
  induction d with
  | zero =>
    intro k n L S h hk h0 h5 q20 q3 hh
    have hk : k = r := by omega
    subst hk
    obtain ⟨n, hh⟩ := rn_il rfl h5 rfl hh
    obtain ⟨n, hh⟩ := rn_aln rfl h0 rfl hh
    obtain ⟨n, hh⟩ := rn_gfm rfl rfl q20 hh
    obtain ⟨n, hh⟩ := rn_icmp (cc := .ge) (off := 129) (t := 216) rfl rfl hh
    rw [hI_ge (by omega) (by omega), decide_eq_true (Nat.le_refl _)] at hh
    have hh : pm_run PT n fr lo 188 (216, L, S, h, 198, sl) = some R := hh
    obtain ⟨n, hh⟩ := rn_aln rfl h0 rfl hh
    obtain ⟨n, fr', lo', r1, hr1, hh⟩ := rn_call (w := 0) (t := 190) rfl rfl hh
    have hf := sf_run cm_ok _ _ _ 190 _ r1 rfl hr1
    have hz := sz_run cm_ok _ _ _ 190 _ r1 rfl hr1
    have hv := vd_run rfl hr1
    obtain ⟨rv, h1, s1⟩ := r1
    dsimp only at hf hz hv
    subst hz
    subst hv
    have hh : pm_run PT n fr lo 188 (220, L, S, h1, 198, sl) = some R := hh
    obtain ⟨n, hh⟩ := rn_aln rfl h0 rfl hh
    obtain ⟨n, hh⟩ := rn_gfm rfl rfl (fm_mF hf rfl q20) hh
    obtain ⟨-, rfl⟩ := rn_ret rfl (Or.inl rfl) hh
    exact ⟨rfl, fm_mF hf rfl q3⟩
  | succ d ih =>
    intro k n L S h hk h0 h5 q20 q3 hh
    obtain ⟨n, hh⟩ := rn_il rfl h5 rfl hh
    obtain ⟨n, hh⟩ := rn_aln rfl h0 rfl hh
    obtain ⟨n, hh⟩ := rn_gfm rfl rfl q20 hh
    obtain ⟨n, hh⟩ := rn_icmp (cc := .ge) (off := 129) (t := 216) rfl rfl hh
    rw [hI_ge (by omega) (by omega), decide_eq_false (by omega)] at hh
    have hh : pm_run PT n fr lo 188 (90, L, S, h, 198, sl) = some R := hh
    obtain ⟨n, L', S', h', hh, hl, hf⟩ := blk_run cm_ok cm_blk n fr lo _ R (Nat.le_of_ble_eq_true rfl) (Nat.le_of_ble_eq_true rfl) hh
    dsimp only at hl hf hh
    have g0 := hl 0 _ rfl h0 rfl
    have g5 := hl 5 _ rfl h5 rfl
    have q3' := fm_mF hf rfl q3
    have q20' := fm_mF hf rfl q20
    have hh : pm_run PT n fr lo 188 (200, L', S', h', 198, sl) = some R := hh
    obtain ⟨n, hh⟩ := rn_aln rfl g0 rfl hh
    obtain ⟨n, hh⟩ := rn_i rfl rfl rfl rfl hh
    obtain ⟨n, hh⟩ := rn_gfm rfl rfl q3' hh
    obtain ⟨n, hh⟩ := rn_i rfl rfl rfl rfl hh
    obtain ⟨n, hh⟩ := rn_i rfl rfl rfl rfl hh
    obtain ⟨n, hh⟩ := rn_pfm (w := .int (nI (cc + k))) rfl rfl rfl (by decide) q3' hh
    obtain ⟨n, hh⟩ := rn_i rfl rfl rfl (iinc_eq g5 (Nat.le_of_ble_eq_true rfl)) hh
    obtain ⟨n, hh⟩ := rn_i rfl rfl rfl rfl hh
    have e1 : nI (cc + k) + Int32.ofInt 1 = nI (cc + (k + 1)) := (Int32.ofNat_add (cc + k) 1).symm
    have e2 : nI k + Int32.ofInt 1 = nI (k + 1) := (Int32.ofNat_add k 1).symm
    have hh : pm_run PT n fr lo 188 (81, pm_st1 L' 5 (.int (nI k + Int32.ofInt 1)), S', mset h' 3 (.int (nI (cc + k) + Int32.ofInt 1)), 198, sl) = some R := hh
    rw [e1, e2] at hh
    exact ih (k + 1) n _ S' _ (by omega) (lkp_st1 (J := fun j => Nat.beq j 0) rfl 0 _ rfl g0 rfl) (get_st1 g5) (mF_ne (by decide) q20') (mF_self q3') hh
end CMN
end MG95tzx5
section MG95tzx6
/-! the reference's courts, whole -/
section CMW
variable {n fr lo sl n0 cc : Nat} {h : pm_H} {R : pm_Rs} {tp : Nat → Int32}
def cmS (tp : Nat → Int32) (n0 cc : Nat) : Bool × Nat × Nat := cond (Nat.beq n0 0) (true, 0, 0) (spL tp (min n0 41) cc (7 - cc) 0 0)
def cmF (tp : Nat → Int32) (n0 cc : Nat) : Int32 := fO n0 41 (min n0 41) (cmS tp n0 cc).2.1 (cmS tp n0 cc).1
def cmA (tp : Nat → Int32) (n0 cc : Nat) : Int32 := cond (pm_cmp .ge (cmF tp n0 cc) 0) (nI (cmS tp n0 cc).2.2) (cmF tp n0 cc)
def cmN (tp : Nat → Int32) (n0 cc : Nat) : Nat := cond (pm_cmp .ge (cmF tp n0 cc) 0) (cmS tp n0 cc).2.2 0
theorem spL_bd {t : Nat} : ∀ (k rm a : Nat), a ≤ t → (spL tp t cc k rm a).2.1 ≤ t ∧ rm ≤ (spL tp t cc k rm a).2.2 ∧ (cc + rm ≤ 6 → cc + (spL tp t cc k rm a).2.2 ≤ 6)
  | 0, rm, a, ha => ⟨ha, Nat.le_refl _, fun q => q⟩
  | k + 1, rm, a, ha => by
    unfold spL
    cases z : decide (cc + rm = 6) with
    | true => exact ⟨ha, Nat.le_refl _, fun q => q⟩
    | false =>
      have zz := of_decide_eq_false z
      have hle := rcC_le (tp := tp) ha
      dsimp only [cond]
      cases (rcC tp t a).1 with
      | false => exact ⟨hle, Nat.le_succ _, fun q => by show cc + (rm + 1) ≤ 6; omega⟩
      | true =>
        dsimp only
        cases x : decide ((rcC tp t a).2 < t ∧ tp (rcC tp t a).2 = 59) with
        | false => exact ⟨hle, Nat.le_succ _, fun q => by show cc + (rm + 1) ≤ 6; omega⟩
        | true =>
          have xx := of_decide_eq_true x
          obtain ⟨a1, a2, a3⟩ := spL_bd (t := t) k (rm + 1) ((rcC tp t a).2 + 1) (by omega)
          exact ⟨a1, Nat.le_trans (Nat.le_succ rm) a2, fun q => a3 (by omega)⟩
theorem cm_run {w x16 x17 x18 x20 : Int32} {f : Nat → Int32} (hn : n0 ≤ 80) (hc : cc ≤ 6) (h0 : mF h 0 (.int w)) (h15 : mF h 15 (.int (nI n0))) (h16 : mF h 16 (.int x16)) (h17 : mF h 17 (.int x17)) (h18 : mF h 18 (.int x18)) (h20 : mF h 20 (.int x20)) (h3 : mF h 3 (.int (nI cc))) (h14 : mF h 14 (.ref 172)) (hA : h 172 = .inl (0, 80, .inl tp)) (h19 : mF h 19 (.ref 173)) (hB : h 173 = .inl (0, 36, .inl f)) (hh : pm_run PT n fr lo 188 (0, pm_l0 [.ref 162] 7, [], h, 198, sl) = some R) : R.1 = some (.int (cmA tp n0 cc)) ∧ mF R.2.1 3 (.int (nI (cc + cmN tp n0 cc))) := by
  obtain ⟨n, hh⟩ := rn_i rfl rfl rfl rfl hh
  obtain ⟨n, hh⟩ := rn_i rfl rfl rfl rfl hh
  obtain ⟨n, hh⟩ := rn_pfm (w := .int w) rfl rfl rfl (by decide) h0 hh
  obtain ⟨n, hh⟩ := rn_i rfl rfl rfl rfl hh
  obtain ⟨n, hh⟩ := rn_i rfl rfl rfl rfl hh
  obtain ⟨n, fr', lo', r1, hr1, hh⟩ := rn_call (w := 0) (t := 180) rfl rfl hh
  have g15 : mF (mset h 0 (.int (Int32.ofInt 0))) 15 (.int (nI n0)) := mF_ne (by decide) h15
  have er := rn_dt (F := 10) (Lo := 1000) (hd_begins (fr := 10) (lo := 1000) (sl := sl) (m := 41) g15 (mF_ne (by decide) h16) (mF_ne (by decide) h17) (mF_ne (by decide) h18) hn (by decide) (by decide) (by decide)) hr1
  subst er
  have mm : ∀ (g : Nat) (v : Value), g ≠ 0 → g ≠ 15 → g ≠ 16 → g ≠ 18 → g ≠ 17 → mF h g v → mF (hbeg (mset h 0 (.int (Int32.ofInt 0))) n0 41) g v := fun g v a0 a1 a2 a3 a4 q => mF_ne (Ne.symm a4) (mF_ne (Ne.symm a3) (mF_ne (Ne.symm a2) (mF_ne (Ne.symm a1) (mF_ne (Ne.symm a0) q))))
  have p20 : mF (hbeg (mset h 0 (.int (Int32.ofInt 0))) n0 41) 20 (.int x20) := mm 20 _ (by decide) (by decide) (by decide) (by decide) (by decide) h20
  have pp : pR (mset (hbeg (mset h 0 (.int (Int32.ofInt 0))) n0 41) 20 (.int (nI 0))) tp (min n0 41) cc 0 0 := by
    refine ⟨⟨mF_ne (by decide) ?_, mF_ne (by decide) ?_, mF_ne (by decide) (mm 14 _ (by decide) (by decide) (by decide) (by decide) (by decide) h14), ?_⟩, mF_self p20, mF_ne (by decide) (mm 3 _ (by decide) (by decide) (by decide) (by decide) (by decide) h3), mF_ne (by decide) (mm 19 _ (by decide) (by decide) (by decide) (by decide) (by decide) h19), f, ?_⟩
    · exact mF_ne (by decide) (mF_ne (by decide) (mF_self (w := .int x16) (mF_ne (by decide) (mF_ne (by decide) h16))))
    · exact mF_self (w := .int x17) (mF_ne (by decide) (mF_ne (by decide) (mF_ne (by decide) (mF_ne (by decide) h17))))
    · exact mset_arr (by decide) (mset_arr (by decide) (mset_arr (by decide) (mset_arr (by decide) (mset_arr (by decide) (mset_arr (by decide) hA)))))
    · exact mset_arr (by decide) (mset_arr (by decide) (mset_arr (by decide) (mset_arr (by decide) (mset_arr (by decide) (mset_arr (by decide) hB)))))
  have hh : pm_run PT n fr lo 188 (11, [some (.ref 162), none, none, none, none, none, none], [.int (nI n0)], hbeg (mset h 0 (.int (Int32.ofInt 0))) n0 41, 198, sl) = some R := hh
  generalize hbeg (mset h 0 (.int (Int32.ofInt 0))) n0 41 = hb at *
  obtain ⟨n, hh⟩ := rn_i rfl rfl rfl rfl hh
  obtain ⟨n, hh⟩ := rn_i rfl rfl rfl rfl hh
  obtain ⟨n, hh⟩ := rn_i rfl rfl rfl rfl hh
  obtain ⟨n, hh⟩ := rn_pfm (w := .int x20) rfl rfl rfl (by decide) p20 hh
  obtain ⟨n, hh⟩ := rn_i rfl rfl rfl rfl hh
  obtain ⟨n, hh⟩ := rn_i rfl rfl rfl rfl hh
  obtain ⟨n, hh⟩ := rn_i rfl rfl rfl rfl hh
  obtain ⟨n, hh⟩ := rn_if (cc := .le) (off := 7) (t := 27) rfl rfl hh
  have sec : ∀ (n : Nat) (hq : pm_H) (b : Bool) (at_ rm : Nat) (x3 : Int32), at_ ≤ min n0 41 → cc + rm ≤ 6 → pR hq tp (min n0 41) cc at_ rm → pm_run PT n fr lo 188 (60, [some (.ref 162), some (.int (nI n0)), some (.int (cond b 1 0)), some (.int x3), none, none, none], [], hq, 198, sl) = some R → R.1 = some (.int (cond (pm_cmp .ge (fO n0 41 (min n0 41) at_ b) 0) (nI rm) (fO n0 41 (min n0 41) at_ b))) ∧ mF R.2.1 3 (.int (nI (cc + cond (pm_cmp .ge (fO n0 41 (min n0 41) at_ b) 0) rm 0))) := by
    intro n hq b at_ rm x3 hat hrm p hh
    obtain ⟨n, hh⟩ := rn_i rfl rfl rfl rfl hh
    obtain ⟨n, hh⟩ := rn_i rfl rfl rfl rfl hh
    obtain ⟨n, hh⟩ := rn_i rfl rfl rfl rfl hh
    obtain ⟨n, hh⟩ := rn_i rfl rfl rfl rfl hh
    obtain ⟨n, fr', lo', r1, hr1, hh⟩ := rn_call (w := 0) (t := 186) rfl rfl hh
    have er := fo_run (m := 41) hn (by decide) (by omega) (by omega) p.1.1 p.1.2.1 hr1
    subst er
    generalize hF : fO n0 41 (min n0 41) at_ b = F at *
    have hh : pm_run PT n fr lo 188 (68, [some (.ref 162), some (.int (nI n0)), some (.int (cond b 1 0)), some (.int x3), none, none, none], [.int F], hq, 198, sl) = some R := hh
    obtain ⟨n, hh⟩ := rn_i rfl rfl rfl rfl hh
    obtain ⟨n, hh⟩ := rn_i rfl rfl rfl rfl hh
    obtain ⟨n, hh⟩ := rn_if (cc := .ge) (off := 6) (t := 78) rfl rfl hh
    cases hge : pm_cmp .ge F 0 with
    | false =>
      rw [hge] at hh
      obtain ⟨n, hh⟩ := rn_i rfl rfl rfl rfl hh
      obtain ⟨-, rfl⟩ := rn_ret rfl (Or.inl rfl) hh
      exact ⟨rfl, p.2.2.1⟩
    | true =>
      rw [hge] at hh
      obtain ⟨n, hh⟩ := rn_i rfl rfl rfl rfl hh
      obtain ⟨n, hh⟩ := rn_i rfl rfl rfl rfl hh
      exact cm_add (r := rm) (by omega) hc rm 0 n _ [] hq (by omega) rfl rfl p.2.1 p.2.2.1 hh
  by_cases z : n0 = 0
  · subst z
    have hh : pm_run PT n fr lo 188 (27, [some (.ref 162), some (.int (nI 0)), some (.int 1), none, none, none, none], [], mset hb 20 (.int (nI 0)), 198, sl) = some R := hh
    obtain ⟨n, hh⟩ := rn_i rfl rfl rfl rfl hh
    obtain ⟨n, hh⟩ := rn_i rfl rfl rfl rfl hh
    have hh : pm_run PT n fr lo 188 (29, [some (.ref 162), some (.int (nI 0)), some (.int 1), some (.int 0), none, none, none], [], mset hb 20 (.int (nI 0)), 198, sl) = some R := hh
    obtain ⟨n, hh⟩ := rn_i rfl rfl rfl rfl hh
    obtain ⟨n, hh⟩ := rn_if (cc := .eq) (off := 30) (t := 60) rfl rfl hh
    exact sec n _ true 0 0 0 (Nat.zero_le _) (by omega) pp hh
  · have ec : pm_cmp .le (nI n0) 0 = false := by
      have := hI_le (a := n0) (b := 0) (by omega) (by omega)
      rw [decide_eq_false (by omega)] at this
      exact this
    rw [ec] at hh
    have hh : pm_run PT n fr lo 188 (23, [some (.ref 162), some (.int (nI n0)), some (.int 1), none, none, none, none], [], mset hb 20 (.int (nI 0)), 198, sl) = some R := hh
    obtain ⟨n, hh⟩ := rn_i rfl rfl rfl rfl hh
    obtain ⟨n, hh⟩ := rn_i rfl rfl rfl rfl hh
    obtain ⟨n, hh⟩ := rn_i rfl rfl rfl rfl hh
    obtain ⟨m, h', hm, p'⟩ := cm_loop (t := min n0 41) (by omega) (7 - cc) 0 0 n _ (by omega) (by omega) (Nat.zero_le _) pp hh
    have hb0 : Nat.beq n0 0 = false := nb_ne z
    have es : cmS tp n0 cc = spL tp (min n0 41) cc (7 - cc) 0 0 := by
      unfold cmS
      rw [hb0]
      rfl
    obtain ⟨b1, b2, b3⟩ := spL_bd (tp := tp) (cc := cc) (7 - cc) 0 0 (Nat.zero_le (min n0 41))
    unfold cmA cmN cmF
    rw [es]
    exact sec m h' _ _ _ 0 b1 (b3 (by omega)) p' hm
end CMW
end MG95tzx6
section MG95tzx7
/-! the class's reader of COURTS -/
section CXR
variable {n fr lo sl n0 cc k pc p l : Nat} {h h' : pm_H} {R : pm_Rs} {f : Nat → Int32} {L : pm_L} {S : List Value}
/-- what the class's reader looks at -/
def pX (h : pm_H) (n0 cc : Nat) (f : Nat → Int32) : Prop := (∃ fs, h 0 = .inr (10, fs) ∧ fs[0]? = some (.ref 1) ∧ fs[2]? = some (.ref 5)) ∧ (∃ gs, h 1 = .inr (8, gs) ∧ gs[0]? = some (.ref 2) ∧ gs[1]? = some (.int (nI n0))) ∧ h 2 = .inl (1, 80, .inl f) ∧ ∃ rs, h 5 = .inr (3, rs) ∧ rs[0]? = some (.int (nI cc))
theorem rn_gfo {a ci j g t : Nat} {fs : List Value} {v : Value} (hi : pm_ins PT k pc = some (.getfield j, 3)) (hf : pm_fld PT (pm_o PT k) j = some (ci, g, t)) (ha : a < 198) (e : h a = .inr (ci, fs)) (e1 : fs[g]? = some v) (hh : pm_run PT n fr lo k (pc, L, .ref a :: S, h, 198, sl) = some R) : ∃ m, pm_run PT m fr lo k (pc + 3, L, v :: S, h, 198, sl) = some R := rn_i hi rfl rfl (gf_eq hf ha e e1) hh
/-- the sign at p, or none -/
def sgA (f : Nat → Int32) (n0 p l : Nat) : Int32 := cond (decide (p < min n0 l)) (f p) (Int32.ofInt (-1))
theorem sgA_run (hn : n0 ≤ 80) (hl : l ≤ 80) (hp : p < 1000) (q : pX h n0 cc f) (hh : pm_run PT n fr lo 80 (0, pm_l0 [.ref 1, .int (nI p), .int (nI l)] 3, [], h, 198, sl) = some R) : R = (some (.int (sgA f n0 p l)), h, 198, sl) := by
  obtain ⟨-, ⟨gs, g1, g2, g3⟩, c1, -⟩ := q
  have no : ∀ n : Nat, ¬ p < min n0 l → pm_run PT n fr lo 80 (26, [some (.ref 1), some (.int (nI p)), some (.int (nI l))], [], h, 198, sl) = some R → R = (some (.int (sgA f n0 p l)), h, 198, sl) := by
    intro n z hh
    obtain ⟨n, hh⟩ := rn_i rfl rfl rfl rfl hh
    unfold sgA
    rw [decide_eq_false z]
    exact (rn_ret rfl (Or.inl rfl) hh).2
  obtain ⟨n, hh⟩ := rn_i rfl rfl rfl rfl hh
  obtain ⟨n, hh⟩ := rn_if (cc := .lt) (off := 25) (t := 26) rfl rfl hh
  rw [lt0_val (by rw [nI_toInt (by omega)]; omega)] at hh
  obtain ⟨n, hh⟩ := rn_i rfl rfl rfl rfl hh
  obtain ⟨n, hh⟩ := rn_i rfl rfl rfl rfl hh
  obtain ⟨n, hh⟩ := rn_gfo (g := 1) rfl rfl (by decide) g1 g3 hh
  obtain ⟨n, hh⟩ := rn_icmp (cc := .ge) (off := 17) (t := 26) rfl rfl hh
  rw [hI_ge (by omega) (by omega)] at hh
  by_cases z : n0 ≤ p
  · rw [decide_eq_true z] at hh
    exact no n (by omega) hh
  · rw [decide_eq_false z] at hh
    obtain ⟨n, hh⟩ := rn_i rfl rfl rfl rfl hh
    obtain ⟨n, hh⟩ := rn_i rfl rfl rfl rfl hh
    obtain ⟨n, hh⟩ := rn_icmp (cc := .ge) (off := 12) (t := 26) rfl rfl hh
    rw [hI_ge (by omega) (by omega)] at hh
    by_cases y : l ≤ p
    · rw [decide_eq_true y] at hh
      exact no n (by omega) hh
    · rw [decide_eq_false y] at hh
      obtain ⟨n, hh⟩ := rn_i rfl rfl rfl rfl hh
      obtain ⟨n, hh⟩ := rn_gfo (g := 0) rfl rfl (by decide) g1 g2 hh
      obtain ⟨n, hh⟩ := rn_i rfl rfl rfl rfl hh
      obtain ⟨n, hh⟩ := rn_cam rfl c1 (hI_in (by omega) (by decide)) (by decide) hh
      rw [nI_clamp (by omega)] at hh
      obtain ⟨n, hh⟩ := rn_i rfl rfl rfl rfl hh
      unfold sgA
      rw [decide_eq_true (by omega)]
      exact (rn_ret rfl (Or.inl rfl) hh).2
/-- the digit at p, or none -/
def dgA (f : Nat → Int32) (n0 p l : Nat) : Int32 := cond (dg f p (min n0 l)) (f p - nI 48) (Int32.ofInt (-1))
theorem dg_lo {x : Int32} (z : pm_cmp .lt x (nI 48) = true) : in_b x.toInt64 48 57 = false := by
  have z := of_decide_eq_true z
  rw [Int32.lt_iff_toInt_lt, nI_toInt (by decide)] at z
  unfold in_b
  rw [Bool.and_eq_false_iff]
  left
  have : x.toInt64 < 48 := by
    rw [Int64.lt_iff_toInt_lt, Int32.toInt_toInt64, show (48 : Int64).toInt = 48 by decide]
    omega
  simp [this]
theorem dg_hi {x : Int32} (z : pm_cmp .gt x (nI 57) = true) : in_b x.toInt64 48 57 = false := by
  have z := of_decide_eq_true z
  rw [Int32.lt_iff_toInt_lt, nI_toInt (by decide)] at z
  unfold in_b
  rw [Bool.and_eq_false_iff]
  right
  have : (57 : Int64) < x.toInt64 := by
    rw [Int64.lt_iff_toInt_lt, Int32.toInt_toInt64, show (57 : Int64).toInt = 57 by decide]
    omega
  simp [this]
theorem dg_in {x : Int32} (z : pm_cmp .lt x (nI 48) = false) (y : pm_cmp .gt x (nI 57) = false) : in_b x.toInt64 48 57 = true := by
  have z := of_decide_eq_false z
  have y := of_decide_eq_false y
  rw [Int32.lt_iff_toInt_lt, nI_toInt (by decide)] at z y
  unfold in_b
  have a1 : ¬ x.toInt64 < 48 := by
    rw [Int64.lt_iff_toInt_lt, Int32.toInt_toInt64, show (48 : Int64).toInt = 48 by decide]
    omega
  have a2 : ¬ (57 : Int64) < x.toInt64 := by
    rw [Int64.lt_iff_toInt_lt, Int32.toInt_toInt64, show (57 : Int64).toInt = 57 by decide]
    omega
  simp [a1, a2]
theorem dgA_run (hn : n0 ≤ 80) (hl : l ≤ 80) (hp : p < 1000) (q : pX h n0 cc f) (hh : pm_run PT n fr lo 81 (0, pm_l0 [.ref 1, .int (nI p), .int (nI l)] 4, [], h, 198, sl) = some R) : R = (some (.int (dgA f n0 p l)), h, 198, sl) := by
  obtain ⟨n, hh⟩ := rn_i rfl rfl rfl rfl hh
  obtain ⟨n, hh⟩ := rn_i rfl rfl rfl rfl hh
  obtain ⟨n, hh⟩ := rn_i rfl rfl rfl rfl hh
  obtain ⟨n, fr', lo', r1, hr1, hh⟩ := rn_call (w := 0) (t := 80) rfl rfl hh
  have er := sgA_run hn hl hp q hr1
  subst er
  have hh : pm_run PT n fr lo 81 (6, [some (.ref 1), some (.int (nI p)), some (.int (nI l)), none], [.int (sgA f n0 p l)], h, 198, sl) = some R := hh
  have no : ∀ n : Nat, dg f p (min n0 l) = false → pm_run PT n fr lo 81 (26, [some (.ref 1), some (.int (nI p)), some (.int (nI l)), some (.int (sgA f n0 p l))], [], h, 198, sl) = some R → R = (some (.int (dgA f n0 p l)), h, 198, sl) := by
    intro n z hh
    obtain ⟨n, hh⟩ := rn_i rfl rfl rfl rfl hh
    unfold dgA
    rw [z]
    exact (rn_ret rfl (Or.inl rfl) hh).2
  obtain ⟨n, hh⟩ := rn_i rfl rfl rfl rfl hh
  obtain ⟨n, hh⟩ := rn_i rfl rfl rfl rfl hh
  obtain ⟨n, hh⟩ := rn_i rfl rfl rfl rfl hh
  obtain ⟨n, hh⟩ := rn_icmp (cc := .lt) (off := 16) (t := 26) rfl rfl hh
  have hh : pm_run PT n fr lo 81 (cond (pm_cmp .lt (sgA f n0 p l) (nI 48)) 26 13, [some (.ref 1), some (.int (nI p)), some (.int (nI l)), some (.int (sgA f n0 p l))], [], h, 198, sl) = some R := hh
  by_cases x : p < min n0 l
  · have es : sgA f n0 p l = f p := by
      unfold sgA
      rw [decide_eq_true x]
      rfl
    cases z : pm_cmp .lt (sgA f n0 p l) (nI 48) with
    | true =>
      rw [z] at hh
      refine no n ?_ hh
      rw [es] at z
      unfold dg
      rw [dg_lo z, Bool.and_false]
    | false =>
      rw [z] at hh
      obtain ⟨n, hh⟩ := rn_i rfl rfl rfl rfl hh
      obtain ⟨n, hh⟩ := rn_i rfl rfl rfl rfl hh
      obtain ⟨n, hh⟩ := rn_icmp (cc := .gt) (off := 10) (t := 26) rfl rfl hh
      have hh : pm_run PT n fr lo 81 (cond (pm_cmp .gt (sgA f n0 p l) (nI 57)) 26 19, [some (.ref 1), some (.int (nI p)), some (.int (nI l)), some (.int (sgA f n0 p l))], [], h, 198, sl) = some R := hh
      cases y : pm_cmp .gt (sgA f n0 p l) (nI 57) with
      | true =>
        rw [y] at hh
        refine no n ?_ hh
        rw [es] at y
        unfold dg
        rw [dg_hi y, Bool.and_false]
      | false =>
        rw [y] at hh
        have ed : dg f p (min n0 l) = true := by
          rw [es] at z y
          unfold dg
          rw [dg_in z y, decide_eq_true x]
          rfl
        obtain ⟨n, hh⟩ := rn_i rfl rfl rfl rfl hh
        obtain ⟨n, hh⟩ := rn_i rfl rfl rfl rfl hh
        obtain ⟨n, hh⟩ := rn_i rfl rfl rfl rfl hh
        obtain ⟨n, hh⟩ := rn_i rfl rfl rfl rfl hh
        unfold dgA
        rw [ed]
        rw [es] at hh
        exact (rn_ret rfl (Or.inl rfl) hh).2
  · have es : sgA f n0 p l = Int32.ofInt (-1) := by
      unfold sgA
      rw [decide_eq_false x]
      rfl
    rw [es] at hh
    have ed : dg f p (min n0 l) = false := by
      unfold dg
      rw [decide_eq_false x]
      rfl
    rw [es] at no
    exact no n ed hh
end CXR
end MG95tzx7
end MH89throwsx3
section MH89throwsx4
/-! the class's readCourts -/
section CXL
variable {n fr lo sl n0 cc k pc p l ln : Nat} {h h' : pm_H} {R : pm_Rs} {f : Nat → Int32}
def sQ (ci f : Nat) : Bool := (Nat.beq ci 10 && (Nat.beq f 0 || Nat.beq f 2)) || ((Nat.beq ci 8 && Nat.ble f 1) || (Nat.beq ci 3 && Nat.beq f 0))
def sQX : List Nat := [0, 6, 15, 22, 45, 52, 57, 72, 78, 79, 82, 85, 86, 87, 88, 89, 90, 91, 92, 93, 100, 122, 128, 161]
def sQK : Nat → Bool := sf_X sQX
theorem sQ_all : ((List.range 271).filter (fun k => !(sQX.any (fun x => Nat.beq x k)))).all (fun k => sf_b sQ sQK k && ak_b 1 sQK k) = true := by decide +kernel
theorem sQ_ok : sf_ok sQ sQK := sf_of sf_X_in (List.all_eq_true.mpr (fun k hk => ((Bool.and_eq_true _ _).mp (List.all_eq_true.mp sQ_all k hk)).1))
theorem sQ_ak : ak_ok 1 sQK := ak_of sf_X_in (List.all_eq_true.mpr (fun k hk => ((Bool.and_eq_true _ _).mp (List.all_eq_true.mp sQ_all k hk)).2))
theorem pX_fm (q : fm (sfF sQ) h h') (a : akp 1 h h') (x : pX h n0 cc f) : pX h' n0 cc f := by
  obtain ⟨⟨fs, a1, a2, a3⟩, ⟨gs, b1, b2, b3⟩, c1, rs, d1, d2⟩ := x
  obtain ⟨fs', e1, -, e2⟩ := q.2 0 10 fs a1
  obtain ⟨gs', g1, -, g2⟩ := q.2 1 8 gs b1
  obtain ⟨rs', i1, -, i2⟩ := q.2 5 3 rs d1
  exact ⟨⟨fs', e1, (e2 0 rfl).trans a2, (e2 2 rfl).trans a3⟩, ⟨gs', g1, (g2 0 rfl).trans b2, (g2 1 rfl).trans b3⟩, a 2 _ c1, rs', i1, (i2 0 rfl).trans d2⟩
theorem dgA_no (z : dg f p (min n0 l) = false) : dgA f n0 p l = Int32.ofInt (-1) := by
  unfold dgA
  rw [z]
  rfl
theorem dgA_yes (z : dg f p (min n0 l) = true) : dgA f n0 p l = f p - 48 := by
  unfold dgA
  rw [z]
  rfl
theorem xr_m1 {x3 x4 x5 : Option Value} (hh : pm_run PT n fr lo 129 (79, [some (.ref 0), some (.int (nI p)), some (.int (nI ln)), x3, x4, x5], [], h, 198, sl) = some R) : R = (some (.int (Int32.ofInt (-1) - nI p)), h, 198, sl) := by
  obtain ⟨n, hh⟩ := rn_i rfl rfl rfl rfl hh
  obtain ⟨n, hh⟩ := rn_i rfl rfl rfl rfl hh
  obtain ⟨n, hh⟩ := rn_i rfl rfl rfl rfl hh
  exact (rn_ret rfl (Or.inl rfl) hh).2
/-- digits behind the first -/
theorem xr_dig (hn : n0 ≤ 80) {ct : Int32} : ∀ (k i p n : Nat) (h : pm_H) (x5 : Option Value), i + k = 6 → 0 < i → p < 900 → pX h n0 cc f → pm_run PT n fr lo 129 (45, [some (.ref 0), some (.int (nI p)), some (.int (nI ln)), some (.int ct), some (.int (nI i)), x5], [], h, 198, sl) = some R → cond (rcD f (min n0 41) k p).1 (∃ m h' y5, pX h' n0 cc f ∧ pm_run PT m fr lo 129 (104, [some (.ref 0), some (.int (nI (rcD f (min n0 41) k p).2)), some (.int (nI ln)), some (.int ct), some (.int (nI 6)), y5], [], h', 198, sl) = some R) (R.1 = some (.int (Int32.ofInt (-1) - nI (rcD f (min n0 41) k p).2))) := by
  intro k
  induction k with
  | zero =>
    intro i p n h x5 hi h0 hp x hh
    have hi : i = 6 := by omega
    subst hi
    obtain ⟨n, hh⟩ := rn_i rfl rfl rfl rfl hh
    obtain ⟨n, hh⟩ := rn_i rfl rfl rfl rfl hh
    obtain ⟨n, hh⟩ := rn_icmp (cc := .ge) (off := 55) (t := 104) rfl rfl hh
    exact ⟨n, h, x5, x, hh⟩
  | succ k ih =>
    intro i p n h x5 hi h0 hp x hh
    obtain ⟨⟨fs, a1, a2, a3⟩, -⟩ := id x
    obtain ⟨n, hh⟩ := rn_i rfl rfl rfl rfl hh
    obtain ⟨n, hh⟩ := rn_i rfl rfl rfl rfl hh
    obtain ⟨n, hh⟩ := rn_icmp (cc := .ge) (off := 55) (t := 104) rfl rfl hh
    have ec : pm_cmp .ge (nI i) (Int8.ofInt 6).toInt32 = false := by
      have := hI_ge (a := i) (b := 6) (by omega) (by omega)
      rw [decide_eq_false (by omega)] at this
      exact this
    rw [ec] at hh
    obtain ⟨n, hh⟩ := rn_i rfl rfl rfl rfl hh
    obtain ⟨n, hh⟩ := rn_gfo (g := 0) rfl rfl (by decide) a1 a2 hh
    obtain ⟨n, hh⟩ := rn_i rfl rfl rfl rfl hh
    obtain ⟨n, hh⟩ := rn_i rfl rfl rfl rfl hh
    obtain ⟨n, fr', lo', r1, hr1, hh⟩ := rn_call (w := 0) (t := 81) rfl rfl hh
    have er := dgA_run (l := 41) hn (by decide) (by omega) x hr1
    subst er
    have hh : pm_run PT n fr lo 129 (62, [some (.ref 0), some (.int (nI p)), some (.int (nI ln)), some (.int ct), some (.int (nI i)), x5], [.int (dgA f n0 p 41)], h, 198, sl) = some R := hh
    obtain ⟨n, hh⟩ := rn_i rfl rfl rfl rfl hh
    obtain ⟨n, hh⟩ := rn_i rfl rfl rfl rfl hh
    obtain ⟨n, hh⟩ := rn_if (cc := .lt) (off := 13) (t := 79) rfl rfl hh
    unfold rcD
    cases hd : dg f p (min n0 41) with
    | false =>
      rw [dgA_no hd, show pm_cmp .lt (Int32.ofInt (-1)) 0 = true by decide] at hh
      rw [xr_m1 hh]
      rfl
    | true =>
      obtain ⟨v1, v2⟩ := dg_val hd
      rw [dgA_yes hd, lt0_val v1] at hh
      have hh : pm_run PT n fr lo 129 (69, [some (.ref 0), some (.int (nI p)), some (.int (nI ln)), some (.int ct), some (.int (nI i)), some (.int (f p - 48))], [], h, 198, sl) = some R := hh
      obtain ⟨n, hh⟩ := rn_i rfl rfl rfl rfl hh
      obtain ⟨n, hh⟩ := rn_if (cc := .ne) (off := 12) (t := 83) rfl rfl hh
      have en : pm_cmp .ne (nI i) 0 = true := by
        have := hI_ne (a := i) (b := 0) (by omega) (by omega)
        rw [decide_eq_true (by omega)] at this
        exact this
      rw [en] at hh
      have hh : pm_run PT n fr lo 129 (83, [some (.ref 0), some (.int (nI p)), some (.int (nI ln)), some (.int ct), some (.int (nI i)), some (.int (f p - 48))], [], h, 198, sl) = some R := hh
      obtain ⟨n, hh⟩ := rn_i rfl rfl rfl rfl hh
      obtain ⟨n, hh⟩ := rn_gfo (g := 2) rfl rfl (by decide) a1 a3 hh
      obtain ⟨n, hh⟩ := rn_i rfl rfl rfl rfl hh
      obtain ⟨n, hh⟩ := rn_i rfl rfl rfl rfl hh
      obtain ⟨n, hh⟩ := rn_i rfl rfl rfl rfl hh
      obtain ⟨n, fr', lo', r1, hr1, hh⟩ := rn_call (w := 0) (t := 26) rfl rfl hh
      have hf := sf_run sQ_ok _ _ _ 26 _ r1 rfl hr1
      have hk := ak_run (by decide) sQ_ak _ _ _ 26 _ r1 rfl hr1
      have hz := sz_run sQ_ok _ _ _ 26 _ r1 rfl hr1
      have hv := vd_run rfl hr1
      obtain ⟨rv, h1, s1⟩ := r1
      dsimp only at hf hk hz hv
      subst hz
      subst hv
      have x1 := pX_fm hf hk x
      have hh : pm_run PT n fr lo 129 (95, [some (.ref 0), some (.int (nI p)), some (.int (nI ln)), some (.int ct), some (.int (nI i)), some (.int (f p - 48))], [], h1, 198, sl) = some R := hh
      obtain ⟨n, hh⟩ := rn_i rfl rfl rfl rfl hh
      obtain ⟨n, hh⟩ := rn_i rfl rfl rfl rfl hh
      obtain ⟨n, hh⟩ := rn_i rfl rfl rfl rfl hh
      have e1 : nI p + Int32.ofInt 1 = nI (p + 1) := (Int32.ofNat_add p 1).symm
      have e2 : nI i + Int32.ofInt 1 = nI (i + 1) := (Int32.ofNat_add i 1).symm
      have hh : pm_run PT n fr lo 129 (45, [some (.ref 0), some (.int (nI p + Int32.ofInt 1)), some (.int (nI ln)), some (.int ct), some (.int (nI i + Int32.ofInt 1)), some (.int (f p - 48))], [], h1, 198, sl) = some R := hh
      rw [e1, e2] at hh
      have hlt := dg_lt hd
      exact ih (i + 1) (p + 1) n h1 _ (by omega) (by omega) (by omega) x1 hh
end CXL
end MH89throwsx4
section MH89throwsx5
section MG95xex0
/-! the class's courts -/
section CXC
variable {n fr lo sl n0 cc k pc p l ln t : Nat} {h h' : pm_H} {R : pm_Rs} {f : Nat → Int32}
theorem dgi_of : dgi f p t 1 9 = (dg f p t && !(decide (f p - 48 = 0))) := by
  cases hd : dg f p t with
  | true =>
    obtain ⟨v1, v2⟩ := dg_val hd
    have hlt := dg_lt hd
    unfold dgi in_b
    rw [decide_eq_true hlt]
    have n1 : ((1 : Int32).toInt64).toInt = 1 := by decide
    have n9 : ((9 : Int32).toInt64).toInt = 9 := by decide
    have a2 : ¬ (9 : Int32).toInt64 < (f p - 48).toInt64 := by
      rw [Int64.lt_iff_toInt_lt, n9, Int32.toInt_toInt64]
      omega
    by_cases z : f p - 48 = 0
    · rw [z]
      decide
    · have a1 : ¬ (f p - 48).toInt64 < (1 : Int32).toInt64 := by
        rw [Int64.lt_iff_toInt_lt, n1, Int32.toInt_toInt64]
        intro q
        exact z (Int32.toInt_inj.1 (by rw [show (0 : Int32).toInt = 0 by decide]; omega))
      rw [decide_eq_false a1, decide_eq_false a2, decide_eq_false z]
      rfl
  | false =>
    cases hi : dgi f p t 1 9 with
    | false => rfl
    | true =>
      exfalso
      unfold dgi in_b at hi
      rw [Bool.and_eq_true, Bool.and_eq_true] at hi
      have hlt := of_decide_eq_true hi.1
      have e1 : ¬ (f p - 48).toInt64 < (1 : Int32).toInt64 := by simpa using hi.2.1
      have e2 : ¬ (9 : Int32).toInt64 < (f p - 48).toInt64 := by simpa using hi.2.2
      rw [Int64.lt_iff_toInt_lt, Int32.toInt_toInt64, Int32.toInt_toInt64, show (1 : Int32).toInt = 1 by decide] at e1
      rw [Int64.lt_iff_toInt_lt, Int32.toInt_toInt64, Int32.toInt_toInt64, show (9 : Int32).toInt = 9 by decide] at e2
      have ef : f p = (f p - 48) + 48 := by simp
      have ei : (f p).toInt = (f p - 48).toInt + 48 := by
        have q := congrArg Int32.toInt ef
        rw [Int32.toInt_add, show (48 : Int32).toInt = 48 by decide, Int.bmod_eq_of_le (by omega) (by omega)] at q
        exact q
      have : dg f p t = true := by
        unfold dg
        rw [decide_eq_true hlt]
        refine (Bool.true_and _).trans (dg_in ?_ ?_)
        · refine decide_eq_false (fun q => ?_)
          rw [Int32.lt_iff_toInt_lt, nI_toInt (by decide)] at q
          omega
        · refine decide_eq_false (fun q => ?_)
          rw [Int32.lt_iff_toInt_lt, nI_toInt (by decide)] at q
          omega
      rw [this] at hd
      cases hd
theorem xr_first (hn : n0 ≤ 80) {ct : Int32} {x5 : Option Value} (hp : p < 800) (x : pX h n0 cc f) (hh : pm_run PT n fr lo 129 (45, [some (.ref 0), some (.int (nI p)), some (.int (nI ln)), some (.int ct), some (.int (nI 0)), x5], [], h, 198, sl) = some R) : cond (rcC f (min n0 41) p).1 (∃ m h' y5, pX h' n0 cc f ∧ pm_run PT m fr lo 129 (104, [some (.ref 0), some (.int (nI (rcC f (min n0 41) p).2)), some (.int (nI ln)), some (.int ct), some (.int (nI 6)), y5], [], h', 198, sl) = some R) (R.1 = some (.int (Int32.ofInt (-1) - nI (rcC f (min n0 41) p).2))) := by
  obtain ⟨⟨fs, a1, a2, a3⟩, -⟩ := id x
  obtain ⟨n, hh⟩ := rn_i rfl rfl rfl rfl hh
  obtain ⟨n, hh⟩ := rn_i rfl rfl rfl rfl hh
  obtain ⟨n, hh⟩ := rn_icmp (cc := .ge) (off := 55) (t := 104) rfl rfl hh
  have hh : pm_run PT n fr lo 129 (52, [some (.ref 0), some (.int (nI p)), some (.int (nI ln)), some (.int ct), some (.int (nI 0)), x5], [], h, 198, sl) = some R := hh
  obtain ⟨n, hh⟩ := rn_i rfl rfl rfl rfl hh
  obtain ⟨n, hh⟩ := rn_gfo (g := 0) rfl rfl (by decide) a1 a2 hh
  obtain ⟨n, hh⟩ := rn_i rfl rfl rfl rfl hh
  obtain ⟨n, hh⟩ := rn_i rfl rfl rfl rfl hh
  obtain ⟨n, fr', lo', r1, hr1, hh⟩ := rn_call (w := 0) (t := 81) rfl rfl hh
  have er := dgA_run (l := 41) hn (by decide) (by omega) x hr1
  subst er
  have hh : pm_run PT n fr lo 129 (62, [some (.ref 0), some (.int (nI p)), some (.int (nI ln)), some (.int ct), some (.int (nI 0)), x5], [.int (dgA f n0 p 41)], h, 198, sl) = some R := hh
  obtain ⟨n, hh⟩ := rn_i rfl rfl rfl rfl hh
  obtain ⟨n, hh⟩ := rn_i rfl rfl rfl rfl hh
  obtain ⟨n, hh⟩ := rn_if (cc := .lt) (off := 13) (t := 79) rfl rfl hh
  unfold rcC
  rw [dgi_of]
  cases hd : dg f p (min n0 41) with
  | false =>
    rw [dgA_no hd, show pm_cmp .lt (Int32.ofInt (-1)) 0 = true by decide] at hh
    rw [xr_m1 hh]
    rfl
  | true =>
    obtain ⟨v1, v2⟩ := dg_val hd
    rw [dgA_yes hd, lt0_val v1] at hh
    have hh : pm_run PT n fr lo 129 (69, [some (.ref 0), some (.int (nI p)), some (.int (nI ln)), some (.int ct), some (.int (nI 0)), some (.int (f p - 48))], [], h, 198, sl) = some R := hh
    obtain ⟨n, hh⟩ := rn_i rfl rfl rfl rfl hh
    obtain ⟨n, hh⟩ := rn_if (cc := .ne) (off := 12) (t := 83) rfl rfl hh
    have hh : pm_run PT n fr lo 129 (74, [some (.ref 0), some (.int (nI p)), some (.int (nI ln)), some (.int ct), some (.int (nI 0)), some (.int (f p - 48))], [], h, 198, sl) = some R := hh
    obtain ⟨n, hh⟩ := rn_i rfl rfl rfl rfl hh
    obtain ⟨n, hh⟩ := rn_if (cc := .ne) (off := 7) (t := 83) rfl rfl hh
    by_cases z : f p - 48 = 0
    · rw [show pm_cmp .ne (f p - 48) 0 = false from decide_eq_false (fun q => q z)] at hh
      rw [decide_eq_true z]
      rw [xr_m1 hh]
      rfl
    · rw [show pm_cmp .ne (f p - 48) 0 = true from decide_eq_true z] at hh
      rw [decide_eq_false z]
      have hh : pm_run PT n fr lo 129 (83, [some (.ref 0), some (.int (nI p)), some (.int (nI ln)), some (.int ct), some (.int (nI 0)), some (.int (f p - 48))], [], h, 198, sl) = some R := hh
      obtain ⟨n, hh⟩ := rn_i rfl rfl rfl rfl hh
      obtain ⟨n, hh⟩ := rn_gfo (g := 2) rfl rfl (by decide) a1 a3 hh
      obtain ⟨n, hh⟩ := rn_i rfl rfl rfl rfl hh
      obtain ⟨n, hh⟩ := rn_i rfl rfl rfl rfl hh
      obtain ⟨n, hh⟩ := rn_i rfl rfl rfl rfl hh
      obtain ⟨n, fr', lo', r1, hr1, hh⟩ := rn_call (w := 0) (t := 26) rfl rfl hh
      have hf := sf_run sQ_ok _ _ _ 26 _ r1 rfl hr1
      have hk := ak_run (by decide) sQ_ak _ _ _ 26 _ r1 rfl hr1
      have hz := sz_run sQ_ok _ _ _ 26 _ r1 rfl hr1
      have hv := vd_run rfl hr1
      obtain ⟨rv, h1, s1⟩ := r1
      dsimp only at hf hk hz hv
      subst hz
      subst hv
      have x1 := pX_fm hf hk x
      have hh : pm_run PT n fr lo 129 (95, [some (.ref 0), some (.int (nI p)), some (.int (nI ln)), some (.int ct), some (.int (nI 0)), some (.int (f p - 48))], [], h1, 198, sl) = some R := hh
      obtain ⟨n, hh⟩ := rn_i rfl rfl rfl rfl hh
      obtain ⟨n, hh⟩ := rn_i rfl rfl rfl rfl hh
      obtain ⟨n, hh⟩ := rn_i rfl rfl rfl rfl hh
      have e1 : nI p + Int32.ofInt 1 = nI (p + 1) := (Int32.ofNat_add p 1).symm
      have hh : pm_run PT n fr lo 129 (45, [some (.ref 0), some (.int (nI p + Int32.ofInt 1)), some (.int (nI ln)), some (.int ct), some (.int (nI 1)), some (.int (f p - 48))], [], h1, 198, sl) = some R := hh
      rw [e1] at hh
      exact xr_dig hn 5 1 (p + 1) n h1 _ rfl (by decide) (by omega) x1 hh
/-- what the class answers, by how far it came -/
def xA (n0 : Nat) (s : Bool × Nat × Nat) : Int32 := cond (s.1 && decide (s.2.1 = n0)) (nI s.2.2) (Int32.ofInt (-1) - nI s.2.1)
theorem xr_loop (hn : n0 ≤ 80) : ∀ (k ln p n : Nat) (h : pm_H) (x3 x4 x5 : Option Value), cc + ln + k = 7 → 0 < k → p ≤ min n0 41 → pX h n0 cc f → pm_run PT n fr lo 129 (16, [some (.ref 0), some (.int (nI p)), some (.int (nI ln)), x3, x4, x5], [], h, 198, sl) = some R → R.1 = some (.int (xA n0 (spL f (min n0 41) cc k ln p))) := by
  intro k
  induction k with
  | zero => intro ln p n h x3 x4 x5 hk h0; exact absurd h0 (by omega)
  | succ k ih =>
    intro ln p n h x3 x4 x5 hk h0 hp x hh
    obtain ⟨⟨fs, a1, a2, a3⟩, ⟨gs, g1, g2, g3⟩, c1, rs, d1, d2⟩ := id x
    unfold spL
    obtain ⟨n, hh⟩ := rn_i rfl rfl rfl rfl hh
    obtain ⟨n, hh⟩ := rn_i rfl rfl rfl rfl hh
    obtain ⟨n, hh⟩ := rn_icmp (cc := .ge) (off := 128) (t := 147) rfl rfl hh
    have ec : pm_cmp .ge (nI ln) (Int8.ofInt 6).toInt32 = decide (6 ≤ ln) := hI_ge (a := ln) (b := 6) (by omega) (by omega)
    rw [ec] at hh
    by_cases z6 : 6 ≤ ln
    · rw [decide_eq_true z6] at hh
      rw [decide_eq_true (show cc + ln = 6 by omega)]
      obtain ⟨n, hh⟩ := rn_i rfl rfl rfl rfl hh
      obtain ⟨n, hh⟩ := rn_i rfl rfl rfl rfl hh
      obtain ⟨n, hh⟩ := rn_i rfl rfl rfl rfl hh
      rw [(rn_ret rfl (Or.inl rfl) hh).2]
      rfl
    · rw [decide_eq_false z6] at hh
      obtain ⟨n, hh⟩ := rn_i rfl rfl rfl rfl hh
      obtain ⟨n, hh⟩ := rn_gfo (g := 2) rfl rfl (by decide) a1 a3 hh
      obtain ⟨n, hh⟩ := rn_gfo (g := 0) rfl rfl (by decide) d1 d2 hh
      obtain ⟨n, hh⟩ := rn_i rfl rfl rfl rfl hh
      obtain ⟨n, hh⟩ := rn_i rfl rfl rfl rfl hh
      obtain ⟨n, hh⟩ := rn_i rfl rfl rfl rfl hh
      obtain ⟨n, hh⟩ := rn_i rfl rfl rfl rfl hh
      obtain ⟨n, hh⟩ := rn_i rfl rfl rfl rfl hh
      obtain ⟨n, hh⟩ := rn_icmp (cc := .lt) (off := 7) (t := 42) rfl rfl hh
      have ea : nI cc + nI ln = nI (cc + ln) := nI_add cc ln
      have hh : pm_run PT n fr lo 129 (cond (pm_cmp .lt (nI cc + nI ln) (nI 6)) 42 38, [some (.ref 0), some (.int (nI p)), some (.int (nI ln)), some (.int (nI cc + nI ln)), x4, x5], [], h, 198, sl) = some R := hh
      rw [ea, hI_lt (by omega) (by omega)] at hh
      by_cases z : cc + ln = 6
      · rw [decide_eq_false (by omega)] at hh
        rw [decide_eq_true z]
        obtain ⟨n, hh⟩ := rn_i rfl rfl rfl rfl hh
        obtain ⟨n, hh⟩ := rn_i rfl rfl rfl rfl hh
        obtain ⟨n, hh⟩ := rn_i rfl rfl rfl rfl hh
        rw [(rn_ret rfl (Or.inl rfl) hh).2]
        rfl
      · rw [decide_eq_true (by omega)] at hh
        rw [decide_eq_false z]
        have hh : pm_run PT n fr lo 129 (42, [some (.ref 0), some (.int (nI p)), some (.int (nI ln)), some (.int (nI (cc + ln))), x4, x5], [], h, 198, sl) = some R := hh
        obtain ⟨n, hh⟩ := rn_i rfl rfl rfl rfl hh
        obtain ⟨n, hh⟩ := rn_i rfl rfl rfl rfl hh
        have hq := xr_first hn (by omega) x hh
        have hle := rcC_le (tp := f) hp
        dsimp only [cond]
        cases y : (rcC f (min n0 41) p).1 with
        | false =>
          rw [y] at hq
          exact hq
        | true =>
          rw [y] at hq
          obtain ⟨n, h', y5, x', hh⟩ := hq
          generalize (rcC f (min n0 41) p).2 = b at *
          obtain ⟨⟨fs, a1, a2, a3⟩, ⟨gs, g1, g2, g3⟩, -⟩ := id x'
          obtain ⟨n, hh⟩ := rn_i rfl rfl rfl rfl hh
          obtain ⟨n, hh⟩ := rn_i rfl rfl rfl rfl hh
          obtain ⟨n, hh⟩ := rn_gfo (g := 0) rfl rfl (by decide) a1 a2 hh
          obtain ⟨n, hh⟩ := rn_gfo (g := 1) rfl rfl (by decide) g1 g3 hh
          obtain ⟨n, hh⟩ := rn_icmp (cc := .ne) (off := 7) (t := 119) rfl rfl hh
          rw [hI_ne (by omega) (by omega)] at hh
          by_cases w : b = n0
          · rw [decide_eq_false (fun q => q w)] at hh
            rw [decide_eq_false (by omega)]
            obtain ⟨n, hh⟩ := rn_i rfl rfl rfl rfl hh
            obtain ⟨n, hh⟩ := rn_i rfl rfl rfl rfl hh
            obtain ⟨n, hh⟩ := rn_i rfl rfl rfl rfl hh
            have e1 : nI ln + Int32.ofInt 1 = nI (ln + 1) := (Int32.ofNat_add ln 1).symm
            rw [(rn_ret rfl (Or.inl rfl) hh).2]
            unfold xA
            dsimp only
            rw [decide_eq_true w]
            exact congrArg (fun q => some (Value.int q)) e1
          · rw [decide_eq_true w] at hh
            have hh : pm_run PT n fr lo 129 (119, [some (.ref 0), some (.int (nI b)), some (.int (nI ln)), some (.int (nI (cc + ln))), some (.int (nI 6)), y5], [], h', 198, sl) = some R := hh
            obtain ⟨n, hh⟩ := rn_i rfl rfl rfl rfl hh
            obtain ⟨n, hh⟩ := rn_gfo (g := 0) rfl rfl (by decide) a1 a2 hh
            obtain ⟨n, hh⟩ := rn_i rfl rfl rfl rfl hh
            obtain ⟨n, hh⟩ := rn_i rfl rfl rfl rfl hh
            obtain ⟨n, fr', lo', r1, hr1, hh⟩ := rn_call (w := 0) (t := 80) rfl rfl hh
            have er := sgA_run (l := 41) hn (by decide) (by omega) x' hr1
            subst er
            have hh : pm_run PT n fr lo 129 (129, [some (.ref 0), some (.int (nI b)), some (.int (nI ln)), some (.int (nI (cc + ln))), some (.int (nI 6)), y5], [.int (sgA f n0 b 41)], h', 198, sl) = some R := hh
            obtain ⟨n, hh⟩ := rn_i rfl rfl rfl rfl hh
            obtain ⟨n, hh⟩ := rn_icmp (cc := .eq) (off := 7) (t := 138) rfl rfl hh
            have hh : pm_run PT n fr lo 129 (cond (pm_cmp .eq (sgA f n0 b 41) 59) 138 134, [some (.ref 0), some (.int (nI b)), some (.int (nI ln)), some (.int (nI (cc + ln))), some (.int (nI 6)), y5], [], h', 198, sl) = some R := hh
            have es : pm_cmp .eq (sgA f n0 b 41) 59 = decide (b < min n0 41 ∧ f b = 59) := by
              unfold sgA
              by_cases q : b < min n0 41
              · rw [decide_eq_true q]
                show decide (f b = 59) = _
                rw [Bool.eq_iff_iff, decide_eq_true_iff, decide_eq_true_iff]
                exact ⟨fun e => ⟨q, e⟩, fun e => e.2⟩
              · rw [decide_eq_false q, decide_eq_false (fun e => q e.1)]
                show pm_cmp .eq (Int32.ofInt (-1)) 59 = false
                decide
            rw [es] at hh
            cases v : decide (b < min n0 41 ∧ f b = 59) with
            | false =>
              rw [v] at hh
              obtain ⟨n, hh⟩ := rn_i rfl rfl rfl rfl hh
              obtain ⟨n, hh⟩ := rn_i rfl rfl rfl rfl hh
              obtain ⟨n, hh⟩ := rn_i rfl rfl rfl rfl hh
              rw [(rn_ret rfl (Or.inl rfl) hh).2]
              unfold xA
              dsimp only
              rw [decide_eq_false w]
              rfl
            | true =>
              rw [v] at hh
              have vv := of_decide_eq_true v
              obtain ⟨n, hh⟩ := rn_i rfl rfl rfl rfl hh
              obtain ⟨n, hh⟩ := rn_i rfl rfl rfl rfl hh
              obtain ⟨n, hh⟩ := rn_i rfl rfl rfl rfl hh
              have e1 : nI b + Int32.ofInt 1 = nI (b + 1) := (Int32.ofNat_add b 1).symm
              have e2 : nI ln + Int32.ofInt 1 = nI (ln + 1) := (Int32.ofNat_add ln 1).symm
              have hh : pm_run PT n fr lo 129 (16, [some (.ref 0), some (.int (nI b + Int32.ofInt 1)), some (.int (nI ln + Int32.ofInt 1)), some (.int (nI (cc + ln))), some (.int (nI 6)), y5], [], h', 198, sl) = some R := hh
              rw [e1, e2] at hh
              exact ih (ln + 1) (b + 1) n h' _ _ _ (by omega) (by omega) (by omega) x' hh
end CXC
end MG95xex0
section MG95xex1
section CXF
variable {n fr lo sl n0 cc : Nat} {h : pm_H} {R : pm_Rs} {f : Nat → Int32}
theorem xr_0 (hh : pm_run PT n fr lo 129 (10, [some (.ref 0), none, none, none, none, none], [], h, 198, sl) = some R) : R.1 = some (.int (Int32.ofInt 0)) := by
  obtain ⟨n, hh⟩ := rn_i rfl rfl rfl rfl hh
  rw [(rn_ret rfl (Or.inl rfl) hh).2]
theorem xr_1 (hn : n0 ≤ 80) (hc : cc ≤ 6) (x : pX h n0 cc f) (hh : pm_run PT n fr lo 129 (12, [some (.ref 0), none, none, none, none, none], [], h, 198, sl) = some R) : R.1 = some (.int (xA n0 (spL f (min n0 41) cc (7 - cc) 0 0))) := by
  obtain ⟨n, hh⟩ := rn_i rfl rfl rfl rfl hh
  obtain ⟨n, hh⟩ := rn_i rfl rfl rfl rfl hh
  obtain ⟨n, hh⟩ := rn_i rfl rfl rfl rfl hh
  obtain ⟨n, hh⟩ := rn_i rfl rfl rfl rfl hh
  have hh : pm_run PT n fr lo 129 (16, [some (.ref 0), some (.int (nI 0)), some (.int (nI 0)), none, none, none], [], h, 198, sl) = some R := hh
  exact xr_loop hn (7 - cc) 0 0 n h none none none (by omega) (by omega) (Nat.zero_le _) x hh
def xR (n0 cc : Nat) (f : Nat → Int32) : Int32 := if n0 = 0 then Int32.ofInt 0 else xA n0 (spL f (min n0 41) cc (7 - cc) 0 0)
theorem xr_run (hn : n0 ≤ 80) (hc : cc ≤ 6) (x : pX h n0 cc f) (hh : pm_run PT n fr lo 129 (0, pm_l0 [.ref 0] 6, [], h, 198, sl) = some R) : R.1 = some (.int (xR n0 cc f)) := by
  obtain ⟨⟨fs, a1, a2, a3⟩, ⟨gs, g1, g2, g3⟩, -⟩ := id x
  obtain ⟨n, hh⟩ := rn_i rfl rfl rfl rfl hh
  obtain ⟨n, hh⟩ := rn_gfo (g := 0) rfl rfl (by decide) a1 a2 hh
  obtain ⟨n, hh⟩ := rn_gfo (g := 1) rfl rfl (by decide) g1 g3 hh
  obtain ⟨n, hh⟩ := rn_if (cc := .ne) (off := 5) (t := 12) rfl rfl hh
  have en : pm_cmp .ne (nI n0) 0 = decide (¬ n0 = 0) := hI_ne (a := n0) (b := 0) (by omega) (by omega)
  rw [en] at hh
  unfold xR
  by_cases z : n0 = 0
  · rw [decide_eq_false (fun q => q z)] at hh
    rw [if_pos z]
    exact xr_0 hh
  · rw [decide_eq_true z] at hh
    rw [if_neg z]
    exact xr_1 hn hc x hh
/-- both answers are one -/
theorem neg_ge {a : Nat} (ha : a ≤ 80) : pm_cmp .ge (Int32.ofInt (-1) - nI a) 0 = false := by
  have e : (Int32.ofInt (-1) - nI a).toInt = -1 - (a : Int) := by
    rw [Int32.toInt_sub, nI_toInt (by omega), show (Int32.ofInt (-1)).toInt = -1 by decide, Int.bmod_eq_of_le (by omega) (by omega)]
  generalize Int32.ofInt (-1) - nI a = y at e ⊢
  simp only [pm_cmp]
  rw [decide_eq_false_iff_not]
  intro q
  rw [Int32.le_iff_toInt_le, e, show (0 : Int32).toInt = 0 by decide] at q
  omega
theorem fO_eq {at_ : Nat} {is : Bool} (hn : n0 ≤ 80) (ha : at_ ≤ min n0 41) : fO n0 41 (min n0 41) at_ is = cond (is && decide (at_ = n0)) (Int32.ofInt 0) (Int32.ofInt (-1) - nI at_) := by
  unfold fO fO2
  by_cases z : at_ = n0
  · have ht : at_ = min n0 41 := by omega
    rw [decide_eq_true z, decide_eq_true ht, if_neg (by omega)]
  · rw [decide_eq_false z, Bool.and_false]
    by_cases y : at_ = min n0 41
    · have e41 : at_ = 41 := by omega
      rw [if_pos ⟨by omega, Or.inr (by omega)⟩, e41]
      rfl
    · rw [decide_eq_false y, Bool.and_false, if_neg (fun q => by rcases q.2 with q | q; cases q; omega)]
theorem rcD_cong {tp : Nat → Int32} {t : Nat} (hf : ∀ j, j < t → f j = tp j) : ∀ (k a : Nat), rcD f t k a = rcD tp t k a
  | 0, a => rfl
  | k + 1, a => by
    unfold rcD
    have e : dg f a t = dg tp a t := by
      unfold dg
      by_cases z : a < t
      · rw [hf a z]
      · rw [decide_eq_false z, Bool.false_and, Bool.false_and]
    rw [e, rcD_cong hf k (a + 1)]
theorem rcC_cong {tp : Nat → Int32} {t a : Nat} (hf : ∀ j, j < t → f j = tp j) : rcC f t a = rcC tp t a := by
  unfold rcC
  have e : dgi f a t 1 9 = dgi tp a t 1 9 := by
    unfold dgi
    by_cases z : a < t
    · rw [hf a z]
    · rw [decide_eq_false z, Bool.false_and, Bool.false_and]
  rw [e, rcD_cong hf 5 (a + 1)]
theorem spL_cong {tp : Nat → Int32} {t : Nat} (hf : ∀ j, j < t → f j = tp j) : ∀ (k rm a : Nat), spL f t cc k rm a = spL tp t cc k rm a
  | 0, rm, a => rfl
  | k + 1, rm, a => by
    unfold spL
    rw [rcC_cong hf, spL_cong hf k (rm + 1) ((rcC tp t a).2 + 1)]
    have e : decide ((rcC tp t a).2 < t ∧ f (rcC tp t a).2 = 59) = decide ((rcC tp t a).2 < t ∧ tp (rcC tp t a).2 = 59) := by
      by_cases z : (rcC tp t a).2 < t
      · rw [hf _ z]
      · rw [decide_eq_false (fun q => z q.1), decide_eq_false (fun q => z q.1)]
    rw [e]
theorem neg_le {a : Nat} (ha : a ≤ 80) : pm_cmp .le (Int32.ofInt (-1) - nI a) 0 = true := by
  have e : (Int32.ofInt (-1) - nI a).toInt = -1 - (a : Int) := by
    rw [Int32.toInt_sub, nI_toInt (by omega), show (Int32.ofInt (-1)).toInt = -1 by decide, Int.bmod_eq_of_le (by omega) (by omega)]
  generalize Int32.ofInt (-1) - nI a = y at e ⊢
  simp only [pm_cmp]
  rw [decide_eq_true_iff, Int32.le_iff_toInt_le, e, show (0 : Int32).toInt = 0 by decide]
  omega
/-- the reference's answer and how many came, by the class's -/
theorem cm_both {tp : Nat → Int32} (hn : n0 ≤ 80) (hc : cc ≤ 6) (hf : ∀ j, j < n0 → f j = tp j) : cmA tp n0 cc = xR n0 cc f ∧ ((xR n0 cc f = nI (cmN tp n0 cc) ∧ cc + cmN tp n0 cc ≤ 6) ∨ (pm_cmp .le (xR n0 cc f) 0 = true ∧ cmN tp n0 cc = 0)) := by
  have e0 : pm_cmp .ge (Int32.ofInt 0) 0 = true := by decide
  unfold cmA cmN cmF xR
  by_cases z : n0 = 0
  · have es : cmS tp n0 cc = (true, 0, 0) := by
      unfold cmS
      rw [z]
      rfl
    rw [es, if_pos z]
    dsimp only
    rw [fO_eq hn (Nat.zero_le _), show (true && decide (0 = n0)) = true by rw [z]; rfl]
    generalize Int32.ofInt (-1) - nI 0 = y
    simp only [cond_true]
    rw [e0]
    simp only [cond_true]
    exact ⟨(by decide), Or.inl ⟨(by decide), hc⟩⟩
  · have es : cmS tp n0 cc = spL tp (min n0 41) cc (7 - cc) 0 0 := by
      unfold cmS
      rw [nb_ne z]
      rfl
    have e2 := spL_cong (cc := cc) (t := min n0 41) (fun j hj => hf j (by omega)) (7 - cc) 0 0
    obtain ⟨b1, b2, b3⟩ := spL_bd (tp := tp) (cc := cc) (7 - cc) 0 0 (Nat.zero_le (min n0 41))
    have b3 := b3 (by omega)
    rw [es, if_neg z, e2]
    generalize spL tp (min n0 41) cc (7 - cc) 0 0 = s at *
    rw [fO_eq hn b1]
    unfold xA
    have y1 := neg_ge (a := s.2.1) (by omega)
    have y2 := neg_le (a := s.2.1) (by omega)
    generalize Int32.ofInt (-1) - nI s.2.1 = y at *
    cases hs : (s.1 && decide (s.2.1 = n0)) with
    | true =>
      simp only [cond_true]
      rw [e0]
      simp only [cond_true]
      exact ⟨trivial, Or.inl ⟨trivial, b3⟩⟩
    | false =>
      simp only [cond_false]
      rw [y1]
      simp only [cond_false]
      exact ⟨trivial, Or.inr ⟨y2, trivial⟩⟩
end CXF
end MG95xex1
section MG95xex2
/-! the class's courts: the LINES come -/
section CXG
variable {n fr lo sl n0 cc N : Nat} {h h' : pm_H} {R : pm_Rs} {f : Nat → Int32}
def rC (h : pm_H) (v : Value) : Prop := ∃ rs, h 5 = .inr (3, rs) ∧ rs[0]? = some v
def pY (h : pm_H) (c : Nat) : Prop := (∃ fs, h 0 = .inr (10, fs) ∧ fs[2]? = some (.ref 5)) ∧ rC h (.int (nI c))
theorem pY_fm {c : Nat} (q : fm (sfF sQ) h h') (x : pY h c) : pY h' c := by
  obtain ⟨⟨fs, a1, a2⟩, rs, d1, d2⟩ := x
  obtain ⟨fs', e1, -, e2⟩ := q.2 0 10 fs a1
  obtain ⟨rs', i1, -, i2⟩ := q.2 5 3 rs d1
  exact ⟨⟨fs', e1, (e2 2 rfl).trans a2⟩, rs', i1, (i2 0 rfl).trans d2⟩
theorem xc_fin {c : Nat} {v x2 : Int32} (x : pY h c) (hh : pm_run PT n fr lo 88 (54, [some (.ref 0), some (.int v), some (.int x2)], [], h, 198, sl) = some R) : R.1 = some (.int v) ∧ rC R.2.1 (.int (nI c)) := by
  obtain ⟨n, hh⟩ := rn_i rfl rfl rfl rfl hh
  obtain ⟨n, fr', lo', r1, hr1, hh⟩ := rn_call (w := 0) (t := 133) rfl rfl hh
  have hf := sf_run sQ_ok _ _ _ 133 _ r1 rfl hr1
  have hz := sz_run sQ_ok _ _ _ 133 _ r1 rfl hr1
  have hv := vd_run rfl hr1
  obtain ⟨rv, h1, s1⟩ := r1
  dsimp only at hf hz hv
  subst hz
  subst hv
  have hh : pm_run PT n fr lo 88 (58, [some (.ref 0), some (.int v), some (.int x2)], [], h1, 198, sl) = some R := hh
  obtain ⟨n, hh⟩ := rn_i rfl rfl rfl rfl hh
  have e := (rn_ret rfl (Or.inl rfl) hh).2
  subst e
  exact ⟨rfl, (pY_fm hf x).2⟩
theorem xc_loop (hN : N ≤ 6) (hc : cc ≤ 6) : ∀ (d k n : Nat) (h : pm_H), k + d = N → pY h (cc + k) → pm_run PT n fr lo 88 (19, [some (.ref 0), some (.int (nI N)), some (.int (nI k))], [], h, 198, sl) = some R → R.1 = some (.int (nI N)) ∧ rC R.2.1 (.int (nI (cc + N))) := by
  intro d
  induction d with
  | zero =>
    intro k n h hk x hh
    have hk : k = N := by omega
    subst hk
    obtain ⟨n, hh⟩ := rn_i rfl rfl rfl rfl hh
    obtain ⟨n, hh⟩ := rn_i rfl rfl rfl rfl hh
    obtain ⟨n, hh⟩ := rn_icmp (cc := .ge) (off := 33) (t := 54) rfl rfl hh
    rw [hI_ge (by omega) (by omega), decide_eq_true (Nat.le_refl _)] at hh
    exact xc_fin x hh
  | succ d ih =>
    intro k n h hk x hh
    obtain ⟨n, hh⟩ := rn_i rfl rfl rfl rfl hh
    obtain ⟨n, hh⟩ := rn_i rfl rfl rfl rfl hh
    obtain ⟨n, hh⟩ := rn_icmp (cc := .ge) (off := 33) (t := 54) rfl rfl hh
    rw [hI_ge (by omega) (by omega), decide_eq_false (by omega)] at hh
    obtain ⟨⟨fs, a1, a2⟩, rs, d1, d2⟩ := id x
    obtain ⟨n, hh⟩ := rn_i rfl rfl rfl rfl hh
    obtain ⟨n, hh⟩ := rn_i rfl rfl rfl rfl hh
    obtain ⟨n, hh⟩ := rn_gfo (g := 2) rfl rfl (by decide) a1 a2 hh
    obtain ⟨n, hh⟩ := rn_gfo (g := 0) rfl rfl (by decide) d1 d2 hh
    obtain ⟨n, fr', lo', r1, hr1, hh⟩ := rn_call (w := 0) (t := 132) rfl rfl hh
    have hf := sf_run sQ_ok _ _ _ 132 _ r1 rfl hr1
    have hz := sz_run sQ_ok _ _ _ 132 _ r1 rfl hr1
    have hv := vd_run rfl hr1
    obtain ⟨rv, h1, s1⟩ := r1
    dsimp only at hf hz hv
    subst hz
    subst hv
    obtain ⟨⟨gs, b1, b2⟩, qs, c1, c2⟩ := pY_fm hf x
    have hh : pm_run PT n fr lo 88 (35, [some (.ref 0), some (.int (nI N)), some (.int (nI k))], [], h1, 198, sl) = some R := hh
    obtain ⟨n, hh⟩ := rn_i rfl rfl rfl rfl hh
    obtain ⟨n, hh⟩ := rn_gfo (g := 2) rfl rfl (by decide) b1 b2 hh
    obtain ⟨n, hh⟩ := rn_i rfl rfl rfl rfl hh
    obtain ⟨n, hh⟩ := rn_gfo (g := 0) rfl rfl (by decide) c1 c2 hh
    obtain ⟨n, hh⟩ := rn_i rfl rfl rfl rfl hh
    obtain ⟨n, hh⟩ := rn_i rfl rfl rfl rfl hh
    obtain ⟨n, hh⟩ := rn_i rfl rfl rfl (pf_eq (f := 0) rfl rfl (by decide) (by decide) c1 c2) hh
    obtain ⟨n, hh⟩ := rn_i rfl rfl rfl rfl hh
    obtain ⟨n, hh⟩ := rn_i rfl rfl rfl rfl hh
    have e1 : nI (cc + k) + Int32.ofInt 1 = nI (cc + (k + 1)) := (Int32.ofNat_add (cc + k) 1).symm
    have e2 : nI k + Int32.ofInt 1 = nI (k + 1) := (Int32.ofNat_add k 1).symm
    have hh : pm_run PT n fr lo 88 (19, [some (.ref 0), some (.int (nI N)), some (.int (nI k + Int32.ofInt 1))], [], va_up h1 5 (.inr (3, qs.set 0 (.int (nI (cc + k) + Int32.ofInt 1)))), 198, sl) = some R := hh
    rw [e1, e2] at hh
    refine ih (k + 1) n _ (by omega) ⟨⟨gs, by simp [va_up, b1], b2⟩, qs.set 0 (.int (nI (cc + (k + 1)))), by simp [va_up], ?_⟩ hh
    rw [List.getElem?_set_self (List.getElem?_eq_some_iff.mp c2).1]
theorem xc_run (hn : n0 ≤ 80) (hc : cc ≤ 6) (x : pX h n0 cc f) (hN : (xR n0 cc f = nI N ∧ cc + N ≤ 6) ∨ (pm_cmp .le (xR n0 cc f) 0 = true ∧ N = 0)) (hh : pm_run PT n fr lo 88 (0, pm_l0 [.ref 0] 3, [], h, 198, sl) = some R) : R.1 = some (.int (xR n0 cc f)) ∧ rC R.2.1 (.int (nI (cc + N))) := by
  obtain ⟨n, hh⟩ := rn_i rfl rfl rfl rfl hh
  obtain ⟨n, fr', lo', r1, hr1, hh⟩ := rn_call (w := 0) (t := 129) rfl rfl hh
  have hf := sf_run sQ_ok _ _ _ 129 _ r1 rfl hr1
  have hk := ak_run (by decide) sQ_ak _ _ _ 129 _ r1 rfl hr1
  have hz := sz_run sQ_ok _ _ _ 129 _ r1 rfl hr1
  have hv := xr_run hn hc x hr1
  obtain ⟨rv, h1, s1⟩ := r1
  dsimp only at hf hk hz hv
  subst hz
  subst hv
  obtain ⟨⟨fs, a1, a2, a3⟩, ⟨gs, g1, g2, g3⟩, c1, rs, d1, d2⟩ := pX_fm hf hk x
  generalize xR n0 cc f = v at *
  have hh : pm_run PT n fr lo 88 (4, [some (.ref 0), none, none], [.int v], h1, 198, sl) = some R := hh
  obtain ⟨n, hh⟩ := rn_i rfl rfl rfl rfl hh
  obtain ⟨n, hh⟩ := rn_i rfl rfl rfl rfl hh
  obtain ⟨n, hh⟩ := rn_gfo (g := 0) rfl rfl (by decide) a1 a2 hh
  obtain ⟨n, hh⟩ := rn_i rfl rfl rfl rfl hh
  obtain ⟨n, hh⟩ := rn_i rfl rfl rfl (pf_eq (f := 1) rfl rfl (by decide) (by decide) g1 g3) hh
  have y : pY (va_up h1 1 (.inr (8, gs.set 1 (.int (Int32.ofInt 0))))) cc := ⟨⟨fs, by simp [va_up, a1], a3⟩, rs, by simp [va_up, d1], d2⟩
  generalize va_up h1 1 (.inr (8, gs.set 1 (.int (Int32.ofInt 0)))) = h2 at *
  have hh : pm_run PT n fr lo 88 (13, [some (.ref 0), some (.int v), none], [], h2, 198, sl) = some R := hh
  obtain ⟨n, hh⟩ := rn_i rfl rfl rfl rfl hh
  obtain ⟨n, hh⟩ := rn_if (cc := .le) (off := 44) (t := 58) rfl rfl hh
  have fin0 : ∀ n : Nat, pm_run PT n fr lo 88 (58, [some (.ref 0), some (.int v), none], [], h2, 198, sl) = some R → R.1 = some (.int v) ∧ rC R.2.1 (.int (nI cc)) := by
    intro n hh
    obtain ⟨n, hh⟩ := rn_i rfl rfl rfl rfl hh
    have e := (rn_ret rfl (Or.inl rfl) hh).2
    subst e
    exact ⟨rfl, y.2⟩
  rcases hN with ⟨e1, e2⟩ | ⟨e1, e2⟩
  · by_cases z : N = 0
    · subst z
      rw [show pm_cmp .le v 0 = true by rw [e1]; decide] at hh
      exact fin0 n hh
    · have ec : pm_cmp .le v 0 = false := by
        rw [e1]
        have := hI_le (a := N) (b := 0) (by omega) (by omega)
        rw [decide_eq_false (by omega)] at this
        exact this
      rw [ec] at hh
      rw [e1] at hh ⊢
      obtain ⟨n, hh⟩ := rn_i rfl rfl rfl rfl hh
      obtain ⟨n, hh⟩ := rn_i rfl rfl rfl rfl hh
      exact xc_loop (by omega) hc N 0 n h2 (by omega) y hh
  · subst e2
    rw [e1] at hh
    exact fin0 n hh
end CXG
end MG95xex2
section MG95xex3
/-! sign: the same four signs come behind both texts -/
section SGN
variable {n fr lo sl n0 k pc : Nat} {h h' : pm_H} {R : pm_Rs} {f : Nat → Int32} {L : pm_L} {r : List Value} {v s : Int32}
/-- a sign as the class writes it, as the reference does -/
def chX (v s : Int32) : Int32 := vp_nar .char ((((v.toUInt32 >>> (s.toUInt32 &&& Int32.toUInt32 31)).toInt32 &&& (Int16.ofInt 255).toInt32).toUInt32 % 65536).toInt32)
def chM (v : Int32) (s : Int32) : Int32 := (v >>> (s &&& 31)) &&& (Int16.ofInt 255).toInt32
def pT (h : pm_H) (n0 : Nat) (f : Nat → Int32) : Prop := (∃ gs, h 1 = .inr (8, gs) ∧ gs[0]? = some (.ref 2) ∧ gs[1]? = some (.int (nI n0))) ∧ h 2 = .inl (1, 80, .inl f)
theorem rn_csm {a m : Nat} {i x : Int32} {g : Nat → Int32} (hi : pm_ins PT k pc = some (.castore, 1)) (ha : h a = .inl (1, m, .inl g)) (hin : pm_in i m = true) (hl : a < 198) (hh : pm_run PT n fr lo k (pc, L, .int x :: .int i :: .ref a :: r, h, 198, sl) = some R) : ∃ q, pm_run PT q fr lo k (pc + 1, L, r, va_up h a (.inl (1, m, .inl (upd g i.toNatClampNeg (vp_nar .char x)))), 198, sl) = some R := by
  refine rn_i hi rfl rfl ?_ hh
  show pm_iS PT .char (fun x => vp_nar .char x) pc L (.int x :: .int i :: .ref a :: r) h 198 sl = _
  unfold pm_iS
  dsimp only
  have e : pm_iar PT .char h 198 a = some (1, m, g) := by
    unfold pm_iar
    rw [if_pos hl, ha]
    exact if_pos rfl
  rw [e]
  dsimp only
  rw [if_pos hin]
theorem ad_step (hs : pm_cmp .lt s 0 = false) (hn : n0 < 80) (x : pT h n0 f) (hh : pm_run PT n fr lo 79 (16, [some (.ref 1), some (.int v), some (.int s)], [], h, 198, sl) = some R) : ∃ m h', pT h' (n0 + 1) (upd f n0 (chX v s)) ∧ pm_run PT m fr lo 79 (16, [some (.ref 1), some (.int v), some (.int (s + Int32.ofInt (-8)))], [], h', 198, sl) = some R := by
  obtain ⟨⟨gs, g1, g2, g3⟩, c1⟩ := x
  obtain ⟨n, hh⟩ := rn_i rfl rfl rfl rfl hh
  obtain ⟨n, hh⟩ := rn_if (cc := .lt) (off := 36) (t := 53) rfl rfl hh
  rw [hs] at hh
  obtain ⟨n, hh⟩ := rn_i rfl rfl rfl rfl hh
  obtain ⟨n, hh⟩ := rn_gfo (g := 0) rfl rfl (by decide) g1 g2 hh
  obtain ⟨n, hh⟩ := rn_i rfl rfl rfl rfl hh
  obtain ⟨n, hh⟩ := rn_gfo (g := 1) rfl rfl (by decide) g1 g3 hh
  obtain ⟨n, hh⟩ := rn_i rfl rfl rfl rfl hh
  obtain ⟨n, hh⟩ := rn_i rfl rfl rfl rfl hh
  obtain ⟨n, hh⟩ := rn_i rfl rfl rfl rfl hh
  obtain ⟨n, hh⟩ := rn_i rfl rfl rfl rfl hh
  obtain ⟨n, hh⟩ := rn_i rfl rfl rfl rfl hh
  obtain ⟨n, hh⟩ := rn_i rfl rfl rfl rfl hh
  obtain ⟨n, hh⟩ := rn_csm rfl c1 (hI_in hn (by decide)) (by decide) hh
  rw [nI_clamp (by omega)] at hh
  have g1' : va_up h 2 (.inl (1, 80, .inl (upd f n0 (chX v s)))) 1 = .inr (8, gs) := by simp [va_up, g1]
  have hh : pm_run PT n fr lo 79 (37, [some (.ref 1), some (.int v), some (.int s)], [], va_up h 2 (.inl (1, 80, .inl (upd f n0 (chX v s)))), 198, sl) = some R := hh
  obtain ⟨n, hh⟩ := rn_i rfl rfl rfl rfl hh
  obtain ⟨n, hh⟩ := rn_i rfl rfl rfl rfl hh
  obtain ⟨n, hh⟩ := rn_gfo (g := 1) rfl rfl (by decide) g1' g3 hh
  obtain ⟨n, hh⟩ := rn_i rfl rfl rfl rfl hh
  obtain ⟨n, hh⟩ := rn_i rfl rfl rfl rfl hh
  obtain ⟨n, hh⟩ := rn_i rfl rfl rfl (pf_eq (f := 1) rfl rfl (by decide) (by decide) g1' g3) hh
  obtain ⟨n, hh⟩ := rn_i rfl rfl rfl rfl hh
  obtain ⟨n, hh⟩ := rn_i rfl rfl rfl rfl hh
  have e1 : nI n0 + Int32.ofInt 1 = nI (n0 + 1) := (Int32.ofNat_add n0 1).symm
  have hh : pm_run PT n fr lo 79 (16, [some (.ref 1), some (.int v), some (.int (s + Int32.ofInt (-8)))], [], va_up (va_up h 2 (.inl (1, 80, .inl (upd f n0 (chX v s))))) 1 (.inr (8, gs.set 1 (.int (nI n0 + Int32.ofInt 1)))), 198, sl) = some R := hh
  rw [e1] at hh
  refine ⟨n, _, ⟨⟨gs.set 1 (.int (nI (n0 + 1))), by simp [va_up], ?_, ?_⟩, by simp [va_up]⟩, hh⟩
  · rw [List.getElem?_set_ne (by decide)]; exact g2
  · rw [List.getElem?_set_self (List.getElem?_eq_some_iff.mp g3).1]
/-- the class's addFour -/
theorem ad_run (hn : n0 ≤ 80) (x : pT h n0 f) (hh : pm_run PT n fr lo 79 (0, pm_l0 [.ref 1, .int v] 3, [], h, 198, sl) = some R) : cond (decide (n0 ≤ 76)) (R.1 = some (.int 1) ∧ R.2.2 = (198, sl) ∧ pT R.2.1 (n0 + 4) (upd (upd (upd (upd f n0 (chX v 24)) (n0 + 1) (chX v 16)) (n0 + 2) (chX v 8)) (n0 + 3) (chX v 0))) (R = (some (.int (Int32.ofInt 0)), h, 198, sl)) := by
  obtain ⟨⟨gs, g1, g2, g3⟩, c1⟩ := id x
  obtain ⟨n, hh⟩ := rn_i rfl rfl rfl rfl hh
  obtain ⟨n, hh⟩ := rn_gfo (g := 1) rfl rfl (by decide) g1 g3 hh
  obtain ⟨n, hh⟩ := rn_i rfl rfl rfl rfl hh
  obtain ⟨n, hh⟩ := rn_i rfl rfl rfl rfl hh
  obtain ⟨n, hh⟩ := rn_i rfl rfl rfl rfl hh
  obtain ⟨n, hh⟩ := rn_icmp (cc := .le) (off := 5) (t := 13) rfl rfl hh
  have e4 : nI n0 + Int32.ofInt 4 = nI (n0 + 4) := (Int32.ofNat_add n0 4).symm
  have hh : pm_run PT n fr lo 79 (cond (pm_cmp .le (nI n0 + Int32.ofInt 4) (nI 80)) 13 11, [some (.ref 1), some (.int v), none], [], h, 198, sl) = some R := hh
  rw [e4, hI_le (by omega) (by omega)] at hh
  by_cases z : n0 ≤ 76
  · rw [decide_eq_true (show n0 + 4 ≤ 80 by omega)] at hh
    rw [decide_eq_true z]
    obtain ⟨n, hh⟩ := rn_i rfl rfl rfl rfl hh
    obtain ⟨n, hh⟩ := rn_i rfl rfl rfl rfl hh
    have hh : pm_run PT n fr lo 79 (16, [some (.ref 1), some (.int v), some (.int 24)], [], h, 198, sl) = some R := hh
    obtain ⟨n, h1, x1, hh⟩ := ad_step (by decide) (by omega) x hh
    have hh : pm_run PT n fr lo 79 (16, [some (.ref 1), some (.int v), some (.int 16)], [], h1, 198, sl) = some R := hh
    obtain ⟨n, h2, x2, hh⟩ := ad_step (by decide) (by omega) x1 hh
    have hh : pm_run PT n fr lo 79 (16, [some (.ref 1), some (.int v), some (.int 8)], [], h2, 198, sl) = some R := hh
    obtain ⟨n, h3, x3, hh⟩ := ad_step (by decide) (by omega) x2 hh
    have hh : pm_run PT n fr lo 79 (16, [some (.ref 1), some (.int v), some (.int 0)], [], h3, 198, sl) = some R := hh
    obtain ⟨n, h4, x4, hh⟩ := ad_step (by decide) (by omega) x3 hh
    have hh : pm_run PT n fr lo 79 (16, [some (.ref 1), some (.int v), some (.int (-8))], [], h4, 198, sl) = some R := hh
    obtain ⟨n, hh⟩ := rn_i rfl rfl rfl rfl hh
    obtain ⟨n, hh⟩ := rn_if (cc := .lt) (off := 36) (t := 53) rfl rfl hh
    have hh : pm_run PT n fr lo 79 (53, [some (.ref 1), some (.int v), some (.int (-8))], [], h4, 198, sl) = some R := hh
    obtain ⟨n, hh⟩ := rn_i rfl rfl rfl rfl hh
    have e := (rn_ret rfl (Or.inr rfl) hh).2
    subst e
    exact ⟨rfl, rfl, x4⟩
  · rw [decide_eq_false (show ¬ n0 + 4 ≤ 80 by omega)] at hh
    rw [decide_eq_false z]
    obtain ⟨n, hh⟩ := rn_i rfl rfl rfl rfl hh
    exact (rn_ret rfl (Or.inr rfl) hh).2
end SGN
end MG95xex3
section MG95xex4
/-! sign, both sides -/
section SGM
variable {n fr lo sl n0 k pc : Nat} {h h' : pm_H} {R : pm_Rs} {f g : Nat → Int32} {L : pm_L} {r : List Value} {v s : Int32}
def f4 (f : Nat → Int32) (n0 : Nat) (a b c d : Int32) : Nat → Int32 := upd (upd (upd (upd f n0 a) (n0 + 1) b) (n0 + 2) c) (n0 + 3) d
def s1P (ci f : Nat) : Bool := Nat.beq ci 10
def s1K (k : Nat) : Bool := Nat.beq k 79
theorem s1_ok : sf_ok s1P s1K := sf_of (N := [79]) (fun k h => by rw [Nat.eq_of_beq_eq_true h]; decide) (by decide +kernel)
theorem sf1_run {st : pm_St} (hh : pm_run PT n fr lo 79 st = some R) : fm (sfF s1P) st.2.2.2.1 R.2.1 := sf_run s1_ok n fr lo 79 st R rfl hh
theorem sgx_run (hn : n0 ≤ 80) (h0 : x0 h) (x : pT h n0 f) (hh : pm_run PT n fr lo 86 (0, pm_l0 [.ref 0, .int v] 2, [], h, 198, sl) = some R) : cond (decide (n0 ≤ 76)) (R.1 = some (.int (nI (n0 + 4))) ∧ pT R.2.1 (n0 + 4) (f4 f n0 (chX v 24) (chX v 16) (chX v 8) (chX v 0))) (R.1 = some (.int (Int32.ofInt (-1))) ∧ R.2.1 = h) := by
  obtain ⟨fs, a1, a2⟩ := h0
  obtain ⟨n, hh⟩ := rn_i rfl rfl rfl rfl hh
  obtain ⟨n, hh⟩ := rn_gfo (g := 0) rfl rfl (by decide) a1 a2 hh
  obtain ⟨n, hh⟩ := rn_i rfl rfl rfl rfl hh
  obtain ⟨n, fr', lo', r1, hr1, hh⟩ := rn_call (w := 0) (t := 79) rfl rfl hh
  have hx := ad_run hn x hr1
  by_cases z : n0 ≤ 76
  · rw [decide_eq_true z] at hx ⊢
    obtain ⟨e1, e2, x'⟩ := hx
    have hf2 := sf1_run hr1
    obtain ⟨rv, h1, s1⟩ := r1
    dsimp only at e1 e2 x' hf2
    subst e1
    subst e2
    obtain ⟨fs', b1, -, b2⟩ := hf2.2 0 10 fs a1
    obtain ⟨⟨gs, g1, g2, g3⟩, c1⟩ := id x'
    have hh : pm_run PT n fr lo 86 (8, [some (.ref 0), some (.int v)], [.int 1], h1, 198, sl) = some R := hh
    obtain ⟨n, hh⟩ := rn_if (cc := .eq) (off := 13) (t := 21) rfl rfl hh
    have hh : pm_run PT n fr lo 86 (11, [some (.ref 0), some (.int v)], [], h1, 198, sl) = some R := hh
    obtain ⟨n, hh⟩ := rn_i rfl rfl rfl rfl hh
    obtain ⟨n, hh⟩ := rn_gfo (g := 0) rfl rfl (by decide) b1 ((b2 0 rfl).trans a2) hh
    obtain ⟨n, hh⟩ := rn_gfo (g := 1) rfl rfl (by decide) g1 g3 hh
    obtain ⟨n, hh⟩ := rn_i rfl rfl rfl rfl hh
    have e := (rn_ret rfl (Or.inl rfl) hh).2
    subst e
    exact ⟨rfl, x'⟩
  · rw [decide_eq_false z] at hx ⊢
    subst hx
    have hh : pm_run PT n fr lo 86 (8, [some (.ref 0), some (.int v)], [.int 0], h, 198, sl) = some R := hh
    obtain ⟨n, hh⟩ := rn_if (cc := .eq) (off := 13) (t := 21) rfl rfl hh
    have hh : pm_run PT n fr lo 86 (21, [some (.ref 0), some (.int v)], [], h, 198, sl) = some R := hh
    obtain ⟨n, hh⟩ := rn_i rfl rfl rfl rfl hh
    have e := (rn_ret rfl (Or.inl rfl) hh).2
    subst e
    exact ⟨rfl, rfl⟩
/-- one sign of the reference -/
theorem sm_step {i : Nat} {e : Int32} (hi : i < 4) (hn : n0 ≤ 76) (he : (Int8.ofInt 24).toInt32 - (Int8.ofInt 8).toInt32 * nI i = e) (h15 : mF h 15 (.int (nI n0))) (h14 : mF h 14 (.ref 172)) (hA : h 172 = .inl (0, 80, .inl g)) (hh : pm_run PT n fr lo 178 (18, [some (.ref 162), some (.int v), some (.int (nI i))], [], h, 198, sl) = some R) : ∃ m, pm_run PT m fr lo 178 (18, [some (.ref 162), some (.int v), some (.int (nI (i + 1)))], [], aset h 172 80 (upd g (n0 + i) (chM v e)), 198, sl) = some R := by
  obtain ⟨n, hh⟩ := rn_i rfl rfl rfl rfl hh
  obtain ⟨n, hh⟩ := rn_i rfl rfl rfl rfl hh
  obtain ⟨n, hh⟩ := rn_icmp (cc := .ge) (off := 33) (t := 53) rfl rfl hh
  have ec : pm_cmp .ge (nI i) (Int32.ofInt 4) = false := by
    have := hI_ge (a := i) (b := 4) (by omega) (by omega)
    rw [decide_eq_false (by omega)] at this
    exact this
  rw [ec] at hh
  obtain ⟨n, hh⟩ := rn_i rfl rfl rfl rfl hh
  obtain ⟨n, hh⟩ := rn_gfm rfl rfl h14 hh
  obtain ⟨n, hh⟩ := rn_i rfl rfl rfl rfl hh
  obtain ⟨n, hh⟩ := rn_gfm rfl rfl h15 hh
  obtain ⟨n, hh⟩ := rn_i rfl rfl rfl rfl hh
  obtain ⟨n, hh⟩ := rn_i rfl rfl rfl rfl hh
  obtain ⟨n, hh⟩ := rn_i rfl rfl rfl rfl hh
  obtain ⟨n, hh⟩ := rn_i rfl rfl rfl rfl hh
  obtain ⟨n, hh⟩ := rn_i rfl rfl rfl rfl hh
  obtain ⟨n, hh⟩ := rn_i rfl rfl rfl rfl hh
  obtain ⟨n, hh⟩ := rn_i rfl rfl rfl rfl hh
  obtain ⟨n, hh⟩ := rn_i rfl rfl rfl rfl hh
  obtain ⟨n, hh⟩ := rn_i rfl rfl rfl rfl hh
  obtain ⟨n, hh⟩ := rn_i rfl rfl rfl rfl hh
  obtain ⟨n, hh⟩ := rn_i rfl rfl rfl rfl hh
  have e1 : nI n0 + nI i = nI (n0 + i) := nI_add n0 i
  have hh : pm_run PT n fr lo 178 (46, [some (.ref 162), some (.int v), some (.int (nI i))], [.int (chM v ((Int8.ofInt 24).toInt32 - (Int8.ofInt 8).toInt32 * nI i)), .int (nI n0 + nI i), .ref 172], h, 198, sl) = some R := hh
  rw [e1, he] at hh
  obtain ⟨n, hh⟩ := rn_ism rfl hA (hI_in (by omega) (by decide)) (by decide) hh
  rw [nI_clamp (by omega)] at hh
  obtain ⟨n, hh⟩ := rn_i rfl rfl rfl rfl hh
  obtain ⟨n, hh⟩ := rn_i rfl rfl rfl rfl hh
  have e2 : nI i + Int32.ofInt 1 = nI (i + 1) := (Int32.ofNat_add i 1).symm
  have hh : pm_run PT n fr lo 178 (18, [some (.ref 162), some (.int v), some (.int (nI i + Int32.ofInt 1))], [], aset h 172 80 (upd g (n0 + i) (chM v e)), 198, sl) = some R := hh
  rw [e2] at hh
  exact ⟨n, hh⟩
theorem sm_run {w : Int32} (hn : n0 ≤ 80) (h0 : mF h 0 (.int w)) (h15 : mF h 15 (.int (nI n0))) (h14 : mF h 14 (.ref 172)) (hA : h 172 = .inl (0, 80, .inl g)) (hh : pm_run PT n fr lo 178 (0, pm_l0 [.ref 162, .int v] 3, [], h, 198, sl) = some R) : cond (decide (n0 ≤ 76)) (R.1 = some (.int (nI (n0 + 4))) ∧ mF R.2.1 15 (.int (nI (n0 + 4))) ∧ R.2.1 172 = .inl (0, 80, .inl (f4 g n0 (chM v 24) (chM v 16) (chM v 8) (chM v 0)))) (R.1 = some (.int (Int32.ofInt (-1))) ∧ mF R.2.1 15 (.int (nI n0)) ∧ R.2.1 172 = .inl (0, 80, .inl g)) := by
  obtain ⟨n, hh⟩ := rn_i rfl rfl rfl rfl hh
  obtain ⟨n, hh⟩ := rn_i rfl rfl rfl rfl hh
  obtain ⟨n, hh⟩ := rn_pfm (w := .int w) rfl rfl rfl (by decide) h0 hh
  have q15 : mF (mset h 0 (.int (Int32.ofInt 0))) 15 (.int (nI n0)) := mF_ne (by decide) h15
  have q14 : mF (mset h 0 (.int (Int32.ofInt 0))) 14 (.ref 172) := mF_ne (by decide) h14
  have qA : mset h 0 (.int (Int32.ofInt 0)) 172 = .inl (0, 80, .inl g) := mset_arr (by decide) hA
  generalize mset h 0 (.int (Int32.ofInt 0)) = h1 at *
  obtain ⟨n, hh⟩ := rn_i rfl rfl rfl rfl hh
  obtain ⟨n, hh⟩ := rn_gfm rfl rfl q15 hh
  obtain ⟨n, hh⟩ := rn_i rfl rfl rfl rfl hh
  obtain ⟨n, hh⟩ := rn_icmp (cc := .le) (off := 5) (t := 16) rfl rfl hh
  have hh : pm_run PT n fr lo 178 (cond (pm_cmp .le (nI n0) (nI 76)) 16 14, [some (.ref 162), some (.int v), none], [], h1, 198, sl) = some R := hh
  rw [hI_le (by omega) (by omega)] at hh
  by_cases z : n0 ≤ 76
  · rw [decide_eq_true z] at hh ⊢
    obtain ⟨n, hh⟩ := rn_i rfl rfl rfl rfl hh
    obtain ⟨n, hh⟩ := rn_i rfl rfl rfl rfl hh
    have hh : pm_run PT n fr lo 178 (18, [some (.ref 162), some (.int v), some (.int (nI 0))], [], h1, 198, sl) = some R := hh
    obtain ⟨n, hh⟩ := sm_step (i := 0) (e := 24) (by decide) z (by decide) q15 q14 qA hh
    obtain ⟨n, hh⟩ := sm_step (i := 1) (e := 16) (by decide) z (by decide) (aset_mF (by decide) q15) (aset_mF (by decide) q14) asR_self hh
    obtain ⟨n, hh⟩ := sm_step (i := 2) (e := 8) (by decide) z (by decide) (aset_mF (by decide) (aset_mF (by decide) q15)) (aset_mF (by decide) (aset_mF (by decide) q14)) asR_self hh
    obtain ⟨n, hh⟩ := sm_step (i := 3) (e := 0) (by decide) z (by decide) (aset_mF (by decide) (aset_mF (by decide) (aset_mF (by decide) q15))) (aset_mF (by decide) (aset_mF (by decide) (aset_mF (by decide) q14))) asR_self hh
    have q15' : mF (aset (aset (aset (aset h1 172 80 (upd g (n0 + 0) (chM v 24))) 172 80 (upd (upd g (n0 + 0) (chM v 24)) (n0 + 1) (chM v 16))) 172 80 (upd (upd (upd g (n0 + 0) (chM v 24)) (n0 + 1) (chM v 16)) (n0 + 2) (chM v 8))) 172 80 (upd (upd (upd (upd g (n0 + 0) (chM v 24)) (n0 + 1) (chM v 16)) (n0 + 2) (chM v 8)) (n0 + 3) (chM v 0))) 15 (.int (nI n0)) := aset_mF (by decide) (aset_mF (by decide) (aset_mF (by decide) (aset_mF (by decide) q15)))
    obtain ⟨n, hh⟩ := rn_i rfl rfl rfl rfl hh
    obtain ⟨n, hh⟩ := rn_i rfl rfl rfl rfl hh
    obtain ⟨n, hh⟩ := rn_icmp (cc := .ge) (off := 33) (t := 53) rfl rfl hh
    have hh : pm_run PT n fr lo 178 (53, [some (.ref 162), some (.int v), some (.int (nI 4))], [], _, 198, sl) = some R := hh
    obtain ⟨n, hh⟩ := rn_i rfl rfl rfl rfl hh
    obtain ⟨n, hh⟩ := rn_i rfl rfl rfl rfl hh
    obtain ⟨n, hh⟩ := rn_gfm rfl rfl q15' hh
    obtain ⟨n, hh⟩ := rn_i rfl rfl rfl rfl hh
    obtain ⟨n, hh⟩ := rn_i rfl rfl rfl rfl hh
    obtain ⟨n, hh⟩ := rn_pfm (w := .int (nI n0)) rfl rfl rfl (by decide) q15' hh
    have e4 : nI n0 + Int32.ofInt 4 = nI (n0 + 4) := (Int32.ofNat_add n0 4).symm
    have qq := mF_self (v := .int (nI n0 + Int32.ofInt 4)) q15'
    obtain ⟨n, hh⟩ := rn_i rfl rfl rfl rfl hh
    obtain ⟨n, hh⟩ := rn_gfm rfl rfl qq hh
    have e := (rn_ret rfl (Or.inl rfl) hh).2
    subst e
    refine ⟨congrArg (fun q => some (Value.int q)) e4, e4 ▸ qq, mset_arr (by decide) asR_self⟩
  · rw [decide_eq_false z] at hh ⊢
    obtain ⟨n, hh⟩ := rn_i rfl rfl rfl rfl hh
    have e := (rn_ret rfl (Or.inl rfl) hh).2
    subst e
    exact ⟨rfl, q15, qA⟩
end SGM
end MG95xex4
section MG95xex5
/-! the signs: bits alone -/
section CHE
variable {v s : Int32}
theorem m255 : ∀ i : Fin 32, (255#32).getLsbD i.val = decide (i.val < 8) := by decide
theorem ch_b (x y : BitVec 32) (h : ∀ i, i < 8 → x.getLsbD i = y.getLsbD i) : x &&& 255#32 = y &&& 255#32 := by
  apply BitVec.eq_of_getLsbD_eq
  intro i hi
  rw [BitVec.getLsbD_and, BitVec.getLsbD_and, m255 ⟨i, hi⟩]
  by_cases z : i < 8
  · rw [h i z]
  · simp [z]
theorem ch_s (x : BitVec 32) (k : Nat) (hk : k ≤ 24) : (x >>> k) &&& 255#32 = (x.sshiftRight k) &&& 255#32 := by
  refine ch_b _ _ (fun i hi => ?_)
  rw [BitVec.getLsbD_ushiftRight, BitVec.getLsbD_sshiftRight]
  have h1 : ¬ 32 ≤ i := by omega
  have h2 : k + i < 32 := by omega
  simp [h1, h2]
theorem and_lt (b : BitVec 32) : (b &&& 255#32).toNat < 256 := by
  rw [BitVec.toNat_and]
  exact Nat.lt_of_le_of_lt Nat.and_le_right (by decide)
theorem mod_id {x : UInt32} (h : x.toNat < 256) : x % 65536 = x := by
  apply UInt32.toNat_inj.1
  rw [UInt32.toNat_mod]
  exact Nat.mod_eq_of_lt (by show x.toNat < 65536; omega)
theorem nar_id {y : Int32} (h : y.toUInt32.toNat < 256) : vp_nar .char y = y := by
  show (y.toUInt32 % 65536).toInt32 = y
  rw [mod_id h]
  exact Int32.toInt32_toUInt32 y
theorem ch_gen {k : Nat} (hk : k ≤ 24) (hx : ((v.toUInt32 >>> (s.toUInt32 &&& Int32.toUInt32 31)).toInt32).toBitVec = v.toBitVec >>> k) (hm : (v >>> (s &&& 31)).toBitVec = v.toBitVec.sshiftRight k) : chX v s = chM v s := by
  have e1 : ((v.toUInt32 >>> (s.toUInt32 &&& Int32.toUInt32 31)).toInt32 &&& (Int16.ofInt 255).toInt32).toBitVec = (v.toBitVec >>> k) &&& 255#32 := by
    rw [Int32.toBitVec_and, hx]
    rfl
  have e2 : (chM v s).toBitVec = (v.toBitVec.sshiftRight k) &&& 255#32 := by
    unfold chM
    rw [Int32.toBitVec_and, hm]
    rfl
  unfold chX
  generalize ((v.toUInt32 >>> (s.toUInt32 &&& Int32.toUInt32 31)).toInt32 &&& (Int16.ofInt 255).toInt32) = z at e1 ⊢
  have hz : z.toUInt32.toNat < 256 := by
    show z.toBitVec.toNat < 256
    rw [e1]
    exact and_lt _
  rw [mod_id hz, Int32.toInt32_toUInt32, nar_id hz]
  apply Int32.toBitVec_inj.1
  rw [e1, e2, ch_s _ k hk]
theorem ch_24 : chX v 24 = chM v 24 := ch_gen (k := 24) (by decide) rfl rfl
theorem ch_16 : chX v 16 = chM v 16 := ch_gen (k := 16) (by decide) rfl rfl
theorem ch_8 : chX v 8 = chM v 8 := ch_gen (k := 8) (by decide) rfl rfl
theorem ch_0 : chX v 0 = chM v 0 := ch_gen (k := 0) (by decide) rfl rfl
end CHE
end MG95xex5
end MH89throwsx5
section MH89throwsx6
/-! THE TEXT of both, and how many COURTS: what is kept beside mInv -/
section RL4
variable {P : pm_St → Prop} {sl bS Ln i pc n fr lo k : Nat} {xs : Nat → Int32} {L : pm_L} {h h1 : pm_H} {R : pm_Rs}
def nrA (i : Nat) : Bool := Nat.beq i 172
def nrG (ci f : Nat) : Bool := Nat.beq ci 11 && Nat.beq f 14
def av_has (a : av) (p : Nat) : Bool := Nat.beq a.1 2 && (av_ids a).contains p
def nr_tc (c : ac) : Bool := match c with
  | .inr (ci, as) => (List.range as.length).all (fun f => nrG ci f || (match as[f]? with
    | some a => !(av_has a 172)
    | none => true))
  | .inl (_, n, a) => (List.range n).all (fun j => !(av_has (aq a j) 172))
theorem nr_tb : (List.range 198).all (fun i => nr_tc (bB i)) = true := by decide +kernel
theorem nrv_av {v : Value} {a : av} (hv : av_ok v a) (ha : av_has a 172 = false) : nrv nrA v := by
  intro p e
  subst e
  cases hp : nrA p with
  | false => rfl
  | true =>
    exfalso
    have ep := Nat.eq_of_beq_eq_true hp
    subst ep
    obtain ⟨h1, h2⟩ := hv
    unfold av_has at ha
    rw [h1] at ha
    have : (av_ids a).contains 172 = true := List.elem_iff.mpr h2
    rw [this] at ha
    cases ha
theorem nrH_ty (hh : ah_ok bB 198 [] h) : nrH nrA nrG h := by
  refine ⟨fun i ci fs hi e f v hv hG => ?_, fun i kd n f hi e j hj => ?_⟩
  · have h0 := hh i hi
    have hb := List.all_eq_true.mp nr_tb i (List.mem_range.mpr hi)
    rw [show ah_get bB [] i = bB i from rfl, e] at h0
    cases hB : bB i with
    | inl q =>
      rw [hB] at h0
      exact h0.elim
    | inr q =>
      obtain ⟨ci', as⟩ := q
      rw [hB] at h0 hb
      obtain ⟨⟨h1, -⟩, h2, h3⟩ := h0
      subst h1
      have hf : f < as.length := by rw [← h2]; exact (List.getElem?_eq_some_iff.mp hv).1
      have hq := List.all_eq_true.mp hb f (List.mem_range.mpr hf)
      rw [hG, Bool.false_or, List.getElem?_eq_getElem hf] at hq
      exact nrv_av (h3 f v _ hv (List.getElem?_eq_getElem hf)) (by simpa using hq)
  · have h0 := hh i hi
    have hb := List.all_eq_true.mp nr_tb i (List.mem_range.mpr hi)
    rw [show ah_get bB [] i = bB i from rfl, e] at h0
    cases hB : bB i with
    | inl q =>
      obtain ⟨kd', n', a⟩ := q
      rw [hB] at h0 hb
      obtain ⟨h1, h2, h3⟩ := h0
      subst h2
      exact nrv_av (h3 j hj) (by simpa using List.all_eq_true.mp hb j (List.mem_range.mpr hj))
    | inr q =>
      rw [hB] at h0
      exact h0.elim
/-- the reference's calls that neither read nor write what the relation speaks of -/
def sM (ci f : Nat) : Bool := Nat.beq ci 11 && (Nat.beq f 15 || (Nat.beq f 3 || Nat.beq f 14))
def sMX : List Nat := [0, 6, 15, 22, 45, 52, 57, 72, 78, 82, 85, 91, 92, 93, 128, 161, 178, 179, 180, 181, 182, 183, 184, 185, 187, 188, 191, 192, 194, 195, 196, 198, 226, 228, 258]
def sMK : Nat → Bool := sf_X sMX
theorem sM_all : ((List.range 271).filter (fun k => !(sMX.any (fun x => Nat.beq x k)))).all (fun k => sf_b sM sMK k && nr_b nrG sMK k) = true := by decide +kernel
theorem sM_ok : sf_ok sM sMK := sf_of sf_X_in (List.all_eq_true.mpr (fun k hk => ((Bool.and_eq_true _ _).mp (List.all_eq_true.mp sM_all k hk)).1))
theorem sM_nr : nr_ok nrG sMK := nr_of sf_X_in (List.all_eq_true.mpr (fun k hk => ((Bool.and_eq_true _ _).mp (List.all_eq_true.mp sM_all k hk)).2))
/-- all calls but courts leave the number of COURTS alone -/
def sC (ci f : Nat) : Bool := (Nat.beq ci 3 && Nat.beq f 0) || (Nat.beq ci 11 && Nat.beq f 3)
def sCX : List Nat := [0, 6, 15, 22, 45, 52, 57, 72, 78, 82, 85, 88, 91, 92, 93, 128, 161, 188]
def sCK : Nat → Bool := sf_X sCX
theorem sC_all : ((List.range 271).filter (fun k => !(sCX.any (fun x => Nat.beq x k)))).all (sf_b sC sCK) = true := by decide +kernel
theorem sC_ok : sf_ok sC sCK := sf_of sf_X_in sC_all
def REL4 (h : pm_H) : Prop := ∃ (n0 cc : Nat) (f g : Nat → Int32), n0 ≤ 80 ∧ cc ≤ 6 ∧ (pT h n0 f ∧ rC h (.int (nI cc))) ∧ (mF h 15 (.int (nI n0)) ∧ h 172 = .inl (0, 80, .inl g) ∧ mF h 3 (.int (nI cc))) ∧ ∀ j, j < n0 → f j = g j
def LI4 (h : pm_H) : Prop := mInv h ∧ REL4 h
theorem pT_fm {n0 : Nat} {f : Nat → Int32} (q : fm (sfF sQ) h h1) (a : akp 1 h h1) (x : pT h n0 f) : pT h1 n0 f := by
  obtain ⟨⟨gs, b1, b2, b3⟩, c1⟩ := x
  obtain ⟨gs', g1, -, g2⟩ := q.2 1 8 gs b1
  exact ⟨⟨gs', g1, (g2 0 rfl).trans b2, (g2 1 rfl).trans b3⟩, a 2 _ c1⟩
theorem pT_lo {n0 : Nat} {f : Nat → Int32} (q : ∀ i, i < 162 → h1 i = h i) (x : pT h n0 f) : pT h1 n0 f := by
  obtain ⟨⟨gs, b1, b2, b3⟩, c1⟩ := x
  exact ⟨⟨gs, (q 1 (by decide)).trans b1, b2, b3⟩, (q 2 (by decide)).trans c1⟩
theorem rC_lo {v : Value} (q : ∀ i, i < 162 → h1 i = h i) (x : rC h v) : rC h1 v := by
  obtain ⟨rs, b1, b2⟩ := x
  exact ⟨rs, (q 5 (by decide)).trans b1, b2⟩
theorem rC_fm {F : Nat → Nat → Bool} (hF : F 3 0 = true) {v : Value} (q : fm (sfF F) h h1) (x : rC h v) : rC h1 v := by
  obtain ⟨rs, b1, b2⟩ := x
  obtain ⟨rs', g1, -, g2⟩ := q.2 5 3 rs b1
  exact ⟨rs', g1, (g2 0 hF).trans b2⟩
theorem mF_hi {g : Nat} {v : Value} (q : fm cxF h h1) (x : mF h g v) : mF h1 g v := by
  obtain ⟨fs, e1, e2⟩ := x
  exact ⟨fs, (q.1 162 rfl).trans e1, e2⟩
theorem twX_LI4 (hI : LI4 h) (q : twX h h1) : LI4 h1 := by
  refine ⟨twX_inv hI.1 q, ?_⟩
  obtain ⟨n0, cc, f, g, r1, r2, ⟨⟨⟨gs, b1, b2, b3⟩, c1⟩, rs, d1, d2⟩, ⟨⟨ms, m1, m2⟩, t1, ms', m1', m2'⟩, hj⟩ := hI.2
  exact ⟨n0, cc, f, g, r1, r2, ⟨⟨⟨gs, (q.1 1 (by decide)).trans b1, b2, b3⟩, (q.1 2 (by decide)).trans c1⟩, rs, (q.1 5 (by decide)).trans d1, d2⟩, ⟨⟨ms, (q.1 162 (by decide)).trans m1, m2⟩, (q.1 172 (by decide)).trans t1, ms', (q.1 162 (by decide)).trans m1', m2'⟩, hj⟩
/-- what a call of the reference outside of sMX leaves alone -/
theorem m_keeps {As : List Value} {mx : Nat} (hk : sMK k = true) (hI : mInv h) (hA : nrS nrA As) (hh : pm_run PT n fr lo k (0, pm_l0 As mx, [], h, 198, sl) = some R) : fm (sfF sM) h R.2.1 ∧ R.2.1 172 = h 172 := by
  refine ⟨sf_run sM_ok n fr lo k _ R hk hh, ?_⟩
  exact (nr_run sM_nr sM_ok n fr lo k _ R hk (Nat.le_refl _) ⟨nrL_l0 hA, fun v hv => absurd hv (by simp), nrH_ty hI.1⟩ hh).2 172 rfl
theorem nrS_ints (vs : List Int32) : nrS nrA (.ref 162 :: vs.map Value.int) := by
  refine nrS_cons.mpr ⟨fun p e => by cases e; rfl, fun v hv => ?_⟩
  obtain ⟨x, -, rfl⟩ := List.mem_map.mp hv
  exact nrv_i x
end RL4
end MH89throwsx6
section MH89throwsx7
/-! turns that keep both texts and both numbers of COURTS alike -/
section TR4
variable {P : pm_St → Prop} {sl bS Ln i pc n fr lo : Nat} {xs : Nat → Int32} {L : pm_L} {h h1 h2 : pm_H} {R : pm_Rs}
theorem REL_x (q : fm cxF h h1) (p : fm (sfF sQ) h h1 ∧ akp 1 h h1) (r : REL4 h) : REL4 h1 := by
  obtain ⟨n0, cc, f, g, r1, r2, ⟨x1, x2⟩, ⟨y1, y2, y3⟩, hj⟩ := r
  exact ⟨n0, cc, f, g, r1, r2, ⟨pT_fm p.1 p.2 x1, rC_fm rfl p.1 x2⟩, ⟨mF_hi q y1, (q.1 172 rfl).trans y2, mF_hi q y3⟩, hj⟩
theorem REL_m (q : ∀ i, i < 162 → h2 i = h1 i) (p : fm (sfF sM) h1 h2 ∧ h2 172 = h1 172) (r : REL4 h1) : REL4 h2 := by
  obtain ⟨n0, cc, f, g, r1, r2, ⟨x1, x2⟩, ⟨y1, y2, y3⟩, hj⟩ := r
  exact ⟨n0, cc, f, g, r1, r2, ⟨pT_lo q x1, rC_lo q x2⟩, ⟨fm_mF p.1 rfl y1, p.2.trans y2, fm_mF p.1 rfl y3⟩, hj⟩
/-- what both calls do -/
def twoWP4 (sl : Nat) (h : pm_H) (kx km : Nat) (As : List Value) : Prop := pm_WP PT 2047 (84000 - (19 + pm_max PT kx)) kx (0, pm_l0 (.ref 0 :: As) (pm_max PT kx), [], h, 198, sl) (fun q => q.2.2 = (198, sl) ∧ ∃ v : Int32, q.1 = some (.int v) ∧ (∃ f2, q.2.1 162 = .inr (11, f2)) ∧ pm_WP PT 2047 (84000 - (19 + pm_max PT km)) km (0, pm_l0 (.ref 162 :: As) (pm_max PT km), [], q.2) (fun y => y.1 = some (.int v) ∧ y.2.2 = (198, sl) ∧ LI4 y.2.1))
theorem ty_gs (hh : ah_ok bB 198 [] h) : ∃ gs w, h 1 = .inr (8, gs) ∧ gs[0]? = some (.ref 2) ∧ gs[1]? = some w := by
  have h0 := hh 1 (by decide)
  obtain ⟨fs, ef, hl, hg⟩ := aE_obj (ci := 8) (as := asT) h0 (by decide)
  have hlf : 0 < fs.length := by rw [hl]; exact Nat.le_of_ble_eq_true rfl
  have hlf1 : 1 < fs.length := by rw [hl]; exact Nat.le_of_ble_eq_true rfl
  have ev : fs[0]? = some fs[0] := List.getElem?_eq_getElem hlf
  have hv := hg 0 _ (2, 2, 1) ev rfl
  have hr : fs[0] = .ref 2 := by
    cases e : fs[0] with
    | ref p =>
      rw [e] at hv
      have := hv.2
      rw [show p = 2 from List.mem_singleton.mp this]
    | null => rw [e] at hv; exact absurd (show (2 : Nat) = 3 from hv) (by decide)
    | _ => rw [e] at hv; first | exact hv.elim | (cases hv.1)
  exact ⟨fs, fs[1], ef, by rw [ev, hr], List.getElem?_eq_getElem hlf1⟩
def asCh : av := match bB 2 with
  | .inl (_, _, a) => a
  | _ => (0, 0, 0)
def asTp : av := match bB 172 with
  | .inl (_, _, a) => a
  | _ => (0, 0, 0)
def asRd : List av := match bB 173 with
  | .inr (_, as) => as
  | _ => []
theorem ty_2 (hh : ah_ok bB 198 [] h) : ∃ f, h 2 = .inl (1, 80, .inl f) := by
  obtain ⟨f, e, -⟩ := aE_int (kd := 1) (n := 80) (a := asCh) (hh 2 (by decide)) rfl (by decide)
  exact ⟨f, e⟩
theorem ty_172 (hh : ah_ok bB 198 [] h) : ∃ f, h 172 = .inl (0, 80, .inl f) := by
  obtain ⟨f, e, -⟩ := aE_int (kd := 0) (n := 80) (a := asTp) (hh 172 (by decide)) rfl (by decide)
  exact ⟨f, e⟩
theorem ac_ely {e : pm_E} {kd : Nat} {as : List av} (q : ac_ok e (.inr (1000 + kd, as))) : ∃ f, e = .inl (kd, as.length, .inl f) := by
  obtain ⟨k, m, f | f | f | f | f⟩ | ⟨ci, fs⟩ := e
  · obtain ⟨h1, h2, -⟩ := q
    have : k = kd := by omega
    subst this
    subst h2
    exact ⟨f, rfl⟩
  · exact q.elim
  · exact q.elim
  · exact q.elim
  · exact q.elim
  · obtain ⟨⟨h1, h2⟩, -⟩ := q
    exact absurd h2 (by omega)
theorem ty_173 (hh : ah_ok bB 198 [] h) : ∃ f, h 173 = .inl (0, 36, .inl f) := by
  obtain ⟨f, e⟩ := ac_ely (kd := 0) (as := asRd) (hh 173 (by decide))
  exact ⟨f, e⟩
theorem ty_mi (hh : ah_ok bB 198 [] h) (g : Nat) (hg : Nat.beq ((asM.getD g (3, 0, 0)).1) 0 = true) (hl : g < asM.length) : ∃ w : Int32, mF h g (.int w) := by
  have e : asM[g]? = some (asM.getD g (3, 0, 0)) := by rw [List.getD_eq_getElem?_getD, List.getElem?_eq_getElem hl]; rfl
  obtain ⟨v, m, a⟩ := ob_fld (o := []) hh asM_eq e
  obtain ⟨x, rfl, -⟩ := av_int (Nat.eq_of_beq_eq_true hg) a
  exact ⟨x, m⟩
theorem ty_mr (hh : ah_ok bB 198 [] h) {g c : Nat} (e : asM[g]? = some (2, (c : Int), 1)) (hc : av_ids (2, (c : Int), 1) = [c]) : mF h g (.ref c) := by
  obtain ⟨v, m, a⟩ := ob_fld (o := []) hh asM_eq e
  cases v with
  | ref p =>
    have := a.2
    rw [hc] at this
    rw [List.mem_singleton.mp this] at m
    exact m
  | null => exact absurd (show (2 : Nat) = 3 from a) (by decide)
  | _ => first | exact a.elim | (cases a.1)
theorem ty_m14 (hh : ah_ok bB 198 [] h) : mF h 14 (.ref 172) := ty_mr (c := 172) hh rfl rfl
theorem ty_m19 (hh : ah_ok bB 198 [] h) : mF h 19 (.ref 173) := ty_mr (c := 173) hh rfl rfl
end TR4
end MH89throwsx7
section MH89throwsx8
/-! sign, end, courts and the other readers of THE TEXT: their turns -/
section TU4
variable {P : pm_St → Prop} {sl bS Ln i pc n fr lo : Nat} {xs : Nat → Int32} {L : pm_L} {h h1 h2 : pm_H} {R : pm_Rs}
theorem pT_ty {m : Nat} {f : Nat → Int32} (hh : ah_ok bB 198 [] h) (c : cT h (.int (nI m))) (e : h 2 = .inl (1, 80, .inl f)) : pT h m f := by
  obtain ⟨gs, w, a1, a2, a3⟩ := ty_gs hh
  obtain ⟨gs', b1, b2⟩ := c
  rw [a1] at b1
  cases b1
  exact ⟨⟨gs, a1, a2, b2⟩, e⟩
theorem pT_cT {m : Nat} {f : Nat → Int32} (x : pT h m f) : cT h (.int (nI m)) := by
  obtain ⟨⟨gs, a1, a2, a3⟩, -⟩ := x
  exact ⟨gs, a1, a3⟩
theorem f4_eq {f g : Nat → Int32} {n0 : Nat} {a b c d : Int32} (hj : ∀ j, j < n0 → f j = g j) : ∀ j, j < n0 + 4 → f4 f n0 a b c d j = f4 g n0 a b c d j := by
  intro j hlt
  unfold f4 upd
  by_cases z : j < n0
  · rw [if_neg (by omega), if_neg (by omega), if_neg (by omega), if_neg (by omega), if_neg (by omega), if_neg (by omega), if_neg (by omega), if_neg (by omega)]
    exact hj j z
  · by_cases z3 : j = n0 + 3
    · rw [if_pos z3, if_pos z3]
    · rw [if_neg z3, if_neg z3]
      by_cases z2 : j = n0 + 2
      · rw [if_pos z2, if_pos z2]
      · rw [if_neg z2, if_neg z2]
        by_cases z1 : j = n0 + 1
        · rw [if_pos z1, if_pos z1]
        · rw [if_neg z1, if_neg z1, if_pos (by omega), if_pos (by omega)]
theorem rC_runs {k mx : Nat} {As : List Value} {v : Value} (hk : sCK k = true) (x : rC h v) (hh : pm_run PT n fr lo k (0, pm_l0 As mx, [], h, 198, sl) = some R) : rC R.2.1 v := rC_fm rfl (sf_run sC_ok n fr lo k _ R hk hh) x
theorem m3_runs {k mx : Nat} {As : List Value} {v : Value} (hk : sCK k = true) (x : mF h 3 v) (hh : pm_run PT n fr lo k (0, pm_l0 As mx, [], h, 198, sl) = some R) : mF R.2.1 3 v := fm_mF (sf_run sC_ok n fr lo k _ R hk hh) rfl x
theorem sg_two4 (hI : LI4 h) (v : Int32) : twoWP4 sl h 86 178 [.int v] := by
  obtain ⟨hI0, n0, cc, f, g, hn, hc, ⟨x1, x2⟩, ⟨y1, y2, y3⟩, hj⟩ := hI
  refine wp_mono (wp_runs (Z := fun r => cond (decide (n0 ≤ 76)) (r.1 = some (.int (nI (n0 + 4))) ∧ pT r.2.1 (n0 + 4) (f4 f n0 (chX v 24) (chX v 16) (chX v 8) (chX v 0))) (r.1 = some (.int (Int32.ofInt (-1))) ∧ r.2.1 = h) ∧ rC r.2.1 (.int (nI cc))) (cxw_sign [.ref 0, .int v] h 2047 (84000 - (19 + pm_max PT 86)) sl ⟨⟨rfl, List.mem_singleton_self _⟩, ai_top_ok _, trivial⟩ hI0.1 trivial (Nat.le_of_ble_eq_true rfl) (Nat.le_of_ble_eq_true rfl)) (fun m r hh => ⟨sgx_run hn (ty_x0 hI0.1) x1 hh, rC_runs rfl x2 hh⟩)) ?_
  rintro ⟨rv, h1, s1⟩ ⟨⟨-, q1, ⟨q2, -⟩, q3⟩, p1, p2⟩
  cases q1
  dsimp only at p1 p2
  have hI1 := cx_inv hI0 q2 q3
  obtain ⟨w, hw⟩ := ty_m0 hI1.1
  have hr := wp_runs (Z := fun r => cond (decide (n0 ≤ 76)) (r.1 = some (.int (nI (n0 + 4))) ∧ mF r.2.1 15 (.int (nI (n0 + 4))) ∧ r.2.1 172 = .inl (0, 80, .inl (f4 g n0 (chM v 24) (chM v 16) (chM v 8) (chM v 0)))) (r.1 = some (.int (Int32.ofInt (-1))) ∧ mF r.2.1 15 (.int (nI n0)) ∧ r.2.1 172 = .inl (0, 80, .inl g)) ∧ mF r.2.1 3 (.int (nI cc))) (hm_sign hI1 v (sl := sl) (fr := 2047) (lo := 84000 - (19 + pm_max PT 178)) (Nat.le_of_ble_eq_true rfl) (Nat.le_of_ble_eq_true rfl)) (fun m r hh => ⟨sm_run hn hw (mF_hi q2 y1) (ty_m14 hI1.1) ((q2.1 172 rfl).trans y2) hh, m3_runs rfl (mF_hi q2 y3) hh⟩)
  by_cases z : n0 ≤ 76
  · rw [decide_eq_true z] at p1 hr
    obtain ⟨e1, e2⟩ := p1
    subst e1
    refine ⟨rfl, _, rfl, ty_162 hI1.1, wp_mono hr ?_⟩
    rintro ⟨rv2, h2, s2⟩ ⟨⟨a1, a2, a3, a4⟩, ⟨b1, b2, b3⟩, b4⟩
    dsimp only at a2 a3 a4 b1 b2 b3 b4
    cases a2
    refine ⟨b1, rfl, a4, n0 + 4, cc, _, _, by omega, hc, ⟨pT_lo a3 e2, rC_lo a3 p2⟩, ⟨b2, b3, b4⟩, ?_⟩
    rw [ch_24, ch_16, ch_8, ch_0]
    exact f4_eq hj
  · rw [decide_eq_false z] at p1 hr
    obtain ⟨e1, e2⟩ := p1
    subst e1
    subst e2
    refine ⟨rfl, _, rfl, ty_162 hI1.1, wp_mono hr ?_⟩
    rintro ⟨rv2, h2, s2⟩ ⟨⟨a1, a2, a3, a4⟩, ⟨b1, b2, b3⟩, b4⟩
    dsimp only at a2 a3 a4 b1 b2 b3 b4
    cases a2
    exact ⟨b1, rfl, a4, n0, cc, f, g, hn, hc, ⟨pT_lo a3 x1, rC_lo a3 p2⟩, ⟨b2, b3, b4⟩, hj⟩
/-- methods that write no char array; methods that can't reach the reference's tape -/
def akX : List Nat := [0, 6, 15, 22, 45, 52, 57, 72, 78, 79, 82, 85, 86, 91, 92, 93, 128, 161]
theorem ak2_all : ((List.range 271).filter (fun k => !(akX.any (fun x => Nat.beq x k)))).all (ak_b 1 (sf_X akX)) = true := by decide +kernel
theorem ak2_ok : ak_ok 1 (sf_X akX) := ak_of sf_X_in ak2_all
def nrX : List Nat := [0, 6, 15, 22, 45, 52, 57, 72, 78, 82, 85, 91, 92, 93, 128, 161, 178, 181, 182, 183, 184, 185, 187, 188, 191, 192, 194, 195, 196, 198, 226, 228, 258]
theorem nr2_all : ((List.range 271).filter (fun k => !(nrX.any (fun x => Nat.beq x k)))).all (fun k => sf_b (fun _ _ => false) (sf_X nrX) k && nr_b nrG (sf_X nrX) k) = true := by decide +kernel
theorem nr2_sf : sf_ok (fun _ _ => false) (sf_X nrX) := sf_of sf_X_in (List.all_eq_true.mpr (fun k hk => ((Bool.and_eq_true _ _).mp (List.all_eq_true.mp nr2_all k hk)).1))
theorem nr2_ok : nr_ok nrG (sf_X nrX) := nr_of sf_X_in (List.all_eq_true.mpr (fun k hk => ((Bool.and_eq_true _ _).mp (List.all_eq_true.mp nr2_all k hk)).2))
theorem en_two4 (hI : LI4 h) (y : Int32) : twoWP4 sl h 87 179 [.int y] := by
  obtain ⟨hI0, c, cc, f, g, hc, hcc, ⟨x1, x2⟩, ⟨r2, y2, y3⟩, hj⟩ := hI
  refine wp_mono (wp_runs (Z := fun r => akp 1 h r.2.1 ∧ rC r.2.1 (.int (nI cc))) (wp_det (cxw_end [.ref 0, .int y] h 2047 (84000 - (19 + pm_max PT 87)) sl ⟨⟨rfl, List.mem_singleton_self _⟩, ai_top_ok _, trivial⟩ hI0.1 trivial (Nat.le_of_ble_eq_true rfl) (Nat.le_of_ble_eq_true rfl)) (en_x (fs := []) hc (ty_x0 hI0.1) (pT_cT x1) y)) (fun m r hh => ⟨ak_run (by decide) ak2_ok m _ _ 87 _ r rfl hh, rC_runs rfl x2 hh⟩)) ?_
  rintro ⟨rv, h1, s1⟩ ⟨⟨⟨-, q1, ⟨q2, -⟩, q3⟩, p1, p2⟩, u1, u2⟩
  cases q1
  dsimp only at p1 p2 u1 u2
  have hI1 := cx_inv hI0 q2 q3
  obtain ⟨w, hw⟩ := ty_m0 hI1.1
  have r2' : mF h1 15 (.int (nI c)) := mF_hi q2 r2
  refine ⟨rfl, _, p1, ty_162 hI1.1, ?_⟩
  refine wp_mono (wp_runs (Z := fun r => r.2.1 172 = h1 172 ∧ mF r.2.1 3 (.int (nI cc))) (wp_det (hm_end hI1 y (fr := 2047) (lo := 84000 - (19 + pm_max PT 179)) (Nat.le_of_ble_eq_true rfl) (Nat.le_of_ble_eq_true rfl)) (en_m hc hw r2' y (Nat.le_of_ble_eq_true rfl) (Nat.le_of_ble_eq_true rfl))) (fun m r hh => ⟨(nr_run nr2_ok nr2_sf m _ _ 179 _ r rfl (Nat.le_refl _) ⟨nrL_l0 (nrS_ints [y]), fun v hv => absurd hv (by simp), nrH_ty hI1.1⟩ hh).2 172 rfl, m3_runs rfl (mF_hi q2 y3) hh⟩)) ?_
  rintro ⟨rv2, h2, s2⟩ ⟨⟨⟨a1, a2, a3, a4⟩, b1, b2⟩, v1, v2⟩
  dsimp only at a2 a3 a4 b1 b2 v1 v2
  cases a2
  refine ⟨b1, rfl, a4, ?_⟩
  have e2 : h1 2 = .inl (1, 80, .inl f) := u1 2 _ x1.2
  have e172 : h2 172 = .inl (0, 80, .inl g) := v1.trans ((q2.1 172 rfl).trans y2)
  cases hd : decide (0 ≤ y.toInt ∧ y.toInt ≤ (c : Int)) with
  | false =>
    rw [hd] at p2 b2
    exact ⟨c, cc, f, g, hc, hcc, ⟨pT_lo a3 (pT_ty hI1.1 p2 e2), rC_lo a3 u2⟩, ⟨b2, e172, v2⟩, hj⟩
  | true =>
    rw [hd] at p2 b2
    have hd := of_decide_eq_true hd
    obtain ⟨j, rfl, hjj, ej⟩ := hI_of (show 0 ≤ y.toInt by omega)
    exact ⟨j, cc, f, g, by omega, hcc, ⟨pT_lo a3 (pT_ty hI1.1 p2 e2), rC_lo a3 u2⟩, ⟨b2, e172, v2⟩, fun q hq => hj q (by omega)⟩
/-- what holds when both texts are empty -/
theorem REL_0 {cc : Nat} (hI1 : mInv h1) (hI2 : mInv h2) (hc : cc ≤ 6) (a3 : ∀ i, i < 162 → h2 i = h1 i) (c : cT h1 (.int 0)) (r : rC h1 (.int (nI cc))) (z : zT h2) (m : mF h2 3 (.int (nI cc))) : REL4 h2 := by
  obtain ⟨f, e2⟩ := ty_2 hI1.1
  obtain ⟨g, e172⟩ := ty_172 hI2.1
  exact ⟨0, cc, f, g, by decide, hc, ⟨pT_lo a3 (pT_ty (m := 0) hI1.1 c e2), rC_lo a3 r⟩, ⟨z, e172, m⟩, fun j hj => absurd hj (by omega)⟩
theorem ty_x2 (hh : ah_ok bB 198 [] h) : ∃ fs, h 0 = .inr (10, fs) ∧ fs[0]? = some (.ref 1) ∧ fs[2]? = some (.ref 5) := by
  obtain ⟨fs, a1, a2⟩ := ty_x0 hh
  have h0 := hh 0 (by decide)
  obtain ⟨fs', ef, hl, hg⟩ := aE_obj (ci := 10) (as := asX0) h0 (by decide)
  rw [a1] at ef
  cases ef
  have hlf : 2 < fs.length := by rw [hl]; exact Nat.le_of_ble_eq_true rfl
  have ev : fs[2]? = some fs[2] := List.getElem?_eq_getElem hlf
  have hv := hg 2 _ (2, 5, 1) ev rfl
  have hr : fs[2] = .ref 5 := by
    cases e : fs[2] with
    | ref p =>
      rw [e] at hv
      have := hv.2
      rw [show p = 5 from List.mem_singleton.mp this]
    | null => rw [e] at hv; exact absurd (show (2 : Nat) = 3 from hv) (by decide)
    | _ => rw [e] at hv; first | exact hv.elim | (cases hv.1)
  exact ⟨fs, a1, a2, by rw [ev, hr]⟩
theorem co_two4 (hI : LI4 h) : twoWP4 sl h 88 188 [] := by
  obtain ⟨hI0, n0, cc, f, g, hn, hc, ⟨x1, x2⟩, ⟨y1, y2, y3⟩, hj⟩ := hI
  obtain ⟨eA, eN⟩ := cm_both hn hc hj
  have hN6 : cc + cmN g n0 cc ≤ 6 := by
    rcases eN with ⟨-, q⟩ | ⟨-, q⟩
    · exact q
    · omega
  have px : pX h n0 cc f := by
    obtain ⟨fs, a1, a2, a3⟩ := ty_x2 hI0.1
    exact ⟨⟨fs, a1, a2, a3⟩, x1.1, x1.2, x2⟩
  refine wp_mono (wp_runs (Z := fun r => (r.1 = some (.int (xR n0 cc f)) ∧ rC r.2.1 (.int (nI (cc + cmN g n0 cc)))) ∧ cT r.2.1 (.int 0)) (cxw_courts [.ref 0] h 2047 (84000 - (19 + pm_max PT 88)) sl ⟨⟨rfl, List.mem_singleton_self _⟩, trivial⟩ hI0.1 trivial (Nat.le_of_ble_eq_true rfl) (Nat.le_of_ble_eq_true rfl)) (fun m r hh => ⟨xc_run hn hc px eN hh, zx_courts (ty_x0 hI0.1) (pT_cT x1) hh⟩)) ?_
  rintro ⟨rv, h1, s1⟩ ⟨⟨-, q1, ⟨q2, -⟩, q3⟩, ⟨p1, p2⟩, p3⟩
  cases q1
  dsimp only at p1 p2 p3
  have hI1 := cx_inv hI0 q2 q3
  obtain ⟨w, hw⟩ := ty_m0 hI1.1
  obtain ⟨w16, h16⟩ := ty_mi hI1.1 16 (by decide +kernel) (by decide +kernel)
  obtain ⟨w17, h17⟩ := ty_mi hI1.1 17 (by decide +kernel) (by decide +kernel)
  obtain ⟨w18, h18⟩ := ty_mi hI1.1 18 (by decide +kernel) (by decide +kernel)
  obtain ⟨w20, h20⟩ := ty_mi hI1.1 20 (by decide +kernel) (by decide +kernel)
  obtain ⟨fr0, hB⟩ := ty_173 hI1.1
  refine ⟨rfl, _, p1, ty_162 hI1.1, ?_⟩
  refine wp_mono (wp_runs (Z := fun r => (r.1 = some (.int (cmA g n0 cc)) ∧ mF r.2.1 3 (.int (nI (cc + cmN g n0 cc)))) ∧ zT r.2.1) (hm_courts hI1 (fr := 2047) (lo := 84000 - (19 + pm_max PT 188)) (Nat.le_of_ble_eq_true rfl) (Nat.le_of_ble_eq_true rfl)) (fun m r hh => ⟨cm_run hn hc hw (mF_hi q2 y1) h16 h17 h18 h20 (mF_hi q2 y3) (ty_m14 hI1.1) ((q2.1 172 rfl).trans y2) (ty_m19 hI1.1) hB hh, z_courts hw (mF_hi q2 y1) hh⟩)) ?_
  rintro ⟨rv2, h2, s2⟩ ⟨⟨a1, a2, a3, a4⟩, ⟨b1, b2⟩, b3⟩
  dsimp only at a2 a3 a4 b1 b2 b3
  cases a2
  rw [eA] at b1
  exact ⟨b1, rfl, a4, REL_0 hI1 a4 hN6 a3 p3 p2 b3 b2⟩
end TU4
end MH89throwsx8
