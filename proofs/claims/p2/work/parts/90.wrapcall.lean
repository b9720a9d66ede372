/-! the law's four wrappers: on a heap on which the class's method throws they answer 1 -/
section TWM
variable {p : Program} {l : Launch} {e : Env} {R : Room} {s : State} {m : MethodId} {args : Array Value} {below : List Frame} {meth : Method} {c : Code} {Q : State → Prop} {D : va_G} {aC : Nat → ClassId} {b g k sz sl : Nat}
/-- one simple step; no cell is made -/
theorem pv_i (hC : pm_C PT PG PN D aC b k p s m args meth c) (hs0 : s.heap.size = b + sz + g) {pc : Nat} {L : pm_L} {S : List Value} {h : pm_H} {ins : Instr} {len pc' : Nat} {L' : pm_L} {S' : List Value} {h' : pm_H} (hi : pm_ins PT k pc = some (ins, len)) (hl : pm_lenOk ins len = true) (hc : pm_callee PT k ins = none) (hs : pm_simple PT R.frames R.locals k ins pc L S h sz sl = some (pc', L', S', h', sz, sl))
    (kk : pm_V p l e R s m args below meth c Q PT D aC b k sz sl (pc', L', S', h', sz, sl)) : pm_V p l e R s m args below meth c Q PT D aC b k sz sl (pc, L, S, h, sz, sl) :=
  pm_step_ok PT_ok hC rfl rfl hs0 (Or.inr rfl) (Nat.le_refl _) (Nat.le_refl _) (Nat.le_add_right _ _) (Nat.le_add_right _ _) (go := pm_go0) (fun _ _ _ _ _ _ _ _ _ _ q => by cases q) ((ls_of hi hl hc).trans hs) kk
def tw_Qc (D : va_G) (aC : Nat → ClassId) (b sz : Nat) (XQ : pm_H → Prop) : Array Value → State → Outcome → State → Prop := fun _ st o t => o = .returned (some (.int 1)) ∧ (∃ h1, XQ h1 ∧ va_P D (pm_cl PT) (pm_w aC b h1 sz) t.heap) ∧ va_F (fun q => b ≤ q) st t
def tw_ws (w : Nat) (hh : List (Nat × Nat × Nat × Nat)) : List Cond := Cond.codeWith (pm_y PT w) (pm_code PT w) (pm_max PT w) (some .int) hh :: PG
/-- the call in a wrapper, and its catching -/
theorem tw_call (htr : l.stackTraces = false) {w t n j pc hpc lo' fr' : Nat} {x : ExceptionTableEntry} {L : pm_L} {vs rest : List Value} {h : pm_H} {fs : List Value} {XQ : pm_H → Prop}
    (hC : pm_C PT PG PN D aC b w p s m args meth c) (hown : pm_own PT (pm_o PT w) = "GiftsOfCourtsLaw") (hX : tx_K b s) (hs0 : s.heap.size = b + sz + g) (htab : c.exceptionTable.toList = [x]) (hcov : covers x pc = true) (hct : x.catchType = 13) (hhp : x.handlerPc = hpc)
    (hRf : R.frames = fr' + 1) (hRl : R.locals = lo' + (19 + pm_max PT t)) (hRc : 1 ≤ R.cells) (hRs : 6 ≤ R.slots) (hf6 : 6 ≤ fr') (hl89 : 89 ≤ lo')
    (hi : pm_ins PT w pc = some (.invokevirtual j, 3)) (hm : pm_mlk PT (pm_o PT w) j = some (0, t)) (hto : pm_own PT (pm_o PT t) = "GiftsOfCourts") (htc : pm_ci PT t = 10) (hn : vs.length = n) (hna : pm_na PT t = n + 1) (ho : h 0 = .inr (10, fs)) (hz : 0 < sz) (hsum : pm_sum rest ≤ 8) (hlen : (pm_args (.ref 0 :: vs)).length ≤ pm_max PT t)
    (hret : pm_ret PT t = some .int ∨ pm_ret PT t = some .long)
    (hrun : pw_X PT (tx_stop t) fr' lo' t (0, pm_l0 (.ref 0 :: vs) (pm_max PT t), [], h, sz, sl) (fun _ => False) (fun st => pm_sum st.2.2.1 ≤ 8 ∧ st.2.2.2.2 = (sz, sl) ∧ XQ st.2.2.2.1))
    (kk : ∀ (q9 : Addr) (h1 : pm_H) (H1 : Heap) (locs1 : List Loc) (ls : Array Slot), XQ h1 → va_P D (pm_cl PT) (pm_w aC b h1 sz) H1 → va_S (fun q => b ≤ q) s.heap H1 locs1 → pm_loc aC b ls (pm_max PT w) L → W p l e R s m args below meth c H1 locs1 1 6 Q (F0 m hpc ls [.ref q9])) :
    pm_V p l e R s m args below meth c Q PT D aC b w sz sl (pc, L, vs.reverse ++ .ref 0 :: rest, h, sz, sl) := by
  obtain ⟨hx, hb, hml, hown', hts, hK, hin⟩ := hC
  have hd := PT_ok.1 _ _ _ _ hi
  intro H locs ls hP hS hl
  refine pm_sized fun hzz => ?_
  dsimp only at hzz hP hl ⊢
  have hsz := pm_size (g := g) hS hP hs0 (Or.inr rfl) (Nat.le_refl _) hzz
  rw [Nat.sub_self, Nat.sub_self]
  obtain ⟨⟨m1, m2, m3, m4, m5, m6⟩, w1, w2, w3, ⟨n', w4, w5⟩, F, N, w6⟩ := PT_ok.2.2.2.2.1 _ _ _ _ hm
  have hnn : n' = n := by omega
  subst hnn
  have hM := fun (Qc : Array Value → State → Outcome → State → Prop) => tx_met (l := l) (g := g) (D := D) (aC := aC) (b := b) (Qc := Qc) htr ⟨m1, m2, m3, m4, m5, m6⟩ hto hf6 hl89 hlen hrun
  have hpre : ∀ U : State, U.heap = H → s.WarmedH U.vm → tx_Pc D aC b g (.ref 0 :: vs) h sz ((Value.ref 0 :: vs).map (pm_tr aC b)).toArray U := fun U hU hW => ⟨rfl, by rw [hU]; exact hsz, by rw [hU]; exact hP, hK.warm PT_ok hW (by rw [hU]; exact hS), hX.to hW (fun a ha hba => by rw [hU]; exact hS.2.1 a ha hba)⟩
  have hroom : 2 * (F0 m pc ls ((vs.reverse ++ .ref 0 :: rest).map (pm_tr aC b))).monitorRoom + ((rest.map (pm_tr aC b)).map fun v => v.category).sum ≤ 8 := lv_room (by rw [pm_sum_tr]; exact hsum)
  have hRR : (pm_rm fr' lo' 1 6).frames + 1 ≤ R.frames ∧ 8 + (pm_max PT t + 11) + (pm_rm fr' lo' 1 6).locals ≤ R.locals := by
    dsimp only
    omega
  have hst : (vs.reverse ++ .ref 0 :: rest).map (pm_tr aC b) = (vs.map (pm_tr aC b)).reverse ++ .ref (b + 0) :: rest.map (pm_tr aC b) := by
    rw [List.map_append, List.map_reverse, List.map_cons]
    rfl
  have hgd : GoodIn PG (wsV "GiftsOfCourtsLaw" j (pm_y PT t).cls (pm_y PT t) (pm_ws PT PG t)) := pm_good PT_ok (fun w hw => by
    simp only [wsV, pm_ws, List.mem_append, List.mem_cons, List.not_mem_nil, or_false] at hw
    rw [hown] at w1
    rcases hw with (rfl | rfl | rfl | rfl) | rfl | hw
    · exact w1
    · exact w2
    · exact w3
    · exact m4
    · exact m3
    · exact hw)
  have kx : ∀ (E : String) (ce : Cell) (q9 : Addr) (u : pm_H) (t : State) (H1 : Heap) (locs1 : List Loc), t.heap = H1 → s.vm.Alike t.vm → XQ u → tx_B D aC b sz E u t → H.size ≤ H1.size → (∀ q : Nat, q < H.size → ¬ b ≤ q → H1[q]? = H[q]?) → va_S (fun q => b ≤ q) s.heap H1 locs1 → H1[q9]? = some ce → ce.vm = .none → s.vm.findClass E = some ce.cls → vx_W p l e R s m args below meth c H1 locs1 (0 + 1) (0 + 6) Q (F0 m pc ls (rest.map (pm_tr aC b))) q9 := by
    intro E ce q9 u t H1 locs1 ht hal hu hB _ _ hS1 hce hcv hcl
    obtain ⟨rfl, hP1⟩ := hB
    rw [ht] at hP1
    refine tx_catch (own := "GiftsOfCourtsLaw") (name := tx_E) (E := tx_E) (by rw [← hown]; exact hown') htab hcov (by rw [hct]; decide) (by rw [hct]; exact hts _ (List.mem_filter.mpr ⟨by decide +kernel, rfl⟩)) (va_Nw.use rfl (hX.1 _ tx_cast)) hce hcv hcl ?_
    rw [hhp]
    exact kk q9 u H1 locs1 ls hu hP1 hS1 hl
  rw [hst]
  rcases hret with hret | hret
  · exact vx_calli (post := fun _ (_ : Unit) => False) (px := XQ) (B := fun _ _ => True) (BX := tx_B D aC b sz) (AX := fun q => b ≤ q) (A1 := fun q => b ≤ q) (A0 := fun q => b ≤ q) (vx_runV (As := vs.map (pm_tr aC b)) (rest := rest.map (pm_tr aC b)) ⟨hx, hb, hml, by rw [← hown]; exact hown', hts⟩ (hM (va_Qi (fun _ (_ : Unit) => False) (fun _ _ => True) (fun q => b ≤ q))) (cwV n' hts hgd rfl rfl rfl ⟨rfl, m5.1, m5.2, w5⟩ hRR) ⟨tx_blind, va_recv hK.1 hP w6 (by rw [htc]; exact pm_w_P hP hz ho), hpre⟩ rfl (by rw [List.length_map]; exact hn) hl.1 rfl hroom hd ⟨by omega, by omega⟩) hS (fun _ _ q => q) (fun _ q => q) (fun _ _ q => q) kx (fun _ _ _ _ _ _ _ q => q.elim)
  · exact vx_calll (post := fun _ (_ : Unit) => False) (px := XQ) (B := fun _ _ => True) (BX := tx_B D aC b sz) (AX := fun q => b ≤ q) (A1 := fun q => b ≤ q) (A0 := fun q => b ≤ q) (vx_runV (As := vs.map (pm_tr aC b)) (rest := rest.map (pm_tr aC b)) ⟨hx, hb, hml, by rw [← hown]; exact hown', hts⟩ (hM (va_Ql (fun _ (_ : Unit) => False) (fun _ _ => True) (fun q => b ≤ q))) (cwV n' hts hgd rfl rfl rfl ⟨rfl, m5.1, m5.2, w5⟩ hRR) ⟨tx_blind, va_recv hK.1 hP w6 (by rw [htc]; exact pm_w_P hP hz ho), hpre⟩ rfl (by rw [List.length_map]; exact hn) hl.1 rfl hroom hd ⟨by omega, by omega⟩) hS (fun _ _ q => q) (fun _ q => q) (fun _ _ q => q) kx (fun _ _ _ _ _ _ _ q => q.elim)
end TWM
