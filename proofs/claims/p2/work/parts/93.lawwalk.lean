/-! the law's walk: its end, its start anew at a later state, what it knows of a state -/
section LW
variable {p : Program} {l : Launch} {e : Env} {R : Room} {s : State} {m : MethodId} {args : Array Value} {below : List Frame} {meth : Method} {c : Code} {H : Heap} {locs : List Loc} {cells slots : Nat}
variable {D : va_G} {aC : Nat → ClassId} {b g sz sl bS Ln : Nat} {xs : Nat → Int32}
/-- the law has answered true; what it wrote lies at b or behind -/
def lw_Zb (b C S : Nat) (below : List Frame) (s : State) : State → Prop := fun t => ∃ o, t.status = .running ∧ Ended t below o ∧ o = .returned (some (.int 1)) ∧ ∃ L, Framed s o t L C S ∧ ∀ q ∈ L, b ≤ q.base
theorem lw_retb (hx : p.tables.exec = Jvm.exec) (hb : c.code = code) (hr : meth.sig.returnType = ret) (hlocks : meth.locks = false) {pc C S : Nat} {ls : Array Slot} (hdg : decode code pc = .ok (.ireturn, 1)) (hL : ∀ q ∈ locs, b ≤ q.base) (h1 : cells ≤ C) (h2 : slots ≤ S) : W p l e R s m args below meth c H locs cells slots (lw_Zb b C S below s) (F0 m pc ls [.int 1]) := by
  intro T hT X0
  have X := stand_widen X0 h1 h2
  obtain ⟨fs, hret, hrun, hended, hW, hframe⟩ := X.leave (v := some (.int 1)) (hlocks := hlocks) (fun h => by rw [hr] at h; cases h)
  have hmeth' : T.vm.method? m = some meth := X.method'
  refine ⟨T.setFrames fs, ?_, .returned (some (.int 1)), hrun, hended, rfl, locs, ⟨⟨_, rfl⟩, hW, hframe⟩, hL⟩
  jvm_step X.here [X.here.top, hx, hb, hdg, hmeth', hr, ret, narrow_b1]
  (try refine ⟨rfl, ?_⟩); (try refine ⟨rfl, ?_⟩)
  first | (intro acts; rw [hret _ acts rfl rfl rfl]) | rw [hret _ _ rfl rfl rfl]
  exact Steps.refl _
/-- the walk begun anew where it stands -/
theorem lw_rebase {R' : Room} {C S C' S' : Nat} {gf : JFrame} (hf : R'.frames ≤ R.frames) (hl : R'.locals ≤ R.locals) (hc : cells + R'.cells ≤ R.cells) (hs : slots + R'.slots ≤ R.slots) (hC : cells + C' ≤ C) (hS : slots + S' ≤ S) (hL : ∀ q ∈ locs, b ≤ q.base)
    (kk : ∀ s' : State, s'.vm = s.vm → s'.heap = H → W p l e R' s' m args below meth c H [] 0 0 (lw_Zb b C' S' below s') gf) : W p l e R s m args below meth c H locs cells slots (lw_Zb b C S below s) gf := by
  intro T hT X
  have Y := vx_rebase X hf hl hc hs
  obtain ⟨s', hA⟩ : ∃ z, z = (T.setVm s.vm).setFrames (.invoking m args :: below) := ⟨_, rfl⟩
  rw [← hA] at Y
  have hvm : s'.vm = s.vm := by rw [hA]; rfl
  have hhp : s'.heap = H := by rw [hA]; exact hT
  obtain ⟨t, a1, o, b1, b2, b3, L', ⟨⟨v, b4⟩, hW, hsame⟩, b5⟩ := kk s' hvm hhp T hT Y
  have hW0 : s.WarmedH s'.vm := by rw [hvm]; exact State.WarmedH.refl s
  refine ⟨t, a1, o, b1, b2, b3, locs ++ L', ⟨⟨v, b4⟩, State.WarmedH.trans hW0 hW, ?_⟩, fun q hq => (List.mem_append.mp hq).elim (hL q) (b5 q)⟩
  subst hA
  obtain ⟨e1, e2⟩ := hsame
  rw [State.setFrames_setFrames] at e1
  have h2 : (T.setVm s.vm).sameButNew ({ t with vm := s.vm } : State) L' C' S' := ⟨e1, e2⟩
  exact (X.same.trans h2).mono hC hS
/-- what the law knows of a state -/
def lw_Env (D : va_G) (aC : Nat → ClassId) (b bS Ln : Nat) (xs : Nat → Int32) (p : Program) (s : State) (m : MethodId) (meth : Method) (c : Code) : Prop := pm_C PT PG PN D aC b 1000 p s m #[Value.ref (aC (1000 + bS))] meth c ∧ tx_K b s ∧ va_X (aC (1000 + bS)) Ln xs s s.heap ∧ aC (1000 + bS) < b ∧ b ≤ s.heap.size
theorem lw_Env.to {s' : State} (h : lw_Env D aC b bS Ln xs p s m meth c) (hvm : s'.vm = s.vm) (hq : ∀ a : Nat, a < s.heap.size → ¬ b ≤ a → s'.heap[a]? = s.heap[a]?) (hz : s.heap.size ≤ s'.heap.size) : lw_Env D aC b bS Ln xs p s' m meth c := by
  obtain ⟨⟨c1, c2, c3, c4, c5, c6, c7⟩, hX, hV, h1, h2⟩ := h
  have hW : s.WarmedH s'.vm := by rw [hvm]; exact State.WarmedH.refl s
  refine ⟨⟨c1, c2, c3, by rw [hvm]; exact c4, fun w hw => word_at hW (good_of_word (PT_ok.2.1 w hw)) (c5 w hw), c6.warm PT_ok hW (locs := []) ⟨hz, hq, fun _ q => (by cases q)⟩, c7⟩, hX.to hW hq, ?_, h1, Nat.le_trans h2 hz⟩
  exact va_X.moved hW.alike (hV.kept (hq (aC (1000 + bS)) (Nat.lt_of_lt_of_le h1 h2) (Nat.not_le_of_lt h1)))
/-- the call of a wrapper that answers 1, and the walk begun anew behind it -/
theorem lw_wrap {w jw lo1 n pc : Nat} {hh : List (Nat × Nat × Nat × Nat)} {As : List Value} {L : pm_L} {h : pm_H} {C S : Nat} (E : lw_Env D aC b bS Ln xs p s m meth c) (hz198 : sz = 198) (hs0 : s.heap.size = b + sz + g) (hfr : R.frames = 2048) (hlo : R.locals = 84000) (hRc : 1 ≤ R.cells) (hRs : 6 ≤ R.slots) (hC : 1 ≤ C) (hS : 6 ≤ S)
    (hi : pm_ins PT 1000 pc = some (.invokestatic jw, 3)) (hcls : (pm_y PT w).cls = "GiftsOfCourtsLaw") (hwd : ∀ z ∈ ([Cond.methodLink "GiftsOfCourtsLaw" jw (pm_y PT w), Cond.static (pm_y PT w), Cond.initialized "GiftsOfCourtsLaw", Cond.codeWith (pm_y PT w) (pm_code PT w) (pm_max PT w) (some .int) hh] : List Cond), z ∈ PG) (hpar : (parseMethodDescriptor (pm_y PT w).desc).map (fun d => d.parameters.length) = some n) (hn : As.length = n) (hlo1 : lo1 + (19 + pm_max PT w) ≤ 84000)
    (hM : Met l (pm_y PT w) (tw_ws w hh) (pm_rm 2047 lo1 1 6) (tx_Pc D aC b g As h sz) (tw_Qd D aC b h) 1 6 (fun q => b ≤ q))
    (kk : ∀ (s' : State) (g' : Nat) (h1 : pm_H), lw_Env D aC b bS Ln xs p s' m meth c → s'.heap.size = b + sz + g' → twX h h1 → ∀ v : Int32, pm_V p l e { frames := R.frames, locals := R.locals, cells := R.cells - 1, slots := R.slots - 6 } s' m #[Value.ref (aC (1000 + bS))] below meth c (lw_Zb b (C - 1) (S - 6) below s') PT D aC b 1000 sz sl (pc + 3, L, [.int v], h1, sz, sl)) :
    pm_V p l e R s m #[Value.ref (aC (1000 + bS))] below meth c (lw_Zb b C S below s) PT D aC b 1000 sz sl (pc, L, As.reverse, h, sz, sl) := by
  subst hz198
  have E0 := E
  obtain ⟨⟨hx, hb, hml, hown', hts, hK, hin⟩, hX, hV, hbS, hbs⟩ := E
  have hd := PT_ok.1 _ _ _ _ hi
  intro H locs ls hP hSS hl
  refine pm_sized fun hzz => ?_
  dsimp only at hzz hP hl ⊢
  have hsz := pm_size (g := g) hSS hP hs0 (Or.inr rfl) (Nat.le_refl _) hzz
  rw [Nat.sub_self, Nat.sub_self]
  have hpre : ∀ U : State, U.heap = H → s.WarmedH U.vm → tx_Pc D aC b g As h 198 (As.map (pm_tr aC b)).toArray U := fun U hU hW => ⟨rfl, by rw [hU]; exact hsz, by rw [hU]; exact hP, hK.warm PT_ok hW (by rw [hU]; exact hSS), hX.to hW (fun a ha hba => by rw [hU]; exact hSS.2.1 a ha hba)⟩
  have hroom : 2 * (F0 m pc ls (As.reverse.map (pm_tr aC b))).monitorRoom + ((([] : List Value).map (pm_tr aC b)).map fun v => v.category).sum ≤ 8 := lv_room (Nat.le_of_ble_eq_true rfl)
  have hRR : (pm_rm 2047 lo1 1 6).frames + 1 ≤ R.frames ∧ 8 + (pm_max PT w + 11) + (pm_rm 2047 lo1 1 6).locals ≤ R.locals := by
    dsimp only
    omega
  have hgd : GoodIn PG (va_wsS "GiftsOfCourtsLaw" jw (pm_y PT w) (tw_ws w hh)) := pm_good PT_ok (fun z hz => by
    simp only [va_wsS, tw_ws, List.mem_append, List.mem_cons, List.not_mem_nil, or_false] at hz
    rw [hcls] at hz
    rcases hz with (rfl | rfl | rfl) | rfl | hz
    · exact hwd _ (by simp)
    · exact hwd _ (by simp)
    · exact hwd _ (by simp)
    · exact hwd _ (by simp)
    · exact hz)
  have hr := vx_runSW (p := p) (l := l) (e := e) (below := below) (meth := meth) (locs := locs) (cells := 0) (slots := 0) (As := As.map (pm_tr aC b)) (rest := []) (g := F0 m pc ls (As.reverse.map (pm_tr aC b))) (own := "GiftsOfCourtsLaw") (H := H) ⟨hx, hb, hml, hown', hts⟩ hM (vx_cwSW n hts hgd rfl rfl rfl ⟨by rw [hcls]; decide, by rw [hcls]; decide, hpar⟩ hRR) ⟨tx_blind, hpre⟩ rfl (by rw [List.length_map]; exact hn) hl.1 (by show As.reverse.map (pm_tr aC b) = _; rw [List.map_reverse, List.append_nil]) hroom hd ⟨by omega, by omega⟩
  intro T hT X
  obtain ⟨v, st₀, t, T2, L2, h0, X', hL, e1, e2, ⟨hv, ⟨h1, hXQ, hP1⟩, hF⟩, st⟩ := hr T hT X
  obtain ⟨vv, hv⟩ := hv
  cases hv
  have hgz : s.heap.size ≤ T2.heap.size := by
    rw [e1]
    have h3 := hF.1
    rw [h0] at h3
    exact Nat.le_trans hSS.1 h3
  have hq : ∀ a : Nat, a < s.heap.size → ¬ b ≤ a → T2.heap[a]? = s.heap[a]? := fun a ha hba => by
    rw [e1, hF.2 a (by rw [h0]; exact Nat.lt_of_lt_of_le ha hSS.1) hba, h0]
    exact hSS.2.1 a ha hba
  have hbz : b + 198 ≤ T2.heap.size := by
    rw [e1]
    have h3 := hF.1
    rw [h0] at h3
    omega
  have key : W p l e R s m #[Value.ref (aC (1000 + bS))] below meth c T2.heap (locs ++ L2) (0 + 1) (0 + 6) (lw_Zb b C S below s) (F0 m (pc + 3) ls [.int vv]) := by
    refine lw_rebase (R' := { frames := R.frames, locals := R.locals, cells := R.cells - 1, slots := R.slots - 6 }) (C' := C - 1) (S' := S - 6) (Nat.le_refl _) (Nat.le_refl _) (by dsimp only; omega) (by dsimp only; omega) (by omega) (by omega) (fun q hq => (List.mem_append.mp hq).elim (hSS.2.2 q) (hL q)) (fun s' hvm hhp => ?_)
    have hV := kk s' (T2.heap.size - (b + 198)) h1 (E0.to hvm (fun a ha hba => by rw [hhp]; exact hq a ha hba) (by rw [hhp]; exact hgz)) (by rw [hhp]; omega) hXQ vv
    have hW := hV T2.heap [] ls (by rw [e1]; exact hP1) (by rw [← hhp]; exact va_S.rf) hl
    dsimp only at hW
    rw [Nat.sub_self, Nat.sub_self] at hW
    exact hW
  obtain ⟨t2, a1, b1⟩ := key T2 rfl X'
  exact ⟨t2, st t2 a1, b1⟩
end LW
