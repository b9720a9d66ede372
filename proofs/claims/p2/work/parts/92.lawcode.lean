/-! THE LAW'S OWN CODE, read by program: arguments out of the script, two calls, a comparison. P is what is to be shown of a state; lc_Cl: P goes back over steps, calls and readings of the script -/
section LC
def lc_Cl (sz sl bS Ln : Nat) (xs : Nat → Int32) (P : pm_St → Prop) : Prop :=
  (∀ (pc : Nat) (L : pm_L) (S : List Value) (h : pm_H) (pc' : Nat) (L' : pm_L) (S' : List Value) (h' : pm_H), pm_step PT pm_go0 2048 84000 1000 (pc, L, S, h, sz, sl) = some (pc', L', S', h', sz, sl) → P (pc', L', S', h', sz, sl) → P (pc, L, S, h, sz, sl)) ∧
  (∀ (pc : Nat) (L : pm_L) (S : List Value) (h : pm_H) (t : Nat) (As rest : List Value), pm_cd PT 1000 (pc, L, S, h, sz, sl) = some (t, As, rest) → 19 + pm_max PT t ≤ 84000 → pm_WP PT 2047 (84000 - (19 + pm_max PT t)) t (0, pm_l0 As (pm_max PT t), [], h, sz, sl) (fun r => r.2.2 = (sz, sl) ∧ P (pc + 3, L, r.1.toList ++ rest, r.2)) → P (pc, L, S, h, sz, sl)) ∧
  (∀ (pc : Nat) (L : pm_L) (S : List Value) (h : pm_H) (i : Nat), i < Ln → pm_ins PT 1000 pc = some (.iaload, 1) → P (pc + 1, L, .int (xs i) :: S, h, sz, sl) → P (pc, L, .int (nI i) :: .retAddr bS :: S, h, sz, sl)) ∧
  (∀ (pc : Nat) (L : pm_L) (S : List Value) (h : pm_H), pm_ins PT 1000 pc = some (.arraylength, 1) → P (pc + 1, L, .int (nI Ln) :: S, h, sz, sl) → P (pc, L, .retAddr bS :: S, h, sz, sl))
theorem lc_of {p : Program} {l : Launch} {e : Env} {R : Room} {s : State} {m : MethodId} {args : Array Value} {below : List Frame} {meth : Method} {c : Code} {Q : State → Prop} {D : va_G} {aC : Nat → ClassId} {b g sz sl bS Ln : Nat} {xs : Nat → Int32} (hC : pm_C PT PG PN D aC b 1000 p s m args meth c) (hfr : R.frames = 2048) (hlo : R.locals = 84000) (hs0 : s.heap.size = b + sz + g) (hX : va_X (aC (1000 + bS)) Ln xs s s.heap) (hbl : aC (1000 + bS) < s.heap.size) (hbA : ¬ b ≤ aC (1000 + bS)) (hLn : Ln < 2 ^ 31) : lc_Cl sz sl bS Ln xs (pm_V p l e R s m args below meth c Q PT D aC b 1000 sz sl) := by
  refine ⟨?_, ?_, ?_, ?_⟩
  · intro pc L S h pc' L' S' h' hs kk
    exact pm_step_ok PT_ok hC hfr hlo hs0 (Or.inr rfl) (Nat.le_refl _) (Nat.le_refl _) (Nat.le_add_right _ _) (Nat.le_add_right _ _) (go := pm_go0) (fun _ _ _ _ _ _ _ _ _ _ q => by cases q) hs kk
  · intro pc L S h t As rest hcd hl kk
    refine pv_call PT_ok hC hfr hlo hs0 hcd rfl (by omega) hl (Nat.le_refl _) (Nat.le_refl _) (wp_mono kk ?_)
    rintro ⟨rv, h1, sz1, sl1⟩ ⟨q1, q2⟩
    cases q1
    exact ⟨Or.inr rfl, Nat.le_add_right _ _, Nat.le_add_right _ _, q2⟩
  · intro pc L S h i hi hins kk
    have kk' := pv_sld (l := l) (e := e) (R := R) (below := below) (Q := Q) PT_ok hC hX hbl hbA (L := L) (S := S) (h := h) (sz := sz) (sl := sl) (sz0 := sz) (sl0 := sl) (i := nI i) (vp_in_nI hi hLn) hins
    rw [nI_clamp (by omega)] at kk'
    exact kk' kk
  · intro pc L S h hins kk
    exact pv_slen PT_ok hC hX hbl hbA hins kk
variable {P : pm_St → Prop} {sz sl bS Ln i pc : Nat} {xs : Nat → Int32} {L : pm_L} {S : List Value} {h : pm_H}
/-- load -/
theorem lc_ald (H : lc_Cl sz sl bS Ln xs P) {a : Fin 4} {v : Value} (hi : pm_ins PT 1000 pc = some (.aload_n a, 1)) (hg : pm_get L a.val = some v) (hv : pm_isT 2 v = true) (kk : P (pc + 1, L, v :: S, h, sz, sl)) : P (pc, L, S, h, sz, sl) := by
  refine H.1 _ _ _ _ _ _ _ _ ((ls_of hi rfl rfl).trans ?_) kk
  show pm_lo 2 1 pc a.val L S h sz sl = _
  unfold pm_lo pm_ld
  rw [hg]
  dsimp only
  rw [if_pos hv]
theorem lc_ild (H : lc_Cl sz sl bS Ln xs P) {a : Nat} {v : Int32} (hi : pm_ins PT 1000 pc = some (.iload a, 2)) (hg : pm_get L a = some (.int v)) (kk : P (pc + 2, L, .int v :: S, h, sz, sl)) : P (pc, L, S, h, sz, sl) := by
  refine H.1 _ _ _ _ _ _ _ _ ((ls_of hi rfl rfl).trans ?_) kk
  show pm_lo 0 2 pc a L S h sz sl = _
  unfold pm_lo pm_ld
  rw [hg]
  rfl
def lc_al (pc a : Nat) : Bool := match pm_ins PT 1000 pc with
  | some (.aload_n q, 1) => q.val == a
  | _ => false
theorem lc_al_ok (H : lc_Cl sz sl bS Ln xs P) {a : Nat} {v : Value} (hi : lc_al pc a = true) (hg : pm_get L a = some v) (hv : pm_isT 2 v = true) (kk : P (pc + 1, L, v :: S, h, sz, sl)) : P (pc, L, S, h, sz, sl) := by
  unfold lc_al at hi
  split at hi
  · rename_i q e
    have hq := eq_of_beq hi
    rw [← hq] at hg
    exact lc_ald H e hg hv kk
  · cases hi
/-- an argument: script[i + j] -/
def lc_arg (pc j : Nat) : Bool := match pm_ins PT 1000 pc, pm_ins PT 1000 (pc + 1), pm_ins PT 1000 (pc + 3), pm_ins PT 1000 (pc + 4), pm_ins PT 1000 (pc + 5) with
  | some (.aload_n q, 1), some (.iload 4, 2), some (.iconst n, 1), some (.iadd, 1), some (.iaload, 1) => q.val == 0 && decide (n = (j : Int))
  | _, _, _, _, _ => false
theorem lc_arg_ok (H : lc_Cl sz sl bS Ln xs P) {j : Nat} (ha : lc_arg pc j = true) (h0 : pm_get L 0 = some (.retAddr bS)) (h4 : pm_get L 4 = some (.int (nI i))) (hj : i + j < Ln) (kk : P (pc + 6, L, .int (xs (i + j)) :: S, h, sz, sl)) : P (pc, L, S, h, sz, sl) := by
  unfold lc_arg at ha
  split at ha
  · rename_i q n e1 e2 e3 e4 e5
    rw [Bool.and_eq_true] at ha
    have hq := eq_of_beq ha.1
    have hn : n = (j : Int) := of_decide_eq_true ha.2
    rw [← hq] at h0
    refine lc_ald H e1 h0 rfl ?_
    refine lc_ild H e2 h4 ?_
    refine H.1 _ _ _ _ (pc + 4) _ _ _ (ls_of e3 rfl rfl) ?_
    refine H.1 _ _ _ _ (pc + 5) _ _ _ (ls_of e4 rfl rfl) ?_
    have e : nI i + Int32.ofInt n = nI (i + j) := by
      rw [hn, ← nI_add]
      rfl
    show P (pc + 5, L, .int (nI i + Int32.ofInt n) :: .retAddr bS :: S, h, sz, sl)
    rw [e]
    exact H.2.2.1 _ _ _ _ _ hj e5 kk
  · cases ha
def lc_args : Nat → Nat → Nat → Bool
  | _, 0, _ => true
  | pc, n + 1, j => lc_arg pc j && lc_args (pc + 6) n (j + 1)
def lc_vals (xs : Nat → Int32) (i : Nat) : Nat → Nat → List Int32
  | 0, _ => []
  | n + 1, j => xs (i + j) :: lc_vals xs i n (j + 1)
theorem lc_vals_len (xs : Nat → Int32) (i : Nat) : ∀ n j, (lc_vals xs i n j).length = n
  | 0, _ => rfl
  | n + 1, j => by unfold lc_vals; rw [List.length_cons, lc_vals_len xs i n (j + 1)]
theorem lc_args_ok (H : lc_Cl sz sl bS Ln xs P) (h0 : pm_get L 0 = some (.retAddr bS)) (h4 : pm_get L 4 = some (.int (nI i))) : ∀ (n j pc : Nat) (S : List Value), lc_args pc n j = true → i + j + n ≤ Ln → P (pc + 6 * n, L, ((lc_vals xs i n j).map Value.int).reverse ++ S, h, sz, sl) → P (pc, L, S, h, sz, sl)
  | 0, _, _, _, _, _, kk => kk
  | n + 1, j, pc, S, ha, hb, kk => by
    unfold lc_args at ha
    rw [Bool.and_eq_true] at ha
    refine lc_arg_ok H ha.1 h0 h4 (by omega) (lc_args_ok H h0 h4 n (j + 1) (pc + 6) _ ha.2 (by omega) ?_)
    unfold lc_vals at kk
    rw [List.map_cons, List.reverse_cons, List.append_assoc] at kk
    rw [show pc + 6 + 6 * n = pc + 6 * (n + 1) by omega]
    exact kk
theorem lc_pargs : ∀ vs : List Int32, (pm_args (vs.map Value.int)).length = vs.length
  | [] => rfl
  | v :: r => by
    have ih := lc_pargs r
    rw [List.map_cons]
    unfold pm_args
    rw [if_neg (by show ¬ (1 : Nat) = 2; omega), List.length_cons, List.length_cons, ih]
/-- a call by the receiver's class -/
def lc_iv (pc t n ci : Nat) : Bool := match pm_ins PT 1000 pc with
  | some (.invokevirtual j, 3) => decide (pm_mlk PT (pm_o PT 1000) j = some (0, t) ∧ pm_na PT t = n + 1 ∧ pm_ci PT t = ci ∧ n + 1 ≤ pm_max PT t ∧ 19 + pm_max PT t ≤ 84000)
  | _ => false
theorem lc_iv_ok (H : lc_Cl sz sl bS Ln xs P) {t n ci a : Nat} {fs : List Value} {vs : List Int32} {rest : List Value} (hi : lc_iv pc t n ci = true) (ho : h a = .inr (ci, fs)) (ha : a < sz) (hn : vs.length = n) (hr : pm_sum rest ≤ 8)
    (kk : pm_WP PT 2047 (84000 - (19 + pm_max PT t)) t (0, pm_l0 (.ref a :: vs.map Value.int) (pm_max PT t), [], h, sz, sl) (fun r => r.2.2 = (sz, sl) ∧ P (pc + 3, L, r.1.toList ++ rest, r.2))) : P (pc, L, (vs.map Value.int).reverse ++ .ref a :: rest, h, sz, sl) := by
  unfold lc_iv at hi
  split at hi
  · rename_i j e
    obtain ⟨c1, c2, c3, c4, c5⟩ := of_decide_eq_true hi
    refine H.2.1 _ _ _ _ t (.ref a :: vs.map Value.int) rest ?_ c5 kk
    have hlen : ((vs.map Value.int).reverse ++ [Value.ref a]).length = n + 1 := by
      rw [List.length_append, List.length_reverse, List.length_map, hn]
      rfl
    have hsp : (vs.map Value.int).reverse ++ .ref a :: rest = ((vs.map Value.int).reverse ++ [Value.ref a]) ++ rest := by rw [List.append_assoc]; rfl
    have htk : ((vs.map Value.int).reverse ++ .ref a :: rest).take (n + 1) = (vs.map Value.int).reverse ++ [Value.ref a] := by rw [hsp, ← hlen, List.take_left']; rfl
    have hdr : ((vs.map Value.int).reverse ++ .ref a :: rest).drop (n + 1) = rest := by rw [hsp, ← hlen, List.drop_left']; rfl
    have hrev : ((vs.map Value.int).reverse ++ [Value.ref a]).reverse = .ref a :: vs.map Value.int := by rw [List.reverse_append, List.reverse_reverse]; rfl
    unfold pm_cd
    dsimp only
    rw [e]
    dsimp only
    have hcal : pm_callee PT 1000 (.invokevirtual j) = some (0, t) := by
      unfold pm_callee
      dsimp only
      rw [c1]
      rfl
    rw [if_pos (show pm_lenOk (Instr.invokevirtual j) 3 = true from rfl), hcal]
    dsimp only
    rw [c2, htk, hdr, hrev]
    refine if_pos ⟨?_, ?_, hr, ?_⟩
    · rw [hsp, List.length_append, hlen]
      omega
    · unfold pm_rcv
      rw [if_neg (by omega)]
      dsimp only
      unfold pm_obj
      rw [if_pos ha, ho]
      dsimp only
      rw [c3]
      exact beq_self_eq_true ci
    · show (pm_args (.ref a :: vs.map Value.int)).length ≤ _
      unfold pm_args
      rw [if_neg (by show ¬ (1 : Nat) = 2; omega), List.length_cons, lc_pargs, hn]
      exact c4
  · cases hi
def lc_eq (pc pe : Nat) : Bool := match pm_ins PT 1000 pc with
  | some (.if_icmp .eq off, 3) => decide (pm_tgt pc off = some pe)
  | _ => false
theorem lc_eq_ok (H : lc_Cl sz sl bS Ln xs P) {pe : Nat} {v : Int32} (hi : lc_eq pc pe = true) (kk : P (pe, L, S, h, sz, sl)) : P (pc, L, .int v :: .int v :: S, h, sz, sl) := by
  unfold lc_eq at hi
  split at hi
  · rename_i off e
    have ht : pm_tgt pc off = some pe := of_decide_eq_true hi
    refine H.1 _ _ _ _ _ _ _ _ ((ls_of e rfl rfl).trans ?_) kk
    show pm_br (pm_cmp .eq v v) pc off L S h sz sl = _
    unfold pm_br
    rw [ht, show pm_cmp .eq v v = true from decide_eq_true rfl]
  · cases hi
/-- an answer thrown away -/
def lc_pop (pc : Nat) : Bool := match pm_ins PT 1000 pc with
  | some (.pop, 1) => true
  | _ => false
theorem lc_pop_ok (H : lc_Cl sz sl bS Ln xs P) {v : Int32} (hi : lc_pop pc = true) (kk : P (pc + 1, L, S, h, sz, sl)) : P (pc, L, .int v :: S, h, sz, sl) := by
  unfold lc_pop at hi
  split at hi
  · rename_i e
    exact H.1 _ _ _ _ _ _ _ _ ((ls_of e rfl rfl).trans rfl) kk
  · cases hi
def lc_go (pc pe : Nat) : Bool := match pm_ins PT 1000 pc with
  | some (.goto off, 3) => decide (pm_tgt pc off = some pe)
  | _ => false
theorem lc_go_ok (H : lc_Cl sz sl bS Ln xs P) {pe : Nat} (hi : lc_go pc pe = true) (kk : P (pe, L, S, h, sz, sl)) : P (pc, L, S, h, sz, sl) := by
  unfold lc_go at hi
  split at hi
  · rename_i off e
    have ht : pm_tgt pc off = some pe := of_decide_eq_true hi
    refine H.1 _ _ _ _ _ _ _ _ ((ls_of e rfl rfl).trans ?_) kk
    show pm_jp pc off L S h sz sl = _
    unfold pm_jp
    rw [ht]
  · cases hi
/-- what stands in the law's locals in its loop -/
def lc_L (bS i : Nat) (L : pm_L) : Prop := pm_get L 0 = some (.retAddr bS) ∧ pm_get L 1 = some (.ref 0) ∧ pm_get L 2 = some (.ref 162) ∧ pm_get L 3 = some (.ref 197) ∧ pm_get L 4 = some (.int (nI i)) ∧ L.length = 8
/-- two calls, their answers thrown away -/
def lc_twp (pc n kx km pe : Nat) : Bool := lc_al pc 1 && (lc_args (pc + 1) n 1 && (lc_iv (pc + 1 + 6 * n) kx n 10 && (lc_pop (pc + 4 + 6 * n) && (lc_al (pc + 5 + 6 * n) 2 && (lc_args (pc + 6 + 6 * n) n 1 && (lc_iv (pc + 6 + 12 * n) km n 11 && (lc_pop (pc + 9 + 12 * n) && lc_go (pc + 10 + 12 * n) pe)))))))
theorem lc_twp_ok (H : lc_Cl sz sl bS Ln xs P) {n kx km pe : Nat} (hc : lc_twp pc n kx km pe = true) (hL : lc_L bS i L) (hb : i + 1 + n ≤ Ln) (hz : 162 < sz) {f1 : List Value} (o1 : h 0 = .inr (10, f1))
    (kk : pm_WP PT 2047 (84000 - (19 + pm_max PT kx)) kx (0, pm_l0 (.ref 0 :: (lc_vals xs i n 1).map Value.int) (pm_max PT kx), [], h, sz, sl) (fun x => x.2.2 = (sz, sl) ∧ (∃ v, x.1 = some (.int v)) ∧ (∃ f2, x.2.1 162 = .inr (11, f2)) ∧ pm_WP PT 2047 (84000 - (19 + pm_max PT km)) km (0, pm_l0 (.ref 162 :: (lc_vals xs i n 1).map Value.int) (pm_max PT km), [], x.2) (fun y => (∃ v, y.1 = some (.int v)) ∧ y.2.2 = (sz, sl) ∧ P (pe, L, [], y.2)))) : P (pc, L, [], h, sz, sl) := by
  unfold lc_twp at hc
  simp only [Bool.and_eq_true] at hc
  obtain ⟨c1, c2, c3, c4, c5, c6, c7, c8, c9⟩ := hc
  obtain ⟨l0, l1, l2, l3, l4, l5⟩ := hL
  refine lc_al_ok H c1 l1 rfl (lc_args_ok H l0 l4 n 1 _ _ c2 hb ?_)
  refine lc_iv_ok H c3 o1 (by omega) (lc_vals_len xs i n 1) (by decide) (wp_mono kk ?_)
  rintro ⟨rv, h1, sz1, sl1⟩ ⟨q1, ⟨v, q2⟩, ⟨f2, q3⟩, q4⟩
  cases q1
  dsimp only at q2 q3 q4
  subst q2
  refine ⟨rfl, ?_⟩
  show P (pc + 1 + 6 * n + 3, L, [.int v], h1, sz, sl)
  rw [show pc + 1 + 6 * n + 3 = pc + 4 + 6 * n by omega]
  refine lc_pop_ok H c4 ?_
  rw [show pc + 4 + 6 * n + 1 = pc + 5 + 6 * n by omega]
  refine lc_al_ok H c5 l2 rfl ?_
  rw [show pc + 5 + 6 * n + 1 = pc + 6 + 6 * n by omega]
  refine lc_args_ok H l0 l4 n 1 _ _ c6 hb ?_
  rw [show pc + 6 + 6 * n + 6 * n = pc + 6 + 12 * n by omega]
  refine lc_iv_ok H c7 q3 hz (lc_vals_len xs i n 1) (by decide) (wp_mono q4 ?_)
  rintro ⟨rw2, h2, sz2, sl2⟩ ⟨⟨u, p1⟩, p2, p3⟩
  cases p2
  dsimp only at p1 p3
  subst p1
  refine ⟨rfl, ?_⟩
  show P (pc + 6 + 12 * n + 3, L, [.int u], h2, sz, sl)
  rw [show pc + 6 + 12 * n + 3 = pc + 9 + 12 * n by omega]
  refine lc_pop_ok H c8 ?_
  rw [show pc + 9 + 12 * n + 1 = pc + 10 + 12 * n by omega]
  exact lc_go_ok H c9 p3
end LC
