/-! calls, and the soundness of a whole run -/
section PMM
variable {T : pm_Tab} {k fr lo pc sz sl : Nat} {L : pm_L} {S : List Value} {h : pm_H} {st' : pm_St}
set_option maxHeartbeats 4000000 in
theorem pm_simple_mono {i : Instr} (hh : pm_simple T fr lo k i pc L S h sz sl = some st') : sz ≤ st'.2.2.2.2.1 ∧ sl ≤ st'.2.2.2.2.2 := by
  unfold pm_simple at hh
  split at hh
  all_goals (try simp only [pm_bi, pm_bd, pm_bl, pm_bdL, pm_ui, pm_lo, pm_so, pm_sL, pm_jp, pm_br, pm_ia, pm_iS, pm_la, pm_lS, pm_qa, pm_qS, pm_al, pm_gf, pm_pf, pm_nw, pm_newI, pm_newL, pm_newQ, pm_newO, pm_libW, pm_lib] at hh)
  all_goals (repeat' split at hh)
  all_goals (first | (cases hh; done) | (cases hh; dsimp only; omega))
end PMM
section PMR
variable {p : Program} {l : Launch} {e : Env} {R : Room} {s : State} {m : MethodId} {args : Array Value} {below : List Frame} {meth : Method} {c : Code} {H : Heap} {locs : List Loc} {cells slots : Nat} {Q : State → Prop}
variable {T : pm_Tab} {G Ns : List Cond} {D : va_G} {aC : Nat → ClassId} {b g k fr lo pc sz sl sz0 sl0 : Nat} {L : pm_L} {S : List Value} {h : pm_H} {st' : pm_St}
def pm_ws (T : pm_Tab) (G : List Cond) (t : Nat) : List Cond := Cond.code (pm_y T t) (pm_code T t) (pm_max T t) (pm_ret T t) :: G
def pm_Pc (T : pm_Tab) (Ns : List Cond) (D : va_G) (aC : Nat → ClassId) (b g : Nat) (As : List Value) (h : pm_H) (sz : Nat) : Array Value → State → Prop := va_Pc (As.map (pm_tr b)) (fun U => U.heap.size = b + sz + g ∧ va_P D (pm_cl T) (pm_w aC b h sz) U.heap ∧ pm_K T Ns D aC U)
def pm_Qc (T : pm_Tab) (D : va_G) (aC : Nat → ClassId) (b : Nat) (rv : Option Value) (h : pm_H) (sz : Nat) : Array Value → State → Outcome → State → Prop := fun _ st o t => o = .returned (rv.map (pm_tr b)) ∧ va_P D (pm_cl T) (pm_w aC b h sz) t.heap ∧ va_F (fun q => b ≤ q) st t
abbrev pm_rm (fr lo mc ms : Nat) : Room := { frames := fr, cells := mc, slots := ms, locals := lo }
/-- what a method of the tables does, as the pure machine tells it -/
def pm_Met (T : pm_Tab) (G Ns : List Cond) (l : Launch) (D : va_G) (aC : Nat → ClassId) (b g fr lo t : Nat) (As : List Value) (h : pm_H) (sz sl : Nat) (r : pm_Rs) : Prop := Met l (pm_y T t) (pm_ws T G t) (pm_rm fr lo (r.2.2.1 - sz) (r.2.2.2 - sl)) (pm_Pc T Ns D aC b g As h sz) (pm_Qc T D aC b r.1 r.2.1 r.2.2.1) (r.2.2.1 - sz) (r.2.2.2 - sl) (fun q => b ≤ q)
theorem pm_blind (OK : pm_ok T G Ns) {As : List Value} : FrameBlind (pm_Pc T Ns D aC b g As h sz) := by
  intro a U g mk hp
  obtain ⟨q1, q2, q3, q4, q5⟩ := hp
  exact ⟨q1, q2, q3, va_K.moved (u := U) (U := U.calling g mk a) (Vm.Alike.refl U.vm) q4, fun w hw => (OK.2.2.1 w hw).1 U (U.calling g mk a) rfl (q5 w hw)⟩
theorem pm_size {H0 : Heap} (hS : va_S (fun q => b ≤ q) H0 H locs) (hP : va_P D (pm_cl T) (pm_w aC b h sz) H) (hs0 : H0.size = b + sz0 + g) (hg : g = 0 ∨ sz = sz0) (h0 : sz0 ≤ sz) (hz : H.size ≤ H0.size + (sz - sz0)) : H.size = b + sz + g := by
  by_cases he : sz = sz0
  · have := hS.1
    omega
  · have h1 : sz - 1 < sz := by omega
    have h2 := (hP (sz - 1) _ (pm_w_get h1)).lt
    dsimp only at h2
    omega
theorem pm_good (OK : pm_ok T G Ns) {ws : List Cond} (hs : ∀ w ∈ ws, w ∈ G) : GoodIn G ws := fun w hw => ⟨hs w hw, good_of_word (OK.2.1 w (hs w hw))⟩
theorem pm_K.warm (OK : pm_ok T G Ns) {U : State} (hW : s.WarmedH U.vm) (hK : pm_K T Ns D aC s) : pm_K T Ns D aC U := ⟨va_K.moved hW.alike hK.1, fun w hw => (OK.2.2.1 w hw).2 s U hW (hK.2 w hw)⟩
theorem pm_after {mc ms : Nat} {rest st0 : List Value} {ls : Array Slot} {rv : Option Value} {h1 : pm_H} {sz1 : Nat} {a : Array Value} (hr : va_Run p l e R s m args below meth c H locs cells slots mc ms (F0 m pc ls st0) rest (pm_Qc T D aC b rv h1 sz1 a) (fun q => b ≤ q)) (hS : va_S (fun q => b ≤ q) s.heap H locs)
    (kk : ∀ (H1 : Heap) (locs1 : List Loc), va_P D (pm_cl T) (pm_w aC b h1 sz1) H1 → va_S (fun q => b ≤ q) s.heap H1 locs1 → W p l e R s m args below meth c H1 locs1 (cells + mc) (slots + ms) Q (F0 m (pc + 3) ls ((rv.map (pm_tr b)).toList ++ rest))) : W p l e R s m args below meth c H locs cells slots Q (F0 m pc ls st0) := by
  intro T' hT X
  obtain ⟨v, st₀, t, T2, L2, h0, X', hL, e1, e2, ⟨hv, hP, hz, hk⟩, st⟩ := hr T' hT X
  cases hv
  rw [h0] at hz hk
  obtain ⟨t2, a1, b1⟩ := kk T2.heap (locs ++ L2) (by rw [e1]; exact hP)
    ⟨Nat.le_trans hS.1 (by rw [e1]; exact hz), fun q q1 q2 => by rw [e1, hk q (Nat.lt_of_lt_of_le q1 hS.1) q2]; exact hS.2.1 q q1 q2, fun q hq => by
      rcases List.mem_append.mp hq with h | h
      · exact hS.2.2 q h
      · exact hL q h⟩ T2 rfl X'
  exact ⟨t2, st t2 a1, b1⟩
theorem pm_take (S : List Value) (n : Nat) : S = ((S.take n).reverse).reverse ++ S.drop n := by rw [List.reverse_reverse, List.take_append_drop]
theorem pm_stackS (S : List Value) (n : Nat) : S.map (pm_tr b) = ((S.take n).reverse.map (pm_tr b)).reverse ++ (S.drop n).map (pm_tr b) := by
  rw [← List.map_reverse, ← List.map_append, ← pm_take]
theorem pm_stackV {S A1 : List Value} {n a : Nat} (hA : (S.take n).reverse = .ref a :: A1) : S.map (pm_tr b) = (A1.map (pm_tr b)).reverse ++ .ref (b + a) :: (S.drop n).map (pm_tr b) := by
  have e := pm_stackS (b := b) S n
  rw [hA, List.map_cons, List.reverse_cons, List.append_assoc] at e
  exact e
/-- a call of a method of the tables -/
theorem pm_call (OK : pm_ok T G Ns) (hC : pm_C T G Ns D aC k p s m args meth c) (hfr : R.frames = fr) (hlo : R.locals = lo) (hs0 : s.heap.size = b + sz0 + g) (hg : g = 0 ∨ sz = sz0) (h0 : sz0 ≤ sz) (h1 : sl0 ≤ sl) {i : Instr} (hd : decode (pm_code T k) pc = .ok (i, 3)) {w t : Nat} (hw : pm_callee T k i = some (w, t)) {r : pm_Rs} (hmc : sz ≤ r.2.2.1) (hms : sl ≤ r.2.2.2) (hRc : r.2.2.1 ≤ sz0 + R.cells) (hRs : r.2.2.2 ≤ sl0 + R.slots)
    (hna : pm_na T t ≤ S.length) (hrc : pm_rcv T w t (S.take (pm_na T t)).reverse h sz = true) (hsum : pm_sum (S.drop (pm_na T t)) ≤ 8) (hf1 : 1 ≤ fr) (hl1 : 19 + pm_max T t ≤ lo)
    (hM : pm_Met T G Ns l D aC b g (fr - 1) (lo - (19 + pm_max T t)) t (S.take (pm_na T t)).reverse h sz sl r)
    (kk : pm_V p l e R s m args below meth c Q T D aC b k sz0 sl0 (pc + 3, L, r.1.toList ++ S.drop (pm_na T t), r.2)) : pm_V p l e R s m args below meth c Q T D aC b k sz0 sl0 (pc, L, S, h, sz, sl) := by
  obtain ⟨hx, hb, hml, hown, hts, hK, -⟩ := hC
  intro H locs ls hP hS hl
  refine pm_sized fun hz => ?_
  dsimp only at hz hP hl
  have hsz := pm_size hS hP hs0 hg h0 hz
  have hbl : FrameBlind (pm_Pc T Ns D aC b g (S.take (pm_na T t)).reverse h sz) := pm_blind OK
  have hpre : ∀ U : State, U.heap = H → s.WarmedH U.vm → pm_Pc T Ns D aC b g (S.take (pm_na T t)).reverse h sz ((S.take (pm_na T t)).reverse.map (pm_tr b)).toArray U := fun U hU hW => ⟨rfl, by rw [hU]; exact hsz, by rw [hU]; exact hP, hK.warm OK hW⟩
  have hroom : 2 * (F0 m pc ls (S.map (pm_tr b))).monitorRoom + (((S.drop (pm_na T t)).map (pm_tr b)).map fun v => v.category).sum ≤ 8 := lv_room (by rw [pm_sum_tr]; exact hsum)
  have hcs : sz - sz0 + (r.2.2.1 - sz) ≤ R.cells ∧ sl - sl0 + (r.2.2.2 - sl) ≤ R.slots := ⟨by omega, by omega⟩
  have hRR : (pm_rm (fr - 1) (lo - (19 + pm_max T t)) (r.2.2.1 - sz) (r.2.2.2 - sl)).frames + 1 ≤ R.frames ∧ 8 + (pm_max T t + 11) + (pm_rm (fr - 1) (lo - (19 + pm_max T t)) (r.2.2.1 - sz) (r.2.2.2 - sl)).locals ≤ R.locals := by
    dsimp only
    omega
  have hlen : (S.take (pm_na T t)).reverse.length = pm_na T t := by rw [List.length_reverse, List.length_take]; omega
  have fin : ∀ (H1 : Heap) (locs1 : List Loc), va_P D (pm_cl T) (pm_w aC b r.2.1 r.2.2.1) H1 → va_S (fun q => b ≤ q) s.heap H1 locs1 → W p l e R s m args below meth c H1 locs1 (sz - sz0 + (r.2.2.1 - sz)) (sl - sl0 + (r.2.2.2 - sl)) Q (F0 m (pc + 3) ls ((r.1.map (pm_tr b)).toList ++ (S.drop (pm_na T t)).map (pm_tr b))) := by
    intro H1 locs1 hP1 hS1
    have hW := kk H1 locs1 ls hP1 hS1 hl
    dsimp only at hW
    rw [List.map_append] at hW
    have e1 : (r.1.toList).map (pm_tr b) = (r.1.map (pm_tr b)).toList := by cases r.1 <;> rfl
    rw [e1] at hW
    exact W.cs (by omega) (by omega) hW
  unfold pm_callee at hw
  split at hw
  case h_4 => cases hw
  case h_1 j =>
    split at hw
    case h_3 => cases hw
    case h_2 t' e1 => cases hw; exact absurd (OK.2.2.2.2.1 _ _ _ _ e1) (fun q => q)
    case h_1 t' e1 =>
    cases hw
    obtain ⟨⟨m1, m2, m3, m4, m5, m6⟩, w1, w2, w3, ⟨n, w4, w5⟩, F, N, w6⟩ := OK.2.2.2.2.1 _ _ _ _ e1
    unfold pm_rcv at hrc
    rw [if_neg (by omega)] at hrc
    split at hrc
    case h_2 => cases hrc
    case h_1 a A1 hA =>
    split at hrc
    case h_2 => cases hrc
    case h_1 ci fs e2 =>
    have hci := eq_of_beq hrc
    subst hci
    obtain ⟨ha, hcell⟩ := pm_obj_inv e2
    rw [hA] at hM hpre hbl
    refine pm_after (va_runV (As := A1.map (pm_tr b)) (rest := (S.drop (pm_na T t)).map (pm_tr b)) ⟨hx, hb, hml, hown, hts⟩ hM (cwV n hts (pm_good OK ?_) rfl rfl rfl ⟨rfl, m5.1, m5.2, w5⟩ hRR) ⟨hbl, va_recv hK.1 hP w6 (pm_w_P hP ha hcell), hpre⟩ rfl ?_ hl.1 (pm_stackV hA) hroom hd hcs) hS fin
    · intro w hw
      simp only [wsV, pm_ws, List.mem_append, List.mem_cons, List.not_mem_nil, or_false] at hw
      rcases hw with (rfl | rfl | rfl | rfl) | rfl | hw
      · exact w1
      · exact w2
      · exact w3
      · exact m4
      · exact m3
      · exact hw
    · rw [hA, List.length_cons] at hlen
      rw [List.length_map]
      omega
  case h_2 j =>
    split at hw
    case h_3 => cases hw
    case h_1 t' e1 =>
      cases hw
      obtain ⟨⟨m1, m2, m3, m4, m5, m6⟩, w1, w2, w3⟩ := OK.2.2.2.2.1 _ _ _ _ e1
      refine pm_after (va_runS (As := (S.take (pm_na T t)).reverse.map (pm_tr b)) (rest := (S.drop (pm_na T t)).map (pm_tr b)) ⟨hx, hb, hml, hown, hts⟩ hM (va_cwS (pm_na T t) hts (pm_good OK ?_) rfl rfl rfl ⟨m5.1, m5.2, w3⟩ hRR) ⟨hbl, hpre⟩ rfl (by rw [List.length_map]; exact hlen) hl.1 (pm_stackS S _) hroom hd hcs) hS fin
      intro w hw
      simp only [va_wsS, pm_ws, List.mem_append, List.mem_cons, List.not_mem_nil, or_false] at hw
      rcases hw with (rfl | rfl | rfl) | rfl | hw
      · exact w1
      · exact w2
      · exact m4
      · exact m3
      · exact hw
    case h_2 t' e1 =>
      cases hw
      obtain ⟨⟨m1, m2, m3, m4, m5, m6⟩, ⟨host, w1⟩, w2, w3⟩ := OK.2.2.2.2.1 _ _ _ _ e1
      refine pm_after (va_runSN (As := (S.take (pm_na T t)).reverse.map (pm_tr b)) (rest := (S.drop (pm_na T t)).map (pm_tr b)) ⟨hx, hb, hml, hown, hts⟩ hM ⟨va_cnB (pm_na T t) hts (pm_good OK ?_) rfl rfl rfl (hK.2 _ w1) (hts _ m4) ⟨m5.1, m5.2, w3⟩ hRR, hts _ w2, trivial⟩ ⟨hbl, hpre⟩ rfl (by rw [List.length_map]; exact hlen) hl.1 (pm_stackS S _) hroom hd hcs) hS fin
      intro w hw
      simp only [pm_ws, List.mem_cons] at hw
      rcases hw with rfl | hw
      · exact m3
      · exact hw
  case h_3 j =>
    have hA : ∃ a A1, (S.take (pm_na T t)).reverse = .ref a :: A1 := by
      unfold pm_rcv at hrc
      split at hrc
      · split at hw
        · rename_i q _ _ _; cases hw; omega
        · rename_i q _ _ _; cases hw; omega
        · cases hw
      · split at hrc
        · rename_i a A1 hA; exact ⟨a, A1, hA⟩
        · cases hrc
    obtain ⟨a, A1, hA⟩ := hA
    rw [hA] at hM hpre hbl
    have hl2 : ∀ n, pm_na T t = n + 1 → (A1.map (pm_tr b)).length = n := by
      intro n hn
      rw [hA, List.length_cons] at hlen
      rw [List.length_map]
      omega
    have hgd : pm_okM T G t → GoodIn G (pm_ws T G t) := fun hm => pm_good OK (fun w hw => by
      simp only [pm_ws, List.mem_cons] at hw
      rcases hw with rfl | hw
      · exact hm.2.2.1
      · exact hw)
    split at hw
    case h_3 => cases hw
    case h_1 t' e1 =>
      cases hw
      obtain ⟨hm, w1, w2, w3, w0, n, w4, w5⟩ := OK.2.2.2.2.1 _ _ _ _ e1
      have hg := hgd hm
      obtain ⟨m1, m2, m3, m4, m5, m6⟩ := hm
      exact pm_after (va_runI (b := b + a) (As := A1.map (pm_tr b)) (rest := (S.drop (pm_na T t)).map (pm_tr b)) ⟨hx, hb, hml, hown, hts⟩ hM (cwI n hts hg (by rw [← w0]; rfl) rfl rfl (hts _ m4) (hts _ w1) (hts _ w2) w3 ⟨m5.1, m5.2, w5⟩ hRR) ⟨hbl, hpre⟩ rfl (hl2 n w4) hl.1 (pm_stackV hA) hroom hd hcs) hS fin
    case h_2 t' e1 =>
      cases hw
      obtain ⟨hm, ⟨host, w1⟩, w2, w3, w0, n, w4, w5⟩ := OK.2.2.2.2.1 _ _ _ _ e1
      have hg := hgd hm
      obtain ⟨m1, m2, m3, m4, m5, m6⟩ := hm
      exact pm_after (va_runIN (b := b + a) (As := A1.map (pm_tr b)) (rest := (S.drop (pm_na T t)).map (pm_tr b)) ⟨hx, hb, hml, hown, hts⟩ hM ⟨va_cnB n hts hg (by rw [← w0]; rfl) rfl rfl (hK.2 _ w1) (hts _ m4) ⟨m5.1, m5.2, w5⟩ hRR, w3, hts _ w2⟩ ⟨hbl, hpre⟩ rfl (hl2 n w4) hl.1 (pm_stackV hA) hroom hd hcs) hS fin
end PMR
