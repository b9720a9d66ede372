/-! calls, and the soundness of a whole run -/
section PMM
variable {T : pm_Tab} {k fr lo pc sz sl : Nat} {L : pm_L} {S : List Value} {h : pm_H} {st' : pm_St}
set_option maxHeartbeats 4000000 in
theorem pm_simple_mono {i : Instr} (hh : pm_simple T fr lo k i pc L S h sz sl = some st') : sz ≤ st'.2.2.2.2.1 ∧ sl ≤ st'.2.2.2.2.2 := by
  unfold pm_simple at hh
  split at hh
  all_goals (try simp only [pm_bi, pm_bd, pm_bl, pm_bdL, pm_ui, pm_lo, pm_so, pm_sL, pm_jp, pm_br, pm_ia, pm_iS, pm_la, pm_lS, pm_qa, pm_qS, pm_al, pm_gf, pm_pf, pm_nw, pm_newI, pm_newL, pm_newQ, pm_newO, pm_libW, pm_libV, pm_lib] at hh)
  all_goals (repeat' split at hh)
  all_goals (first | (cases hh; done) | (cases hh; dsimp only; omega))
end PMM
section PMR
variable {p : Program} {l : Launch} {e : Env} {R : Room} {s : State} {m : MethodId} {args : Array Value} {below : List Frame} {meth : Method} {c : Code} {H : Heap} {locs : List Loc} {cells slots : Nat} {Q : State → Prop}
variable {T : pm_Tab} {G Ns : List Cond} {D : va_G} {aC : Nat → ClassId} {b g k fr lo pc sz sl sz0 sl0 : Nat} {L : pm_L} {S : List Value} {h : pm_H} {st' : pm_St}
/-- a call of a method of the tables -/
theorem pm_call (OK : pm_ok T G Ns) (hC : pm_C T G Ns D aC b k p s m args meth c) (hfr : R.frames = fr) (hlo : R.locals = lo) (hs0 : s.heap.size = b + sz0 + g) (hg : g = 0 ∨ sz = sz0) (h0 : sz0 ≤ sz) (h1 : sl0 ≤ sl) {i : Instr} (hd : decode (pm_code T k) pc = .ok (i, 3)) {w t : Nat} (hw : pm_callee T k i = some (w, t)) {r : pm_Rs} (hmc : sz ≤ r.2.2.1) (hms : sl ≤ r.2.2.2) (hRc : r.2.2.1 ≤ sz0 + R.cells) (hRs : r.2.2.2 ≤ sl0 + R.slots)
    (hna : pm_na T t ≤ S.length) (hrc : pm_rcv T w t (S.take (pm_na T t)).reverse h sz = true) (hsum : pm_sum (S.drop (pm_na T t)) ≤ 8) (hf1 : 1 ≤ fr) (hl1 : 19 + pm_max T t ≤ lo)
    (hM : pm_Met T G Ns l D aC b g (fr - 1) (lo - (19 + pm_max T t)) t (S.take (pm_na T t)).reverse h sz sl r)
    (kk : pm_V p l e R s m args below meth c Q T D aC b k sz0 sl0 (pc + 3, L, r.1.toList ++ S.drop (pm_na T t), r.2)) : pm_V p l e R s m args below meth c Q T D aC b k sz0 sl0 (pc, L, S, h, sz, sl) := by
  obtain ⟨hx, hb, hml, hown, hts, hK, -⟩ := hC
  intro H locs ls hP hS hl
  refine pm_sized fun hz => ?_
  dsimp only at hz hP hl
  have hsz := pm_size hS hP hs0 hg h0 hz
  have hbl : FrameBlind (pm_Pc T Ns D aC b g (S.take (pm_na T t)).reverse h sz) := pm_blind OK
  have hpre : ∀ U : State, U.heap = H → s.WarmedH U.vm → pm_Pc T Ns D aC b g (S.take (pm_na T t)).reverse h sz ((S.take (pm_na T t)).reverse.map (pm_tr aC b)).toArray U := fun U hU hW => ⟨rfl, by rw [hU]; exact hsz, by rw [hU]; exact hP, hK.warm OK hW (by rw [hU]; exact hS)⟩
  have hroom : 2 * (F0 m pc ls (S.map (pm_tr aC b))).monitorRoom + (((S.drop (pm_na T t)).map (pm_tr aC b)).map fun v => v.category).sum ≤ 8 := lv_room (by rw [pm_sum_tr]; exact hsum)
  have hcs : sz - sz0 + (r.2.2.1 - sz) ≤ R.cells ∧ sl - sl0 + (r.2.2.2 - sl) ≤ R.slots := ⟨by omega, by omega⟩
  have hRR : (pm_rm (fr - 1) (lo - (19 + pm_max T t)) (r.2.2.1 - sz) (r.2.2.2 - sl)).frames + 1 ≤ R.frames ∧ 8 + (pm_max T t + 11) + (pm_rm (fr - 1) (lo - (19 + pm_max T t)) (r.2.2.1 - sz) (r.2.2.2 - sl)).locals ≤ R.locals := by
    dsimp only
    omega
  have hlen : (S.take (pm_na T t)).reverse.length = pm_na T t := by rw [List.length_reverse, List.length_take]; omega
  have fin : ∀ (H1 : Heap) (locs1 : List Loc), va_P D (pm_cl T) (pm_w aC b r.2.1 r.2.2.1) H1 → va_S (fun q => b ≤ q) s.heap H1 locs1 → W p l e R s m args below meth c H1 locs1 (sz - sz0 + (r.2.2.1 - sz)) (sl - sl0 + (r.2.2.2 - sl)) Q (F0 m (pc + 3) ls ((r.1.map (pm_tr aC b)).toList ++ (S.drop (pm_na T t)).map (pm_tr aC b))) := by
    intro H1 locs1 hP1 hS1
    have hW := kk H1 locs1 ls hP1 hS1 hl
    dsimp only at hW
    rw [List.map_append] at hW
    have e1 : (r.1.toList).map (pm_tr aC b) = (r.1.map (pm_tr aC b)).toList := by cases r.1 <;> rfl
    rw [e1] at hW
    exact W.cs (by omega) (by omega) hW
  unfold pm_callee at hw
  split at hw
  case h_4 => cases hw
  case h_1 j =>
    split at hw
    case h_3 => cases hw
    case h_2 t' e1 => cases hw; exact absurd (OK.2.2.2.2.1 _ _ _ _ e1) (fun q => q)
    case h_1 t' e1 =>
    cases hw
    obtain ⟨⟨m1, m2, m3, m4, m5, m6⟩, w1, w2, w3, ⟨n, w4, w5⟩, F, N, w6⟩ := OK.2.2.2.2.1 _ _ _ _ e1
    unfold pm_rcv at hrc
    rw [if_neg (by omega)] at hrc
    split at hrc
    case h_2 => cases hrc
    case h_1 a A1 hA =>
    split at hrc
    case h_2 => cases hrc
    case h_1 ci fs e2 =>
    have hci := eq_of_beq hrc
    subst hci
    obtain ⟨ha, hcell⟩ := pm_obj_inv e2
    rw [hA] at hM hpre hbl
    refine pm_after (va_runV (As := A1.map (pm_tr aC b)) (rest := (S.drop (pm_na T t)).map (pm_tr aC b)) ⟨hx, hb, hml, hown, hts⟩ hM (cwV n hts (pm_good OK ?_) rfl rfl rfl ⟨rfl, m5.1, m5.2, w5⟩ hRR) ⟨hbl, va_recv hK.1 hP w6 (pm_w_P hP ha hcell), hpre⟩ rfl ?_ hl.1 (pm_stackV hA) hroom hd hcs) hS fin
    · intro w hw
      simp only [wsV, pm_ws, List.mem_append, List.mem_cons, List.not_mem_nil, or_false] at hw
      rcases hw with (rfl | rfl | rfl | rfl) | rfl | hw
      · exact w1
      · exact w2
      · exact w3
      · exact m4
      · exact m3
      · exact hw
    · rw [hA, List.length_cons] at hlen
      rw [List.length_map]
      omega
  case h_2 j =>
    split at hw
    case h_3 => cases hw
    case h_1 t' e1 =>
      cases hw
      obtain ⟨⟨m1, m2, m3, m4, m5, m6⟩, w1, w2, w3⟩ := OK.2.2.2.2.1 _ _ _ _ e1
      refine pm_after (va_runS (As := (S.take (pm_na T t)).reverse.map (pm_tr aC b)) (rest := (S.drop (pm_na T t)).map (pm_tr aC b)) ⟨hx, hb, hml, hown, hts⟩ hM (va_cwS (pm_na T t) hts (pm_good OK ?_) rfl rfl rfl ⟨m5.1, m5.2, w3⟩ hRR) ⟨hbl, hpre⟩ rfl (by rw [List.length_map]; exact hlen) hl.1 (pm_stackS S _) hroom hd hcs) hS fin
      intro w hw
      simp only [va_wsS, pm_ws, List.mem_append, List.mem_cons, List.not_mem_nil, or_false] at hw
      rcases hw with (rfl | rfl | rfl) | rfl | hw
      · exact w1
      · exact w2
      · exact m4
      · exact m3
      · exact hw
    case h_2 t' e1 =>
      cases hw
      obtain ⟨⟨m1, m2, m3, m4, m5, m6⟩, ⟨host, w1⟩, w2, w3⟩ := OK.2.2.2.2.1 _ _ _ _ e1
      refine pm_after (va_runSN (As := (S.take (pm_na T t)).reverse.map (pm_tr aC b)) (rest := (S.drop (pm_na T t)).map (pm_tr aC b)) ⟨hx, hb, hml, hown, hts⟩ hM ⟨va_cnB (pm_na T t) hts (pm_good OK ?_) rfl rfl rfl (hK.2.1 _ w1) (hts _ m4) ⟨m5.1, m5.2, w3⟩ hRR, hts _ w2, trivial⟩ ⟨hbl, hpre⟩ rfl (by rw [List.length_map]; exact hlen) hl.1 (pm_stackS S _) hroom hd hcs) hS fin
      intro w hw
      simp only [pm_ws, List.mem_cons] at hw
      rcases hw with rfl | hw
      · exact m3
      · exact hw
  case h_3 j =>
    have hA : ∃ a A1, (S.take (pm_na T t)).reverse = .ref a :: A1 := by
      unfold pm_rcv at hrc
      split at hrc
      · split at hw
        · rename_i q _ _ _; cases hw; omega
        · rename_i q _ _ _; cases hw; omega
        · cases hw
      · split at hrc
        · rename_i a A1 hA; exact ⟨a, A1, hA⟩
        · cases hrc
    obtain ⟨a, A1, hA⟩ := hA
    rw [hA] at hM hpre hbl
    have hl2 : ∀ n, pm_na T t = n + 1 → (A1.map (pm_tr aC b)).length = n := by
      intro n hn
      rw [hA, List.length_cons] at hlen
      rw [List.length_map]
      omega
    have hgd : pm_okM T G t → GoodIn G (pm_ws T G t) := fun hm => pm_good OK (fun w hw => by
      simp only [pm_ws, List.mem_cons] at hw
      rcases hw with rfl | hw
      · exact hm.2.2.1
      · exact hw)
    split at hw
    case h_3 => cases hw
    case h_1 t' e1 =>
      cases hw
      obtain ⟨hm, w1, w2, w3, w0, n, w4, w5⟩ := OK.2.2.2.2.1 _ _ _ _ e1
      have hg := hgd hm
      obtain ⟨m1, m2, m3, m4, m5, m6⟩ := hm
      exact pm_after (va_runI (b := b + a) (As := A1.map (pm_tr aC b)) (rest := (S.drop (pm_na T t)).map (pm_tr aC b)) ⟨hx, hb, hml, hown, hts⟩ hM (cwI n hts hg (by rw [← w0]; rfl) rfl rfl (hts _ m4) (hts _ w1) (hts _ w2) w3 ⟨m5.1, m5.2, w5⟩ hRR) ⟨hbl, hpre⟩ rfl (hl2 n w4) hl.1 (pm_stackV hA) hroom hd hcs) hS fin
    case h_2 t' e1 =>
      cases hw
      obtain ⟨hm, ⟨host, w1⟩, w2, w3, w0, n, w4, w5⟩ := OK.2.2.2.2.1 _ _ _ _ e1
      have hg := hgd hm
      obtain ⟨m1, m2, m3, m4, m5, m6⟩ := hm
      exact pm_after (va_runIN (b := b + a) (As := A1.map (pm_tr aC b)) (rest := (S.drop (pm_na T t)).map (pm_tr aC b)) ⟨hx, hb, hml, hown, hts⟩ hM ⟨va_cnB n hts hg (by rw [← w0]; rfl) rfl rfl (hK.2.1 _ w1) (hts _ m4) ⟨m5.1, m5.2, w5⟩ hRR, w3, hts _ w2⟩ ⟨hbl, hpre⟩ rfl (hl2 n w4) hl.1 (pm_stackV hA) hroom hd hcs) hS fin
end PMR
