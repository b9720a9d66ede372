/-! the law's loop: its head, its switch, its tail, and what follows a wrapper -/
section LLP
variable {P : pm_St → Prop} {sz sl bS Ln i j pc : Nat} {xs : Nat → Int32} {L : pm_L} {S : List Value} {h : pm_H} {v w : Value}
theorem gs_len {L : pm_L} {i : Nat} {v : Value} : (pm_st1 L i v).length = L.length := by
  unfold pm_st1 pm_cut
  rw [List.length_set]
  split
  · rfl
  · split
    · rw [List.length_set]
    · rfl
theorem gs_same (hi : i < L.length) : pm_get (pm_st1 L i v) i = some v := by
  have hl : i < (pm_cut L i).length := by
    unfold pm_cut
    split
    · exact hi
    · split
      · rw [List.length_set]; exact hi
      · exact hi
  unfold pm_st1 pm_get
  rw [List.getElem?_set_self hl]
theorem gs_other (hj : j ≠ i) (hc : pm_get L j = some w) (hw : w.category = 1) : pm_get (pm_st1 L i v) j = some w := by
  have key : (pm_cut L i)[j]? = L[j]? := by
    unfold pm_cut
    split
    · rfl
    · rename_i i'
      split
      · rename_i h2
        by_cases e : i' = j
        · subst e
          unfold pm_cat2 at h2
          rw [hc] at h2
          have h3 := eq_of_beq h2
          omega
        · rw [List.getElem?_set_ne e]
      · rfl
  unfold pm_get at hc ⊢
  unfold pm_st1
  rw [List.getElem?_set_ne (Ne.symm hj), key]
  exact hc
theorem gs2_len {L : pm_L} {i : Nat} {v : Value} : (pm_st2 L i v).length = L.length := by
  have h := gs_len (L := L) (i := i) (v := v)
  unfold pm_st1 at h
  unfold pm_st2
  rw [List.length_set]
  exact h
theorem gs2_other (hj : j ≠ i) (hj2 : j ≠ i + 1) (hc : pm_get L j = some w) (hw : w.category = 1) : pm_get (pm_st2 L i v) j = some w := by
  have h1 := gs_other (v := v) hj hc hw
  unfold pm_get pm_st1 at h1
  unfold pm_get pm_st2
  rw [List.getElem?_set_ne (Ne.symm hj2)]
  exact h1
theorem lc_L.st1 {k : Nat} (hL : lc_L bS i L) (hk : 5 ≤ k) : lc_L bS i (pm_st1 L k v) := by
  obtain ⟨l0, l1, l2, l3, l4, l5⟩ := hL
  exact ⟨gs_other (by omega) l0 rfl, gs_other (by omega) l1 rfl, gs_other (by omega) l2 rfl, gs_other (by omega) l3 rfl, gs_other (by omega) l4 rfl, gs_len.trans l5⟩
theorem lc_L.st2 {k : Nat} (hL : lc_L bS i L) (hk : 5 ≤ k) : lc_L bS i (pm_st2 L k v) := by
  obtain ⟨l0, l1, l2, l3, l4, l5⟩ := hL
  exact ⟨gs2_other (by omega) (by omega) l0 rfl, gs2_other (by omega) (by omega) l1 rfl, gs2_other (by omega) (by omega) l2 rfl, gs2_other (by omega) (by omega) l3 rfl, gs2_other (by omega) (by omega) l4 rfl, gs2_len.trans l5⟩
theorem lc_i (H : lc_Cl sz sl bS Ln xs P) {ins : Instr} {len pc' : Nat} {L' : pm_L} {S' : List Value} {h' : pm_H} (hi : pm_ins PT 1000 pc = some (ins, len)) (hl : pm_lenOk ins len = true) (hc : pm_callee PT 1000 ins = none) (hs : pm_simple PT 2048 84000 1000 ins pc L S h sz sl = some (pc', L', S', h', sz, sl)) (kk : P (pc', L', S', h', sz, sl)) : P (pc, L, S, h, sz, sl) := H.1 _ _ _ _ _ _ _ _ ((ls_of hi hl hc).trans hs) kk
theorem lc_icmp (H : lc_Cl sz sl bS Ln xs P) {cc : Jvm.ClassFile.Cond} {off : Int} {t : Nat} {x y : Int32} (hi : pm_ins PT 1000 pc = some (.if_icmp cc off, 3)) (ht : pm_tgt pc off = some t) (k1 : pm_cmp cc x y = true → P (t, L, S, h, sz, sl)) (k2 : pm_cmp cc x y = false → P (pc + 3, L, S, h, sz, sl)) : P (pc, L, .int y :: .int x :: S, h, sz, sl) := by
  cases hc : pm_cmp cc x y with
  | true =>
    refine H.1 _ _ _ _ _ _ _ _ ((ls_of hi rfl rfl).trans ?_) (k1 hc)
    show pm_br (pm_cmp cc x y) pc off L S h sz sl = _
    unfold pm_br
    rw [ht, hc]
  | false =>
    refine H.1 _ _ _ _ _ _ _ _ ((ls_of hi rfl rfl).trans ?_) (k2 hc)
    show pm_br (pm_cmp cc x y) pc off L S h sz sl = _
    unfold pm_br
    rw [ht, hc]
/-- the head: i <= script.length - 5 -/
theorem lc_head (H : lc_Cl sz sl bS Ln xs P) (hL : lc_L bS i L) (hi : i < 2 ^ 30) (hLn : Ln < 2 ^ 30) (k1 : i + 5 ≤ Ln → P (32, L, [], h, sz, sl)) (k2 : Ln < i + 5 → P (1449, L, [], h, sz, sl)) : P (23, L, [], h, sz, sl) := by
  obtain ⟨l0, l1, l2, l3, l4, l5⟩ := hL
  refine lc_ild H rfl l4 ?_
  refine lc_ald H (a := 0) rfl l0 rfl ?_
  refine H.2.2.2 _ _ _ _ rfl ?_
  refine lc_i H rfl rfl rfl rfl ?_
  refine lc_i H rfl rfl rfl rfl ?_
  refine lc_icmp H (cc := .gt) (x := nI i) (y := nI Ln - Int32.ofInt 5) (t := 1449) rfl rfl (fun q => ?_) (fun q => ?_)
  · have q1 : nI Ln - Int32.ofInt 5 < nI i := of_decide_eq_true q
    rw [Int32.lt_iff_toInt_lt, Int32.toInt_sub, nI_toInt (by omega), nI_toInt (by omega), show (Int32.ofInt 5).toInt = 5 by decide, ab_bm (by unfold ai_lo; omega) (by unfold ai_hi; omega)] at q1
    exact k2 (by omega)
  · have q1 : ¬ nI Ln - Int32.ofInt 5 < nI i := of_decide_eq_false q
    rw [Int32.lt_iff_toInt_lt, Int32.toInt_sub, nI_toInt (by omega), nI_toInt (by omega), show (Int32.ofInt 5).toInt = 5 by decide, ab_bm (by unfold ai_lo; omega) (by unfold ai_hi; omega)] at q1
    exact k1 (by omega)
def lc_T : List Nat := [224, 249, 274, 287, 300, 313, 353, 405, 445, 494, 555, 592, 617, 666, 703, 716, 729, 766, 791, 828, 865, 890, 903, 940, 1001, 1050, 1075, 1112, 1137, 1150, 1163, 1176, 1189, 1226, 1239, 1252, 1265, 1278, 1303, 1340, 1365, 1390, 1415]
def lc_Tb : Bool := match pm_ins PT 1000 39 with
  | some (.tableswitch d lo hi offs, _) => (decide (lo = 0) && (decide (hi = 42) && decide (pm_tgt 39 d = some 1443))) && (List.range 43).all (fun o => match offs[o]?, lc_T[o]? with
    | some off, some t => decide (pm_tgt 39 off = some t)
    | _, _ => false)
  | _ => false
theorem lc_Tok : lc_Tb = true := by decide +kernel
theorem lc_switch (H : lc_Cl sz sl bS Ln xs P) {o t : Nat} (ho : o < 43) (ht : lc_T[o]? = some t) (kk : P (t, L, S, h, sz, sl)) : P (39, L, .int (nI o) :: S, h, sz, sl) := by
  have hb := lc_Tok
  unfold lc_Tb at hb
  split at hb
  · rename_i d lo hi offs len e
    simp only [Bool.and_eq_true] at hb
    obtain ⟨⟨b1, b2, b3⟩, b4⟩ := hb
    have e1 : lo = 0 := of_decide_eq_true b1
    have e2 : hi = 42 := of_decide_eq_true b2
    subst e1 e2
    have b5 := List.all_eq_true.mp b4 o (List.mem_range.mpr ho)
    rw [ht] at b5
    refine H.1 _ _ _ _ _ _ _ _ ((ls_of e rfl rfl).trans ?_) kk
    unfold pm_simple
    dsimp only
    rw [nI_toInt (by omega), if_neg (by omega), show ((o : Int) - 0).toNat = o by omega]
    split at b5
    · rename_i off t' e3 e4
      cases e4
      have e5 : pm_tgt 39 off = some t := of_decide_eq_true b5
      rw [e3]
      dsimp only
      unfold pm_jp
      rw [e5]
    · cases b5
  · cases hb
theorem lc_default (H : lc_Cl sz sl bS Ln xs P) {o : Nat} (ho : 43 ≤ o) (ho2 : o < 2 ^ 31) (kk : P (1443, L, S, h, sz, sl)) : P (39, L, .int (nI o) :: S, h, sz, sl) := by
  have hb := lc_Tok
  unfold lc_Tb at hb
  split at hb
  · rename_i d lo hi offs len e
    simp only [Bool.and_eq_true] at hb
    obtain ⟨⟨b1, b2, b3⟩, b4⟩ := hb
    have e1 : lo = 0 := of_decide_eq_true b1
    have e2 : hi = 42 := of_decide_eq_true b2
    have e5 : pm_tgt 39 d = some 1443 := of_decide_eq_true b3
    subst e1 e2
    refine H.1 _ _ _ _ _ _ _ _ ((ls_of e rfl rfl).trans ?_) kk
    unfold pm_simple
    dsimp only
    rw [nI_toInt ho2, if_pos (by omega)]
    unfold pm_jp
    rw [e5]
  · cases hb
theorem lc_and (x : Int32) : ∃ o : Nat, o < 64 ∧ x &&& (Int8.ofInt 63).toInt32 = nI o := by
  have h1 := ag_and_ok (0, ai_lo, ai_hi) (0, 63, 63) (0, 0, 63) x ((Int8.ofInt 63).toInt32) (by decide) (ai_rng x).1 (ai_rng x).2 (by decide) (by decide)
  obtain ⟨y, e, y1, y2⟩ := av_int (a := (0, 0, 63)) rfl h1
  cases e
  dsimp only at y1 y2
  obtain ⟨j, hj, e1, e2⟩ := ab_nn y1 (Int.le_refl 0)
  refine ⟨j, ?_, e1⟩
  omega
/-- from the head into the switch -/
theorem lc_enter (H : lc_Cl sz sl bS Ln xs P) (hL : lc_L bS i L) (hi : i + 5 ≤ Ln) (kk : ∀ o : Nat, o < 64 → P (39, L, [.int (nI o)], h, sz, sl)) : P (32, L, [], h, sz, sl) := by
  obtain ⟨l0, l1, l2, l3, l4, l5⟩ := hL
  refine lc_ald H (a := 0) rfl l0 rfl ?_
  refine lc_ild H rfl l4 ?_
  refine H.2.2.1 _ _ _ _ _ (by omega) rfl ?_
  refine lc_i H rfl rfl rfl rfl ?_
  obtain ⟨o, ho, e⟩ := lc_and (xs i)
  refine lc_i H (L' := L) (S' := [.int (xs i &&& (Int8.ofInt 63).toInt32)]) (h' := h) (pc' := 39) rfl rfl rfl rfl ?_
  rw [e]
  exact kk o ho
/-- the tail: i += 5, and to the head -/
theorem lc_tail (H : lc_Cl sz sl bS Ln xs P) (hL : lc_L bS i L) (kk : ∀ L', lc_L bS (i + 5) L' → P (23, L', [], h, sz, sl)) : P (1443, L, [], h, sz, sl) := by
  have hL0 := hL
  obtain ⟨l0, l1, l2, l3, l4, l5⟩ := hL
  have e : nI i + Int32.ofInt 5 = nI (i + 5) := by rw [← nI_add]; rfl
  refine H.1 _ _ _ _ 1446 (pm_st1 L 4 (.int (nI i + Int32.ofInt 5))) [] h ((ls_of (ins := .iinc 4 5) (len := 3) rfl rfl rfl).trans ?_) ?_
  · unfold pm_simple
    dsimp only
    rw [l4]
    dsimp only
    rw [if_pos (show 4 < pm_max PT 1000 from Nat.le_of_ble_eq_true rfl)]
  refine lc_i H rfl rfl rfl rfl ?_
  rw [e]
  exact kk _ ⟨gs_other (by omega) l0 rfl, gs_other (by omega) l1 rfl, gs_other (by omega) l2 rfl, gs_other (by omega) l3 rfl, gs_same (by omega), gs_len.trans l5⟩
/-- what follows a wrapper: the reference answers, and both are put away -/
def lc_aft (q n km : Nat) (lng : Bool) (pe : Nat) : Bool := (match pm_ins PT 1000 q with
  | some (.istore 5, 2) => true
  | _ => false) && (lc_al (q + 2) 2 && (lc_args (q + 3) n 1 && (lc_iv (q + 3 + 6 * n) km n 11 && ((match pm_ins PT 1000 (q + 6 + 6 * n) with
  | some (.istore 6, 2) => !lng
  | some (.lstore 6, 2) => lng
  | _ => false) && lc_go (q + 8 + 6 * n) pe))))
theorem lc_aft_ok (H : lc_Cl sz sl bS Ln xs P) {q n km pe : Nat} {lng : Bool} {v : Int32} (hc : lc_aft q n km lng pe = true) (hL : lc_L bS i L) (hb : i + 1 + n ≤ Ln) (hz : 162 < sz) {f2 : List Value} (o2 : h 162 = .inr (11, f2))
    (hm : pm_WP PT 2047 (84000 - (19 + pm_max PT km)) km (0, pm_l0 (.ref 162 :: (lc_vals xs i n 1).map Value.int) (pm_max PT km), [], h, sz, sl) (fun x => (cond lng (∃ v, x.1 = some (.long v)) (∃ v, x.1 = some (.int v))) ∧ x.2.2 = (sz, sl) ∧ ∀ L' : pm_L, lc_L bS i L' → P (pe, L', [], x.2))) : P (q, L, [.int v], h, sz, sl) := by
  unfold lc_aft at hc
  simp only [Bool.and_eq_true] at hc
  obtain ⟨c1, c2, c3, c4, c5, c6⟩ := hc
  have hlen := hL.2.2.2.2.2
  split at c1
  · rename_i e1
    have hmx : pm_max PT 1000 = 8 := rfl
    refine H.1 _ _ _ _ (q + 2) (pm_st1 L 5 (.int v)) [] h ((ls_of e1 rfl rfl).trans ?_) ?_
    · show pm_so 0 2 (pm_max PT 1000) q 5 L [.int v] h sz sl = _
      unfold pm_so
      dsimp only
      rw [hmx, if_pos ⟨rfl, by omega⟩]
    have hL1 : lc_L bS i (pm_st1 L 5 (.int v)) := hL.st1 (by omega)
    revert hL1
    generalize pm_st1 L 5 (Value.int v) = L1
    intro hL1
    have hlen1 := hL1.2.2.2.2.2
    obtain ⟨l0, l1, l2, l3, l4, l5⟩ := id hL1
    refine lc_al_ok H c2 l2 rfl ?_
    rw [show q + 2 + 1 = q + 3 by omega]
    refine lc_args_ok H l0 l4 n 1 _ _ c3 hb ?_
    refine lc_iv_ok H c4 o2 hz (lc_vals_len xs i n 1) (by decide) (wp_mono hm ?_)
    rintro ⟨rv, h1, sz1, sl1⟩ ⟨hv, q1, q2⟩
    dsimp only at hv q1 q2
    cases q1
    refine ⟨rfl, ?_⟩
    rw [show q + 3 + 6 * n + 3 = q + 6 + 6 * n by omega]
    split at c5
    · rename_i e5
      cases lng with
      | true => cases c5
      | false =>
        obtain ⟨w, hv⟩ := hv
        subst hv
        refine H.1 _ _ _ _ (q + 6 + 6 * n + 2) (pm_st1 L1 6 (.int w)) [] h1 ((ls_of e5 rfl rfl).trans ?_) ?_
        · show pm_so 0 2 (pm_max PT 1000) (q + 6 + 6 * n) 6 L1 [.int w] h1 sz sl = _
          unfold pm_so
          dsimp only
          rw [hmx, if_pos ⟨rfl, by omega⟩]
        rw [show q + 6 + 6 * n + 2 = q + 8 + 6 * n by omega]
        exact lc_go_ok H c6 (q2 _ (hL1.st1 (by omega)))
    · rename_i e5
      cases lng with
      | false => cases c5
      | true =>
        obtain ⟨w, hv⟩ := hv
        subst hv
        refine H.1 _ _ _ _ (q + 6 + 6 * n + 2) (pm_st2 L1 6 (.long w)) [] h1 ((ls_of e5 rfl rfl).trans ?_) ?_
        · show pm_sL 2 (pm_max PT 1000) (q + 6 + 6 * n) 6 L1 [.long w] h1 sz sl = _
          unfold pm_sL
          dsimp only
          rw [hmx, if_pos (by omega)]
        rw [show q + 6 + 6 * n + 2 = q + 8 + 6 * n by omega]
        exact lc_go_ok H c6 (q2 _ (hL1.st2 (by omega)))
    · cases c5
  · cases c1
end LLP
