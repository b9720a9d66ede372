section MG15cstrx0
/-! the JDK's own methods on the String constants, walked -/
section STW
variable {l : Launch} {T : pm_Tab} {G : List Cond} {D : va_G} {aC : Nat → ClassId} {b : Nat} {X : va_W}
def st_P (T : pm_Tab) (D : va_G) (aC : Nat → ClassId) (b : Nat) (X : va_W) (As : List Value) : Array Value → State → Prop := va_Pc As (fun U => va_P D (pm_cl T) X U.heap ∧ pm_Z T aC b U)
def st_Q (T : pm_Tab) (D : va_G) (b : Nat) (X : va_W) (rv : Option Value) : Array Value → State → Outcome → State → Prop := fun _ st o t => o = .returned rv ∧ va_P D (pm_cl T) X t.heap ∧ va_F (fun q => b ≤ q) st t
theorem st_blind {As : List Value} : FrameBlind (st_P T D aC b X As) := by
  intro a U g mk hp
  obtain ⟨q1, q2, q3⟩ := hp
  exact ⟨q1, q2, q3.same rfl rfl⟩
theorem st_after {p : Program} {e : Env} {R : Room} {s : State} {m : MethodId} {args : Array Value} {below : List Frame} {meth : Method} {c : Code} {H : Heap} {locs : List Loc} {cells slots pc : Nat} {Q : State → Prop} {rest st0 : List Value} {ls : Array Slot} {rv : Option Value} {a : Array Value} (hr : va_Run p l e R s m args below meth c H locs cells slots 0 0 (F0 m pc ls st0) rest (st_Q T D b X rv a) (fun q => b ≤ q)) (hS : va_S (fun q => b ≤ q) s.heap H locs)
    (kk : ∀ (H1 : Heap) (locs1 : List Loc), va_P D (pm_cl T) X H1 → va_S (fun q => b ≤ q) s.heap H1 locs1 → W p l e R s m args below meth c H1 locs1 cells slots Q (F0 m (pc + 3) ls (rv.toList ++ rest))) : W p l e R s m args below meth c H locs cells slots Q (F0 m pc ls st0) := by
  intro T' hT X'
  obtain ⟨v, st₀, t, T2, L2, h0, X', hL, e1, e2, ⟨hv, hP, hz, hk⟩, st⟩ := hr T' hT X'
  cases hv
  rw [h0] at hz hk
  obtain ⟨t2, a1, b1⟩ := kk T2.heap (locs ++ L2) (by rw [e1]; exact hP)
    ⟨Nat.le_trans hS.1 (by rw [e1]; exact hz), fun q q1 q2 => by rw [e1, hk q (Nat.lt_of_lt_of_le q1 hS.1) q2]; exact hS.2.1 q q1 q2, fun q hq => by
      rcases List.mem_append.mp hq with h | h
      · exact hS.2.2 q h
      · exact hL q h⟩ T2 rfl X'
  exact ⟨t2, st t2 a1, b1⟩
theorem st_good (hg : ∀ w ∈ G, goodWord w = true) {ws : List Cond} (hs : ∀ w ∈ ws, w ∈ G) : GoodIn G ws := fun w hw => ⟨hs w hw, good_of_word (hg w (hs w hw))⟩
theorem st_C (hG : ∀ w ∈ st_ws, w ∈ G) {i : Nat} (hi : i < 5) : Met l st_yC (.code st_yC st_cC 1 (some .byte) :: G) (pm_rm 0 0 0 0) (st_P T D aC b X [.ref (aC (1000 + i))]) (st_Q T D b X (some (.int 0))) 0 0 (fun q => b ≤ q) := by
  refine Met.ofW (cc := st_cC) (maxL := 1) (ret := some .byte) (by decide) rfl ?_
  intro p e s m args below meth c s₁ B hml hv
  obtain ⟨rfl, hP, hZ⟩ := hv
  have hx := B.exec
  have hb := B.bytes
  have hr := B.returns
  have hts0 := atoms_spec (ws := Cond.code st_yC st_cC 1 (some .byte) :: G) B.pre
  have hts : ∀ w ∈ st_ws, w.before _ s = true := fun w hw => hts0 w (List.mem_cons_of_mem _ (hG w hw))
  have hown : s.vm.findClass "java/lang/String" = some m.cls := findClass_of_methodNamed B.named
  obtain ⟨-, hZ1, -, adV, hZ4⟩ := hZ
  obtain ⟨h1, h2, h3, h4⟩ := hZ4 i hi
  have hS : va_S (fun q => b ≤ q) s.heap s.heap [] := va_S.rf
  have hl := lv_entry ([.ref (aC (1000 + i))]) (n := 1) (Nat.le_of_ble_eq_true rfl)
  rw [lg_entry_eq]
  generalize (lg_sl ([.ref (aC (1000 + i))]) ++ List.replicate (1 - (lg_sl ([.ref (aC (1000 + i))])).length) Slot.unset).toArray = ls at hl ⊢
  have hl : lv_has ls 1 [(0, .ref (aC (1000 + i)))] := hl
  refine va_gets hx hb hZ1 hS hown (hts (.fieldLink "java/lang/String" 38 "java/lang/String" "COMPACT_STRINGS" "Z") (by decide +kernel)) (fun _ h => h) st_dC_0 ?_
  refine lv_if_eq hx hb st_dC_3 (tgt := 13) rfl (fun q => absurd q (by decide)) (fun _ => ?_)
  refine lv_aload_n hx hb st_dC_6 rfl (lv_at hl 0 rfl) ?_
  refine vk_getf hx hb h2 hS hown (hts (.fieldLink "java/lang/String" 15 "java/lang/String" "coder" "B") (by decide +kernel)) (fun _ h => h) st_dC_7 ?_
  refine lv_goto hx hb st_dC_10 (tgt := 14) rfl ?_
  exact W.zret hx hb hr rfl (fun t ht hW => ⟨rfl, by rw [ht]; exact hP, hS.F ht⟩) hS.2.2 st_dC_14 B.notSynchronized
theorem st_I (hG : ∀ w ∈ st_ws, w ∈ G) {i : Nat} (hi : i < 5) : Met l st_yI (.code st_yI st_cI 1 (some .boolean) :: G) (pm_rm 0 0 0 0) (st_P T D aC b X [.ref (aC (1000 + i))]) (st_Q T D b X (some (.int 1))) 0 0 (fun q => b ≤ q) := by
  refine Met.ofW (cc := st_cI) (maxL := 1) (ret := some .boolean) (by decide) rfl ?_
  intro p e s m args below meth c s₁ B hml hv
  obtain ⟨rfl, hP, hZ⟩ := hv
  have hx := B.exec
  have hb := B.bytes
  have hr := B.returns
  have hts0 := atoms_spec (ws := Cond.code st_yI st_cI 1 (some .boolean) :: G) B.pre
  have hts : ∀ w ∈ st_ws, w.before _ s = true := fun w hw => hts0 w (List.mem_cons_of_mem _ (hG w hw))
  have hown : s.vm.findClass "java/lang/String" = some m.cls := findClass_of_methodNamed B.named
  obtain ⟨-, hZ1, -, adV, hZ4⟩ := hZ
  obtain ⟨h1, h2, h3, h4⟩ := hZ4 i hi
  have hS : va_S (fun q => b ≤ q) s.heap s.heap [] := va_S.rf
  have hl := lv_entry ([.ref (aC (1000 + i))]) (n := 1) (Nat.le_of_ble_eq_true rfl)
  rw [lg_entry_eq]
  generalize (lg_sl ([.ref (aC (1000 + i))]) ++ List.replicate (1 - (lg_sl ([.ref (aC (1000 + i))])).length) Slot.unset).toArray = ls at hl ⊢
  have hl : lv_has ls 1 [(0, .ref (aC (1000 + i)))] := hl
  refine va_gets hx hb hZ1 hS hown (hts (.fieldLink "java/lang/String" 38 "java/lang/String" "COMPACT_STRINGS" "Z") (by decide +kernel)) (fun _ h => h) st_dI_0 ?_
  refine lv_if_eq hx hb st_dI_3 (tgt := 17) rfl (fun q => absurd q (by decide)) (fun _ => ?_)
  refine lv_aload_n hx hb st_dI_6 rfl (lv_at hl 0 rfl) ?_
  refine vk_getf hx hb h2 hS hown (hts (.fieldLink "java/lang/String" 15 "java/lang/String" "coder" "B") (by decide +kernel)) (fun _ h => h) st_dI_7 ?_
  refine lv_if_ne hx hb st_dI_10 (tgt := 17) rfl (fun q => absurd q (by decide)) (fun _ => ?_)
  refine lv_iconst hx hb st_dI_13 rfl ?_
  refine lv_goto hx hb st_dI_14 (tgt := 18) rfl ?_
  exact W.zret hx hb hr rfl (fun t ht hW => ⟨rfl, by rw [ht]; exact hP, hS.F ht⟩) hS.2.2 st_dI_18 B.notSynchronized
theorem st_Pc {x n : Int32} {v : Value} (hv1 : v.category = 1) (hx0 : ¬ x < 0) (hxn : x < n) : Met l st_yP (.code st_yP st_cP 3 (some .int) :: G) (pm_rm 0 0 0 0) (st_P T D aC b X [.int x, .int n, v]) (st_Q T D b X (some (.int x))) 0 0 (fun q => b ≤ q) := by
  refine Met.ofW (cc := st_cP) (maxL := 3) (ret := some .int) (by decide) rfl ?_
  intro p e s m args below meth c s₁ B hml hv
  obtain ⟨rfl, hP, hZ⟩ := hv
  have hx := B.exec
  have hb := B.bytes
  have hr := B.returns
  have hS : va_S (fun q => b ≤ q) s.heap s.heap [] := va_S.rf
  have hl := lv_entry ([.int x, .int n, v]) (n := 3) (by cases v <;> first | exact Nat.le_of_ble_eq_true rfl | cases hv1)
  rw [lg_entry_eq]
  generalize (lg_sl ([.int x, .int n, v]) ++ List.replicate (3 - (lg_sl ([.int x, .int n, v])).length) Slot.unset).toArray = ls at hl ⊢
  have hl0 : ls[0]? = some (.val (.int x)) := hl.2.2 (0, .int x) (by simp [lv_args])
  have hl1 : ls[1]? = some (.val (.int n)) := hl.2.2 (1, .int n) (by simp [lv_args, Value.category])
  refine lv_iload_n hx hb st_dP_0 rfl hl0 ?_
  refine lv_if_lt hx hb st_dP_1 (tgt := 9) rfl (fun q => absurd q hx0) (fun _ => ?_)
  refine lv_iload_n hx hb st_dP_4 rfl hl0 ?_
  refine lv_iload_n hx hb st_dP_5 rfl hl1 ?_
  refine lv_icmp_lt hx hb st_dP_6 (tgt := 16) rfl (fun _ => ?_) (fun q => absurd hxn q)
  refine lv_iload_n hx hb st_dP_16 rfl hl0 ?_
  exact W.iret hx hb hr (fun t ht hW => ⟨rfl, by rw [ht]; exact hP, hS.F ht⟩) hS.2.2 st_dP_17 B.notSynchronized
theorem st_K (hg : ∀ w ∈ G, goodWord w = true) (hG : ∀ w ∈ st_ws, w ∈ G) {x n : Int32} (hx0 : ¬ x < 0) (hxn : x < n) : Met l st_yK (.code st_yK st_cK 2 none :: G) (pm_rm 1 22 0 0) (st_P T D aC b X [.int x, .int n]) (st_Q T D b X none) 0 0 (fun q => b ≤ q) := by
  refine Met.ofW (cc := st_cK) (maxL := 2) (ret := none) (by decide) rfl ?_
  intro p e s m args below meth c s₁ B hml hv
  obtain ⟨rfl, hP, hZ⟩ := hv
  have hx := B.exec
  have hb := B.bytes
  have hr := B.returns
  have hts0 := atoms_spec (ws := Cond.code st_yK st_cK 2 none :: G) B.pre
  have htG : ∀ w ∈ G, w.before _ s = true := fun w hw => hts0 w (List.mem_cons_of_mem _ hw)
  have hts : ∀ w ∈ st_ws, w.before _ s = true := fun w hw => htG w (hG w hw)
  have hown : s.vm.findClass "java/lang/String" = some m.cls := findClass_of_methodNamed B.named
  have hZ0 := hZ
  obtain ⟨-, -, ⟨v, hZ2, hv1⟩, -⟩ := hZ
  have hS : va_S (fun q => b ≤ q) s.heap s.heap [] := va_S.rf
  have hl := lv_entry ([.int x, .int n]) (n := 2) (Nat.le_of_ble_eq_true rfl)
  rw [lg_entry_eq]
  generalize (lg_sl ([.int x, .int n]) ++ List.replicate (2 - (lg_sl ([.int x, .int n])).length) Slot.unset).toArray = ls at hl ⊢
  have hl : lv_has ls 2 [(0, .int x), (1, .int n)] := hl
  refine lv_iload_n hx hb st_dK_0 rfl (lv_at hl 0 rfl) ?_
  refine lv_iload_n hx hb st_dK_1 rfl (lv_at hl 1 rfl) ?_
  refine va_gets hx hb hZ2 hS hown (hts (.fieldLink "java/lang/String" 1053 "jdk/internal/util/Preconditions" "SIOOBE_FORMATTER" "Ljava/util/function/BiFunction;") (by decide +kernel)) (fun _ h => h) st_dK_2 ?_
  refine st_after (va_runS (As := [.int x, .int n, v]) (rest := []) ⟨hx, hb, hml, hown, htG⟩ (st_Pc (T := T) (D := D) (aC := aC) (b := b) (X := X) (G := G) hv1 hx0 hxn) (va_cwS 3 htG (st_good hg ?_) rfl rfl rfl ⟨by decide, by decide, by decide +kernel⟩ ⟨Nat.le_of_ble_eq_true rfl, Nat.le_of_ble_eq_true rfl⟩) ⟨st_blind, fun U hU hW => ⟨rfl, by rw [hU]; exact hP, hZ0.warm hW (by rw [hU]; exact hS)⟩⟩ rfl rfl hl.1 rfl (Nat.le_of_ble_eq_true rfl) st_dK_5 ⟨Nat.le_refl _, Nat.le_refl _⟩) hS (fun H1 locs1 hP1 hS1 => ?_)
  · intro w hw
    simp only [va_wsS, List.mem_append, List.mem_cons, List.not_mem_nil, or_false] at hw
    rcases hw with (rfl | rfl | rfl) | rfl | hw
    · exact hG _ (by decide +kernel)
    · exact hG _ (by decide +kernel)
    · exact hG _ (by decide +kernel)
    · exact hG _ (by decide +kernel)
    · exact hw
  · refine lv_pop hx hb st_dK_8 rfl ?_
    exact W.vret hx hb hr (fun t ht hW => ⟨rfl, by rw [ht]; exact hP1, hS1.F ht⟩) hS1.2.2 st_dK_9 B.notSynchronized
/-- every literal: every entry is a small byte -/
theorem st_all : ∀ i, i < 5 → ((st_tx i).length < 100 ∧ ∀ k, k < (st_tx i).length → ((((st_tx i).getD k 0) &&& 255).toUInt32 % 65536).toInt32 = (st_tx i).getD k 0 ∧ narrow .char (.int ((st_tx i).getD k 0)) = .int ((st_tx i).getD k 0)) := by decide +kernel
theorem st_len31 : ∀ i, i < 5 → (Int32.ofNat (st_tx i).length) >>> ((0 : Int32) &&& 31) = Int32.ofNat (st_tx i).length := by decide +kernel
theorem st_in {x : Int32} {n : Nat} (hn : n < 100) (h : pm_in x n = true) : ¬ x < 0 ∧ x < Int32.ofNat n := by
  have h2 : ¬ (x < 0 ∨ n ≤ x.toNatClampNeg) := of_decide_eq_true h
  have h3 : ¬ x < 0 := fun q => h2 (Or.inl q)
  refine ⟨h3, ?_⟩
  have h4 : x.toNatClampNeg < n := Nat.not_le.mp (fun q => h2 (Or.inr q))
  have h5 : (0 : Int) ≤ x.toInt := by
    have := Int32.not_lt.mp h3
    simpa using Int32.le_iff_toInt_le.mp this
  have h6 : (Int32.ofNat n).toInt = n := by
    rw [Int32.toInt_ofNat_of_lt (by omega)]
  rw [Int32.lt_iff_toInt_lt, h6]
  have h7 : x.toNatClampNeg = x.toInt.toNat := rfl
  omega
theorem st_B (hg : ∀ w ∈ G, goodWord w = true) (hG : ∀ w ∈ st_ws, w ∈ G) {i : Nat} (hi : i < 5) {x : Int32} (hin : pm_in x (st_tx i).length = true) {q : Nat} : Met l st_yB (.code st_yB st_cB 2 (some .char) :: G) (pm_rm 2 43 0 0) (va_Pc [.ref q, .int x] (fun U => va_P D (pm_cl T) X U.heap ∧ pm_Z T aC b U ∧ va_T .byte q (st_tx i).length (fun j => .int ((st_tx i).getD j 0)) (fun q => b ≤ q) U U.heap)) (st_Q T D b X (some (.int ((st_tx i).getD x.toNatClampNeg 0)))) 0 0 (fun q => b ≤ q) := by
  refine Met.ofW (cc := st_cB) (maxL := 2) (ret := some .char) (by decide) rfl ?_
  intro p e s m args below meth c s₁ B hml hv
  obtain ⟨rfl, hP, hZ, hT4⟩ := hv
  have hx := B.exec
  have hb := B.bytes
  have hr := B.returns
  have hts0 := atoms_spec (ws := Cond.code st_yB st_cB 2 (some .char) :: G) B.pre
  have htG : ∀ w ∈ G, w.before _ s = true := fun w hw => hts0 w (List.mem_cons_of_mem _ hw)
  have hown : s.vm.findClass "java/lang/StringLatin1" = some m.cls := findClass_of_methodNamed B.named
  have hS : va_S (fun q => b ≤ q) s.heap s.heap [] := va_S.rf
  obtain ⟨a1, a2⟩ := st_all i hi
  obtain ⟨x0, xn⟩ := st_in a1 hin
  have hlt : x.toNatClampNeg < (st_tx i).length := by
    have h2 : ¬ (x < 0 ∨ (st_tx i).length ≤ x.toNatClampNeg) := of_decide_eq_true hin
    omega
  obtain ⟨b1, b2⟩ := a2 _ hlt
  have hl := lv_entry ([.ref q, .int x]) (n := 2) (Nat.le_of_ble_eq_true rfl)
  rw [lg_entry_eq]
  generalize (lg_sl ([.ref q, .int x]) ++ List.replicate (2 - (lg_sl ([.ref q, .int x])).length) Slot.unset).toArray = ls at hl ⊢
  have hl : lv_has ls 2 [(0, .ref q), (1, .int x)] := hl
  refine lv_iload_n hx hb st_dB_0 rfl (lv_at hl 1 rfl) ?_
  refine lv_aload_n hx hb st_dB_1 rfl (lv_at hl 0 rfl) ?_
  refine va_tlen hx hb hT4 hS rfl st_dB_2 ?_
  refine st_after (va_runS (As := [.int x, .int (Int32.ofNat (st_tx i).length)]) (rest := []) ⟨hx, hb, hml, hown, htG⟩ (st_K (T := T) (D := D) (aC := aC) (b := b) (X := X) hg hG x0 xn) (va_cwS 2 htG (st_good hg ?_) rfl rfl rfl ⟨by decide, by decide, by decide +kernel⟩ ⟨Nat.le_of_ble_eq_true rfl, Nat.le_of_ble_eq_true rfl⟩) ⟨st_blind, fun U hU hW => ⟨rfl, by rw [hU]; exact hP, hZ.warm hW (by rw [hU]; exact hS)⟩⟩ rfl rfl hl.1 rfl (Nat.le_of_ble_eq_true rfl) st_dB_3 ⟨Nat.le_refl _, Nat.le_refl _⟩) hS (fun H1 locs1 hP1 hS1 => ?_)
  · intro w hw
    simp only [va_wsS, List.mem_append, List.mem_cons, List.not_mem_nil, or_false] at hw
    rcases hw with (rfl | rfl | rfl) | rfl | hw
    · exact hG _ (by decide +kernel)
    · exact hG _ (by decide +kernel)
    · exact hG _ (by decide +kernel)
    · exact hG _ (by decide +kernel)
    · exact hw
  · refine lv_aload_n hx hb st_dB_6 rfl (lv_at hl 0 rfl) ?_
    refine lv_iload_n hx hb st_dB_7 rfl (lv_at hl 1 rfl) ?_
    refine va_tb hx hb hT4 hS1 (pm_in_of hin) rfl st_dB_8 ?_
    refine lv_sipush hx hb st_dB_9 rfl ?_
    refine lv_iand hx hb st_dB_12 ?_
    refine lv_i2c hx hb st_dB_13 b1 ?_
    exact W.zret hx hb hr b2 (fun t ht hW => ⟨rfl, by rw [ht]; exact hP1, hS1.F ht⟩) hS1.2.2 st_dB_14 B.notSynchronized
theorem st_Len (hg : ∀ w ∈ G, goodWord w = true) (hG : ∀ w ∈ st_ws, w ∈ G) {i : Nat} (hi : i < 5) : Met l st_yL (.code st_yL st_cL 1 (some .int) :: G) (pm_rm 1 20 0 0) (st_P T D aC b X [.ref (aC (1000 + i))]) (st_Q T D b X (some (.int (Int32.ofNat (st_tx i).length)))) 0 0 (fun q => b ≤ q) := by
  refine Met.ofW (cc := st_cL) (maxL := 1) (ret := some .int) (by decide) rfl ?_
  intro p e s m args below meth c s₁ B hml hv
  obtain ⟨rfl, hP, hZ⟩ := hv
  have hx := B.exec
  have hb := B.bytes
  have hr := B.returns
  have hts0 := atoms_spec (ws := Cond.code st_yL st_cL 1 (some .int) :: G) B.pre
  have htG : ∀ w ∈ G, w.before _ s = true := fun w hw => hts0 w (List.mem_cons_of_mem _ hw)
  have hts : ∀ w ∈ st_ws, w.before _ s = true := fun w hw => htG w (hG w hw)
  have hown : s.vm.findClass "java/lang/String" = some m.cls := findClass_of_methodNamed B.named
  have hZ0 := hZ
  obtain ⟨-, hZ1, -, adV, hZ4⟩ := hZ
  obtain ⟨h1, h2, h3, h4⟩ := hZ4 i hi
  have hS : va_S (fun q => b ≤ q) s.heap s.heap [] := va_S.rf
  have hl := lv_entry ([.ref (aC (1000 + i))]) (n := 1) (Nat.le_of_ble_eq_true rfl)
  rw [lg_entry_eq]
  generalize (lg_sl ([.ref (aC (1000 + i))]) ++ List.replicate (1 - (lg_sl ([.ref (aC (1000 + i))])).length) Slot.unset).toArray = ls at hl ⊢
  have hl : lv_has ls 1 [(0, .ref (aC (1000 + i)))] := hl
  refine lv_aload_n hx hb st_dL_0 rfl (lv_at hl 0 rfl) ?_
  refine vk_getf hx hb h3 hS hown (hts (.fieldLink "java/lang/String" 9 "java/lang/String" "value" "[B") (by decide +kernel)) (fun _ h => h) st_dL_1 ?_
  refine va_tlen hx hb h4 hS rfl st_dL_4 ?_
  refine lv_aload_n hx hb st_dL_5 rfl (lv_at hl 0 rfl) ?_
  have hrec : ∃ cell : Cell, s.heap[aC (1000 + i)]? = some cell ∧ cell.vm.isStatics = false ∧ s.vm.findClass "java/lang/String" = some cell.cls := by
    obtain ⟨cell, q1, q2, q3, -⟩ := h1
    exact ⟨cell, q1, q2, q3⟩
  refine st_after (va_runV (As := []) (rest := [.int (Int32.ofNat (st_tx i).length)]) ⟨hx, hb, hml, hown, htG⟩ (st_C (T := T) (D := D) (aC := aC) (b := b) (X := X) hG hi) (cwV 0 htG (st_good hg ?_) rfl rfl rfl ⟨rfl, by decide, by decide, by decide +kernel⟩ ⟨Nat.le_of_ble_eq_true rfl, Nat.le_of_ble_eq_true rfl⟩) ⟨st_blind, hrec, fun U hU hW => ⟨rfl, by rw [hU]; exact hP, hZ0.warm hW (by rw [hU]; exact hS)⟩⟩ rfl rfl hl.1 rfl (Nat.le_of_ble_eq_true rfl) st_dL_6 ⟨Nat.le_refl _, Nat.le_refl _⟩) hS (fun H1 locs1 hP1 hS1 => ?_)
  · intro w hw
    simp only [wsV, List.mem_append, List.mem_cons, List.not_mem_nil, or_false] at hw
    rcases hw with (rfl | rfl | rfl | rfl) | rfl | hw
    · exact hG _ (by decide +kernel)
    · exact hG _ (by decide +kernel)
    · exact hG _ (by decide +kernel)
    · exact hG _ (by decide +kernel)
    · exact hG _ (by decide +kernel)
    · exact hw
  · refine lv_ishr hx hb st_dL_9 ?_
    rw [st_len31 i hi]
    exact W.iret hx hb hr (fun t ht hW => ⟨rfl, by rw [ht]; exact hP1, hS1.F ht⟩) hS1.2.2 st_dL_10 B.notSynchronized
theorem st_At (hg : ∀ w ∈ G, goodWord w = true) (hG : ∀ w ∈ st_ws, w ∈ G) {i : Nat} (hi : i < 5) {x : Int32} (hin : pm_in x (st_tx i).length = true) : Met l st_yA (.code st_yA st_cA 2 (some .char) :: G) (pm_rm 3 64 0 0) (st_P T D aC b X [.ref (aC (1000 + i)), .int x]) (st_Q T D b X (some (.int ((st_tx i).getD x.toNatClampNeg 0)))) 0 0 (fun q => b ≤ q) := by
  refine Met.ofW (cc := st_cA) (maxL := 2) (ret := some .char) (by decide) rfl ?_
  intro p e s m args below meth c s₁ B hml hv
  obtain ⟨rfl, hP, hZ⟩ := hv
  have hx := B.exec
  have hb := B.bytes
  have hr := B.returns
  have hts0 := atoms_spec (ws := Cond.code st_yA st_cA 2 (some .char) :: G) B.pre
  have htG : ∀ w ∈ G, w.before _ s = true := fun w hw => hts0 w (List.mem_cons_of_mem _ hw)
  have hts : ∀ w ∈ st_ws, w.before _ s = true := fun w hw => htG w (hG w hw)
  have hown : s.vm.findClass "java/lang/String" = some m.cls := findClass_of_methodNamed B.named
  have hZ0 := hZ
  obtain ⟨-, hZ1, -, adV, hZ4⟩ := hZ
  obtain ⟨h1, h2, h3, h4⟩ := hZ4 i hi
  have hS : va_S (fun q => b ≤ q) s.heap s.heap [] := va_S.rf
  obtain ⟨a1, a2⟩ := st_all i hi
  have hlt : x.toNatClampNeg < (st_tx i).length := by
    have h2 : ¬ (x < 0 ∨ (st_tx i).length ≤ x.toNatClampNeg) := of_decide_eq_true hin
    omega
  obtain ⟨b1, b2⟩ := a2 _ hlt
  have hl := lv_entry ([.ref (aC (1000 + i)), .int x]) (n := 2) (Nat.le_of_ble_eq_true rfl)
  rw [lg_entry_eq]
  generalize (lg_sl ([.ref (aC (1000 + i)), .int x]) ++ List.replicate (2 - (lg_sl ([.ref (aC (1000 + i)), .int x])).length) Slot.unset).toArray = ls at hl ⊢
  have hl : lv_has ls 2 [(0, .ref (aC (1000 + i))), (1, .int x)] := hl
  have hrec : ∃ cell : Cell, s.heap[aC (1000 + i)]? = some cell ∧ cell.vm.isStatics = false ∧ s.vm.findClass "java/lang/String" = some cell.cls := by
    obtain ⟨cell, q1, q2, q3, -⟩ := h1
    exact ⟨cell, q1, q2, q3⟩
  refine lv_aload_n hx hb st_dA_0 rfl (lv_at hl 0 rfl) ?_
  refine st_after (va_runV (As := []) (rest := []) ⟨hx, hb, hml, hown, htG⟩ (st_I (T := T) (D := D) (aC := aC) (b := b) (X := X) hG hi) (cwV 0 htG (st_good hg ?_) rfl rfl rfl ⟨rfl, by decide, by decide, by decide +kernel⟩ ⟨Nat.le_of_ble_eq_true rfl, Nat.le_of_ble_eq_true rfl⟩) ⟨st_blind, hrec, fun U hU hW => ⟨rfl, by rw [hU]; exact hP, hZ0.warm hW (by rw [hU]; exact hS)⟩⟩ rfl rfl hl.1 rfl (Nat.le_of_ble_eq_true rfl) st_dA_1 ⟨Nat.le_refl _, Nat.le_refl _⟩) hS (fun H1 locs1 hP1 hS1 => ?_)
  · intro w hw
    simp only [wsV, List.mem_append, List.mem_cons, List.not_mem_nil, or_false] at hw
    rcases hw with (rfl | rfl | rfl | rfl) | rfl | hw
    · exact hG _ (by decide +kernel)
    · exact hG _ (by decide +kernel)
    · exact hG _ (by decide +kernel)
    · exact hG _ (by decide +kernel)
    · exact hG _ (by decide +kernel)
    · exact hw
  · refine lv_if_eq hx hb st_dA_4 (tgt := 16) rfl (fun q => absurd q (by decide)) (fun _ => ?_)
    refine lv_aload_n hx hb st_dA_7 rfl (lv_at hl 0 rfl) ?_
    refine vk_getf hx hb h3 hS1 hown (hts (.fieldLink "java/lang/String" 9 "java/lang/String" "value" "[B") (by decide +kernel)) (fun _ h => h) st_dA_8 ?_
    refine lv_iload_n hx hb st_dA_11 rfl (lv_at hl 1 rfl) ?_
    refine st_after (va_runS (As := [.ref (adV i), .int x]) (rest := []) ⟨hx, hb, hml, hown, htG⟩ (st_B (T := T) (D := D) (aC := aC) (b := b) (X := X) hg hG hi hin) (va_cwS 2 htG (st_good hg ?_) rfl rfl rfl ⟨by decide, by decide, by decide +kernel⟩ ⟨Nat.le_of_ble_eq_true rfl, Nat.le_of_ble_eq_true rfl⟩) ⟨?_, fun U hU hW => ⟨rfl, by rw [hU]; exact hP1, hZ0.warm hW (by rw [hU]; exact hS1), by rw [hU]; exact va_T.moved hW.alike (h4.kept hS1.2.1)⟩⟩ rfl rfl hl.1 rfl (Nat.le_of_ble_eq_true rfl) st_dA_12 ⟨Nat.le_refl _, Nat.le_refl _⟩) hS1 (fun H2 locs2 hP2 hS2 => ?_)
    · intro w hw
      simp only [va_wsS, List.mem_append, List.mem_cons, List.not_mem_nil, or_false] at hw
      rcases hw with (rfl | rfl | rfl) | rfl | hw
      · exact hG _ (by decide +kernel)
      · exact hG _ (by decide +kernel)
      · exact hG _ (by decide +kernel)
      · exact hG _ (by decide +kernel)
      · exact hw
    · intro a U g mk hp
      obtain ⟨q1, q2, q3, q4⟩ := hp
      exact ⟨q1, q2, q3.same rfl rfl, va_T.moved (u := U) (U := U.calling g mk a) (Vm.Alike.refl U.vm) q4⟩
    · exact W.zret hx hb hr b2 (fun t ht hW => ⟨rfl, by rw [ht]; exact hP2, hS2.F ht⟩) hS2.2.2 st_dA_15 B.notSynchronized
end STW
/-! length and charAt of a String constant, in the pure machine -/
section STV
variable {p : Program} {l : Launch} {e : Env} {R : Room} {s : State} {m : MethodId} {args : Array Value} {below : List Frame} {meth : Method} {c : Code} {Q : State → Prop}
variable {T : pm_Tab} {G Ns : List Cond} {D : va_G} {aC : Nat → ClassId} {b k fr lo pc sz sl sz0 sl0 : Nat} {L : pm_L} {S : List Value} {h : pm_H} {st' : pm_St}
theorem pm_libVOk (OK : pm_ok T G Ns) (hC : pm_C T G Ns D aC b k p s m args meth c) (hfr : R.frames = fr) (hlo : R.locals = lo) (hcl : sz - sz0 ≤ R.cells) (hsl : sl - sl0 ≤ R.slots) {j : Nat} (hd : decode (pm_code T k) pc = .ok (.invokevirtual j, 3)) (hh : pm_libV T fr lo k j pc L S h sz sl = some st')
    (kk : pm_V p l e R s m args below meth c Q T D aC b k sz0 sl0 st') : pm_V p l e R s m args below meth c Q T D aC b k sz0 sl0 (pc, L, S, h, sz, sl) := by
  obtain ⟨hx, hb, hml, hown, hts, hK, -⟩ := hC
  have hZ := hK.2.2
  have hg := OK.2.1
  unfold pm_libV at hh
  split at hh
  case h_3 => cases hh
  case h_1 x i r e1 =>
    split at hh
    case isFalse => cases hh
    case isTrue hc =>
    cases hh
    obtain ⟨c1, c2, c3, c4⟩ := hc
    obtain ⟨w1, hG⟩ := OK.2.2.2.2.1 _ _ _ _ e1
    obtain ⟨-, -, -, adV, hZ4⟩ := hK.2.2
    intro H locs ls hP hS hl
    have hrec : ∃ cell : Cell, H[aC (1000 + i)]? = some cell ∧ cell.vm.isStatics = false ∧ s.vm.findClass "java/lang/String" = some cell.cls := by
      obtain ⟨cell, q1, q2, q3, -⟩ := (hZ4 i c1).1.kept hS.2.1
      exact ⟨cell, q1, q2, q3⟩
    refine st_after (T := T) (D := D) (b := b) (X := pm_w aC b h sz) (va_runV (As := []) (rest := r.map (pm_tr aC b)) ⟨hx, hb, hml, hown, hts⟩ (st_Len (T := T) (D := D) (aC := aC) (b := b) (X := pm_w aC b h sz) hg hG c1) (cwV 0 hts (st_good hg ?_) rfl rfl rfl ⟨rfl, by decide, by decide, by decide +kernel⟩ ⟨by dsimp only; omega, by dsimp only; omega⟩) ⟨st_blind, hrec, fun U hU hW => ⟨rfl, by rw [hU]; exact hP, hZ.warm hW (by rw [hU]; exact hS)⟩⟩ rfl rfl hl.1 rfl (lv_room (by rw [pm_sum_tr]; exact c4)) hd ⟨by dsimp only; omega, by dsimp only; omega⟩) hS (fun H1 locs1 hP1 hS1 => ?_)
    · intro w hw
      simp only [wsV, List.mem_append, List.mem_cons, List.not_mem_nil, or_false] at hw
      rcases hw with (rfl | rfl | rfl | rfl) | rfl | hw
      · exact w1
      · exact hG _ (by decide +kernel)
      · exact hG _ (by decide +kernel)
      · exact hG _ (by decide +kernel)
      · exact hG _ (by decide +kernel)
      · exact hw
    · exact kk H1 locs1 ls hP1 hS1 hl
  case h_2 x' x i r e1 =>
    split at hh
    case isFalse => cases hh
    case isTrue hc =>
    cases hh
    obtain ⟨c1, c2, c3, c4, c5⟩ := hc
    obtain ⟨w1, hG⟩ := OK.2.2.2.2.1 _ _ _ _ e1
    obtain ⟨-, -, -, adV, hZ4⟩ := hK.2.2
    intro H locs ls hP hS hl
    have hrec : ∃ cell : Cell, H[aC (1000 + i)]? = some cell ∧ cell.vm.isStatics = false ∧ s.vm.findClass "java/lang/String" = some cell.cls := by
      obtain ⟨cell, q1, q2, q3, -⟩ := (hZ4 i c1).1.kept hS.2.1
      exact ⟨cell, q1, q2, q3⟩
    refine st_after (T := T) (D := D) (b := b) (X := pm_w aC b h sz) (va_runV (As := [.int x]) (rest := r.map (pm_tr aC b)) ⟨hx, hb, hml, hown, hts⟩ (st_At (T := T) (D := D) (aC := aC) (b := b) (X := pm_w aC b h sz) hg hG c1 c5) (cwV 1 hts (st_good hg ?_) rfl rfl rfl ⟨rfl, by decide, by decide, by decide +kernel⟩ ⟨by dsimp only; omega, by dsimp only; omega⟩) ⟨st_blind, hrec, fun U hU hW => ⟨rfl, by rw [hU]; exact hP, hZ.warm hW (by rw [hU]; exact hS)⟩⟩ rfl rfl hl.1 rfl (lv_room (by rw [pm_sum_tr]; exact c4)) hd ⟨by dsimp only; omega, by dsimp only; omega⟩) hS (fun H1 locs1 hP1 hS1 => ?_)
    · intro w hw
      simp only [wsV, List.mem_append, List.mem_cons, List.not_mem_nil, or_false] at hw
      rcases hw with (rfl | rfl | rfl | rfl) | rfl | hw
      · exact w1
      · exact hG _ (by decide +kernel)
      · exact hG _ (by decide +kernel)
      · exact hG _ (by decide +kernel)
      · exact hG _ (by decide +kernel)
      · exact hw
    · exact kk H1 locs1 ls hP1 hS1 hl
end STV
end MG15cstrx0
section MG15cstrx1
/-! the soundness of every simple instruction -/
section PMO
variable {p : Program} {l : Launch} {e : Env} {R : Room} {s : State} {m : MethodId} {args : Array Value} {below : List Frame} {meth : Method} {c : Code} {Q : State → Prop}
variable {T : pm_Tab} {G Ns : List Cond} {D : va_G} {aC : Nat → ClassId} {b g k fr lo pc sz sl sz0 sl0 : Nat} {L : pm_L} {S : List Value} {h : pm_H} {st' : pm_St}
theorem sw_ldcwT {T : State} {locs : List Loc} {cells slots : Nat} (X : Stand p l e R s m args below meth c T locs cells slots) (hexec : p.tables.exec = Jvm.exec) {own text : String} {index : Nat} {a : Addr} (hown : s.vm.findClass own = some m.cls)
    (hconst : (Cond.stringRef own index text).before args s = true) (hev : (Term.string own index).eval args s none [] s = some (.ref a)) {f : JFrame} (hg : f.method = m) (hdg : decode c.code f.pc = .ok (.ldc_w index, 3)) :
    ∀ target, Steps p.tables e below (T.setTop { f with pc := f.pc + 3, stack := .ref a :: f.stack }) target → Steps p.tables e below (T.setTop f) target := by
  obtain ⟨k, cf, i, a', hk, hcf, hcp, -, hr, hev'⟩ := Cond.stringRef_spec hown hconst
  cases hev.symm.trans hev'
  obtain ⟨k', hk', he⟩ := X.warmed.alike.2.2 _ _ hk
  have hr' : k'.resolved[index]? = some (some (.string a)) := by
    rcases X.warmed.entry hk hk' index with z | ⟨z, -⟩
    · rw [z]; exact hr
    · rw [hr] at z; cases z
  intro target hrest
  subst hg
  jvm_step X.here [hexec, hdg, ldc_w.wp_string (e := e) (s := T) (f := f) X.here.top hk' (by rw [he]; exact hcf) hcp hr']
  exact hrest
theorem sw_ldcwS {cc : ByteArray} {H : Heap} {locs : List Loc} {cells slots : Nat} {ls : Array Slot} {rest : List Value} (hexec : p.tables.exec = Jvm.exec) (hb : c.code = cc) {own tx : String} {index q : Nat} (hown : s.vm.findClass own = some m.cls) (hZ : vk_R own index tx q s) (hdg : decode cc pc = .ok (.ldc_w index, 3))
    (k : W p l e R s m args below meth c H locs cells slots Q (F0 m (pc + 3) ls (.ref q :: rest))) : W p l e R s m args below meth c H locs cells slots Q (F0 m pc ls rest) := by
  intro T hT X
  obtain ⟨t, a1, b1⟩ := k T hT X
  exact ⟨t, sw_ldcwT X hexec hown (text := tx) (a := q) hZ.1 hZ.2 (f := F0 m pc ls rest) rfl (by rw [hb]; exact hdg) t a1, b1⟩
set_option maxHeartbeats 4000000 in
theorem pm_simple_ok (OK : pm_ok T G Ns) (hC : pm_C T G Ns D aC b k p s m args meth c) (hfr : R.frames = fr) (hlo : R.locals = lo) (hs0 : s.heap.size = b + sz0 + g) (hg : g = 0 ∨ st'.2.2.2.2.1 = sz0) (h0 : sz0 ≤ sz) (h1 : sl0 ≤ sl) (hmc : sz ≤ st'.2.2.2.2.1) (hms : sl ≤ st'.2.2.2.2.2) (hRc : st'.2.2.2.2.1 ≤ sz0 + R.cells) (hRs : st'.2.2.2.2.2 ≤ sl0 + R.slots)
    {i : Instr} {len : Nat} (hlen : pm_lenOk i len = true) (hd : decode (pm_code T k) pc = .ok (i, len)) (hh : pm_simple T fr lo k i pc L S h sz sl = some st')
    (kk : pm_V p l e R s m args below meth c Q T D aC b k sz0 sl0 st') : pm_V p l e R s m args below meth c Q T D aC b k sz0 sl0 (pc, L, S, h, sz, sl) := by
  have hx := hC.1
  have hb := hC.2.1
  have hml := hC.2.2.1
  have hown := hC.2.2.2.1
  have hts := hC.2.2.2.2.1
  have hK := hC.2.2.2.2.2.1
  cases i
  case iconst n =>
    have hl : len = 1 := eq_of_beq hlen
    subst hl
    cases hh
    intro H locs ls hP hS hl
    exact lv_iconst hx hb hd rfl (kk H locs ls hP hS hl)
  case bipush n =>
    have hl : len = 2 := eq_of_beq hlen
    subst hl
    cases hh
    intro H locs ls hP hS hl
    exact lv_bipush hx hb hd rfl (kk H locs ls hP hS hl)
  case sipush n =>
    have hl : len = 3 := eq_of_beq hlen
    subst hl
    cases hh
    intro H locs ls hP hS hl
    exact lv_sipush hx hb hd rfl (kk H locs ls hP hS hl)
  case lconst n =>
    have hl : len = 1 := eq_of_beq hlen
    subst hl
    cases hh
    intro H locs ls hP hS hl
    exact lv_lconst hx hb hd rfl (kk H locs ls hP hS hl)
  case ldc j =>
    have hl : len = 2 := eq_of_beq hlen
    subst hl
    dsimp only [pm_simple] at hh
    split at hh
    case h_2 =>
      split at hh
      case h_2 => cases hh
      case h_1 i e1 =>
      cases hh
      obtain ⟨tx, hR⟩ := hK.2.2.1 _ _ _ e1
      intro H locs ls hP hS hl
      exact va_ldcS hx hb hown hR hd (kk H locs ls hP hS hl)
    case h_1 v e1 =>
    cases hh
    intro H locs ls hP hS hl
    exact lv_ldc hx hb hown (hts _ (OK.2.2.2.2.2.2.2.1 _ _ _ e1)) hd (kk H locs ls hP hS hl)
  case ldc_w j =>
    have hl : len = 3 := eq_of_beq hlen
    subst hl
    dsimp only [pm_simple] at hh
    split at hh
    case h_2 =>
      split at hh
      case h_2 => cases hh
      case h_1 i e1 =>
      cases hh
      obtain ⟨tx, hR⟩ := hK.2.2.1 _ _ _ e1
      intro H locs ls hP hS hl
      exact sw_ldcwS hx hb hown hR hd (kk H locs ls hP hS hl)
    case h_1 v e1 =>
    cases hh
    intro H locs ls hP hS hl
    exact lv_ldcw hx hb hown (hts _ (OK.2.2.2.2.2.2.2.1 _ _ _ e1)) hd (kk H locs ls hP hS hl)
  case ldc2_w j =>
    have hl : len = 3 := eq_of_beq hlen
    subst hl
    dsimp only [pm_simple] at hh
    split at hh
    case h_2 => cases hh
    case h_1 v e1 =>
    cases hh
    intro H locs ls hP hS hl
    exact lv_ldc2 hx hb hown (hts _ (OK.2.2.2.2.2.2.2.2 _ _ _ e1)) hd (kk H locs ls hP hS hl)
  case iload j =>
    have hl : len = 2 := eq_of_beq hlen
    subst hl
    obtain ⟨v, e1, e2, rfl⟩ := pm_lo_inv hh
    obtain ⟨x, rfl⟩ := pm_isT_0 e2
    intro H locs ls hP hS hl
    exact lv_iload hx hb hd (hl.2.2 _ _ e1) (kk H locs ls hP hS hl)
  case iload_n j =>
    have hl : len = 1 := eq_of_beq hlen
    subst hl
    obtain ⟨v, e1, e2, rfl⟩ := pm_lo_inv hh
    obtain ⟨x, rfl⟩ := pm_isT_0 e2
    intro H locs ls hP hS hl
    exact lv_iload_n hx hb hd rfl (hl.2.2 _ _ e1) (kk H locs ls hP hS hl)
  case lload j =>
    have hl : len = 2 := eq_of_beq hlen
    subst hl
    obtain ⟨v, e1, e2, rfl⟩ := pm_lo_inv hh
    obtain ⟨x, rfl⟩ := pm_isT_1 e2
    intro H locs ls hP hS hl
    exact lv_lload hx hb hd (hl.2.2 _ _ e1) (kk H locs ls hP hS hl)
  case lload_n j =>
    have hl : len = 1 := eq_of_beq hlen
    subst hl
    obtain ⟨v, e1, e2, rfl⟩ := pm_lo_inv hh
    obtain ⟨x, rfl⟩ := pm_isT_1 e2
    intro H locs ls hP hS hl
    exact lv_lload_n hx hb hd rfl (hl.2.2 _ _ e1) (kk H locs ls hP hS hl)
  case aload j =>
    have hl : len = 2 := eq_of_beq hlen
    subst hl
    obtain ⟨v, e1, e2, rfl⟩ := pm_lo_inv hh
    intro H locs ls hP hS hl
    obtain ⟨x, rfl | rfl⟩ := pm_isT_2 e2
    all_goals exact lv_aload hx hb hd (hl.2.2 _ _ e1) (kk H locs ls hP hS hl)
  case aload_n j =>
    have hl : len = 1 := eq_of_beq hlen
    subst hl
    obtain ⟨v, e1, e2, rfl⟩ := pm_lo_inv hh
    intro H locs ls hP hS hl
    obtain ⟨x, rfl | rfl⟩ := pm_isT_2 e2
    all_goals exact lv_aload_n hx hb hd rfl (hl.2.2 _ _ e1) (kk H locs ls hP hS hl)
  case istore j =>
    have hl : len = 2 := eq_of_beq hlen
    subst hl
    obtain ⟨v, r, rfl, e2, e3, rfl⟩ := pm_so_inv hh
    obtain ⟨x, rfl⟩ := pm_isT_0 e2
    intro H locs ls hP hS hl
    exact lv_istore hx hb hd hl.has e3 rfl (fun ls' hl' => kk H locs ls' hP hS (pm_loc.st1 hl'))
  case istore_n j =>
    have hl : len = 1 := eq_of_beq hlen
    subst hl
    obtain ⟨v, r, rfl, e2, e3, rfl⟩ := pm_so_inv hh
    obtain ⟨x, rfl⟩ := pm_isT_0 e2
    intro H locs ls hP hS hl
    exact lv_istore_n hx hb hd rfl hl.has e3 rfl (fun ls' hl' => kk H locs ls' hP hS (pm_loc.st1 hl'))
  case astore j =>
    have hl : len = 2 := eq_of_beq hlen
    subst hl
    obtain ⟨v, r, rfl, e2, e3, rfl⟩ := pm_so_inv hh
    intro H locs ls hP hS hl
    obtain ⟨x, rfl | rfl⟩ := pm_isT_2 e2
    all_goals exact lv_astore hx hb hd hl.has e3 rfl (fun ls' hl' => kk H locs ls' hP hS (pm_loc.st1 hl'))
  case astore_n j =>
    have hl : len = 1 := eq_of_beq hlen
    subst hl
    obtain ⟨v, r, rfl, e2, e3, rfl⟩ := pm_so_inv hh
    intro H locs ls hP hS hl
    obtain ⟨x, rfl | rfl⟩ := pm_isT_2 e2
    all_goals exact lv_astore_n hx hb hd rfl hl.has e3 rfl (fun ls' hl' => kk H locs ls' hP hS (pm_loc.st1 hl'))
  case lstore j =>
    have hl : len = 2 := eq_of_beq hlen
    subst hl
    obtain ⟨x, r, rfl, e3, rfl⟩ := pm_sL_inv hh
    intro H locs ls hP hS hl
    exact lv_lstore hx hb hd hl.has e3 rfl (fun ls' hl' => kk H locs ls' hP hS (pm_loc.st2 (v := .long x) hl'))
  case lstore_n j =>
    have hl : len = 1 := eq_of_beq hlen
    subst hl
    obtain ⟨x, r, rfl, e3, rfl⟩ := pm_sL_inv hh
    intro H locs ls hP hS hl
    exact lv_lstore_n hx hb hd rfl hl.has e3 rfl (fun ls' hl' => kk H locs ls' hP hS (pm_loc.st2 (v := .long x) hl'))
  case iinc j n =>
    have hl : len = 3 := eq_of_beq hlen
    subst hl
    dsimp only [pm_simple] at hh
    split at hh
    case h_2 => cases hh
    case h_1 x e1 =>
    split at hh
    case isFalse => cases hh
    case isTrue e3 =>
    cases hh
    intro H locs ls hP hS hl
    obtain ⟨q, hq, hq2⟩ := List.getElem_of_mem (pm_ll_mem (aC := aC) (b := b) e1)
    exact lv_iinc (k := q) (x := x) hx hb hd hl.has (by rw [List.getElem?_eq_getElem hq, hq2]; rfl) rfl e3 rfl (fun ls' hl' => kk H locs ls' hP hS (pm_loc.st1 (v := .int (x + Int32.ofInt n)) hl'))
  case iadd =>
    have hl : len = 1 := eq_of_beq hlen
    subst hl
    obtain ⟨x, y, r, rfl, rfl⟩ := pm_bi_inv hh
    intro H locs ls hP hS hl
    exact lv_iadd hx hb hd (kk H locs ls hP hS hl)
  case isub =>
    have hl : len = 1 := eq_of_beq hlen
    subst hl
    obtain ⟨x, y, r, rfl, rfl⟩ := pm_bi_inv hh
    intro H locs ls hP hS hl
    exact lv_isub hx hb hd (kk H locs ls hP hS hl)
  case imul =>
    have hl : len = 1 := eq_of_beq hlen
    subst hl
    obtain ⟨x, y, r, rfl, rfl⟩ := pm_bi_inv hh
    intro H locs ls hP hS hl
    exact lv_imul hx hb hd (kk H locs ls hP hS hl)
  case iand =>
    have hl : len = 1 := eq_of_beq hlen
    subst hl
    obtain ⟨x, y, r, rfl, rfl⟩ := pm_bi_inv hh
    intro H locs ls hP hS hl
    exact lv_iand hx hb hd (kk H locs ls hP hS hl)
  case ior =>
    have hl : len = 1 := eq_of_beq hlen
    subst hl
    obtain ⟨x, y, r, rfl, rfl⟩ := pm_bi_inv hh
    intro H locs ls hP hS hl
    exact lv_ior hx hb hd (kk H locs ls hP hS hl)
  case ixor =>
    have hl : len = 1 := eq_of_beq hlen
    subst hl
    obtain ⟨x, y, r, rfl, rfl⟩ := pm_bi_inv hh
    intro H locs ls hP hS hl
    exact lv_ixor hx hb hd (kk H locs ls hP hS hl)
  case ishl =>
    have hl : len = 1 := eq_of_beq hlen
    subst hl
    obtain ⟨x, y, r, rfl, rfl⟩ := pm_bi_inv hh
    intro H locs ls hP hS hl
    exact lv_ishl hx hb hd (kk H locs ls hP hS hl)
  case ishr =>
    have hl : len = 1 := eq_of_beq hlen
    subst hl
    obtain ⟨x, y, r, rfl, rfl⟩ := pm_bi_inv hh
    intro H locs ls hP hS hl
    exact lv_ishr hx hb hd (kk H locs ls hP hS hl)
  case iushr =>
    have hl : len = 1 := eq_of_beq hlen
    subst hl
    obtain ⟨x, y, r, rfl, rfl⟩ := pm_bi_inv hh
    intro H locs ls hP hS hl
    exact lv_iushr hx hb hd rfl (kk H locs ls hP hS hl)
  case idiv =>
    have hl : len = 1 := eq_of_beq hlen
    subst hl
    obtain ⟨x, y, r, rfl, hy, rfl⟩ := pm_bd_inv hh
    intro H locs ls hP hS hl
    exact lv_idiv hx hb hd hy (kk H locs ls hP hS hl)
  case irem =>
    have hl : len = 1 := eq_of_beq hlen
    subst hl
    obtain ⟨x, y, r, rfl, hy, rfl⟩ := pm_bd_inv hh
    intro H locs ls hP hS hl
    exact lv_irem hx hb hd hy (kk H locs ls hP hS hl)
  case ineg =>
    have hl : len = 1 := eq_of_beq hlen
    subst hl
    obtain ⟨x, r, rfl, rfl⟩ := pm_ui_inv hh
    intro H locs ls hP hS hl
    exact lv_ineg hx hb hd (kk H locs ls hP hS hl)
  case i2l =>
    have hl : len = 1 := eq_of_beq hlen
    subst hl
    obtain ⟨x, r, rfl, rfl⟩ := pm_ui_inv hh
    intro H locs ls hP hS hl
    exact lv_i2l hx hb hd rfl (kk H locs ls hP hS hl)
  case i2b =>
    have hl : len = 1 := eq_of_beq hlen
    subst hl
    obtain ⟨x, r, rfl, rfl⟩ := pm_ui_inv hh
    intro H locs ls hP hS hl
    exact lv_i2b hx hb hd rfl (kk H locs ls hP hS hl)
  case i2s =>
    have hl : len = 1 := eq_of_beq hlen
    subst hl
    obtain ⟨x, r, rfl, rfl⟩ := pm_ui_inv hh
    intro H locs ls hP hS hl
    exact lv_i2s hx hb hd rfl (kk H locs ls hP hS hl)
  case i2c =>
    have hl : len = 1 := eq_of_beq hlen
    subst hl
    obtain ⟨x, r, rfl, rfl⟩ := pm_ui_inv hh
    intro H locs ls hP hS hl
    exact lv_i2c hx hb hd rfl (kk H locs ls hP hS hl)
  case lmul =>
    have hl : len = 1 := eq_of_beq hlen
    subst hl
    obtain ⟨x, y, r, rfl, rfl⟩ := pm_bl_inv hh
    intro H locs ls hP hS hl
    exact lv_lmul hx hb hd (kk H locs ls hP hS hl)
  case ladd =>
    have hl : len = 1 := eq_of_beq hlen
    subst hl
    obtain ⟨x, y, r, rfl, rfl⟩ := pm_bl_inv hh
    intro H locs ls hP hS hl
    exact lv_ladd hx hb hd (kk H locs ls hP hS hl)
  case lsub =>
    have hl : len = 1 := eq_of_beq hlen
    subst hl
    obtain ⟨x, y, r, rfl, rfl⟩ := pm_bl_inv hh
    intro H locs ls hP hS hl
    exact lv_lsub hx hb hd (kk H locs ls hP hS hl)
  case ldiv =>
    have hl : len = 1 := eq_of_beq hlen
    subst hl
    obtain ⟨x, y, r, rfl, hy, rfl⟩ := pm_bdL_inv hh
    intro H locs ls hP hS hl
    exact lv_ldiv hx hb hd hy (kk H locs ls hP hS hl)
  case lrem =>
    have hl : len = 1 := eq_of_beq hlen
    subst hl
    obtain ⟨x, y, r, rfl, hy, rfl⟩ := pm_bdL_inv hh
    intro H locs ls hP hS hl
    exact lv_lrem hx hb hd hy (kk H locs ls hP hS hl)
  case lcmp =>
    have hl : len = 1 := eq_of_beq hlen
    subst hl
    dsimp only [pm_simple] at hh
    split at hh
    case h_2 => cases hh
    case h_1 y x r =>
    cases hh
    intro H locs ls hP hS hl
    exact W.lcmp hx hb hd (kk H locs ls hP hS hl)
  case dup =>
    have hl : len = 1 := eq_of_beq hlen
    subst hl
    dsimp only [pm_simple] at hh
    split at hh
    case h_2 => cases hh
    case h_1 v r =>
    split at hh
    case isFalse => cases hh
    case isTrue e1 =>
    cases hh
    intro H locs ls hP hS hl
    exact lv_dup hx hb hd (by rw [pm_cat]; exact e1) (kk H locs ls hP hS hl)
  case pop =>
    have hl : len = 1 := eq_of_beq hlen
    subst hl
    dsimp only [pm_simple] at hh
    split at hh
    case h_2 => cases hh
    case h_1 v r =>
    split at hh
    case isFalse => cases hh
    case isTrue e1 =>
    cases hh
    intro H locs ls hP hS hl
    exact lv_pop hx hb hd (by rw [pm_cat]; exact e1) (kk H locs ls hP hS hl)
  case dup_x1 =>
    have hl : len = 1 := eq_of_beq hlen
    subst hl
    dsimp only [pm_simple] at hh
    split at hh
    case h_2 => cases hh
    case h_1 v w r =>
    split at hh
    case isFalse => cases hh
    case isTrue e1 =>
    cases hh
    intro H locs ls hP hS hl
    exact lv_dup_x1 hx hb hd (by rw [pm_cat]; exact e1.1) (by rw [pm_cat]; exact e1.2) (kk H locs ls hP hS hl)
  case dup_x2 =>
    have hl : len = 1 := eq_of_beq hlen
    subst hl
    dsimp only [pm_simple] at hh
    split at hh
    case h_2 => cases hh
    case h_1 v w z r =>
    split at hh
    case isFalse => cases hh
    case isTrue e1 =>
    cases hh
    intro H locs ls hP hS hl
    exact lv_dup_x2 hx hb hd (by rw [pm_cat]; exact e1.1) (by rw [pm_cat]; exact e1.2.1) (by rw [pm_cat]; exact e1.2.2) (kk H locs ls hP hS hl)
  case dup2 =>
    have hl : len = 1 := eq_of_beq hlen
    subst hl
    dsimp only [pm_simple] at hh
    split at hh
    case h_2 => cases hh
    case h_1 v w r =>
    split at hh
    case isFalse => cases hh
    case isTrue e1 =>
    cases hh
    intro H locs ls hP hS hl
    exact lv_dup2_11 hx hb hd (by rw [pm_cat]; exact e1.1) (by rw [pm_cat]; exact e1.2) (kk H locs ls hP hS hl)
  case ifCond cd off =>
    have hl : len = 3 := eq_of_beq hlen
    subst hl
    dsimp only [pm_simple] at hh
    split at hh
    case h_2 => cases hh
    case h_1 x r =>
    obtain ⟨t, e2, ⟨e1, rfl⟩ | ⟨e1, rfl⟩⟩ := pm_br_inv hh
    · intro H locs ls hP hS hl
      cases cd with
      | eq => exact lv_if_eq hx hb hd e2 (fun _ => kk H locs ls hP hS hl) (fun q => absurd (of_decide_eq_true e1) q)
      | ne => exact lv_if_ne hx hb hd e2 (fun _ => kk H locs ls hP hS hl) (fun q => absurd q (of_decide_eq_true e1))
      | lt => exact lv_if_lt hx hb hd e2 (fun _ => kk H locs ls hP hS hl) (fun q => absurd (of_decide_eq_true e1) q)
      | ge => exact lv_if_ge hx hb hd e2 (fun _ => kk H locs ls hP hS hl) (fun q => absurd (of_decide_eq_true e1) q)
      | gt => exact lv_if_gt hx hb hd e2 (fun _ => kk H locs ls hP hS hl) (fun q => absurd (of_decide_eq_true e1) q)
      | le => exact lv_if_le hx hb hd e2 (fun _ => kk H locs ls hP hS hl) (fun q => absurd (of_decide_eq_true e1) q)
    · intro H locs ls hP hS hl
      cases cd with
      | eq => exact lv_if_eq hx hb hd e2 (fun q => absurd q (of_decide_eq_false e1)) (fun _ => kk H locs ls hP hS hl)
      | ne => exact lv_if_ne hx hb hd e2 (fun q => absurd q (of_decide_eq_false e1)) (fun _ => kk H locs ls hP hS hl)
      | lt => exact lv_if_lt hx hb hd e2 (fun q => absurd q (of_decide_eq_false e1)) (fun _ => kk H locs ls hP hS hl)
      | ge => exact lv_if_ge hx hb hd e2 (fun q => absurd q (of_decide_eq_false e1)) (fun _ => kk H locs ls hP hS hl)
      | gt => exact lv_if_gt hx hb hd e2 (fun q => absurd q (of_decide_eq_false e1)) (fun _ => kk H locs ls hP hS hl)
      | le => exact lv_if_le hx hb hd e2 (fun q => absurd q (of_decide_eq_false e1)) (fun _ => kk H locs ls hP hS hl)
  case if_icmp cd off =>
    have hl : len = 3 := eq_of_beq hlen
    subst hl
    dsimp only [pm_simple] at hh
    split at hh
    case h_2 => cases hh
    case h_1 y x r =>
    obtain ⟨t, e2, ⟨e1, rfl⟩ | ⟨e1, rfl⟩⟩ := pm_br_inv hh
    · intro H locs ls hP hS hl
      cases cd with
      | eq => exact lv_icmp_eq hx hb hd e2 (fun _ => kk H locs ls hP hS hl) (fun q => absurd (of_decide_eq_true e1) q)
      | ne => exact lv_icmp_ne hx hb hd e2 (fun _ => kk H locs ls hP hS hl) (fun q => absurd q (of_decide_eq_true e1))
      | lt => exact lv_icmp_lt hx hb hd e2 (fun _ => kk H locs ls hP hS hl) (fun q => absurd (of_decide_eq_true e1) q)
      | ge => exact lv_icmp_ge hx hb hd e2 (fun _ => kk H locs ls hP hS hl) (fun q => absurd (of_decide_eq_true e1) q)
      | gt => exact lv_icmp_gt hx hb hd e2 (fun _ => kk H locs ls hP hS hl) (fun q => absurd (of_decide_eq_true e1) q)
      | le => exact lv_icmp_le hx hb hd e2 (fun _ => kk H locs ls hP hS hl) (fun q => absurd (of_decide_eq_true e1) q)
    · intro H locs ls hP hS hl
      cases cd with
      | eq => exact lv_icmp_eq hx hb hd e2 (fun q => absurd q (of_decide_eq_false e1)) (fun _ => kk H locs ls hP hS hl)
      | ne => exact lv_icmp_ne hx hb hd e2 (fun q => absurd q (of_decide_eq_false e1)) (fun _ => kk H locs ls hP hS hl)
      | lt => exact lv_icmp_lt hx hb hd e2 (fun q => absurd q (of_decide_eq_false e1)) (fun _ => kk H locs ls hP hS hl)
      | ge => exact lv_icmp_ge hx hb hd e2 (fun q => absurd q (of_decide_eq_false e1)) (fun _ => kk H locs ls hP hS hl)
      | gt => exact lv_icmp_gt hx hb hd e2 (fun q => absurd q (of_decide_eq_false e1)) (fun _ => kk H locs ls hP hS hl)
      | le => exact lv_icmp_le hx hb hd e2 (fun q => absurd q (of_decide_eq_false e1)) (fun _ => kk H locs ls hP hS hl)
  case goto off =>
    have hl : len = 3 := eq_of_beq hlen
    subst hl
    obtain ⟨t, e2, rfl⟩ := pm_jp_inv hh
    intro H locs ls hP hS hl
    exact lv_goto hx hb hd e2 (kk H locs ls hP hS hl)
  case tableswitch d lo1 hi1 offs =>
    dsimp only [pm_simple] at hh
    split at hh
    case h_2 => cases hh
    case h_1 x r =>
    split at hh
    case isTrue e1 =>
      obtain ⟨t, e2, rfl⟩ := pm_jp_inv hh
      intro H locs ls hP hS hl
      exact lv_tableOut hx hb hd e1 e2 (kk H locs ls hP hS hl)
    case isFalse e1 =>
      split at hh
      case h_2 => cases hh
      case h_1 off e3 =>
      obtain ⟨t, e2, rfl⟩ := pm_jp_inv hh
      intro H locs ls hP hS hl
      exact lv_tableIn hx hb hd (fun q => e1 (Or.inl q)) (fun q => e1 (Or.inr q)) e3 e2 (kk H locs ls hP hS hl)
  case lookupswitch d ps =>
    dsimp only [pm_simple] at hh
    split at hh
    case h_2 => cases hh
    case h_1 x r =>
    split at hh
    case isFalse => cases hh
    case isTrue e1 =>
      obtain ⟨t, e2, rfl⟩ := pm_jp_inv hh
      intro H locs ls hP hS hl
      exact lv_lookup hx hb hd e1 rfl e2 (kk H locs ls hP hS hl)
  case getfield j =>
    have hl : len = 3 := eq_of_beq hlen
    subst hl
    exact pm_getfield OK hC hd hh kk
  case putfield j =>
    have hl : len = 3 := eq_of_beq hlen
    subst hl
    exact pm_putfield OK hC hd hh kk
  case iaload =>
    have hl : len = 1 := eq_of_beq hlen
    subst hl
    exact pm_iald hC (fun H locs ls a kd n f i r q1 q2 q3 q4 q5 => va_iald hx hb hK.1 q1 a kd q2 q3 q4 hd q5) hh kk
  case caload =>
    have hl : len = 1 := eq_of_beq hlen
    subst hl
    exact pm_iald hC (fun H locs ls a kd n f i r q1 q2 q3 q4 q5 => va_cald hx hb hK.1 q1 a kd q2 q3 q4 hd q5) hh kk
  case baload =>
    have hl : len = 1 := eq_of_beq hlen
    subst hl
    exact pm_iald hC (fun H locs ls a kd n f i r q1 q2 q3 q4 q5 => va_zald hx hb hK.1 q1 a kd q2 q3 q4 hd q5) hh kk
  case bastore =>
    have hl : len = 1 := eq_of_beq hlen
    subst hl
    exact pm_iast hC (fun H locs ls a kd n f x i r q1 q2 q3 q4 q5 q6 q7 => va_zast hx hb hK.1 q1 q2 q3 a kd q4 q5 q6 hd q7) hh kk
  case laload =>
    have hl : len = 1 := eq_of_beq hlen
    subst hl
    exact pm_lald hC hd hh kk
  case aaload =>
    have hl : len = 1 := eq_of_beq hlen
    subst hl
    exact pm_aald hC hd hh kk
  case iastore =>
    have hl : len = 1 := eq_of_beq hlen
    subst hl
    exact pm_iast hC (fun H locs ls a kd n f x i r q1 q2 q3 q4 q5 q6 q7 => va_iast hx hb hK.1 q1 q2 q3 a kd q4 q5 q6 hd q7) hh kk
  case castore =>
    have hl : len = 1 := eq_of_beq hlen
    subst hl
    exact pm_iast hC (fun H locs ls a kd n f x i r q1 q2 q3 q4 q5 q6 q7 => va_cast hx hb hK.1 q1 q2 q3 a kd q4 q5 q6 hd q7) hh kk
  case lastore =>
    have hl : len = 1 := eq_of_beq hlen
    subst hl
    exact pm_last hC hd hh kk
  case aastore =>
    have hl : len = 1 := eq_of_beq hlen
    subst hl
    exact pm_aast hC hd hh kk
  case arraylength =>
    have hl : len = 1 := eq_of_beq hlen
    subst hl
    exact pm_alen hC hd hh kk
  case newarray at_ =>
    have hl : len = 2 := eq_of_beq hlen
    subst hl
    cases at_
    case float => cases hh
    case double => cases hh
    case byte => cases hh
    case short => cases hh
    case int =>
      dsimp only [pm_simple, pm_newI] at hh
      split at hh
      case h_2 => cases hh
      case h_1 n r =>
      split at hh
      case h_2 => cases hh
      case h_1 kd e1 =>
      split at hh
      case isFalse => cases hh
      case isTrue e2 =>
      unfold pm_nw at hh
      cases hh
      exact pm_newarr (at_ := .int) (ty := .int) OK hC hs0 (by dsimp only at hg; omega) h0 h1 rfl (fun C q => by cases q) (by decide) (fun cA => rfl) rfl e1 e2.1 e2.2 hd hRc hRs kk
    case char =>
      dsimp only [pm_simple, pm_newI] at hh
      split at hh
      case h_2 => cases hh
      case h_1 n r =>
      split at hh
      case h_2 => cases hh
      case h_1 kd e1 =>
      split at hh
      case isFalse => cases hh
      case isTrue e2 =>
      unfold pm_nw at hh
      cases hh
      exact pm_newarr (at_ := .char) (ty := .char) OK hC hs0 (by dsimp only at hg; omega) h0 h1 rfl (fun C q => by cases q) (by decide) (fun cA => rfl) rfl e1 e2.1 e2.2 hd hRc hRs kk
    case boolean =>
      dsimp only [pm_simple, pm_newI] at hh
      split at hh
      case h_2 => cases hh
      case h_1 n r =>
      split at hh
      case h_2 => cases hh
      case h_1 kd e1 =>
      split at hh
      case isFalse => cases hh
      case isTrue e2 =>
      unfold pm_nw at hh
      cases hh
      exact pm_newarr (at_ := .boolean) (ty := .boolean) OK hC hs0 (by dsimp only at hg; omega) h0 h1 rfl (fun C q => by cases q) (by decide) (fun cA => rfl) rfl e1 e2.1 e2.2 hd hRc hRs kk
    case long =>
      dsimp only [pm_simple, pm_newL] at hh
      split at hh
      case h_2 => cases hh
      case h_1 n r =>
      split at hh
      case h_2 => cases hh
      case h_1 kd e1 =>
      split at hh
      case isFalse => cases hh
      case isTrue e2 =>
      unfold pm_nw at hh
      cases hh
      exact pm_newarr (at_ := .long) (ty := .long) OK hC hs0 (by dsimp only at hg; omega) h0 h1 rfl (fun C q => by cases q) (by decide) (fun cA => rfl) rfl e1 e2.1 e2.2 hd hRc hRs kk
  case anewarray j =>
    have hl : len = 3 := eq_of_beq hlen
    subst hl
    exact pm_newqarr OK hC hs0 hg h0 h1 hd hh hRc hRs kk
  case new j =>
    have hl : len = 3 := eq_of_beq hlen
    subst hl
    exact pm_newobj OK hC hs0 hg h0 h1 hd hh hRc hRs kk
  case invokespecial j =>
    have hl : len = 3 := eq_of_beq hlen
    subst hl
    exact pm_libOk (sp := true) OK hC hfr hlo (by omega) (by omega) hd hh kk
  case invokestatic j =>
    have hl : len = 3 := eq_of_beq hlen
    subst hl
    exact pm_libOk (sp := false) OK hC hfr hlo (by omega) (by omega) hd hh kk
  case invokevirtual j =>
    have hl : len = 3 := eq_of_beq hlen
    subst hl
    exact pm_libVOk OK hC hfr hlo (by omega) (by omega) hd hh kk
  all_goals cases hh
end PMO
end MG15cstrx1
