/-! the soundness of every simple instruction -/
section PMO
variable {p : Program} {l : Launch} {e : Env} {R : Room} {s : State} {m : MethodId} {args : Array Value} {below : List Frame} {meth : Method} {c : Code} {Q : State → Prop}
variable {T : pm_Tab} {G Ns : List Cond} {D : va_G} {aC : Nat → ClassId} {b g k fr lo pc sz sl sz0 sl0 : Nat} {L : pm_L} {S : List Value} {h : pm_H} {st' : pm_St}
theorem sw_ldcwT {T : State} {locs : List Loc} {cells slots : Nat} (X : Stand p l e R s m args below meth c T locs cells slots) (hexec : p.tables.exec = Jvm.exec) {own text : String} {index : Nat} {a : Addr} (hown : s.vm.findClass own = some m.cls)
    (hconst : (Cond.stringRef own index text).before args s = true) (hev : (Term.string own index).eval args s none [] s = some (.ref a)) {f : JFrame} (hg : f.method = m) (hdg : decode c.code f.pc = .ok (.ldc_w index, 3)) :
    ∀ target, Steps p.tables e below (T.setTop { f with pc := f.pc + 3, stack := .ref a :: f.stack }) target → Steps p.tables e below (T.setTop f) target := by
  obtain ⟨k, cf, i, a', hk, hcf, hcp, -, hr, hev'⟩ := Cond.stringRef_spec hown hconst
  cases hev.symm.trans hev'
  obtain ⟨k', hk', he⟩ := X.warmed.alike.2.2 _ _ hk
  have hr' : k'.resolved[index]? = some (some (.string a)) := by
    rcases X.warmed.entry hk hk' index with z | ⟨z, -⟩
    · rw [z]; exact hr
    · rw [hr] at z; cases z
  intro target hrest
  subst hg
  jvm_step X.here [hexec, hdg, ldc_w.wp_string (e := e) (s := T) (f := f) X.here.top hk' (by rw [he]; exact hcf) hcp hr']
  exact hrest
theorem sw_ldcwS {cc : ByteArray} {H : Heap} {locs : List Loc} {cells slots : Nat} {ls : Array Slot} {rest : List Value} (hexec : p.tables.exec = Jvm.exec) (hb : c.code = cc) {own tx : String} {index q : Nat} (hown : s.vm.findClass own = some m.cls) (hZ : vk_R own index tx q s) (hdg : decode cc pc = .ok (.ldc_w index, 3))
    (k : W p l e R s m args below meth c H locs cells slots Q (F0 m (pc + 3) ls (.ref q :: rest))) : W p l e R s m args below meth c H locs cells slots Q (F0 m pc ls rest) := by
  intro T hT X
  obtain ⟨t, a1, b1⟩ := k T hT X
  exact ⟨t, sw_ldcwT X hexec hown (text := tx) (a := q) hZ.1 hZ.2 (f := F0 m pc ls rest) rfl (by rw [hb]; exact hdg) t a1, b1⟩
set_option maxHeartbeats 4000000 in
theorem pm_simple_ok (OK : pm_ok T G Ns) (hC : pm_C T G Ns D aC b k p s m args meth c) (hfr : R.frames = fr) (hlo : R.locals = lo) (hs0 : s.heap.size = b + sz0 + g) (hg : g = 0 ∨ st'.2.2.2.2.1 = sz0) (h0 : sz0 ≤ sz) (h1 : sl0 ≤ sl) (hmc : sz ≤ st'.2.2.2.2.1) (hms : sl ≤ st'.2.2.2.2.2) (hRc : st'.2.2.2.2.1 ≤ sz0 + R.cells) (hRs : st'.2.2.2.2.2 ≤ sl0 + R.slots)
    {i : Instr} {len : Nat} (hlen : pm_lenOk i len = true) (hd : decode (pm_code T k) pc = .ok (i, len)) (hh : pm_simple T fr lo k i pc L S h sz sl = some st')
    (kk : pm_V p l e R s m args below meth c Q T D aC b k sz0 sl0 st') : pm_V p l e R s m args below meth c Q T D aC b k sz0 sl0 (pc, L, S, h, sz, sl) := by
  have hx := hC.1
  have hb := hC.2.1
  have hml := hC.2.2.1
  have hown := hC.2.2.2.1
  have hts := hC.2.2.2.2.1
  have hK := hC.2.2.2.2.2.1
  cases i
  case iconst n =>
    have hl : len = 1 := eq_of_beq hlen
    subst hl
    cases hh
    intro H locs ls hP hS hl
    exact lv_iconst hx hb hd rfl (kk H locs ls hP hS hl)
  case bipush n =>
    have hl : len = 2 := eq_of_beq hlen
    subst hl
    cases hh
    intro H locs ls hP hS hl
    exact lv_bipush hx hb hd rfl (kk H locs ls hP hS hl)
  case sipush n =>
    have hl : len = 3 := eq_of_beq hlen
    subst hl
    cases hh
    intro H locs ls hP hS hl
    exact lv_sipush hx hb hd rfl (kk H locs ls hP hS hl)
  case lconst n =>
    have hl : len = 1 := eq_of_beq hlen
    subst hl
    cases hh
    intro H locs ls hP hS hl
    exact lv_lconst hx hb hd rfl (kk H locs ls hP hS hl)
  case ldc j =>
    have hl : len = 2 := eq_of_beq hlen
    subst hl
    dsimp only [pm_simple] at hh
    split at hh
    case h_2 =>
      split at hh
      case h_2 => cases hh
      case h_1 i e1 =>
      cases hh
      obtain ⟨tx, hR⟩ := hK.2.2.1 _ _ _ e1
      intro H locs ls hP hS hl
      exact va_ldcS hx hb hown hR hd (kk H locs ls hP hS hl)
    case h_1 v e1 =>
    cases hh
    intro H locs ls hP hS hl
    exact lv_ldc hx hb hown (hts _ (OK.2.2.2.2.2.2.2.1 _ _ _ e1)) hd (kk H locs ls hP hS hl)
  case ldc_w j =>
    have hl : len = 3 := eq_of_beq hlen
    subst hl
    dsimp only [pm_simple] at hh
    split at hh
    case h_2 =>
      split at hh
      case h_2 => cases hh
      case h_1 i e1 =>
      cases hh
      obtain ⟨tx, hR⟩ := hK.2.2.1 _ _ _ e1
      intro H locs ls hP hS hl
      exact sw_ldcwS hx hb hown hR hd (kk H locs ls hP hS hl)
    case h_1 v e1 =>
    cases hh
    intro H locs ls hP hS hl
    exact lv_ldcw hx hb hown (hts _ (OK.2.2.2.2.2.2.2.1 _ _ _ e1)) hd (kk H locs ls hP hS hl)
  case ldc2_w j =>
    have hl : len = 3 := eq_of_beq hlen
    subst hl
    dsimp only [pm_simple] at hh
    split at hh
    case h_2 => cases hh
    case h_1 v e1 =>
    cases hh
    intro H locs ls hP hS hl
    exact lv_ldc2 hx hb hown (hts _ (OK.2.2.2.2.2.2.2.2 _ _ _ e1)) hd (kk H locs ls hP hS hl)
  case iload j =>
    have hl : len = 2 := eq_of_beq hlen
    subst hl
    obtain ⟨v, e1, e2, rfl⟩ := pm_lo_inv hh
    obtain ⟨x, rfl⟩ := pm_isT_0 e2
    intro H locs ls hP hS hl
    exact lv_iload hx hb hd (hl.2.2 _ _ e1) (kk H locs ls hP hS hl)
  case iload_n j =>
    have hl : len = 1 := eq_of_beq hlen
    subst hl
    obtain ⟨v, e1, e2, rfl⟩ := pm_lo_inv hh
    obtain ⟨x, rfl⟩ := pm_isT_0 e2
    intro H locs ls hP hS hl
    exact lv_iload_n hx hb hd rfl (hl.2.2 _ _ e1) (kk H locs ls hP hS hl)
  case lload j =>
    have hl : len = 2 := eq_of_beq hlen
    subst hl
    obtain ⟨v, e1, e2, rfl⟩ := pm_lo_inv hh
    obtain ⟨x, rfl⟩ := pm_isT_1 e2
    intro H locs ls hP hS hl
    exact lv_lload hx hb hd (hl.2.2 _ _ e1) (kk H locs ls hP hS hl)
  case lload_n j =>
    have hl : len = 1 := eq_of_beq hlen
    subst hl
    obtain ⟨v, e1, e2, rfl⟩ := pm_lo_inv hh
    obtain ⟨x, rfl⟩ := pm_isT_1 e2
    intro H locs ls hP hS hl
    exact lv_lload_n hx hb hd rfl (hl.2.2 _ _ e1) (kk H locs ls hP hS hl)
  case aload j =>
    have hl : len = 2 := eq_of_beq hlen
    subst hl
    obtain ⟨v, e1, e2, rfl⟩ := pm_lo_inv hh
    intro H locs ls hP hS hl
    obtain ⟨x, rfl | rfl⟩ := pm_isT_2 e2
    all_goals exact lv_aload hx hb hd (hl.2.2 _ _ e1) (kk H locs ls hP hS hl)
  case aload_n j =>
    have hl : len = 1 := eq_of_beq hlen
    subst hl
    obtain ⟨v, e1, e2, rfl⟩ := pm_lo_inv hh
    intro H locs ls hP hS hl
    obtain ⟨x, rfl | rfl⟩ := pm_isT_2 e2
    all_goals exact lv_aload_n hx hb hd rfl (hl.2.2 _ _ e1) (kk H locs ls hP hS hl)
  case istore j =>
    have hl : len = 2 := eq_of_beq hlen
    subst hl
    obtain ⟨v, r, rfl, e2, e3, rfl⟩ := pm_so_inv hh
    obtain ⟨x, rfl⟩ := pm_isT_0 e2
    intro H locs ls hP hS hl
    exact lv_istore hx hb hd hl.has e3 rfl (fun ls' hl' => kk H locs ls' hP hS (pm_loc.st1 hl'))
  case istore_n j =>
    have hl : len = 1 := eq_of_beq hlen
    subst hl
    obtain ⟨v, r, rfl, e2, e3, rfl⟩ := pm_so_inv hh
    obtain ⟨x, rfl⟩ := pm_isT_0 e2
    intro H locs ls hP hS hl
    exact lv_istore_n hx hb hd rfl hl.has e3 rfl (fun ls' hl' => kk H locs ls' hP hS (pm_loc.st1 hl'))
  case astore j =>
    have hl : len = 2 := eq_of_beq hlen
    subst hl
    obtain ⟨v, r, rfl, e2, e3, rfl⟩ := pm_so_inv hh
    intro H locs ls hP hS hl
    obtain ⟨x, rfl | rfl⟩ := pm_isT_2 e2
    all_goals exact lv_astore hx hb hd hl.has e3 rfl (fun ls' hl' => kk H locs ls' hP hS (pm_loc.st1 hl'))
  case astore_n j =>
    have hl : len = 1 := eq_of_beq hlen
    subst hl
    obtain ⟨v, r, rfl, e2, e3, rfl⟩ := pm_so_inv hh
    intro H locs ls hP hS hl
    obtain ⟨x, rfl | rfl⟩ := pm_isT_2 e2
    all_goals exact lv_astore_n hx hb hd rfl hl.has e3 rfl (fun ls' hl' => kk H locs ls' hP hS (pm_loc.st1 hl'))
  case lstore j =>
    have hl : len = 2 := eq_of_beq hlen
    subst hl
    obtain ⟨x, r, rfl, e3, rfl⟩ := pm_sL_inv hh
    intro H locs ls hP hS hl
    exact lv_lstore hx hb hd hl.has e3 rfl (fun ls' hl' => kk H locs ls' hP hS (pm_loc.st2 (v := .long x) hl'))
  case lstore_n j =>
    have hl : len = 1 := eq_of_beq hlen
    subst hl
    obtain ⟨x, r, rfl, e3, rfl⟩ := pm_sL_inv hh
    intro H locs ls hP hS hl
    exact lv_lstore_n hx hb hd rfl hl.has e3 rfl (fun ls' hl' => kk H locs ls' hP hS (pm_loc.st2 (v := .long x) hl'))
  case iinc j n =>
    have hl : len = 3 := eq_of_beq hlen
    subst hl
    dsimp only [pm_simple] at hh
    split at hh
    case h_2 => cases hh
    case h_1 x e1 =>
    split at hh
    case isFalse => cases hh
    case isTrue e3 =>
    cases hh
    intro H locs ls hP hS hl
    obtain ⟨q, hq, hq2⟩ := List.getElem_of_mem (pm_ll_mem (aC := aC) (b := b) e1)
    exact lv_iinc (k := q) (x := x) hx hb hd hl.has (by rw [List.getElem?_eq_getElem hq, hq2]; rfl) rfl e3 rfl (fun ls' hl' => kk H locs ls' hP hS (pm_loc.st1 (v := .int (x + Int32.ofInt n)) hl'))
  case iadd =>
    have hl : len = 1 := eq_of_beq hlen
    subst hl
    obtain ⟨x, y, r, rfl, rfl⟩ := pm_bi_inv hh
    intro H locs ls hP hS hl
    exact lv_iadd hx hb hd (kk H locs ls hP hS hl)
  case isub =>
    have hl : len = 1 := eq_of_beq hlen
    subst hl
    obtain ⟨x, y, r, rfl, rfl⟩ := pm_bi_inv hh
    intro H locs ls hP hS hl
    exact lv_isub hx hb hd (kk H locs ls hP hS hl)
  case imul =>
    have hl : len = 1 := eq_of_beq hlen
    subst hl
    obtain ⟨x, y, r, rfl, rfl⟩ := pm_bi_inv hh
    intro H locs ls hP hS hl
    exact lv_imul hx hb hd (kk H locs ls hP hS hl)
  case iand =>
    have hl : len = 1 := eq_of_beq hlen
    subst hl
    obtain ⟨x, y, r, rfl, rfl⟩ := pm_bi_inv hh
    intro H locs ls hP hS hl
    exact lv_iand hx hb hd (kk H locs ls hP hS hl)
  case ior =>
    have hl : len = 1 := eq_of_beq hlen
    subst hl
    obtain ⟨x, y, r, rfl, rfl⟩ := pm_bi_inv hh
    intro H locs ls hP hS hl
    exact lv_ior hx hb hd (kk H locs ls hP hS hl)
  case ixor =>
    have hl : len = 1 := eq_of_beq hlen
    subst hl
    obtain ⟨x, y, r, rfl, rfl⟩ := pm_bi_inv hh
    intro H locs ls hP hS hl
    exact lv_ixor hx hb hd (kk H locs ls hP hS hl)
  case ishl =>
    have hl : len = 1 := eq_of_beq hlen
    subst hl
    obtain ⟨x, y, r, rfl, rfl⟩ := pm_bi_inv hh
    intro H locs ls hP hS hl
    exact lv_ishl hx hb hd (kk H locs ls hP hS hl)
  case ishr =>
    have hl : len = 1 := eq_of_beq hlen
    subst hl
    obtain ⟨x, y, r, rfl, rfl⟩ := pm_bi_inv hh
    intro H locs ls hP hS hl
    exact lv_ishr hx hb hd (kk H locs ls hP hS hl)
  case iushr =>
    have hl : len = 1 := eq_of_beq hlen
    subst hl
    obtain ⟨x, y, r, rfl, rfl⟩ := pm_bi_inv hh
    intro H locs ls hP hS hl
    exact lv_iushr hx hb hd rfl (kk H locs ls hP hS hl)
  case idiv =>
    have hl : len = 1 := eq_of_beq hlen
    subst hl
    obtain ⟨x, y, r, rfl, hy, rfl⟩ := pm_bd_inv hh
    intro H locs ls hP hS hl
    exact lv_idiv hx hb hd hy (kk H locs ls hP hS hl)
  case irem =>
    have hl : len = 1 := eq_of_beq hlen
    subst hl
    obtain ⟨x, y, r, rfl, hy, rfl⟩ := pm_bd_inv hh
    intro H locs ls hP hS hl
    exact lv_irem hx hb hd hy (kk H locs ls hP hS hl)
  case ineg =>
    have hl : len = 1 := eq_of_beq hlen
    subst hl
    obtain ⟨x, r, rfl, rfl⟩ := pm_ui_inv hh
    intro H locs ls hP hS hl
    exact lv_ineg hx hb hd (kk H locs ls hP hS hl)
  case i2l =>
    have hl : len = 1 := eq_of_beq hlen
    subst hl
    obtain ⟨x, r, rfl, rfl⟩ := pm_ui_inv hh
    intro H locs ls hP hS hl
    exact lv_i2l hx hb hd rfl (kk H locs ls hP hS hl)
  case i2b =>
    have hl : len = 1 := eq_of_beq hlen
    subst hl
    obtain ⟨x, r, rfl, rfl⟩ := pm_ui_inv hh
    intro H locs ls hP hS hl
    exact lv_i2b hx hb hd rfl (kk H locs ls hP hS hl)
  case i2s =>
    have hl : len = 1 := eq_of_beq hlen
    subst hl
    obtain ⟨x, r, rfl, rfl⟩ := pm_ui_inv hh
    intro H locs ls hP hS hl
    exact lv_i2s hx hb hd rfl (kk H locs ls hP hS hl)
  case i2c =>
    have hl : len = 1 := eq_of_beq hlen
    subst hl
    obtain ⟨x, r, rfl, rfl⟩ := pm_ui_inv hh
    intro H locs ls hP hS hl
    exact lv_i2c hx hb hd rfl (kk H locs ls hP hS hl)
  case lmul =>
    have hl : len = 1 := eq_of_beq hlen
    subst hl
    obtain ⟨x, y, r, rfl, rfl⟩ := pm_bl_inv hh
    intro H locs ls hP hS hl
    exact lv_lmul hx hb hd (kk H locs ls hP hS hl)
  case ladd =>
    have hl : len = 1 := eq_of_beq hlen
    subst hl
    obtain ⟨x, y, r, rfl, rfl⟩ := pm_bl_inv hh
    intro H locs ls hP hS hl
    exact lv_ladd hx hb hd (kk H locs ls hP hS hl)
  case lsub =>
    have hl : len = 1 := eq_of_beq hlen
    subst hl
    obtain ⟨x, y, r, rfl, rfl⟩ := pm_bl_inv hh
    intro H locs ls hP hS hl
    exact lv_lsub hx hb hd (kk H locs ls hP hS hl)
  case ldiv =>
    have hl : len = 1 := eq_of_beq hlen
    subst hl
    obtain ⟨x, y, r, rfl, hy, rfl⟩ := pm_bdL_inv hh
    intro H locs ls hP hS hl
    exact lv_ldiv hx hb hd hy (kk H locs ls hP hS hl)
  case lrem =>
    have hl : len = 1 := eq_of_beq hlen
    subst hl
    obtain ⟨x, y, r, rfl, hy, rfl⟩ := pm_bdL_inv hh
    intro H locs ls hP hS hl
    exact lv_lrem hx hb hd hy (kk H locs ls hP hS hl)
  case lcmp =>
    have hl : len = 1 := eq_of_beq hlen
    subst hl
    dsimp only [pm_simple] at hh
    split at hh
    case h_2 => cases hh
    case h_1 y x r =>
    cases hh
    intro H locs ls hP hS hl
    exact W.lcmp hx hb hd (kk H locs ls hP hS hl)
  case dup =>
    have hl : len = 1 := eq_of_beq hlen
    subst hl
    dsimp only [pm_simple] at hh
    split at hh
    case h_2 => cases hh
    case h_1 v r =>
    split at hh
    case isFalse => cases hh
    case isTrue e1 =>
    cases hh
    intro H locs ls hP hS hl
    exact lv_dup hx hb hd (by rw [pm_cat]; exact e1) (kk H locs ls hP hS hl)
  case pop =>
    have hl : len = 1 := eq_of_beq hlen
    subst hl
    dsimp only [pm_simple] at hh
    split at hh
    case h_2 => cases hh
    case h_1 v r =>
    split at hh
    case isFalse => cases hh
    case isTrue e1 =>
    cases hh
    intro H locs ls hP hS hl
    exact lv_pop hx hb hd (by rw [pm_cat]; exact e1) (kk H locs ls hP hS hl)
  case dup_x1 =>
    have hl : len = 1 := eq_of_beq hlen
    subst hl
    dsimp only [pm_simple] at hh
    split at hh
    case h_2 => cases hh
    case h_1 v w r =>
    split at hh
    case isFalse => cases hh
    case isTrue e1 =>
    cases hh
    intro H locs ls hP hS hl
    exact lv_dup_x1 hx hb hd (by rw [pm_cat]; exact e1.1) (by rw [pm_cat]; exact e1.2) (kk H locs ls hP hS hl)
  case dup_x2 =>
    have hl : len = 1 := eq_of_beq hlen
    subst hl
    dsimp only [pm_simple] at hh
    split at hh
    case h_2 => cases hh
    case h_1 v w z r =>
    split at hh
    case isFalse => cases hh
    case isTrue e1 =>
    cases hh
    intro H locs ls hP hS hl
    exact lv_dup_x2 hx hb hd (by rw [pm_cat]; exact e1.1) (by rw [pm_cat]; exact e1.2.1) (by rw [pm_cat]; exact e1.2.2) (kk H locs ls hP hS hl)
  case dup2 =>
    have hl : len = 1 := eq_of_beq hlen
    subst hl
    dsimp only [pm_simple] at hh
    split at hh
    case h_2 => cases hh
    case h_1 v w r =>
    split at hh
    case isFalse => cases hh
    case isTrue e1 =>
    cases hh
    intro H locs ls hP hS hl
    exact lv_dup2_11 hx hb hd (by rw [pm_cat]; exact e1.1) (by rw [pm_cat]; exact e1.2) (kk H locs ls hP hS hl)
  case ifCond cd off =>
    have hl : len = 3 := eq_of_beq hlen
    subst hl
    dsimp only [pm_simple] at hh
    split at hh
    case h_2 => cases hh
    case h_1 x r =>
    obtain ⟨t, e2, ⟨e1, rfl⟩ | ⟨e1, rfl⟩⟩ := pm_br_inv hh
    · intro H locs ls hP hS hl
      cases cd with
      | eq => exact lv_if_eq hx hb hd e2 (fun _ => kk H locs ls hP hS hl) (fun q => absurd (of_decide_eq_true e1) q)
      | ne => exact lv_if_ne hx hb hd e2 (fun _ => kk H locs ls hP hS hl) (fun q => absurd q (of_decide_eq_true e1))
      | lt => exact lv_if_lt hx hb hd e2 (fun _ => kk H locs ls hP hS hl) (fun q => absurd (of_decide_eq_true e1) q)
      | ge => exact lv_if_ge hx hb hd e2 (fun _ => kk H locs ls hP hS hl) (fun q => absurd (of_decide_eq_true e1) q)
      | gt => exact lv_if_gt hx hb hd e2 (fun _ => kk H locs ls hP hS hl) (fun q => absurd (of_decide_eq_true e1) q)
      | le => exact lv_if_le hx hb hd e2 (fun _ => kk H locs ls hP hS hl) (fun q => absurd (of_decide_eq_true e1) q)
    · intro H locs ls hP hS hl
      cases cd with
      | eq => exact lv_if_eq hx hb hd e2 (fun q => absurd q (of_decide_eq_false e1)) (fun _ => kk H locs ls hP hS hl)
      | ne => exact lv_if_ne hx hb hd e2 (fun q => absurd q (of_decide_eq_false e1)) (fun _ => kk H locs ls hP hS hl)
      | lt => exact lv_if_lt hx hb hd e2 (fun q => absurd q (of_decide_eq_false e1)) (fun _ => kk H locs ls hP hS hl)
      | ge => exact lv_if_ge hx hb hd e2 (fun q => absurd q (of_decide_eq_false e1)) (fun _ => kk H locs ls hP hS hl)
      | gt => exact lv_if_gt hx hb hd e2 (fun q => absurd q (of_decide_eq_false e1)) (fun _ => kk H locs ls hP hS hl)
      | le => exact lv_if_le hx hb hd e2 (fun q => absurd q (of_decide_eq_false e1)) (fun _ => kk H locs ls hP hS hl)
  case if_icmp cd off =>
    have hl : len = 3 := eq_of_beq hlen
    subst hl
    dsimp only [pm_simple] at hh
    split at hh
    case h_2 => cases hh
    case h_1 y x r =>
    obtain ⟨t, e2, ⟨e1, rfl⟩ | ⟨e1, rfl⟩⟩ := pm_br_inv hh
    · intro H locs ls hP hS hl
      cases cd with
      | eq => exact lv_icmp_eq hx hb hd e2 (fun _ => kk H locs ls hP hS hl) (fun q => absurd (of_decide_eq_true e1) q)
      | ne => exact lv_icmp_ne hx hb hd e2 (fun _ => kk H locs ls hP hS hl) (fun q => absurd q (of_decide_eq_true e1))
      | lt => exact lv_icmp_lt hx hb hd e2 (fun _ => kk H locs ls hP hS hl) (fun q => absurd (of_decide_eq_true e1) q)
      | ge => exact lv_icmp_ge hx hb hd e2 (fun _ => kk H locs ls hP hS hl) (fun q => absurd (of_decide_eq_true e1) q)
      | gt => exact lv_icmp_gt hx hb hd e2 (fun _ => kk H locs ls hP hS hl) (fun q => absurd (of_decide_eq_true e1) q)
      | le => exact lv_icmp_le hx hb hd e2 (fun _ => kk H locs ls hP hS hl) (fun q => absurd (of_decide_eq_true e1) q)
    · intro H locs ls hP hS hl
      cases cd with
      | eq => exact lv_icmp_eq hx hb hd e2 (fun q => absurd q (of_decide_eq_false e1)) (fun _ => kk H locs ls hP hS hl)
      | ne => exact lv_icmp_ne hx hb hd e2 (fun q => absurd q (of_decide_eq_false e1)) (fun _ => kk H locs ls hP hS hl)
      | lt => exact lv_icmp_lt hx hb hd e2 (fun q => absurd q (of_decide_eq_false e1)) (fun _ => kk H locs ls hP hS hl)
      | ge => exact lv_icmp_ge hx hb hd e2 (fun q => absurd q (of_decide_eq_false e1)) (fun _ => kk H locs ls hP hS hl)
      | gt => exact lv_icmp_gt hx hb hd e2 (fun q => absurd q (of_decide_eq_false e1)) (fun _ => kk H locs ls hP hS hl)
      | le => exact lv_icmp_le hx hb hd e2 (fun q => absurd q (of_decide_eq_false e1)) (fun _ => kk H locs ls hP hS hl)
  case goto off =>
    have hl : len = 3 := eq_of_beq hlen
    subst hl
    obtain ⟨t, e2, rfl⟩ := pm_jp_inv hh
    intro H locs ls hP hS hl
    exact lv_goto hx hb hd e2 (kk H locs ls hP hS hl)
  case tableswitch d lo1 hi1 offs =>
    dsimp only [pm_simple] at hh
    split at hh
    case h_2 => cases hh
    case h_1 x r =>
    split at hh
    case isTrue e1 =>
      obtain ⟨t, e2, rfl⟩ := pm_jp_inv hh
      intro H locs ls hP hS hl
      exact lv_tableOut hx hb hd e1 e2 (kk H locs ls hP hS hl)
    case isFalse e1 =>
      split at hh
      case h_2 => cases hh
      case h_1 off e3 =>
      obtain ⟨t, e2, rfl⟩ := pm_jp_inv hh
      intro H locs ls hP hS hl
      exact lv_tableIn hx hb hd (fun q => e1 (Or.inl q)) (fun q => e1 (Or.inr q)) e3 e2 (kk H locs ls hP hS hl)
  case lookupswitch d ps =>
    dsimp only [pm_simple] at hh
    split at hh
    case h_2 => cases hh
    case h_1 x r =>
    split at hh
    case isFalse => cases hh
    case isTrue e1 =>
      obtain ⟨t, e2, rfl⟩ := pm_jp_inv hh
      intro H locs ls hP hS hl
      exact lv_lookup hx hb hd e1 rfl e2 (kk H locs ls hP hS hl)
  case getfield j =>
    have hl : len = 3 := eq_of_beq hlen
    subst hl
    exact pm_getfield OK hC hd hh kk
  case putfield j =>
    have hl : len = 3 := eq_of_beq hlen
    subst hl
    exact pm_putfield OK hC hd hh kk
  case iaload =>
    have hl : len = 1 := eq_of_beq hlen
    subst hl
    exact pm_iald hC (fun H locs ls a kd n f i r q1 q2 q3 q4 q5 => va_iald hx hb hK.1 q1 a kd q2 q3 q4 hd q5) hh kk
  case caload =>
    have hl : len = 1 := eq_of_beq hlen
    subst hl
    exact pm_iald hC (fun H locs ls a kd n f i r q1 q2 q3 q4 q5 => va_cald hx hb hK.1 q1 a kd q2 q3 q4 hd q5) hh kk
  case baload =>
    have hl : len = 1 := eq_of_beq hlen
    subst hl
    exact pm_iald hC (fun H locs ls a kd n f i r q1 q2 q3 q4 q5 => va_zald hx hb hK.1 q1 a kd q2 q3 q4 hd q5) hh kk
  case bastore =>
    have hl : len = 1 := eq_of_beq hlen
    subst hl
    exact pm_iast hC (fun H locs ls a kd n f x i r q1 q2 q3 q4 q5 q6 q7 => va_zast hx hb hK.1 q1 q2 q3 a kd q4 q5 q6 hd q7) hh kk
  case laload =>
    have hl : len = 1 := eq_of_beq hlen
    subst hl
    exact pm_lald hC hd hh kk
  case aaload =>
    have hl : len = 1 := eq_of_beq hlen
    subst hl
    exact pm_aald hC hd hh kk
  case iastore =>
    have hl : len = 1 := eq_of_beq hlen
    subst hl
    exact pm_iast hC (fun H locs ls a kd n f x i r q1 q2 q3 q4 q5 q6 q7 => va_iast hx hb hK.1 q1 q2 q3 a kd q4 q5 q6 hd q7) hh kk
  case castore =>
    have hl : len = 1 := eq_of_beq hlen
    subst hl
    exact pm_iast hC (fun H locs ls a kd n f x i r q1 q2 q3 q4 q5 q6 q7 => va_cast hx hb hK.1 q1 q2 q3 a kd q4 q5 q6 hd q7) hh kk
  case lastore =>
    have hl : len = 1 := eq_of_beq hlen
    subst hl
    exact pm_last hC hd hh kk
  case aastore =>
    have hl : len = 1 := eq_of_beq hlen
    subst hl
    exact pm_aast hC hd hh kk
  case arraylength =>
    have hl : len = 1 := eq_of_beq hlen
    subst hl
    exact pm_alen hC hd hh kk
  case newarray at_ =>
    have hl : len = 2 := eq_of_beq hlen
    subst hl
    cases at_
    case float => cases hh
    case double => cases hh
    case byte => cases hh
    case short => cases hh
    case int =>
      dsimp only [pm_simple, pm_newI] at hh
      split at hh
      case h_2 => cases hh
      case h_1 n r =>
      split at hh
      case h_2 => cases hh
      case h_1 kd e1 =>
      split at hh
      case isFalse => cases hh
      case isTrue e2 =>
      unfold pm_nw at hh
      cases hh
      exact pm_newarr (at_ := .int) (ty := .int) OK hC hs0 (by dsimp only at hg; omega) h0 h1 rfl (fun C q => by cases q) (by decide) (fun cA => rfl) rfl e1 e2.1 e2.2 hd hRc hRs kk
    case char =>
      dsimp only [pm_simple, pm_newI] at hh
      split at hh
      case h_2 => cases hh
      case h_1 n r =>
      split at hh
      case h_2 => cases hh
      case h_1 kd e1 =>
      split at hh
      case isFalse => cases hh
      case isTrue e2 =>
      unfold pm_nw at hh
      cases hh
      exact pm_newarr (at_ := .char) (ty := .char) OK hC hs0 (by dsimp only at hg; omega) h0 h1 rfl (fun C q => by cases q) (by decide) (fun cA => rfl) rfl e1 e2.1 e2.2 hd hRc hRs kk
    case boolean =>
      dsimp only [pm_simple, pm_newI] at hh
      split at hh
      case h_2 => cases hh
      case h_1 n r =>
      split at hh
      case h_2 => cases hh
      case h_1 kd e1 =>
      split at hh
      case isFalse => cases hh
      case isTrue e2 =>
      unfold pm_nw at hh
      cases hh
      exact pm_newarr (at_ := .boolean) (ty := .boolean) OK hC hs0 (by dsimp only at hg; omega) h0 h1 rfl (fun C q => by cases q) (by decide) (fun cA => rfl) rfl e1 e2.1 e2.2 hd hRc hRs kk
    case long =>
      dsimp only [pm_simple, pm_newL] at hh
      split at hh
      case h_2 => cases hh
      case h_1 n r =>
      split at hh
      case h_2 => cases hh
      case h_1 kd e1 =>
      split at hh
      case isFalse => cases hh
      case isTrue e2 =>
      unfold pm_nw at hh
      cases hh
      exact pm_newarr (at_ := .long) (ty := .long) OK hC hs0 (by dsimp only at hg; omega) h0 h1 rfl (fun C q => by cases q) (by decide) (fun cA => rfl) rfl e1 e2.1 e2.2 hd hRc hRs kk
  case anewarray j =>
    have hl : len = 3 := eq_of_beq hlen
    subst hl
    exact pm_newqarr OK hC hs0 hg h0 h1 hd hh hRc hRs kk
  case new j =>
    have hl : len = 3 := eq_of_beq hlen
    subst hl
    exact pm_newobj OK hC hs0 hg h0 h1 hd hh hRc hRs kk
  case invokespecial j =>
    have hl : len = 3 := eq_of_beq hlen
    subst hl
    exact pm_libOk (sp := true) OK hC hfr hlo (by omega) (by omega) hd hh kk
  case invokestatic j =>
    have hl : len = 3 := eq_of_beq hlen
    subst hl
    exact pm_libOk (sp := false) OK hC hfr hlo (by omega) (by omega) hd hh kk
  case invokevirtual j =>
    have hl : len = 3 := eq_of_beq hlen
    subst hl
    exact pm_libVOk OK hC hfr hlo (by omega) (by omega) hd hh kk
  all_goals cases hh
end PMO
