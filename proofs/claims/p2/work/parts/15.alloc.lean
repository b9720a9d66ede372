/-! new cells, and what the library does -/
section PMA
variable {p : Program} {l : Launch} {e : Env} {R : Room} {s : State} {m : MethodId} {args : Array Value} {below : List Frame} {meth : Method} {c : Code} {Q : State → Prop}
variable {T : pm_Tab} {G Ns : List Cond} {D : va_G} {aC : Nat → ClassId} {b g k fr lo pc sz sl sz0 sl0 : Nat} {L : pm_L} {S : List Value} {h : pm_H} {st' : pm_St}
theorem pm_fresh {q : Nat} {x : va_E} {H1 : Heap} (hD : va_D (fun q => b ≤ q) (pm_w aC b h sz ++ [(q, x)])) (hP : va_P D (pm_cl T) (pm_w aC b h sz ++ [(q, x)]) H1) (hz : H1.size ≤ b + sz + 1) : q = b + sz := by
  have hg : (pm_w aC b h sz ++ [(q, x)])[sz]? = some (q, x) := by
    rw [List.getElem?_append_right (by rw [pm_w_len]; exact Nat.le_refl _), pm_w_len, Nat.sub_self]
    rfl
  have h1 : q < H1.size := (hP sz _ hg).lt
  have h2 : b ≤ q := hD.2 sz _ hg
  by_cases h3 : q < b + sz
  · have h4 : (pm_w aC b h sz ++ [(q, x)])[q - b]? = some (b + (q - b), pm_trE aC b (h (q - b))) := by
      rw [List.getElem?_append_left (by rw [pm_w_len]; omega)]
      exact pm_w_get (by omega)
    have h5 := hD.1 sz (q - b) _ _ hg h4 (by dsimp only; omega)
    omega
  · omega
theorem pm_pushP {H1 : Heap} {q : Nat} {e : pm_E} {e' : va_E} (hP1 : va_P D (pm_cl T) (pm_w aC b h sz ++ [(q, e')]) H1) (hq : q = b + sz) (he : e' = pm_trE aC b e) : va_P D (pm_cl T) (pm_w aC b (va_up h sz e) (sz + 1)) H1 := by
  rw [hq, pm_w_push he] at hP1
  exact hP1
theorem pm_newobj (OK : pm_ok T G Ns) (hC : pm_C T G Ns D aC b k p s m args meth c) (hs0 : s.heap.size = b + sz0 + g) (hg : g = 0 ∨ st'.2.2.2.2.1 = sz0) (h0 : sz0 ≤ sz) (h1 : sl0 ≤ sl) {j : Nat} (hd : decode (pm_code T k) pc = .ok (.new j, 3)) (hh : pm_newO T k j pc L S h sz sl = some st') (hRc : st'.2.2.2.2.1 ≤ sz0 + R.cells) (hRs : st'.2.2.2.2.2 ≤ sl0 + R.slots)
    (kk : pm_V p l e R s m args below meth c Q T D aC b k sz0 sl0 st') : pm_V p l e R s m args below meth c Q T D aC b k sz0 sl0 (pc, L, S, h, sz, sl) := by
  obtain ⟨hx, hb, -, hown, hts, hK, -⟩ := hC
  unfold pm_newO at hh
  split at hh
  case h_2 => cases hh
  case h_1 ci e1 =>
  split at hh
  case isFalse => cases hh
  case isTrue hci =>
  obtain ⟨C, F, N, ty, q1, q2, q3, q4, q5, q6, q7, q8, q9⟩ := (OK.2.2.2.2.2.1 _ _ _ e1).1 hci
  unfold pm_nw at hh
  cases hh
  rw [q7] at hRs
  dsimp only at hRc hRs hg
  have hg0 : g = 0 := by omega
  subst hg0
  intro H locs ls hP hS hl
  refine va_new (ci := ci) (fs := pm_df T ci) hx hb hts q2 ty q3 hown (hts _ q4) (hts _ q5) (hts _ q6) hK.1 hP (pm_w_D aC b h sz) hS (fun q hq => by omega) q1 q8 (by dsimp only; omega) (by dsimp only; omega) hd (fun q H1 hP1 hD1 hS1 => ?_)
  refine pm_sized fun hz => ?_
  dsimp only at hz hP1 hD1
  have hq := pm_fresh hD1 hP1 (by omega)
  have hP2 := pm_pushP (e := .inr (ci, pm_df T ci)) hP1 hq (by show _ = Sum.inr (ci, (pm_df T ci).map (pm_tr aC b)); rw [q9])
  have hW := kk H1 locs ls hP2 hS1 hl
  rw [q7] at hW
  subst hq
  exact W.cs (by dsimp only; omega) (by dsimp only; omega) hW
theorem pm_aC_eq {tys : List (ClassId × FieldType)} {kd : Nat} {cA c2 : ClassId} {ty : FieldType} (h1 : va_K D (pm_cl T) tys s) (h2 : tys[kd]? = some (c2, ty)) (h3 : va_K D (pm_cl T) (tys ++ [(cA, ty)]) s) : cA = c2 := by
  have a1 := (h1.2 kd _ h2).2
  have a2 := (h3.2 tys.length (cA, ty) (by rw [List.getElem?_append_right (Nat.le_refl _), Nat.sub_self]; rfl)).2
  dsimp only at a1 a2
  unfold va_RA at a1 a2
  cases ty with
  | object C =>
    obtain ⟨_, _, _, _, _, x1⟩ := a1
    obtain ⟨_, _, _, _, _, x2⟩ := a2
    exact Option.some.inj (x2.symm.trans x1)
  | _ => exact Option.some.inj (a2.symm.trans a1)
theorem pm_newarr (OK : pm_ok T G Ns) (hC : pm_C T G Ns D aC b k p s m args meth c) (hs0 : s.heap.size = b + sz0 + g) (hg : g = 0) (h0 : sz0 ≤ sz) (h1 : sl0 ≤ sl) {at_ : ArrayType} {ty : FieldType} (hty : newarray.typeOf at_ = ty) (hno : ∀ C, ty ≠ .object C) (hby : componentBytes ty ≤ 8) {n : Int32} {r : List Value} {kd : Nat} {a0 : vp_A} (ha0 : ∀ cA : ClassId, vp_cell cA a0 = arrV cA n.toNatClampNeg (fun _ => defaultValue ty)) (htr : pm_trA b a0 = a0) (hk : pm_tysAt T ty = some kd) (hn : ¬ n < 0) (hN : n.toNatClampNeg ≤ 65536)
    (hd : decode (pm_code T k) pc = .ok (.newarray at_, 2)) (hRc : sz + 1 ≤ sz0 + R.cells) (hRs : sl + n.toNatClampNeg ≤ sl0 + R.slots)
    (kk : pm_V p l e R s m args below meth c Q T D aC b k sz0 sl0 (pc + 2, L, .ref sz :: r, va_up h sz (.inl (kd, a0)), sz + 1, sl + n.toNatClampNeg)) : pm_V p l e R s m args below meth c Q T D aC b k sz0 sl0 (pc, L, .int n :: r, h, sz, sl) := by
  obtain ⟨hx, hb, -, hown, hts, hK, -⟩ := hC
  subst hg
  have harr : Cond.arrayClass ty ∈ G := (OK.2.2.2.2.2.2.1 ty (by rw [hk]; exact fun q => by cases q)).resolve_right (fun ⟨C, q⟩ => hno C q)
  intro H locs ls hP hS hl
  refine va_newa (a0 := a0) hx hb (by rw [hty]; exact hts _ harr) hty hK.1 hP (pm_w_D aC b h sz) hS (fun q hq => by omega) ha0 hn rfl (Nat.le_trans (Nat.mul_le_mul hN hby) (by decide)) (by dsimp only; omega) (by dsimp only; omega) hd (fun q cA H1 hK1 hP1 hD1 hS1 => ?_)
  have hc2 := pm_aC_eq hK.1 (pm_tys_get (pm_tysAt_get hk)) hK1
  subst hc2
  refine pm_sized fun hz => ?_
  dsimp only at hz hP1 hD1
  have hq := pm_fresh hD1 hP1 (by omega)
  have hW := kk H1 locs ls (pm_pushP hP1 hq (by show _ = Sum.inl (aC kd, pm_trA b a0); rw [htr])) hS1 hl
  subst hq
  exact W.cs (by dsimp only; omega) (by dsimp only; omega) hW
theorem pm_newqarr (OK : pm_ok T G Ns) (hC : pm_C T G Ns D aC b k p s m args meth c) (hs0 : s.heap.size = b + sz0 + g) (hg : g = 0 ∨ st'.2.2.2.2.1 = sz0) (h0 : sz0 ≤ sz) (h1 : sl0 ≤ sl) {j : Nat} (hd : decode (pm_code T k) pc = .ok (.anewarray j, 3)) (hh : pm_newQ T k j pc L S h sz sl = some st') (hRc : st'.2.2.2.2.1 ≤ sz0 + R.cells) (hRs : st'.2.2.2.2.2 ≤ sl0 + R.slots)
    (kk : pm_V p l e R s m args below meth c Q T D aC b k sz0 sl0 st') : pm_V p l e R s m args below meth c Q T D aC b k sz0 sl0 (pc, L, S, h, sz, sl) := by
  obtain ⟨hx, hb, -, hown, hts, hK, -⟩ := hC
  unfold pm_newQ at hh
  split at hh
  case h_2 => cases hh
  case h_1 n r =>
  split at hh
  case h_2 => cases hh
  case h_1 q0 e1 =>
  split at hh
  case isFalse => cases hh
  case isTrue hci =>
  obtain ⟨hq0, hn, hN⟩ := hci
  obtain ⟨C, q1, q2, q3⟩ := (OK.2.2.2.2.2.1 _ _ _ e1).2 hq0 _ rfl
  unfold pm_nw at hh
  cases hh
  dsimp only at hRc hRs hg
  have hg0 : g = 0 := by omega
  subst hg0
  intro H locs ls hP hS hl
  refine va_newq hx hb hown (hts _ q2) (hK.2.1 _ q3) hK.1 hP (pm_w_D aC b h sz) hS (fun q hq => by omega) hn rfl (by omega) (by dsimp only; omega) (by dsimp only; omega) hd (fun q cA H1 hK1 hP1 hD1 hS1 => ?_)
  have hc2 := pm_aC_eq hK.1 (pm_tys_get q1) hK1
  subst hc2
  refine pm_sized fun hz => ?_
  dsimp only at hz hP1 hD1
  have hq := pm_fresh hD1 hP1 (by omega)
  have hW := kk H1 locs ls (pm_pushP hP1 hq rfl) hS1 hl
  subst hq
  exact W.cs (by dsimp only; omega) (by dsimp only; omega) hW
theorem pm_libOk (OK : pm_ok T G Ns) (hC : pm_C T G Ns D aC b k p s m args meth c) (hfr : R.frames = fr) (hlo : R.locals = lo) (hcl : sz - sz0 ≤ R.cells) (hsl : sl - sl0 ≤ R.slots) {sp : Bool} {j : Nat} (hd : decode (pm_code T k) pc = .ok (if sp = true then .invokespecial j else .invokestatic j, 3)) (hh : pm_libW T sp fr lo k j pc L S h sz sl = some st')
    (kk : pm_V p l e R s m args below meth c Q T D aC b k sz0 sl0 st') : pm_V p l e R s m args below meth c Q T D aC b k sz0 sl0 (pc, L, S, h, sz, sl) := by
  obtain ⟨hx, hb, hml, hown, hts, hK, -⟩ := hC
  unfold pm_libW at hh
  split at hh
  case h_2 => cases hh
  case h_1 w t e1 =>
  have hw := OK.2.2.2.2.1 _ _ _ _ e1
  split at hh
  case isFalse => cases hh
  case isTrue hsp =>
  unfold pm_lib at hh
  split at hh
  case h_5 => cases hh
  case h_1 a r =>
    split at hh
    case isFalse => cases hh
    case isTrue hc =>
    cases hh
    obtain ⟨w1, w2, w3⟩ := hw
    have hsp' : sp = true := hsp.symm
    subst hsp'
    intro H locs ls hP hS hl
    refine W.objInit hx hb hown (hts _ w1) (hts _ w2) (hts _ w3) rfl (hl.1.trans hml.symm) (a := b + a) (rest := r.map (pm_tr aC b)) rfl hd (by omega) ?_ (kk H locs ls hP hS hl)
    show 2 * 0 + _ + 12 ≤ _
    rw [pm_sum_tr]
    omega
  case h_2 y x r =>
    split at hh
    case isFalse => cases hh
    case isTrue hc =>
    cases hh
    obtain ⟨w1, w2, w3, w4⟩ := hw
    have hsp' : sp = false := hsp.symm
    subst hsp'
    intro H locs ls hP hS hl
    exact va_mmin hx hb (hml.trans hl.1.symm) hown (hts _ w1) (hts _ w2) (hts _ w3) (hts _ w4) (by omega) (by rw [pm_sum_tr]; omega) hcl hsl hd (kk H locs ls hP hS hl)
  case h_3 y x r =>
    split at hh
    case isFalse => cases hh
    case isTrue hc =>
    cases hh
    obtain ⟨w1, w2, w3, w4⟩ := hw
    have hsp' : sp = false := hsp.symm
    subst hsp'
    intro H locs ls hP hS hl
    exact va_mmax hx hb (hml.trans hl.1.symm) hown (hts _ w1) (hts _ w2) (hts _ w3) (hts _ w4) (by omega) (by rw [pm_sum_tr]; omega) hcl hsl hd (kk H locs ls hP hS hl)
  case h_4 n dp a s0 a0 r =>
    split at hh
    case h_2 => cases hh
    case h_1 k0 n0 f kd n1 g ea eb =>
    split at hh
    case isFalse => cases hh
    case isTrue hc =>
    cases hh
    obtain ⟨⟨c1, c2⟩, c3, c4, c5, c6, c7⟩ := hc
    obtain ⟨w1, w2, w3, w4⟩ := hw
    have hsp' : sp = false := hsp.symm
    subst hsp'
    obtain ⟨ha0, hcell0, hty0⟩ := pm_iar_inv ea
    obtain ⟨ha, hcell, hty⟩ := pm_iar_inv eb
    intro H locs ls hP hS hl
    refine va_copyi hx hb (hml.trans hl.1.symm) hown (hts _ w1) (hts _ w2) (hts _ w3) (hts _ w4) hK.1 hP (pm_w_D aC b h sz) hS a0 a k0 kd (pm_w_P hP ha0 hcell0) (pm_w_P hP ha hcell) (pm_tys_get hty0) (pm_tys_get hty) rfl c3 c4 c5 c6 c7 (fun i _ => rfl) (by omega) ?_ hd (fun H1 locs1 hP1 _ hS1 => kk H1 locs1 ls (pm_setP hP1 rfl) hS1 hl)
    rw [pm_sum_tr]
    have hn : nativeFrameWords "java/lang/System" "arraycopy" 5 + 11 ≤ 60 := by decide +kernel
    omega
end PMA
