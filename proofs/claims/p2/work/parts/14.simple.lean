/-! one simple instruction -/
section PMS
variable {p : Program} {l : Launch} {e : Env} {R : Room} {s : State} {m : MethodId} {args : Array Value} {below : List Frame} {meth : Method} {c : Code} {Q : State → Prop}
variable {T : pm_Tab} {G Ns : List Cond} {D : va_G} {aC : Nat → ClassId} {b k fr lo pc sz sl sz0 sl0 : Nat} {L : pm_L} {S : List Value} {h : pm_H} {st' : pm_St}
theorem pm_w_P {H : Heap} {a : Nat} (hP : va_P D (pm_cl T) (pm_w aC b h sz) H) (ha : a < sz) {e : pm_E} (he : h a = e) : (pm_w aC b h sz)[a]? = some (b + a, pm_trE aC b e) := by rw [← he]; exact pm_w_get ha
theorem pm_setP {H1 : Heap} {a : Nat} {e : pm_E} {e' : va_E} (hP1 : va_P D (pm_cl T) ((pm_w aC b h sz).set a (b + a, e')) H1) (he : e' = pm_trE aC b e) : va_P D (pm_cl T) (pm_w aC b (va_up h a e) sz) H1 := by
  rw [pm_w_set he] at hP1
  exact hP1
theorem pm_set (f : Nat) (fs : List Value) (v : Value) : (fs.map (pm_tr aC b)).set f (pm_tr aC b v) = (fs.set f v).map (pm_tr aC b) := by rw [List.map_set]
theorem pm_getfield (OK : pm_ok T G Ns) (hC : pm_C T G Ns D aC b k p s m args meth c) {j : Nat} (hd : decode (pm_code T k) pc = .ok (.getfield j, 3)) (hh : pm_gf T k j pc L S h sz sl = some st')
    (kk : pm_V p l e R s m args below meth c Q T D aC b k sz0 sl0 st') : pm_V p l e R s m args below meth c Q T D aC b k sz0 sl0 (pc, L, S, h, sz, sl) := by
  obtain ⟨hx, hb, -, hown, hts, hK, -⟩ := hC
  unfold pm_gf at hh
  split at hh
  case h_2 => cases hh
  case h_1 a r =>
  split at hh
  case h_2 => cases hh
  case h_1 ci fs cj f t e1 e2 =>
  split at hh
  case isFalse => cases hh
  case isTrue hci =>
  subst hci
  split at hh
  case h_2 => cases hh
  case h_1 v hv =>
  cases hh
  obtain ⟨ha, hcell⟩ := pm_obj_inv e1
  obtain ⟨C, F, N, ty, h1, h2, h3, h4, h5, -⟩ := OK.2.2.2.1 _ _ _ _ _ e2
  intro H locs ls hP hS hl
  refine va_get hx hb hts h4 hown hK.1 hP a (pm_w_P hP ha hcell) h1 f h2 (hts _ h5) (fun x hx => by rw [h3] at hx; exact hx) (v := pm_tr aC b v) ?_ hd (kk H locs ls hP hS hl)
  rw [List.getElem?_map, hv]
  rfl
theorem pm_fits_ok {t : Nat} {ty : FieldType} {v : Value} (hk : pm_kindOk t ty) (hf : pm_fits t v = true) : narrow ty (pm_tr aC b v) = pm_tr aC b v ∧ fits ty (pm_tr aC b v) = true := by
  rcases hk with ⟨rfl, rfl⟩ | ⟨rfl, rfl⟩ | ⟨rfl, hr⟩ | ⟨rfl, rfl⟩
  · cases v <;> first | exact ⟨rfl, rfl⟩ | cases hf
  · cases v <;> first | exact ⟨rfl, rfl⟩ | cases hf
  · cases v <;> first | exact hr _ | cases hf
  · cases v with
    | int x =>
      have hx : x = 0 ∨ x = 1 := of_decide_eq_true hf
      rcases hx with rfl | rfl
      · exact ⟨rfl, show fits .boolean (.int 0) = true by decide⟩
      · exact ⟨rfl, show fits .boolean (.int 1) = true by decide⟩
    | _ => cases hf
theorem pm_putfield (OK : pm_ok T G Ns) (hC : pm_C T G Ns D aC b k p s m args meth c) {j : Nat} (hd : decode (pm_code T k) pc = .ok (.putfield j, 3)) (hh : pm_pf T k j pc L S h sz sl = some st')
    (kk : pm_V p l e R s m args below meth c Q T D aC b k sz0 sl0 st') : pm_V p l e R s m args below meth c Q T D aC b k sz0 sl0 (pc, L, S, h, sz, sl) := by
  obtain ⟨hx, hb, -, hown, hts, hK, hin⟩ := hC
  unfold pm_pf at hh
  split at hh
  case h_2 => cases hh
  case h_1 v a r =>
  split at hh
  case h_2 => cases hh
  case h_1 ci fs cj f t e1 e2 =>
  split at hh
  case isFalse => cases hh
  case isTrue hc =>
  cases hh
  obtain ⟨rfl, hf, hfit, hfin⟩ := hc
  obtain ⟨ha, hcell⟩ := pm_obj_inv e1
  obtain ⟨C, F, N, ty, h1, h2, h3, h4, h5, h6, h7, h8, h9, h10, h11⟩ := OK.2.2.2.1 _ _ _ _ _ e2
  intro H locs ls hP hS hl
  obtain ⟨hn, hft⟩ := pm_fits_ok (b := b) h8 hfit
  have fin : ∀ (H1 : Heap) (locs1 : List Loc), va_P D (pm_cl T) ((pm_w aC b h sz).set a (b + a, .inr (cj, (fs.map (pm_tr aC b)).set f (pm_tr aC b v)))) H1 → va_D (fun q => b ≤ q) ((pm_w aC b h sz).set a (b + a, .inr (cj, (fs.map (pm_tr aC b)).set f (pm_tr aC b v)))) → va_S (fun q => b ≤ q) s.heap H1 locs1 → W p l e R s m args below meth c H1 locs1 (sz - sz0) (sl - sl0) Q (F0 m (pc + 3) ls (r.map (pm_tr aC b))) := by
    intro H1 locs1 hP1 _ hS1
    exact kk H1 locs1 ls (pm_setP hP1 (by rw [pm_set]; rfl)) hS1 hl
  by_cases ht : t < 10
  · exact va_put hx hb hts h4 ty h7 h6 hown hK.1 hP (pm_w_D aC b h sz) hS a (pm_w_P hP ha hcell) h1 f h2 (hts _ h5) (fun x hx => by rw [h3] at hx; exact hx) (h9 ht) (h7 f h2) hn hft (by rw [List.length_map]; exact hf) hd fin
  · obtain ⟨ht2, hi⟩ := hfin.resolve_left ht
    exact va_putF hx hb hts h4 ty h7 h6 hown hK.1 hP (pm_w_D aC b h sz) hS a (pm_w_P hP ha hcell) h1 f h2 (hts _ h5) (fun x hx => by rw [h3] at hx; exact hx) (h10 (by omega)) (hin hi) (by rw [h3]; exact (h11 (by omega) ht2).symm) (h7 f h2) hn hft (by rw [List.length_map]; exact hf) hd fin
theorem pm_iald (hC : pm_C T G Ns D aC b k p s m args meth c) {ty : FieldType}
    (row : ∀ (H : Heap) (locs : List Loc) (ls : Array Slot) (a kd n : Nat) (f : Nat → Int32) (i : Int32) (r : List Value), va_P D (pm_cl T) (pm_w aC b h sz) H → (pm_w aC b h sz)[a]? = some (b + a, .inl (aC kd, n, .inl f)) → (pm_tys T aC)[kd]? = some (aC kd, ty) → vp_in i n → W p l e R s m args below meth c H locs (sz - sz0) (sl - sl0) Q (F0 m (pc + 1) ls (.int (f i.toNatClampNeg) :: r)) → W p l e R s m args below meth c H locs (sz - sz0) (sl - sl0) Q (F0 m pc ls (.int i :: .ref (b + a) :: r)))
    (hh : pm_ia T ty pc L S h sz sl = some st') (kk : pm_V p l e R s m args below meth c Q T D aC b k sz0 sl0 st') : pm_V p l e R s m args below meth c Q T D aC b k sz0 sl0 (pc, L, S, h, sz, sl) := by
  unfold pm_ia at hh
  split at hh
  case h_2 => cases hh
  case h_1 i a r =>
  split at hh
  case h_2 => cases hh
  case h_1 kd n f e1 =>
  split at hh
  case isFalse => cases hh
  case isTrue hi =>
  cases hh
  obtain ⟨ha, hcell, hty⟩ := pm_iar_inv e1
  intro H locs ls hP hS hl
  exact row H locs ls a kd n f i (r.map (pm_tr aC b)) hP (pm_w_P hP ha hcell) (pm_tys_get hty) (pm_in_of hi) (kk H locs ls hP hS hl)
theorem pm_iast (hC : pm_C T G Ns D aC b k p s m args meth c) {ty : FieldType} {nr : Int32 → Int32}
    (row : ∀ (H : Heap) (locs : List Loc) (ls : Array Slot) (a kd n : Nat) (f : Nat → Int32) (x i : Int32) (r : List Value), va_P D (pm_cl T) (pm_w aC b h sz) H → va_D (fun q => b ≤ q) (pm_w aC b h sz) → va_S (fun q => b ≤ q) s.heap H locs → (pm_w aC b h sz)[a]? = some (b + a, .inl (aC kd, n, .inl f)) → (pm_tys T aC)[kd]? = some (aC kd, ty) → vp_in i n → (∀ (H1 : Heap) (locs1 : List Loc), va_P D (pm_cl T) ((pm_w aC b h sz).set a (b + a, .inl (aC kd, n, .inl (upd f i.toNatClampNeg (nr x))))) H1 → va_D (fun q => b ≤ q) ((pm_w aC b h sz).set a (b + a, .inl (aC kd, n, .inl (upd f i.toNatClampNeg (nr x))))) → va_S (fun q => b ≤ q) s.heap H1 locs1 → W p l e R s m args below meth c H1 locs1 (sz - sz0) (sl - sl0) Q (F0 m (pc + 1) ls r)) → W p l e R s m args below meth c H locs (sz - sz0) (sl - sl0) Q (F0 m pc ls (.int x :: .int i :: .ref (b + a) :: r)))
    (hh : pm_iS T ty nr pc L S h sz sl = some st') (kk : pm_V p l e R s m args below meth c Q T D aC b k sz0 sl0 st') : pm_V p l e R s m args below meth c Q T D aC b k sz0 sl0 (pc, L, S, h, sz, sl) := by
  unfold pm_iS at hh
  split at hh
  case h_2 => cases hh
  case h_1 x i a r =>
  split at hh
  case h_2 => cases hh
  case h_1 kd n f e1 =>
  split at hh
  case isFalse => cases hh
  case isTrue hi =>
  cases hh
  obtain ⟨ha, hcell, hty⟩ := pm_iar_inv e1
  intro H locs ls hP hS hl
  refine row H locs ls a kd n f x i (r.map (pm_tr aC b)) hP (pm_w_D aC b h sz) hS (pm_w_P hP ha hcell) (pm_tys_get hty) (pm_in_of hi) (fun H1 locs1 hP1 _ hS1 => ?_)
  exact kk H1 locs1 ls (pm_setP hP1 rfl) hS1 hl
theorem pm_lald (hC : pm_C T G Ns D aC b k p s m args meth c) (hd : decode (pm_code T k) pc = .ok (.laload, 1))
    (hh : pm_la T pc L S h sz sl = some st') (kk : pm_V p l e R s m args below meth c Q T D aC b k sz0 sl0 st') : pm_V p l e R s m args below meth c Q T D aC b k sz0 sl0 (pc, L, S, h, sz, sl) := by
  obtain ⟨hx, hb, -, -, -, hK, -⟩ := hC
  unfold pm_la at hh
  split at hh
  case h_2 => cases hh
  case h_1 i a r =>
  split at hh
  case h_2 => cases hh
  case h_1 kd n f e1 =>
  split at hh
  case isFalse => cases hh
  case isTrue hi =>
  cases hh
  obtain ⟨ha, hcell, hty⟩ := pm_lar_inv e1
  intro H locs ls hP hS hl
  exact va_lald hx hb hK.1 hP a kd (pm_w_P hP ha hcell) (pm_tys_get hty) (pm_in_of hi) hd (kk H locs ls hP hS hl)
theorem pm_last (hC : pm_C T G Ns D aC b k p s m args meth c) (hd : decode (pm_code T k) pc = .ok (.lastore, 1))
    (hh : pm_lS T pc L S h sz sl = some st') (kk : pm_V p l e R s m args below meth c Q T D aC b k sz0 sl0 st') : pm_V p l e R s m args below meth c Q T D aC b k sz0 sl0 (pc, L, S, h, sz, sl) := by
  obtain ⟨hx, hb, -, -, -, hK, -⟩ := hC
  unfold pm_lS at hh
  split at hh
  case h_2 => cases hh
  case h_1 x i a r =>
  split at hh
  case h_2 => cases hh
  case h_1 kd n f e1 =>
  split at hh
  case isFalse => cases hh
  case isTrue hi =>
  cases hh
  obtain ⟨ha, hcell, hty⟩ := pm_lar_inv e1
  intro H locs ls hP hS hl
  refine va_last hx hb hK.1 hP (pm_w_D aC b h sz) hS a kd (pm_w_P hP ha hcell) (pm_tys_get hty) (pm_in_of hi) hd (fun H1 locs1 hP1 _ hS1 => ?_)
  exact kk H1 locs1 ls (pm_setP hP1 rfl) hS1 hl
theorem pm_rf (o : Option Nat) : va_rf (o.map (fun x => b + x)) = pm_tr aC b (va_rf o) := by cases o <;> rfl
theorem pm_isObj_ex {t : Option FieldType} (hh : pm_isObj t = true) : ∃ C, t = some (.object C) := by
  unfold pm_isObj at hh
  split at hh
  · exact ⟨_, rfl⟩
  · cases hh
theorem pm_aald (hC : pm_C T G Ns D aC b k p s m args meth c) (hd : decode (pm_code T k) pc = .ok (.aaload, 1))
    (hh : pm_qa T pc L S h sz sl = some st') (kk : pm_V p l e R s m args below meth c Q T D aC b k sz0 sl0 st') : pm_V p l e R s m args below meth c Q T D aC b k sz0 sl0 (pc, L, S, h, sz, sl) := by
  obtain ⟨hx, hb, -, -, -, hK, -⟩ := hC
  unfold pm_qa at hh
  split at hh
  case h_2 => cases hh
  case h_1 i a r =>
  split at hh
  case h_2 => cases hh
  case h_1 kd n f e1 =>
  split at hh
  case isFalse => cases hh
  case isTrue hi =>
  cases hh
  obtain ⟨ha, hcell⟩ := pm_qar_inv e1
  obtain ⟨C, hty⟩ := pm_isObj_ex hi.2
  intro H locs ls hP hS hl
  refine va_aldq hx hb hK.1 hP a kd (pm_w_P hP ha hcell) (pm_tys_get hty) (pm_in_of hi.1) hd ?_
  rw [pm_rf]
  exact kk H locs ls hP hS hl
theorem pm_aast (hC : pm_C T G Ns D aC b k p s m args meth c) (hd : decode (pm_code T k) pc = .ok (.aastore, 1))
    (hh : pm_qS T pc L S h sz sl = some st') (kk : pm_V p l e R s m args below meth c Q T D aC b k sz0 sl0 st') : pm_V p l e R s m args below meth c Q T D aC b k sz0 sl0 (pc, L, S, h, sz, sl) := by
  obtain ⟨hx, hb, -, -, -, hK, -⟩ := hC
  unfold pm_qS at hh
  split at hh
  case h_2 => cases hh
  case h_1 v i a r =>
  split at hh
  case h_2 => cases hh
  case h_1 kd n f e1 =>
  split at hh
  case h_2 => cases hh
  case h_1 ci fs e2 =>
  split at hh
  case isFalse => cases hh
  case isTrue hi =>
  cases hh
  obtain ⟨ha, hcell⟩ := pm_qar_inv e1
  obtain ⟨hv, hcellv⟩ := pm_obj_inv e2
  obtain ⟨hin, hty, hci⟩ := hi
  have hq := List.getElem?_eq_getElem hci
  rw [hq] at hty
  intro H locs ls hP hS hl
  refine va_astq hx hb hK.1 hP (pm_w_D aC b h sz) hS a kd v ci (pm_w_P hP ha hcell) (pm_tys_get hty) (pm_w_P hP hv hcellv) hq (pm_in_of hin) hd (fun H1 locs1 hP1 _ hS1 => ?_)
  refine kk H1 locs1 ls (pm_setP hP1 ?_) hS1 hl
  have e3 : (va_up (fun j => (f j).map (fun x => b + x)) i.toNatClampNeg (some (b + v))) = fun j => (va_up f i.toNatClampNeg (some v) j).map (fun x => b + x) := by
    funext j
    unfold va_up
    by_cases hj : j = i.toNatClampNeg
    · rw [if_pos hj, if_pos hj]; rfl
    · rw [if_neg hj, if_neg hj]
  exact congrArg (fun z => (Sum.inl (aC kd, n, Sum.inr (Sum.inr (Sum.inr (Sum.inr z)))) : va_E)) e3
theorem pm_alen (hC : pm_C T G Ns D aC b k p s m args meth c) (hd : decode (pm_code T k) pc = .ok (.arraylength, 1))
    (hh : pm_al T pc L S h sz sl = some st') (kk : pm_V p l e R s m args below meth c Q T D aC b k sz0 sl0 st') : pm_V p l e R s m args below meth c Q T D aC b k sz0 sl0 (pc, L, S, h, sz, sl) := by
  obtain ⟨hx, hb, -, -, -, hK, -⟩ := hC
  unfold pm_al at hh
  split at hh
  case h_2 => cases hh
  case h_1 a r =>
  split at hh
  case isFalse => cases hh
  case isTrue ha =>
  split at hh
  case h_2 => cases hh
  case h_1 kd n x e1 =>
  split at hh
  case isFalse => cases hh
  case isTrue hty =>
  cases hh
  obtain ⟨ty, ht⟩ := Option.isSome_iff_exists.mp hty
  intro H locs ls hP hS hl
  refine va_alen hx hb hK.1 hP a kd (pm_w_P hP ha e1) (pm_tys_get ht) ?_ hd (kk H locs ls hP hS hl)
  obtain f | f | f | f | f := x <;> rfl
end PMS
