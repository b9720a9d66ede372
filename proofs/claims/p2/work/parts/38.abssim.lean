/-! what the library does, and all simple instructions -/
section ABX
variable {T : pm_Tab} {B : Nat → ac} {sz sl fr lo k pc : Nat} {A : List (Option av)} {SA : List av} {o : ah} {L : pm_L} {S : List Value} {h : pm_H} {ss : List ast}
theorem as_sum : ∀ {S : List Value} {SA : List av}, as_ok S SA → pm_sum S = aa_sum SA
  | [], [], _ => rfl
  | v :: vs, a :: as, q => by
    have h1 := as_sum q.2
    have h2 := av_cat q.1
    unfold pm_sum aa_sum at h1 ⊢
    simp only [List.map_cons, List.sum_cons]
    rw [h1, h2]
    congr 1
    by_cases e : a.1 = 1
    · rw [if_pos e, e]; rfl
    · rw [if_neg e]
      cases hb : Nat.beq a.1 1 with
      | false => rfl
      | true => exact absurd (Nat.eq_of_beq_eq_true hb) e
  | [], _ :: _, q => q.elim
  | _ :: _, [], q => q.elim
theorem aE_src {q : Int} {b : av} {i : Nat} (e : aa_src T B o sz q i = some b) : i < sz ∧ ∃ kd n, ah_get B o i = .inl (kd, n, b) ∧ (pm_ty T)[kd]? = some .int ∧ b.1 = 0 ∧ q ≤ n ∧ 0 < n := by
  unfold aa_src at e
  split at e
  · rename_i hi
    split at e
    · rename_i kd n a ea
      split at e
      · rename_i q
        cases e
        exact ⟨hi, kd, n, ea, q⟩
      · cases e
    · cases e
  · cases e
theorem aE_cpu {q : Int} {v : av} {c c' : ac} (e : aa_cpu T q v c = some c') : ∃ kd n a b, c = .inl (kd, n, a) ∧ c' = .inl (kd, n, b) ∧ av_join a v = some b ∧ (pm_ty T)[kd]? = some .int ∧ a.1 = 0 ∧ q ≤ n ∧ 0 < n := by
  unfold aa_cpu at e
  split at e
  · rename_i kd n a
    split at e
    · rename_i q
      split at e
      · rename_i b eb
        cases e
        exact ⟨kd, n, a, b, rfl, rfl, eb, q⟩
      · cases e
    · cases e
  · cases e
theorem aI_nn {x : Int32} (h0 : 0 ≤ x.toInt) : ¬ x < 0 ∧ (x.toNatClampNeg : Int) = x.toInt := by
  refine ⟨fun q => ?_, ?_⟩
  · rw [Int32.lt_iff_toInt_lt, Int32.toInt_zero] at q; omega
  · show ((x.toInt.toNat : Nat) : Int) = x.toInt
    omega
theorem aR_lib {w : Nat} (e : aa_lib T B sz fr lo w (pc, A, SA, o) = some ss) (hL : al_ok L A) (hS : as_ok S SA) (hH : ah_ok B sz o h) : aa_R B sz sl (pm_lib T fr lo w pc L S h sz sl) ss := by
  unfold aa_lib at e
  dsimp only at e
  split at e
  · rename_i a r
    split at e
    · rename_i q
      obtain ⟨w, S2, rfl, hw, hS2⟩ := as_cons hS
      obtain ⟨p, rfl, hp⟩ := av_ref q.1 hw
      refine aR_n e hL hS2 hH ?_
      exact if_pos ⟨q.2.1, by rw [as_sum hS2]; exact q.2.2⟩
    · cases e
  · rename_i b a r
    split at e
    · rename_i q
      obtain ⟨w1, w2, S2, rfl, hv, hw, hS2⟩ := as_two hS
      obtain ⟨y, rfl, y1, y2⟩ := av_int q.2.1 hv
      obtain ⟨x, rfl, x1, x2⟩ := av_int q.1 hw
      refine aR_n e hL (S := .int (if y < x then y else x) :: S2) ⟨?_, hS2⟩ hH ?_
      · split
        · rename_i hlt
          rw [Int32.lt_iff_toInt_lt] at hlt
          exact ⟨rfl, by dsimp only; omega, by dsimp only; omega⟩
        · rename_i hlt
          rw [Int32.lt_iff_toInt_lt] at hlt
          exact ⟨rfl, by dsimp only; omega, by dsimp only; omega⟩
      · exact if_pos ⟨q.2.2.1, by rw [as_sum hS2]; exact q.2.2.2⟩
    · cases e
  · rename_i b a r
    split at e
    · rename_i q
      obtain ⟨w1, w2, S2, rfl, hv, hw, hS2⟩ := as_two hS
      obtain ⟨y, rfl, y1, y2⟩ := av_int q.2.1 hv
      obtain ⟨x, rfl, x1, x2⟩ := av_int q.1 hw
      refine aR_n e hL (S := .int (if x < y then y else x) :: S2) ⟨?_, hS2⟩ hH ?_
      · split
        · rename_i hlt
          rw [Int32.lt_iff_toInt_lt] at hlt
          exact ⟨rfl, by dsimp only; omega, by dsimp only; omega⟩
        · rename_i hlt
          rw [Int32.lt_iff_toInt_lt] at hlt
          exact ⟨rfl, by dsimp only; omega, by dsimp only; omega⟩
      · exact if_pos ⟨q.2.2.1, by rw [as_sum hS2]; exact q.2.2.2⟩
    · cases e
  · rename_i n dp a sp a0 r
    split at e
    · rename_i q
      obtain ⟨q1, q2, q3, q4, q5, q6, q7, q8, q9, q10⟩ := q
      split at e
      · rename_i v ev
        split at e
        · rename_i qa
          split at e
          · rename_i o' eo
            obtain ⟨w1, w2, S2, rfl, hv1, hv2, hS2⟩ := as_two hS
            obtain ⟨w3, w4, S4, rfl, hv3, hv4, hS4⟩ := as_two hS2
            obtain ⟨w5, S5, rfl, hv5, hS5⟩ := as_cons hS4
            obtain ⟨x, rfl, x1, x2⟩ := av_int q1 hv1
            obtain ⟨y, rfl, y1, y2⟩ := av_int q2 hv2
            obtain ⟨p, rfl, hp⟩ := av_ref q3 hv3
            obtain ⟨z, rfl, z1, z2⟩ := av_int q4 hv4
            obtain ⟨p0, rfl, hp0⟩ := av_ref q5 hv5
            obtain ⟨b, eb, hb⟩ := aa_over_ok ev hp0
            obtain ⟨hi0, kd0, n0, eg0, ety0, hb0, hr0, hn0⟩ := aE_src eb
            obtain ⟨hi, c', ec⟩ := aE_all qa hp
            obtain ⟨kd, n1, a', b', eg, -, -, ety, ha', hr, hn1⟩ := aE_cpu ec
            have hc0 := hH p0 hi0
            rw [eg0] at hc0
            obtain ⟨f0, ef0, hf0⟩ := aE_int hc0 hb0 hn0
            have hc := hH p hi
            rw [eg] at hc
            obtain ⟨f, ef, hf⟩ := aE_int hc ha' hn1
            obtain ⟨gx1, gx2⟩ := aI_nn (x := x) (by omega)
            obtain ⟨gy1, gy2⟩ := aI_nn (x := y) (by omega)
            obtain ⟨gz1, gz2⟩ := aI_nn (x := z) (by omega)
            cases e
            refine aR_1 (h := va_up h p (.inl (kd, n1, .inl (va_cpy f0 f z.toNatClampNeg y.toNatClampNeg x.toNatClampNeg)))) hL hS5 ?_ ?_
            · refine ah_upd_ok eo hp hi hH (fun c c' hcc hok => ?_)
              obtain ⟨kd2, n2, a2, b2, rfl, rfl, ej, -, -, -, -⟩ := aE_cpu hcc
              rw [ef] at hok
              obtain ⟨rfl, rfl, hok⟩ := hok
              refine ⟨rfl, rfl, fun j hj => ?_⟩
              unfold va_cpy
              split
              · rename_i hjj
                exact (av_join_ok ej).2 (hb _ (hf0 _ (by omega)))
              · exact (av_join_ok ej).1 (hok j hj)
            · have i0 : pm_iar T .int h sz p0 = some (kd0, n0, f0) := by
                unfold pm_iar
                rw [if_pos hi0, ef0]
                dsimp only
                rw [if_pos ety0]
              have i1 : pm_iar T .int h sz p = some (kd, n1, f) := by
                unfold pm_iar
                rw [if_pos hi, ef]
                dsimp only
                rw [if_pos ety]
              simp only [pm_lib, i0, i1]
              rw [if_pos ⟨⟨q9, by rw [as_sum hS5]; exact q10⟩, gz1, gy1, gx1, by omega, by omega⟩]
          · cases e
        · cases e
      · cases e
    · cases e
  · cases e
theorem aR_libW {sp : Bool} {j : Nat} (e : aa_libW T B sp sz fr lo k j (pc, A, SA, o) = some ss) (hL : al_ok L A) (hS : as_ok S SA) (hH : ah_ok B sz o h) : aa_R B sz sl (pm_libW T sp fr lo k j pc L S h sz sl) ss := by
  unfold aa_libW at e
  unfold pm_libW
  cases em : pm_mlk T (pm_o T k) j with
  | none => rw [em] at e; cases e
  | some wt =>
    obtain ⟨w, t⟩ := wt
    rw [em] at e
    dsimp only at e ⊢
    by_cases q : (w == 6) = sp
    · rw [if_pos q] at e ⊢
      exact aR_lib e hL hS hH
    · rw [if_neg q] at e; cases e
theorem ag_gd_ok {F : Int32 → Int32 → Int32} {g : av → av → Option av} (hg : ab_S F g) : ab_S F (ag_gd F g) := by
  intro a b c x y e h1 h2 h3 h4
  unfold ag_gd at e
  split at e
  · exact ab_ex_ok hg a b c x y e h1 h2 h3 h4
  · cases e
theorem ag_gd_some {F : Int32 → Int32 → Int32} {g : av → av → Option av} {a b c : av} (e : ag_gd F g a b = some c) : ∃ d, g a b = some d := by
  unfold ag_gd at e
  split at e
  · rename_i d h
    exact ⟨d, h⟩
  · cases e
theorem aR_lookd : ∀ {ps : List (Int × Int)} {d x lo hi : Int}, ps.all (fun q => decide (q.1 < lo ∨ hi < q.1)) = true → lo ≤ x → x ≤ hi → Op.lookupswitch.offset ps d x = d
  | [], d, x, lo, hi, _, _, _ => rfl
  | (a, f) :: r, d, x, lo, hi, h, h1, h2 => by
    rw [List.all_cons, Bool.and_eq_true] at h
    have h3 : a < lo ∨ hi < a := of_decide_eq_true h.1
    rw [Op.lookupswitch.offset_cons, if_neg (by omega)]
    exact aR_lookd h.2 h1 h2
theorem aa_k_ok (x : Int32) : av_ok (.int x) (aa_k x) := ⟨rfl, Int.le_refl _, Int.le_refl _⟩
theorem av_cat1 {v : Value} {a : av} (q : av_ok v a) (e : a.1 ≠ 1) : v.category = 1 := by rw [av_cat q, if_neg e]
set_option maxHeartbeats 4000000 in
theorem aa_simple_ok {i : Instr} (e : aa_simple T B sz fr lo k i (pc, A, SA, o) = some ss) (hL : al_ok L A) (hS : as_ok S SA) (hH : ah_ok B sz o h) : aa_R B sz sl (pm_simple T fr lo k i pc L S h sz sl) ss := by
  cases i
  case iconst n => exact aR_n e hL (S := .int (Int32.ofInt n) :: S) ⟨aa_k_ok _, hS⟩ hH rfl
  case bipush n => exact aR_n e hL (S := .int (Int8.ofInt n).toInt32 :: S) ⟨aa_k_ok _, hS⟩ hH rfl
  case sipush n => exact aR_n e hL (S := .int (Int16.ofInt n).toInt32 :: S) ⟨aa_k_ok _, hS⟩ hH rfl
  case lconst n => exact aR_n e hL (S := .long (Int64.ofNat n.val) :: S) ⟨⟨rfl, Int.le_refl _, Int.le_refl _⟩, hS⟩ hH rfl
  case ldc j =>
    dsimp only [aa_simple] at e
    dsimp only [pm_simple]
    cases em : pm_con T (pm_o T k) j with
    | none =>
      rw [em] at e
      dsimp only at e ⊢
      cases es : st_str (pm_o T k) j with
      | none => rw [es] at e; cases e
      | some i =>
        rw [es] at e
        exact aR_n e hL (S := .retAddr i :: S) ⟨⟨rfl, rfl⟩, hS⟩ hH rfl
    | some v =>
      rw [em] at e
      exact aR_n e hL (S := .int v :: S) ⟨aa_k_ok _, hS⟩ hH rfl
  case ldc_w j =>
    dsimp only [aa_simple] at e
    dsimp only [pm_simple]
    cases em : pm_con T (pm_o T k) j with
    | none =>
      rw [em] at e
      dsimp only at e ⊢
      cases es : st_str (pm_o T k) j with
      | none => rw [es] at e; cases e
      | some i =>
        rw [es] at e
        exact aR_n e hL (S := .retAddr i :: S) ⟨⟨rfl, rfl⟩, hS⟩ hH rfl
    | some v =>
      rw [em] at e
      exact aR_n e hL (S := .int v :: S) ⟨aa_k_ok _, hS⟩ hH rfl
  case ldc2_w j =>
    dsimp only [aa_simple] at e
    dsimp only [pm_simple]
    cases em : pm_conL T (pm_o T k) j with
    | none => rw [em] at e; cases e
    | some v =>
      rw [em] at e
      exact aR_n e hL (S := .long v :: S) ⟨⟨rfl, Int.le_refl _, Int.le_refl _⟩, hS⟩ hH rfl
  case iload j => exact aR_lo e (by omega) hL hS hH
  case iload_n j => exact aR_lo e (by omega) hL hS hH
  case lload j => exact aR_lo e (by omega) hL hS hH
  case lload_n j => exact aR_lo e (by omega) hL hS hH
  case aload j => exact aR_lo e (by omega) hL hS hH
  case aload_n j => exact aR_lo e (by omega) hL hS hH
  case istore j => exact aR_so e (by omega) hL hS hH
  case istore_n j => exact aR_so e (by omega) hL hS hH
  case astore j => exact aR_so e (by omega) hL hS hH
  case astore_n j => exact aR_so e (by omega) hL hS hH
  case lstore j => exact aR_sL e hL hS hH
  case lstore_n j => exact aR_sL e hL hS hH
  case iinc j n =>
    dsimp only [aa_simple] at e
    dsimp only [pm_simple]
    cases ea : aA_get A j with
    | none => rw [ea] at e; cases e
    | some a =>
      rw [ea] at e
      dsimp only at e
      split at e
      · rename_i q
        split at e
        · rename_i c ec
          cases e
          obtain ⟨v, hv, hok⟩ := al_get hL ea
          obtain ⟨x, rfl, x1, x2⟩ := av_int q.1 hok
          rw [hv]
          dsimp only
          rw [if_pos q.2.1]
          exact aR_1 (al_st1 hL (ab_ex_ok ag_add_ok _ _ _ _ _ ec x1 x2 (Int.le_refl _) (Int.le_refl _)) q.2.2) hS hH rfl
        · cases e
      · cases e
  case iadd => exact aR_bi (ab_ex_ok ag_add_ok) e hL hS hH
  case isub => exact aR_bi (ab_ex_ok ag_sub_ok) e hL hS hH
  case imul => exact aR_bi (ab_ex_ok ag_mul_ok) e hL hS hH
  case iand => exact aR_bi (ab_ex_ok ag_and_ok) e hL hS hH
  case ior => exact aR_bi (ab_ex_ok ag_or_ok) e hL hS hH
  case ixor => exact aR_bi (ab_ex_ok ag_xor_ok) e hL hS hH
  case ishl => exact aR_bi (ab_ex_ok ag_shl_ok) e hL hS hH
  case ishr => exact aR_bi (ab_ex_ok ag_shr_ok) e hL hS hH
  case iushr => exact aR_bi (ab_ex_ok ag_ushr_ok) e hL hS hH
  case idiv => exact aR_bd (ag_gd_ok ag_div_ok) (fun q h1 h2 => by obtain ⟨d, hd⟩ := ag_gd_some q; exact ag_div_ne hd h1 h2) e hL hS hH
  case irem => exact aR_bd (ag_gd_ok ag_rem_ok) (fun q h1 h2 => by obtain ⟨d, hd⟩ := ag_gd_some q; exact ag_rem_ne hd h1 h2) e hL hS hH
  case ineg => exact aR_ui ag_neg_ok e hL hS hH
  case i2l => exact aR_ui ag_i2l_ok e hL hS hH
  case i2b => exact aR_ui ag_b_ok e hL hS hH
  case i2s => exact aR_ui ag_s_ok e hL hS hH
  case i2c => exact aR_ui ag_c_ok e hL hS hH
  case lmul => exact aR_bl ag_mulL_ok e hL hS hH
  case ladd => exact aR_bl ag_addL_ok e hL hS hH
  case lsub => exact aR_bl ag_subL_ok e hL hS hH
  case ldiv => exact aR_bdL e hL hS hH
  case lrem => exact aR_bdL e hL hS hH
  case lcmp =>
    dsimp only [aa_simple] at e
    unfold aa_bl at e
    dsimp only at e
    match SA, hS, e with
    | [], _, e => cases e
    | [_], _, e => cases e
    | b :: a :: r, hS, e =>
      dsimp only at e
      split at e
      · rename_i q
        split at e
        · rename_i c ec
          obtain ⟨v, w, S2, rfl, hv, hw, hS2⟩ := as_two hS
          obtain ⟨y, rfl, y1, y2⟩ := av_long q.2 hv
          obtain ⟨x, rfl, x1, x2⟩ := av_long q.1 hw
          exact aR_n e hL (S := .int (lg_cmp x y) :: S2) ⟨ag_lcmp_ok ec x1 x2 y1 y2, hS2⟩ hH rfl
        · cases e
      · cases e
  case dup =>
    dsimp only [aa_simple] at e
    match SA, hS, e with
    | [], _, e => cases e
    | a :: r, hS, e =>
      dsimp only at e
      split at e
      · rename_i q
        obtain ⟨v, S2, rfl, hv, hS2⟩ := as_cons hS
        exact aR_n e hL (S := v :: v :: S2) ⟨hv, hv, hS2⟩ hH (if_pos (av_cat1 hv q))
      · cases e
  case pop =>
    dsimp only [aa_simple] at e
    match SA, hS, e with
    | [], _, e => cases e
    | a :: r, hS, e =>
      dsimp only at e
      split at e
      · rename_i q
        obtain ⟨v, S2, rfl, hv, hS2⟩ := as_cons hS
        exact aR_n e hL (S := S2) hS2 hH (if_pos (av_cat1 hv q))
      · cases e
  case dup_x1 =>
    dsimp only [aa_simple] at e
    match SA, hS, e with
    | [], _, e => cases e
    | [_], _, e => cases e
    | a :: b :: r, hS, e =>
      dsimp only at e
      split at e
      · rename_i q
        obtain ⟨v, w, S2, rfl, hv, hw, hS2⟩ := as_two hS
        exact aR_n e hL (S := v :: w :: v :: S2) ⟨hv, hw, hv, hS2⟩ hH (if_pos ⟨av_cat1 hv q.1, av_cat1 hw q.2⟩)
      · cases e
  case dup_x2 =>
    dsimp only [aa_simple] at e
    match SA, hS, e with
    | [], _, e => cases e
    | [_], _, e => cases e
    | [_, _], _, e => cases e
    | a :: b :: c :: r, hS, e =>
      dsimp only at e
      split at e
      · rename_i q
        obtain ⟨v, w, S1, rfl, hv, hw, hS1⟩ := as_two hS
        obtain ⟨z, S2, rfl, hz, hS2⟩ := as_cons hS1
        exact aR_n e hL (S := v :: w :: z :: v :: S2) ⟨hv, hw, hz, hv, hS2⟩ hH (if_pos ⟨av_cat1 hv q.1, av_cat1 hw q.2.1, av_cat1 hz q.2.2⟩)
      · cases e
  case dup2 =>
    dsimp only [aa_simple] at e
    match SA, hS, e with
    | [], _, e => cases e
    | [_], _, e => cases e
    | a :: b :: r, hS, e =>
      dsimp only at e
      split at e
      · rename_i q
        obtain ⟨v, w, S2, rfl, hv, hw, hS2⟩ := as_two hS
        exact aR_n e hL (S := v :: w :: v :: w :: S2) ⟨hv, hw, hv, hw, hS2⟩ hH (if_pos ⟨av_cat1 hv q.1, av_cat1 hw q.2⟩)
      · cases e
  case ifCond c off =>
    dsimp only [aa_simple] at e
    match SA, hS, e with
    | [], _, e => cases e
    | a :: r, hS, e =>
      dsimp only at e
      split at e
      · rename_i q
        obtain ⟨v, S2, rfl, hv, hS2⟩ := as_cons hS
        obtain ⟨x, rfl, x1, x2⟩ := av_int q hv
        exact aR_br (fun b hb => ag_cmp_ok hb x1 x2 (by rw [Int32.toInt_zero]; exact Int.le_refl _) (by rw [Int32.toInt_zero]; exact Int.le_refl _)) e hL hS2 hH
      · cases e
  case if_icmp c off =>
    dsimp only [aa_simple] at e
    match SA, hS, e with
    | [], _, e => cases e
    | [_], _, e => cases e
    | b :: a :: r, hS, e =>
      dsimp only at e
      split at e
      · rename_i q
        obtain ⟨v, w, S2, rfl, hv, hw, hS2⟩ := as_two hS
        obtain ⟨y, rfl, y1, y2⟩ := av_int q.2 hv
        obtain ⟨x, rfl, x1, x2⟩ := av_int q.1 hw
        exact aR_br (fun b hb => ag_cmp_ok hb x1 x2 y1 y2) e hL hS2 hH
      · cases e
  case goto off => exact aR_jp e hL hS hH
  case tableswitch d lo' hi offs =>
    dsimp only [aa_simple] at e
    dsimp only [pm_simple]
    match SA, hS, e with
    | [], _, e => cases e
    | a :: r, hS, e =>
      dsimp only at e
      split at e
      · rename_i q
        obtain ⟨v, S2, rfl, hv, hS2⟩ := as_cons hS
        obtain ⟨x, rfl, x1, x2⟩ := av_int q hv
        dsimp only
        split at e
        · rename_i qo
          rw [if_pos (by omega)]
          exact aR_jp e hL hS2 hH
        split at e
        · rename_i qe
          have ex : a.2.1 = x.toInt := by omega
          rw [ex] at e
          by_cases q5 : x.toInt < lo' ∨ hi < x.toInt
          · rw [if_pos q5] at e ⊢
            exact aR_jp e hL hS2 hH
          · rw [if_neg q5] at e ⊢
            cases ef : offs[(x.toInt - lo').toNat]? with
            | none => rw [ef] at e; cases e
            | some off => rw [ef] at e; exact aR_jp e hL hS2 hH
        · split at e
          · rename_i qs
            by_cases q5 : x.toInt < lo' ∨ hi < x.toInt
            · rw [if_pos q5]
              exact aR_all hL hS2 hH List.mem_cons_self e
            · rw [if_neg q5]
              have hlt : (x.toInt - lo').toNat < offs.size := by omega
              have ef : offs[(x.toInt - lo').toNat]? = some offs[(x.toInt - lo').toNat] := Array.getElem?_eq_getElem hlt
              rw [ef]
              refine aR_all hL hS2 hH (List.mem_cons_of_mem _ ?_) e
              exact Array.getElem_mem_toList hlt
          · cases e
      · cases e
  case lookupswitch d ps =>
    dsimp only [aa_simple] at e
    dsimp only [pm_simple]
    match SA, hS, e with
    | [], _, e => cases e
    | a :: r, hS, e =>
      dsimp only at e
      split at e
      · rename_i q
        obtain ⟨v, S2, rfl, hv, hS2⟩ := as_cons hS
        obtain ⟨x, rfl, x1, x2⟩ := av_int q.1 hv
        dsimp only
        rw [if_pos q.2]
        split at e
        · rename_i qo
          rw [aR_lookd qo x1 x2]
          exact aR_jp e hL hS2 hH
        split at e
        · rename_i qe
          have ex : a.2.1 = x.toInt := by omega
          rw [ex] at e
          exact aR_jp e hL hS2 hH
        · exact aR_all hL hS2 hH (aR_look _ _ _) e
      · cases e
  case getfield j => exact aR_gf e hL hS hH
  case putfield j => exact aR_pf e hL hS hH
  case iaload => exact aR_aldi e hL hS hH
  case caload => exact aR_aldi e hL hS hH
  case baload => exact aR_aldi e hL hS hH
  case laload => exact aR_lald e hL hS hH
  case aaload => exact aR_qld e hL hS hH
  case iastore => exact aR_iast (F := fun x => x) (fun a x q h1 h2 => ⟨q, h1, h2⟩) e hL hS hH
  case castore => exact aR_iast (F := fun x => vp_nar .char x) (fun a x q h1 h2 => by rw [ac_char]; exact ag_c_ok a x q h1 h2) e hL hS hH
  case bastore => exact aR_iast (F := fun x => vp_nar .boolean x) ag_z_ok e hL hS hH
  case lastore => exact aR_last e hL hS hH
  case arraylength => exact aR_alen e hL hS hH
  case invokespecial j => exact aR_libW e hL hS hH
  case invokestatic j => exact aR_libW e hL hS hH
  all_goals cases e
end ABX
