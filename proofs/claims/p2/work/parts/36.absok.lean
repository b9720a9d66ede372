/-! the simple instructions on the abstract machine are right: first the shapes -/
section ABV
variable {T : pm_Tab} {B : Nat → ac} {sz sl fr lo k pc : Nat} {A : List (Option av)} {SA : List av} {o : ah} {L : pm_L} {S : List Value} {h : pm_H} {ss : List ast}
/-- the pure machine goes on, to one of these -/
def aa_R (B : Nat → ac) (sz sl : Nat) (r : Option pm_St) (ss : List ast) : Prop := ∃ st', r = some st' ∧ ∃ s', s' ∈ ss ∧ ast_ok B sz sl s' st'
theorem aR_n {n : Nat} {r : Option pm_St} {SB : List av} (e : aa_n (pc, A, SB, o) n SA = some ss) (hL : al_ok L A) (hS : as_ok S SA) (hH : ah_ok B sz o h) (hr : r = some (pc + n, L, S, h, sz, sl)) : aa_R B sz sl r ss := by
  unfold aa_n at e
  cases e
  exact ⟨_, hr, _, List.mem_singleton_self _, rfl, hL, hS, hH, rfl, rfl⟩
theorem aR_1 {pc' : Nat} {r : Option pm_St} (hL : al_ok L A) (hS : as_ok S SA) (hH : ah_ok B sz o h) (hr : r = some (pc', L, S, h, sz, sl)) : aa_R B sz sl r [(pc', A, SA, o)] := ⟨_, hr, _, List.mem_singleton_self _, rfl, hL, hS, hH, rfl, rfl⟩
theorem as_two {a b : av} {r : List av} (hS : as_ok S (b :: a :: r)) : ∃ v w S', S = v :: w :: S' ∧ av_ok v b ∧ av_ok w a ∧ as_ok S' r := by
  obtain ⟨v, S1, rfl, hv, hS1⟩ := as_cons hS
  obtain ⟨w, S2, rfl, hw, hS2⟩ := as_cons hS1
  exact ⟨v, w, S2, rfl, hv, hw, hS2⟩
theorem aR_bi {g : av → av → Option av} {F : Int32 → Int32 → Int32} (hg : ab_S F g) (e : aa_bi g (pc, A, SA, o) = some ss) (hL : al_ok L A) (hS : as_ok S SA) (hH : ah_ok B sz o h) : aa_R B sz sl (pm_bi F pc L S h sz sl) ss := by
  unfold aa_bi at e
  dsimp only at e
  match SA, hS, e with
  | [], _, e => cases e
  | [_], _, e => cases e
  | b :: a :: r, hS, e =>
    dsimp only at e
    split at e
    · rename_i q
      split at e
      · rename_i c ec
        obtain ⟨v, w, S2, rfl, hv, hw, hS2⟩ := as_two hS
        obtain ⟨y, rfl, y1, y2⟩ := av_int q.2 hv
        obtain ⟨x, rfl, x1, x2⟩ := av_int q.1 hw
        exact aR_n e hL (S := .int (F x y) :: S2) ⟨hg a b c x y ec x1 x2 y1 y2, hS2⟩ hH rfl
      · cases e
    · cases e
theorem aR_bd {g : av → av → Option av} {F : Int32 → Int32 → Int32} (hg : ab_S F g) (hne : ∀ {a b c : av} {y : Int32}, g a b = some c → b.2.1 ≤ y.toInt → y.toInt ≤ b.2.2 → ¬ y = 0) (e : aa_bi g (pc, A, SA, o) = some ss) (hL : al_ok L A) (hS : as_ok S SA) (hH : ah_ok B sz o h) : aa_R B sz sl (pm_bd F pc L S h sz sl) ss := by
  unfold aa_bi at e
  dsimp only at e
  match SA, hS, e with
  | [], _, e => cases e
  | [_], _, e => cases e
  | b :: a :: r, hS, e =>
    dsimp only at e
    split at e
    · rename_i q
      split at e
      · rename_i c ec
        obtain ⟨v, w, S2, rfl, hv, hw, hS2⟩ := as_two hS
        obtain ⟨y, rfl, y1, y2⟩ := av_int q.2 hv
        obtain ⟨x, rfl, x1, x2⟩ := av_int q.1 hw
        exact aR_n e hL (S := .int (F x y) :: S2) ⟨hg a b c x y ec x1 x2 y1 y2, hS2⟩ hH (if_neg (hne ec y1 y2))
      · cases e
    · cases e
def ab_SL (F : Int64 → Int64 → Int64) (g : av → av → Option av) : Prop := ∀ (a b c : av) (x y : Int64), g a b = some c → a.2.1 ≤ x.toInt → x.toInt ≤ a.2.2 → b.2.1 ≤ y.toInt → y.toInt ≤ b.2.2 → av_ok (.long (F x y)) c
theorem aR_bl {g : av → av → Option av} {F : Int64 → Int64 → Int64} (hg : ab_SL F g) (e : aa_bl g (pc, A, SA, o) = some ss) (hL : al_ok L A) (hS : as_ok S SA) (hH : ah_ok B sz o h) : aa_R B sz sl (pm_bl F pc L S h sz sl) ss := by
  unfold aa_bl at e
  dsimp only at e
  match SA, hS, e with
  | [], _, e => cases e
  | [_], _, e => cases e
  | b :: a :: r, hS, e =>
    dsimp only at e
    split at e
    · rename_i q
      split at e
      · rename_i c ec
        obtain ⟨v, w, S2, rfl, hv, hw, hS2⟩ := as_two hS
        obtain ⟨y, rfl, y1, y2⟩ := av_long q.2 hv
        obtain ⟨x, rfl, x1, x2⟩ := av_long q.1 hw
        exact aR_n e hL (S := .long (F x y) :: S2) ⟨hg a b c x y ec x1 x2 y1 y2, hS2⟩ hH rfl
      · cases e
    · cases e
theorem ag_divL_ne {a b c : av} {y : Int64} (e : ag_divL a b = some c) (h3 : b.2.1 ≤ y.toInt) (h4 : y.toInt ≤ b.2.2) : ¬ y = 0 := by
  unfold ag_divL at e
  split at e
  · rename_i q
    rintro rfl
    rw [Int64.toInt_zero] at h3 h4
    omega
  · cases e
theorem ag_divL_ok {F : Int64 → Int64 → Int64} : ab_SL F ag_divL := by
  intro a b c x y e h1 h2 h3 h4
  unfold ag_divL at e
  split at e
  · cases e; exact al_top_ok _
  · cases e
theorem aR_bdL {F : Int64 → Int64 → Int64} (e : aa_bl ag_divL (pc, A, SA, o) = some ss) (hL : al_ok L A) (hS : as_ok S SA) (hH : ah_ok B sz o h) : aa_R B sz sl (pm_bdL F pc L S h sz sl) ss := by
  unfold aa_bl at e
  dsimp only at e
  match SA, hS, e with
  | [], _, e => cases e
  | [_], _, e => cases e
  | b :: a :: r, hS, e =>
    dsimp only at e
    split at e
    · rename_i q
      split at e
      · rename_i c ec
        obtain ⟨v, w, S2, rfl, hv, hw, hS2⟩ := as_two hS
        obtain ⟨y, rfl, y1, y2⟩ := av_long q.2 hv
        obtain ⟨x, rfl, x1, x2⟩ := av_long q.1 hw
        exact aR_n e hL (S := .long (F x y) :: S2) ⟨ag_divL_ok a b c x y ec x1 x2 y1 y2, hS2⟩ hH (if_neg (ag_divL_ne ec y1 y2))
      · cases e
    · cases e
theorem ag_mulL_ok : ab_SL (fun x y => x * y) ag_mulL := by
  intro a b c x y e h1 h2 h3 h4
  cases e
  exact al_top_ok _
theorem ag_addL_ok : ab_SL (fun x y => x + y) ag_addL := by
  intro a b c x y e h1 h2 h3 h4
  cases e
  exact al_mk_ok (z := x.toInt + y.toInt) (fun q1 q2 => by rw [Int64.toInt_add, ab_bmL q1 q2]) (by omega) (by omega)
theorem ag_subL_ok : ab_SL (fun x y => x - y) ag_subL := by
  intro a b c x y e h1 h2 h3 h4
  cases e
  exact al_mk_ok (z := x.toInt - y.toInt) (fun q1 q2 => by rw [Int64.toInt_sub, ab_bmL q1 q2]) (by omega) (by omega)
theorem ag_lcmp_ok {a b c : av} {x y : Int64} (e : ag_lcmp a b = some c) (h1 : a.2.1 ≤ x.toInt) (h2 : x.toInt ≤ a.2.2) (h3 : b.2.1 ≤ y.toInt) (h4 : y.toInt ≤ b.2.2) : av_ok (.int (lg_cmp x y)) c := by
  have hx : lg_cmp x y = if y.toInt < x.toInt then 1 else if x.toInt = y.toInt then 0 else -1 := by
    unfold lg_cmp
    simp only [gt_iff_lt, Int64.lt_iff_toInt_lt, ← Int64.toInt_inj]
  rw [hx]
  have n1 : (1 : Int32).toInt = 1 := by decide
  have n0 : (0 : Int32).toInt = 0 := by decide
  have nm : (-1 : Int32).toInt = -1 := by decide
  unfold ag_lcmp at e
  split at e
  · cases e
    rw [if_neg (by omega), if_neg (by omega)]
    exact ⟨rfl, by rw [nm]; exact Int.le_refl _, by rw [nm]; exact Int.le_refl _⟩
  · split at e
    · cases e
      rw [if_pos (by omega)]
      exact ⟨rfl, by rw [n1]; exact Int.le_refl _, by rw [n1]; exact Int.le_refl _⟩
    · split at e
      · cases e
        rw [if_neg (by omega), if_pos (by omega)]
        exact ⟨rfl, by rw [n0]; exact Int.le_refl _, by rw [n0]; exact Int.le_refl _⟩
      split at e
      · cases e
        split
        · exact ⟨rfl, by rw [n1]; decide, by rw [n1]; decide⟩
        · rw [if_pos (by omega)]
          exact ⟨rfl, by rw [n0]; decide, by rw [n0]; decide⟩
      split at e
      · cases e
        rw [if_neg (by omega)]
        split
        · exact ⟨rfl, by rw [n0]; decide, by rw [n0]; decide⟩
        · exact ⟨rfl, by rw [nm]; decide, by rw [nm]; decide⟩
      · cases e
        split
        · exact ⟨rfl, by rw [n1]; decide, by rw [n1]; decide⟩
        · split
          · exact ⟨rfl, by rw [n0]; decide, by rw [n0]; decide⟩
          · exact ⟨rfl, by rw [nm]; decide, by rw [nm]; decide⟩
theorem aR_ui {g : av → av} {F : Int32 → Value} (hg : ∀ (a : av) (x : Int32), a.1 = 0 → a.2.1 ≤ x.toInt → x.toInt ≤ a.2.2 → av_ok (F x) (g a)) (e : aa_ui g (pc, A, SA, o) = some ss) (hL : al_ok L A) (hS : as_ok S SA) (hH : ah_ok B sz o h) : aa_R B sz sl (pm_ui F pc L S h sz sl) ss := by
  unfold aa_ui at e
  dsimp only at e
  match SA, hS, e with
  | [], _, e => cases e
  | a :: r, hS, e =>
    dsimp only at e
    split at e
    · rename_i q
      obtain ⟨v, S1, rfl, hv, hS1⟩ := as_cons hS
      obtain ⟨x, rfl, x1, x2⟩ := av_int q hv
      exact aR_n e hL (S := F x :: S1) ⟨hg a x q x1 x2, hS1⟩ hH rfl
    · cases e
theorem ag_neg_ok (a : av) (x : Int32) (_ : a.1 = 0) (h1 : a.2.1 ≤ x.toInt) (h2 : x.toInt ≤ a.2.2) : av_ok (.int (-x)) (ag_neg a) := ai_mk_ok (z := -x.toInt) (fun q1 q2 => by rw [Int32.toInt_neg, ab_bm q1 q2]) (by omega) (by omega)
theorem ag_i2l_ok (a : av) (x : Int32) (_ : a.1 = 0) (h1 : a.2.1 ≤ x.toInt) (h2 : x.toInt ≤ a.2.2) : av_ok (.long x.toInt64) (ag_i2l a) := ⟨rfl, by rw [Int32.toInt_toInt64]; exact h1, by rw [Int32.toInt_toInt64]; exact h2⟩
theorem ag_cut_ok {lo hi : Int} {F : Int32 → Int32} (hF : ∀ x : Int32, lo ≤ (F x).toInt ∧ (F x).toInt ≤ hi) (hI : ∀ x : Int32, lo ≤ x.toInt → x.toInt ≤ hi → F x = x) (a : av) (x : Int32) (ha : a.1 = 0) (h1 : a.2.1 ≤ x.toInt) (h2 : x.toInt ≤ a.2.2) : av_ok (.int (F x)) (ag_cut lo hi a) := by
  unfold ag_cut
  split
  · rw [hI x (by omega) (by omega)]
    exact ⟨ha, h1, h2⟩
  · exact ⟨rfl, (hF x).1, (hF x).2⟩
theorem ac_b (x : Int32) : x.toInt8.toInt32.toInt = x.toInt.bmod (2 ^ 8) := by rw [Int8.toInt_toInt32, Int32.toInt_toInt8]
theorem ac_s (x : Int32) : x.toInt16.toInt32.toInt = x.toInt.bmod (2 ^ 16) := by rw [Int16.toInt_toInt32, Int32.toInt_toInt16]
theorem ag_b_ok (a : av) (x : Int32) (ha : a.1 = 0) (h1 : a.2.1 ≤ x.toInt) (h2 : x.toInt ≤ a.2.2) : av_ok (.int x.toInt8.toInt32) (ag_cut (-128) 127 a) := by
  refine ag_cut_ok (F := fun x => x.toInt8.toInt32) (fun x => ?_) (fun x q1 q2 => Int32.toInt_inj.1 ?_) a x ha h1 h2
  · show _ ≤ x.toInt8.toInt32.toInt ∧ x.toInt8.toInt32.toInt ≤ _
    rw [ac_b]
    have q1 := Int.le_bmod (x := x.toInt) (m := 2 ^ 8) (by decide)
    have q2 := Int.bmod_lt (x := x.toInt) (m := 2 ^ 8) (by decide)
    generalize x.toInt.bmod (2 ^ 8) = z at q1 q2 ⊢
    exact ⟨by omega, by omega⟩
  · show x.toInt8.toInt32.toInt = _
    rw [ac_b, Int.bmod_eq_of_le (by omega) (by omega)]
theorem ag_s_ok (a : av) (x : Int32) (ha : a.1 = 0) (h1 : a.2.1 ≤ x.toInt) (h2 : x.toInt ≤ a.2.2) : av_ok (.int x.toInt16.toInt32) (ag_cut (-32768) 32767 a) := by
  refine ag_cut_ok (F := fun x => x.toInt16.toInt32) (fun x => ?_) (fun x q1 q2 => Int32.toInt_inj.1 ?_) a x ha h1 h2
  · show _ ≤ x.toInt16.toInt32.toInt ∧ x.toInt16.toInt32.toInt ≤ _
    rw [ac_s]
    have q1 := Int.le_bmod (x := x.toInt) (m := 2 ^ 16) (by decide)
    have q2 := Int.bmod_lt (x := x.toInt) (m := 2 ^ 16) (by decide)
    generalize x.toInt.bmod (2 ^ 16) = z at q1 q2 ⊢
    exact ⟨by omega, by omega⟩
  · show x.toInt16.toInt32.toInt = _
    rw [ac_s, Int.bmod_eq_of_le (by omega) (by omega)]
theorem ac_nn {x : Int32} (h0 : 0 ≤ x.toInt) : (x.toBitVec.toNat : Int) = x.toInt := by
  obtain ⟨j, hj, rfl, hx⟩ := ab_nn (Int.le_refl x.toInt) h0
  rw [hx]
  show ((BitVec.ofNat 32 j).toNat : Int) = j
  rw [BitVec.toNat_ofNat, Nat.mod_eq_of_lt (by omega)]
theorem ag_c_ok (a : av) (x : Int32) (ha : a.1 = 0) (h1 : a.2.1 ≤ x.toInt) (h2 : x.toInt ≤ a.2.2) : av_ok (.int (x.toUInt32 % 65536).toInt32) (ag_cut 0 65535 a) := by
  refine ag_cut_ok (F := fun x => (x.toUInt32 % 65536).toInt32) (fun x => ?_) (fun x q1 q2 => ?_) a x ha h1 h2
  · show _ ≤ (x.toUInt32 % 65536).toInt32.toInt ∧ (x.toUInt32 % 65536).toInt32.toInt ≤ _
    rw [pk_char]
    have h5 : x.toBitVec.toNat % 65536 < 65536 := Nat.mod_lt _ (by decide)
    generalize x.toBitVec.toNat % 65536 = z at h5 ⊢
    rw [nI_toInt (by omega)]
    omega
  · show (x.toUInt32 % 65536).toInt32 = x
    rw [pk_char]
    have h5 := ac_nn q1
    rw [Nat.mod_eq_of_lt (by omega)]
    exact Int32.toBitVec_inj.1 (by show BitVec.ofNat 32 _ = _; simp)
theorem ac_char (x : Int32) : vp_nar .char x = (x.toUInt32 % 65536).toInt32 := by
  rw [vp_nar_char, lg_i2c_mask, pk_char]
  obtain ⟨n, hn, rfl⟩ := ab_of32 x
  show nI n &&& nI 65535 = nI ((BitVec.ofNat 32 n).toNat % 65536)
  rw [ab_and, BitVec.toNat_ofNat, Nat.mod_eq_of_lt hn, show (65535 : Nat) = 2 ^ 16 - 1 from rfl, Nat.and_two_pow_sub_one_eq_mod]
theorem ag_z_ok (a : av) (x : Int32) (ha : a.1 = 0) (h1 : a.2.1 ≤ x.toInt) (h2 : x.toInt ≤ a.2.2) : av_ok (.int (vp_nar .boolean x)) (ag_cut 0 1 a) := by
  have key : ∀ x : Int32, vp_nar .boolean x = nI (x.toBitVec.toNat % 2) := by
    intro x
    obtain ⟨n, hn, rfl⟩ := ab_of32 x
    show nI n &&& nI 1 = nI ((BitVec.ofNat 32 n).toNat % 2)
    rw [ab_and, BitVec.toNat_ofNat, Nat.mod_eq_of_lt hn, Nat.and_one_is_mod]
  refine ag_cut_ok (F := fun x => vp_nar .boolean x) (fun x => ?_) (fun x q1 q2 => ?_) a x ha h1 h2
  · show _ ≤ (vp_nar .boolean x).toInt ∧ (vp_nar .boolean x).toInt ≤ _
    rw [key]
    have h5 : x.toBitVec.toNat % 2 < 2 := Nat.mod_lt _ (by decide)
    generalize x.toBitVec.toNat % 2 = z at h5 ⊢
    rw [nI_toInt (by omega)]
    omega
  · show vp_nar .boolean x = x
    rw [key]
    have h5 := ac_nn q1
    rw [Nat.mod_eq_of_lt (by omega)]
    exact Int32.toBitVec_inj.1 (by show BitVec.ofNat 32 _ = _; simp)
end ABV
