/-! the callees that are known by hand -/
section RKF
def kn1_ok (F : fr_F) (PP : pm_H → Prop) (t : Nat) (f : List av → ah → Option (List ar × Nat × Nat)) : Prop := ∀ (as : List av) (o : ah) (R : List ar) (Fr Lo : Nat), f as o = some (R, Fr, Lo) → ∀ (As : List Value) (h : pm_H) (fr lo sl : Nat), as_ok As as → ah_ok bB 198 o h → PP h → Fr ≤ fr → Lo ≤ lo → pm_WP PT fr lo t (0, pm_l0 As (pm_max PT t), [], h, 198, sl) (fun x => (∃ r, r ∈ R ∧ ar_ok bB 198 sl r x) ∧ fm F h x.2.1 ∧ PP x.2.1)
def kn_of (t : Nat) (f : List av → ah → Option (List ar × Nat × Nat)) : kn := fun t' as o => cond (Nat.beq t' t) (f as o) none
theorem kn_of_ok {F : fr_F} {PP : pm_H → Prop} {t : Nat} {f : List av → ah → Option (List ar × Nat × Nat)} (h : kn1_ok F PP t f) : kn_ok (kn_of t f) PT bB 198 F PP := by
  intro t' as o R Fr Lo e
  unfold kn_of at e
  cases hb : Nat.beq t' t with
  | false => rw [hb] at e; cases e
  | true =>
    rw [hb] at e
    have := Nat.eq_of_beq_eq_true hb
    subst this
    exact h as o R Fr Lo e
theorem rf162 {v : Value} (q : av_ok v (2, 162, 1)) : v = .ref 162 := by
  obtain ⟨p, rfl, hp⟩ := av_ref rfl q
  have : p = 162 := by simpa [av_ids] using hp
  rw [this]
theorem as1 {As : List Value} {a : av} (q : as_ok As [a]) : ∃ v, As = [v] ∧ av_ok v a := by
  obtain ⟨v, r, rfl, hv, hr⟩ := as_cons q
  cases as_nil hr
  exact ⟨v, rfl, hv⟩
theorem as2 {As : List Value} {a b : av} (q : as_ok As [a, b]) : ∃ v w, As = [v, w] ∧ av_ok v a ∧ av_ok w b := by
  obtain ⟨v, r, rfl, hv, hr⟩ := as_cons q
  obtain ⟨w, rfl, hw⟩ := as1 hr
  exact ⟨v, w, rfl, hv, hw⟩
theorem as3 {As : List Value} {a b c : av} (q : as_ok As [a, b, c]) : ∃ v w x, As = [v, w, x] ∧ av_ok v a ∧ av_ok w b ∧ av_ok x c := by
  obtain ⟨v, r, rfl, hv, hr⟩ := as_cons q
  obtain ⟨w, x, rfl, hw, hx⟩ := as2 hr
  exact ⟨v, w, x, rfl, hv, hw, hx⟩
/-- where the place in the text may move -/
def at_ok (F : fr_F) (PP : pm_H → Prop) : Prop := ∀ (h : pm_H) (v w : Value), mF h 16 w → PP h → fm F h (mset h 16 v) ∧ PP (mset h 16 v)
theorem at_rx : at_ok rxF rxQ := fun _ _ _ m hp => rk_keep rfl m hp
variable {F : fr_F} {PP : pm_H → Prop}
/-- takes(sign) -/
def rk_takes (as : List av) (o : ah) : Option (List ar × Nat × Nat) := match as with
  | [m, s] => cond (decide (m = (2, 162, 1)) && Nat.beq s.1 0) (match rk_txt o with
    | some (bs, x) => some ([(some (0, 0, 0), o), (some (0, 1, 1), rk_bump o bs x 1 1)], 5, 300)
    | none => none) none
  | _ => none
theorem rk_takes_ok (hat : at_ok F PP) : kn1_ok F PP 181 rk_takes := by
  intro as o R Fr Lo e As h fr lo sl hAs hh hp hF hL
  unfold rk_takes at e
  split at e
  · rename_i m s
    cases hb : (decide (m = (2, 162, 1)) && Nat.beq s.1 0) with
    | false => rw [hb] at e; cases e
    | true =>
      rw [hb] at e
      dsimp only [cond] at e
      rw [Bool.and_eq_true] at hb
      have hm := of_decide_eq_true hb.1
      subst hm
      obtain ⟨v, w, rfl, hv, hw⟩ := as2 hAs
      cases rf162 hv
      obtain ⟨s1, rfl, -, -⟩ := av_int (Nat.eq_of_beq_eq_true hb.2) hw
      split at e
      · rename_i bs x ex
        cases e
        obtain ⟨e1, e2, e3, a, t, tp, m16, m17, m14, hA, ht, ha, x1, x2⟩ := rk_txt_ok hh ex
        refine wp_mono (hd_takes m16 m17 m14 hA ht ha (by omega) (by omega) s1) ?_
        rintro _ rfl
        by_cases q : a < t ∧ tp a = s1
        · rw [decide_eq_true q]
          exact ⟨⟨_, List.mem_cons_of_mem _ (List.mem_singleton_self _), ⟨rfl, by decide⟩, rk_bump_ok (b := a + 1) hh e1 (by omega) (by omega) (by omega), rfl, rfl⟩, hat _ _ _ m16 hp⟩
        · rw [decide_eq_false q]
          refine ⟨⟨_, List.mem_cons_self, ⟨rfl, by decide⟩, ?_, rfl, rfl⟩, hat _ _ _ m16 hp⟩
          show ah_ok bB 198 o (mset h 16 (.int (nI a)))
          rw [mset_same m16]
          exact hh
      · cases e
  · cases e
/-- isDigit() -/
def rk_isDigit (as : List av) (o : ah) : Option (List ar × Nat × Nat) := match as with
  | [m] => cond (decide (m = (2, 162, 1))) (match rk_txt o with
    | some _ => some ([(some (0, 0, 1), o)], 5, 300)
    | none => none) none
  | _ => none
theorem rk_isDigit_ok (hat : at_ok F PP) : kn1_ok F PP 182 rk_isDigit := by
  intro as o R Fr Lo e As h fr lo sl hAs hh hp hF hL
  unfold rk_isDigit at e
  split at e
  · rename_i m
    cases hb : decide (m = (2, 162, 1)) with
    | false => rw [hb] at e; cases e
    | true =>
      rw [hb] at e
      dsimp only [cond] at e
      have hm := of_decide_eq_true hb
      subst hm
      obtain ⟨v, rfl, hv⟩ := as1 hAs
      cases rf162 hv
      split at e
      · rename_i bsx ex
        obtain ⟨bs, x⟩ := bsx
        cases e
        obtain ⟨e1, e2, e3, a, t, tp, m16, m17, m14, hA, ht, ha, x1, x2⟩ := rk_txt_ok hh ex
        refine wp_mono (hd_isDigit m16 m17 m14 hA ht ha (by omega) (by omega)) ?_
        rintro _ rfl
        refine ⟨⟨_, List.mem_cons_self, ?_, hh, rfl, rfl⟩, fm_rf _, hp⟩
        cases dg tp a t
        · exact ⟨rfl, by decide⟩
        · exact ⟨rfl, by decide⟩
      · cases e
  · cases e
/-- takesOf(String) -/
def rk_takesOf (as : List av) (o : ah) : Option (List ar × Nat × Nat) := match as with
  | [m, s] => cond (decide (m = (2, 162, 1)) && decide (s.1 = 4 ∧ 0 ≤ s.2.1 ∧ s.2.1 < 5)) (match rk_txt o with
    | some (bs, x) => some ([(some (0, -1, -1), o), (some (0, 0, 6), rk_bump o bs x 1 1)], 6, 300)
    | none => none) none
  | _ => none
theorem st_le7 : ∀ i, i < 5 → (st_tx i).length ≤ 7 := by decide
theorem rk_takesOf_ok (hat : at_ok F PP) : kn1_ok F PP 183 rk_takesOf := by
  intro as o R Fr Lo e As h fr lo sl hAs hh hp hF hL
  unfold rk_takesOf at e
  split at e
  · rename_i m s
    cases hb : (decide (m = (2, 162, 1)) && decide (s.1 = 4 ∧ 0 ≤ s.2.1 ∧ s.2.1 < 5)) with
    | false => rw [hb] at e; cases e
    | true =>
      rw [hb] at e
      dsimp only [cond] at e
      rw [Bool.and_eq_true] at hb
      have hm := of_decide_eq_true hb.1
      subst hm
      obtain ⟨v, w, rfl, hv, hw⟩ := as2 hAs
      cases rf162 hv
      obtain ⟨k1, k2, k3⟩ := of_decide_eq_true hb.2
      have hw2 : ∃ i : Nat, w = .retAddr i ∧ s.2.1 = (i : Int) := by
        cases w with
        | retAddr i => exact ⟨i, rfl, hw.2⟩
        | int x => have := hw.1; omega
        | long x => have := hw.1; omega
        | ref x => have := hw.1; omega
        | null => have hw : s.1 = 3 := hw; omega
        | _ => exact hw.elim
      obtain ⟨i, rfl, hi⟩ := hw2
      have hi5 : i < 5 := by omega
      split at e
      · rename_i bs x ex
        cases e
        obtain ⟨e1, e2, e3, a, t, tp, m16, m17, m14, hA, ht, ha, x1, x2⟩ := rk_txt_ok hh ex
        refine wp_mono (hd_takesOf m16 m17 m14 hA ht ha (by omega) (by omega) hi5) ?_
        rintro _ rfl
        cases hk : tko i tp a t (st_tx i).length 0 with
        | none => exact ⟨⟨_, List.mem_cons_self, ⟨rfl, by decide⟩, hh, rfl, rfl⟩, fm_rf _, hp⟩
        | some j =>
          obtain ⟨j1, j2, j3⟩ := tko_some hk
          have j4 := st_le7 i hi5
          refine ⟨⟨_, List.mem_cons_of_mem _ (List.mem_singleton_self _), ⟨rfl, ?_, ?_⟩, rk_bump_ok hh e1 (by omega) (by omega) (by omega), rfl, rfl⟩, hat _ _ _ m16 hp⟩
          · rw [nI_toInt (by omega)]; dsimp only; omega
          · rw [nI_toInt (by omega)]; dsimp only; omega
      · cases e
  · cases e
/-- number(digits) -/
def rk_number (as : List av) (o : ah) : Option (List ar × Nat × Nat) := match as with
  | [m, s] => cond (decide (m = (2, 162, 1)) && decide (s.1 = 0 ∧ s.2.1 = s.2.2 ∧ 1 ≤ s.2.1 ∧ s.2.1 ≤ 3)) (match rk_txt o with
    | some (bs, x) => some ([(some (0, -1, -1), o), (some (0, 0, 10 ^ s.2.1.toNat - 1), rk_bump o bs x 1 s.2.1)], 5, 300)
    | none => none) none
  | _ => none
theorem rk_number_ok (hat : at_ok F PP) : kn1_ok F PP 184 rk_number := by
  intro as o R Fr Lo e As h fr lo sl hAs hh hp hF hL
  unfold rk_number at e
  split at e
  · rename_i m s
    cases hb : (decide (m = (2, 162, 1)) && decide (s.1 = 0 ∧ s.2.1 = s.2.2 ∧ 1 ≤ s.2.1 ∧ s.2.1 ≤ 3)) with
    | false => rw [hb] at e; cases e
    | true =>
      rw [hb] at e
      dsimp only [cond] at e
      rw [Bool.and_eq_true] at hb
      have hm := of_decide_eq_true hb.1
      subst hm
      obtain ⟨v, w, rfl, hv, hw⟩ := as2 hAs
      cases rf162 hv
      obtain ⟨k1, k2, k3, k4⟩ := of_decide_eq_true hb.2
      obtain ⟨dv, rfl, d1, d2⟩ := av_int k1 hw
      obtain ⟨d, rfl, hd, ed⟩ := hI_of (show 0 ≤ dv.toInt by omega)
      have hs : s.2.1 = (d : Int) := by omega
      split at e
      · rename_i bs x ex
        cases e
        obtain ⟨e1, e2, e3, a, t, tp, m16, m17, m14, hA, ht, ha, x1, x2⟩ := rk_txt_ok hh ex
        refine wp_mono (hd_number m16 m17 m14 hA ht ha (by omega) (by omega) (d := d) (by omega)) ?_
        rintro _ rfl
        cases hg : dg tp a t with
        | false => exact ⟨⟨_, List.mem_cons_self, ⟨rfl, by decide⟩, hh, rfl, rfl⟩, fm_rf _, hp⟩
        | true =>
          have hpow : (10 : Int) ^ d * (0 + 1) ≤ 10000 := by
            have : d = 1 ∨ d = 2 ∨ d = 3 := by omega
            rcases this with rfl | rfl | rfl <;> decide
          have b1 := nbr_bd (tp := tp) t d a 0 0 (by decide) (by decide) (by decide) hpow
          obtain ⟨d', rfl⟩ : ∃ d', d = d' + 1 := ⟨d - 1, by omega⟩
          have hlt := (dg_iv hg).1
          have b2 : a + 1 ≤ (nbr tp t (d' + 1) a 0).1 := by
            rw [nbr_gt t hg]
            obtain ⟨q1, q2⟩ := nbr_step (v := 0) (x := tp a) (m := 0) ⟨by decide, by decide⟩ (by decide) (dg_iv hg).2
            have hpow2 : (10 : Int) ^ d' * (9 + 1) ≤ 10000 := by
              have : d' = 0 ∨ d' = 1 ∨ d' = 2 := by omega
              rcases this with rfl | rfl | rfl <;> decide
            exact (nbr_bd (tp := tp) t d' (a + 1) (10 * 0 + tp a - 48) 9 q1 (by omega) (by decide) hpow2).1
          refine ⟨⟨_, List.mem_cons_of_mem _ (List.mem_singleton_self _), ⟨rfl, ?_, ?_⟩, rk_bump_ok hh e1 (by omega) (by rw [hs]; omega) (by omega), rfl, rfl⟩, hat _ _ _ m16 hp⟩
          · exact b1.2.2.2.1
          · dsimp only
            rw [hs]
            have := b1.2.2.2.2
            rw [show ((d' + 1 : Nat) : Int).toNat = d' + 1 by omega]
            omega
      · cases e
  · cases e
/-- digitIn(low, high) -/
def rk_digitIn (as : List av) (o : ah) : Option (List ar × Nat × Nat) := match as with
  | [m, l, u] => cond (decide (m = (2, 162, 1)) && (Nat.beq l.1 0 && Nat.beq u.1 0)) (match rk_txt o with
    | some (bs, x) => some ((some (0, -1, -1), o) :: cond (decide (l.2.1 ≤ u.2.2)) [(some (0, l.2.1, u.2.2), rk_bump o bs x 1 1)] [], 5, 300)
    | none => none) none
  | _ => none
theorem in_b_iv {v l u : Int32} (q : in_b v.toInt64 l.toInt64 u.toInt64 = true) : l.toInt ≤ v.toInt ∧ v.toInt ≤ u.toInt := by
  unfold in_b at q
  rw [Bool.and_eq_true] at q
  have e1 : ¬ v.toInt64 < l.toInt64 := by simpa using q.1
  have e2 : ¬ u.toInt64 < v.toInt64 := by simpa using q.2
  rw [Int64.lt_iff_toInt_lt, Int32.toInt_toInt64, Int32.toInt_toInt64] at e1 e2
  omega
theorem rk_digitIn_ok (hat : at_ok F PP) : kn1_ok F PP 185 rk_digitIn := by
  intro as o R Fr Lo e As h fr lo sl hAs hh hp hF hL
  unfold rk_digitIn at e
  split at e
  · rename_i m l u
    cases hb : (decide (m = (2, 162, 1)) && (Nat.beq l.1 0 && Nat.beq u.1 0)) with
    | false => rw [hb] at e; cases e
    | true =>
      rw [hb] at e
      dsimp only [cond] at e
      rw [Bool.and_eq_true, Bool.and_eq_true] at hb
      have hm := of_decide_eq_true hb.1
      subst hm
      obtain ⟨v, w, z, rfl, hv, hw, hz⟩ := as3 hAs
      cases rf162 hv
      obtain ⟨lv, rfl, l1, l2⟩ := av_int (Nat.eq_of_beq_eq_true hb.2.1) hw
      obtain ⟨uv, rfl, u1, u2⟩ := av_int (Nat.eq_of_beq_eq_true hb.2.2) hz
      split at e
      · rename_i bs x ex
        cases e
        obtain ⟨e1, e2, e3, a, t, tp, m16, m17, m14, hA, ht, ha, x1, x2⟩ := rk_txt_ok hh ex
        refine wp_mono (hd_digitIn m16 m17 m14 hA ht ha (by omega) (by omega) lv uv) ?_
        rintro _ rfl
        cases hg : dgi tp a t lv uv with
        | false => exact ⟨⟨_, List.mem_cons_self, ⟨rfl, by decide⟩, hh, rfl, rfl⟩, fm_rf _, hp⟩
        | true =>
          unfold dgi at hg
          rw [Bool.and_eq_true] at hg
          obtain ⟨i1, i2⟩ := in_b_iv hg.2
          have hlt := of_decide_eq_true hg.1
          rw [decide_eq_true (show l.2.1 ≤ u.2.2 by omega)]
          exact ⟨⟨_, List.mem_cons_of_mem _ (List.mem_singleton_self _), ⟨rfl, (by dsimp only; omega), (by dsimp only; omega)⟩, rk_bump_ok hh e1 (by omega) (by omega) (by omega), rfl, rfl⟩, hat _ _ _ m16 hp⟩
      · cases e
  · cases e
/-- ruled() -/
def rk_ruled (as : List av) (o : ah) : Option (List ar × Nat × Nat) := match as with
  | [m] => cond (decide (m = (2, 162, 1)) && (ob_is o 21 (2, 174, 1) && (ob_is o 25 (2, 176, 1) && ob_is o 26 (2, 177, 1)))) (match ah_get bB o 176, ah_get bB o 177 with
    | .inl (k1, n1, b1), .inl (k2, n2, b2) => cond (decide (k1 = 0 ∧ n1 = 80 ∧ b1.1 = 0) && decide (k2 = 0 ∧ n2 = 7 ∧ b2.1 = 0)) (some ([(some ai_top, ah_put o 176 (.inl (0, 80, ai_top)))], 5, 300)) none
    | _, _ => none) none
  | _ => none
theorem rk_ruled_ok : kn1_ok rxF rxQ 200 rk_ruled := by
  intro as o R Fr Lo e As h fr lo sl hAs hh hp hF hL
  unfold rk_ruled at e
  split at e
  · rename_i m
    cases hb : (decide (m = (2, 162, 1)) && (ob_is o 21 (2, 174, 1) && (ob_is o 25 (2, 176, 1) && ob_is o 26 (2, 177, 1)))) with
    | false => rw [hb] at e; cases e
    | true =>
      rw [hb] at e
      dsimp only [cond] at e
      rw [Bool.and_eq_true, Bool.and_eq_true, Bool.and_eq_true] at hb
      obtain ⟨b1, b2, b3, b4⟩ := hb
      have hm := of_decide_eq_true b1
      subst hm
      obtain ⟨v, rfl, hv⟩ := as1 hAs
      cases rf162 hv
      obtain ⟨a1, e1, f1⟩ := ob_is_ok b2
      obtain ⟨a2, e2, f2⟩ := ob_is_ok b3
      obtain ⟨a3, e3, f3⟩ := ob_is_ok b4
      split at e
      · rename_i k1 n1 c1 k2 n2 c2 g1 g2
        cases hc : (decide (k1 = 0 ∧ n1 = 80 ∧ c1.1 = 0) && decide (k2 = 0 ∧ n2 = 7 ∧ c2.1 = 0)) with
        | false => rw [hc] at e; cases e
        | true =>
          rw [hc] at e
          cases e
          rw [Bool.and_eq_true] at hc
          obtain ⟨rfl, rfl, i1⟩ := of_decide_eq_true hc.1
          obtain ⟨rfl, rfl, i2⟩ := of_decide_eq_true hc.2
          obtain ⟨st, hS, -⟩ := ob_int hh (by decide) g1 i1 (by decide)
          obtain ⟨ask, hAk, -⟩ := ob_int hh (by decide) g2 i2 (by decide)
          obtain ⟨⟨n, dn, f, c1', c2', c3', c4'⟩, hp2⟩ := id hp
          refine wp_mono (hd_ruled c3' c4' (by omega) (by omega) c1' (ob_ref hh e1 f1) c2' (ob_ref hh e2 f2) hS (ob_ref hh e3 f3) hAk) ?_
          rintro _ ⟨v, st2, rfl⟩
          have hf0 : fm rxF0 h (aset h 176 80 st2) := fm_as rfl hS
          exact ⟨⟨_, List.mem_singleton_self _, ai_top_ok v, ob_arr hh ⟨rfl, rfl, fun j _ => ai_top_ok _⟩, rfl, rfl⟩, rxle _ _ hf0, rxpp _ _ hf0 hp⟩
      · cases e
  · cases e
/-- copies() -/
def rk_copies (as : List av) (o : ah) : Option (List ar × Nat × Nat) := match as with
  | [m] => cond (decide (m = (2, 162, 1)) && (ob_is o 12 (2, 170, 1) && ob_is o 13 (2, 171, 1))) (match ah_get bB o 170, ah_get bB o 171 with
    | .inr (k1, bs), .inr (k2, cs) => cond (decide (k1 = 1000 ∧ bs.length = 96) && decide (k2 = 1000 ∧ cs.length = 96)) (some ([(none, ah_put o 171 (.inr (1000, bs)))], 5, 300)) none
    | _, _ => none) none
  | _ => none
theorem rk_copies_ok : kn1_ok rxF rxQ 229 rk_copies := by
  intro as o R Fr Lo e As h fr lo sl hAs hh hp hF hL
  unfold rk_copies at e
  split at e
  · rename_i m
    cases hb : (decide (m = (2, 162, 1)) && (ob_is o 12 (2, 170, 1) && ob_is o 13 (2, 171, 1))) with
    | false => rw [hb] at e; cases e
    | true =>
      rw [hb] at e
      dsimp only [cond] at e
      rw [Bool.and_eq_true, Bool.and_eq_true] at hb
      obtain ⟨b1, b2, b3⟩ := hb
      have hm := of_decide_eq_true b1
      subst hm
      obtain ⟨v, rfl, hv⟩ := as1 hAs
      cases rf162 hv
      obtain ⟨a1, e1, f1⟩ := ob_is_ok b2
      obtain ⟨a2, e2, f2⟩ := ob_is_ok b3
      split at e
      · rename_i k1 bs k2 cs g1 g2
        cases hc : (decide (k1 = 1000 ∧ bs.length = 96) && decide (k2 = 1000 ∧ cs.length = 96)) with
        | false => rw [hc] at e; cases e
        | true =>
          rw [hc] at e
          cases e
          rw [Bool.and_eq_true] at hc
          obtain ⟨rfl, i1⟩ := of_decide_eq_true hc.1
          obtain ⟨rfl, i2⟩ := of_decide_eq_true hc.2
          obtain ⟨f, hN, tN⟩ := ob_intE hh (by decide) g1
          obtain ⟨g, hT, -⟩ := ob_intE hh (by decide) g2
          rw [i1] at hN
          rw [i2] at hT
          refine wp_mono (hd_copies (ob_ref hh e2 f2) (ob_ref hh e1 f1) hN hT) ?_
          rintro _ ⟨g3, rfl, q⟩
          have hf0 : fm rxF0 h (aset h 171 96 g3) := fm_as rfl hT
          refine ⟨⟨_, List.mem_singleton_self _, trivial, ob_arr hh ⟨rfl, i1.symm, fun j a ha => ?_⟩, rfl, rfl⟩, rxle _ _ hf0, rxpp _ _ hf0 hp⟩
          rw [q j (by have := (List.getElem?_eq_some_iff.mp ha).1; omega)]
          exact tN j a ha
      · cases e
  · cases e
/-- the rows that are put by lie as they must -/
theorem rowT_of {bs : List av} (e : ac_le (.inr (1000, bs)) (bB 170) = true) {f : Nat → Int32} (t : ∀ (j : Nat) (a : av), bs[j]? = some a → av_ok (.int (f j)) a) : ∀ j, j < 96 → av_ok (.int (f j)) (rowT j) := by
  intro j hj
  have hb : ∃ cs, bB 170 = .inr (1000, cs) ∧ cs.length = 96 := ⟨_, rfl, rfl⟩
  obtain ⟨cs, eb, hl⟩ := hb
  have er : rowT j = cs.getD j (0, 0, 0) := by unfold rowT; rw [eb]
  rw [eb] at e
  have e : (Nat.beq 1000 1000 && al_le bs cs) = true := e
  rw [Bool.and_eq_true] at e
  obtain ⟨l1, l2⟩ := al_le_get e.2
  have hc : cs[j]? = some cs[j] := List.getElem?_eq_getElem (by omega)
  obtain ⟨a, ha, hle⟩ := l2 j _ hc
  rw [er, List.getD_eq_getElem?_getD, hc]
  exact av_le_ok hle (t j a ha)
/-- putsBy() -/
def rk_putsBy (as : List av) (o : ah) : Option (List ar × Nat × Nat) := match as with
  | [m] => cond (decide (m = (2, 162, 1)) && (ob_is o 12 (2, 170, 1) && (ob_is o 28 (2, 178, 1) && decide (ah_get bB o 178 = .inl (0, 1536, ai_top))))) (match ah_get bB o 162, ah_get bB o 170 with
    | .inr (ci, cs), .inr (k1, bs) => (match cs[27]? with
      | some u => cond (decide (ci = 11 ∧ k1 = 1000 ∧ bs.length = 96) && (decide (u.1 = 0 ∧ 0 ≤ u.2.1 ∧ u.2.2 ≤ 15) && ac_le (.inr (1000, bs)) (bB 170))) (some ([(none, o)], 5, 300)) none
      | none => none)
    | _, _ => none) none
  | _ => none
theorem rk_putsBy_ok : kn1_ok rxF rxQ 211 rk_putsBy := by
  intro as o R Fr Lo e As h fr lo sl hAs hh hp hF hL
  unfold rk_putsBy at e
  split at e
  · rename_i m
    cases hb : (decide (m = (2, 162, 1)) && (ob_is o 12 (2, 170, 1) && (ob_is o 28 (2, 178, 1) && decide (ah_get bB o 178 = .inl (0, 1536, ai_top))))) with
    | false => rw [hb] at e; cases e
    | true =>
      rw [hb] at e
      dsimp only [cond] at e
      rw [Bool.and_eq_true, Bool.and_eq_true, Bool.and_eq_true] at hb
      obtain ⟨b1, b2, b3, b4⟩ := hb
      have hm := of_decide_eq_true b1
      subst hm
      obtain ⟨v, rfl, hv⟩ := as1 hAs
      cases rf162 hv
      obtain ⟨a1, e1, f1⟩ := ob_is_ok b2
      obtain ⟨a2, e2, f2⟩ := ob_is_ok b3
      have g178 := of_decide_eq_true b4
      split at e
      · rename_i ci cs k1 bs g1 g2
        split at e
        · rename_i u hu
          cases hc : (decide (ci = 11 ∧ k1 = 1000 ∧ bs.length = 96) && (decide (u.1 = 0 ∧ 0 ≤ u.2.1 ∧ u.2.2 ≤ 15) && ac_le (.inr (1000, bs)) (bB 170))) with
          | false => rw [hc] at e; cases e
          | true =>
            rw [hc] at e
            cases e
            rw [Bool.and_eq_true, Bool.and_eq_true] at hc
            obtain ⟨rfl, rfl, i1⟩ := of_decide_eq_true hc.1
            obtain ⟨u1, u2, u3⟩ := of_decide_eq_true hc.2.1
            obtain ⟨uk, ul, uu⟩ := u
            dsimp only at u1 u2 u3
            subst u1
            obtain ⟨un, m27, w1, w2⟩ := ob_nat hh g1 hu u2 (by omega)
            obtain ⟨f, hN, tN⟩ := ob_intE hh (by decide) g2
            rw [i1] at hN
            obtain ⟨hp1, hp2, ⟨g, hU, tU⟩, hp4⟩ := id hp
            refine wp_mono (hd_putsBy (ob_ref hh e2 f2) (ob_ref hh e1 f1) m27 (by omega) hN hU) ?_
            rintro _ ⟨g3, rfl, q1, q2⟩
            have tf := rowT_of hc.2.2 tN
            have hrow : rowsOk (aset h 178 1536 g3) 178 1536 := by
              refine ⟨g3, aset_self _ _ _ _, fun j hj => ?_⟩
              by_cases z : 96 * un ≤ j ∧ j < 96 * un + 96
              · have := q1 (j - 96 * un) (by omega)
                rw [show 96 * un + (j - 96 * un) = j by omega, Nat.zero_add] at this
                rw [this, show j % 96 = j - 96 * un by omega]
                exact tf _ (by omega)
              · rw [q2 j (by omega)]
                exact tU j hj
            have hf : fm rxF h (aset h 178 1536 g3) := fm_as rfl hU
            refine ⟨⟨_, List.mem_singleton_self _, trivial, fun i hi => ?_, rfl, rfl⟩, hf, ?_⟩
            · by_cases z : i = 178
              · subst z
                show ac_ok (aset h 178 1536 g3 178) (ah_get bB o 178)
                rw [aset_self, g178]
                exact ⟨rfl, rfl, fun j _ => ai_top_ok _⟩
              · show ac_ok (aset h 178 1536 g3 i) _
                rw [aset_nei z]
                exact hh i hi
            · show rxQ (aset h 178 1536 g3)
              obtain ⟨n, dn, ff, c1, c2, c3⟩ := hp1
              obtain ⟨c, gg, d1, d2, d3⟩ := hp2
              obtain ⟨f4, r1, r2⟩ := hp4
              exact ⟨⟨n, dn, ff, mF_as (by decide) c1, aset_ne (by decide) c2, c3⟩, ⟨c, gg, mF_as (by decide) d1, mF_as (by decide) d2, d3⟩, hrow, f4, aset_ne (by decide) r1, r2⟩
        · cases e
      · cases e
  · cases e
/-- adds(answer) -/
def rk_adds (as : List av) (o : ah) : Option (List ar × Nat × Nat) := match as with
  | [m, x] => cond (decide (m = (2, 162, 1)) && (Nat.beq x.1 0 && (ob_is o 28 (2, 178, 1) && decide (ah_get bB o 178 = .inl (0, 1536, ai_top))))) (match ah_get bB o 162 with
    | .inr (ci, cs) => (match cs[27]? with
      | some u => cond (decide (ci = 11) && decide (u.1 = 0 ∧ 0 ≤ u.2.1 ∧ u.2.2 ≤ 15)) (some ([(some x, ah_put o 162 (.inr (11, cs.set 27 (0, 1, 15))))], 5, 300)) none
      | none => none)
    | _ => none) none
  | _ => none
theorem rk_adds_ok : kn1_ok rxF rxQ 212 rk_adds := by
  intro as o R Fr Lo e As h fr lo sl hAs hh hp hF hL
  unfold rk_adds at e
  split at e
  · rename_i m x
    cases hb : (decide (m = (2, 162, 1)) && (Nat.beq x.1 0 && (ob_is o 28 (2, 178, 1) && decide (ah_get bB o 178 = .inl (0, 1536, ai_top))))) with
    | false => rw [hb] at e; cases e
    | true =>
      rw [hb] at e
      dsimp only [cond] at e
      rw [Bool.and_eq_true, Bool.and_eq_true, Bool.and_eq_true] at hb
      obtain ⟨b1, b2, b3, b4⟩ := hb
      have hm := of_decide_eq_true b1
      subst hm
      obtain ⟨v, w, rfl, hv, hw⟩ := as2 hAs
      cases rf162 hv
      obtain ⟨xv, rfl, x1, x2⟩ := av_int (Nat.eq_of_beq_eq_true b2) hw
      obtain ⟨a2, e2, f2⟩ := ob_is_ok b3
      have g178 := of_decide_eq_true b4
      split at e
      · rename_i ci cs g1
        split at e
        · rename_i u hu
          cases hc : (decide (ci = 11) && decide (u.1 = 0 ∧ 0 ≤ u.2.1 ∧ u.2.2 ≤ 15)) with
          | false => rw [hc] at e; cases e
          | true =>
            rw [hc] at e
            cases e
            rw [Bool.and_eq_true] at hc
            have hci := of_decide_eq_true hc.1
            subst hci
            obtain ⟨u1, u2, u3⟩ := of_decide_eq_true hc.2
            obtain ⟨uk, ul, uu⟩ := u
            dsimp only at u1 u2 u3
            subst u1
            obtain ⟨un, m27, w1, w2⟩ := ob_nat hh g1 hu u2 (by omega)
            obtain ⟨hp1, hp2, ⟨g, hU, tU⟩, hp4⟩ := id hp
            refine wp_mono (hd_adds xv (ob_ref hh e2 f2) m27 (by omega) hU) ?_
            rintro _ ⟨g3, u2', rfl, q1, q2, q3⟩
            have hrow : rowsOk (aset (mset h 27 (.int (nI u2'))) 178 1536 g3) 178 1536 := by
              refine ⟨g3, aset_self _ _ _ _, fun j hj => ?_⟩
              rcases q3 with ⟨-, -, rfl⟩ | ⟨-, -, c1, c2⟩
              · exact tU j hj
              · by_cases z : j < 1440
                · have := c1 j z
                  rw [Nat.zero_add] at this
                  rw [this]
                  have t := tU (96 + j) (by omega)
                  rw [show (96 + j) % 96 = j % 96 by omega] at t
                  exact t
                · rw [c2 j (by omega)]
                  exact tU j hj
            have hf1 : fm rxF h (mset h 27 (.int (nI u2'))) := fm_ms rfl rfl m27
            have hf : fm rxF h (aset (mset h 27 (.int (nI u2'))) 178 1536 g3) := fm_tr hf1 (fm_as rfl (mset_arr (by decide) hU))
            have hs := ob_set (v := .int (nI u2')) (g := 27) (a := (0, 1, 15)) hh g1 ⟨rfl, by rw [nI_toInt (by omega)]; dsimp only; omega, by rw [nI_toInt (by omega)]; dsimp only; omega⟩
            refine ⟨⟨_, List.mem_singleton_self _, hw, fun i hi => ?_, rfl, rfl⟩, hf, ?_⟩
            · by_cases z : i = 178
              · subst z
                have e9 : ah_get bB (ah_put o 162 (.inr (11, cs.set 27 (0, 1, 15)))) 178 = ah_get bB o 178 := by rw [ah_put_get, if_neg (by decide)]
                show ac_ok (aset (mset h 27 (.int (nI u2'))) 178 1536 g3 178) (ah_get bB (ah_put o 162 (.inr (11, cs.set 27 (0, 1, 15)))) 178)
                rw [aset_self, e9, g178]
                exact ⟨rfl, rfl, fun j _ => ai_top_ok _⟩
              · show ac_ok (aset (mset h 27 (.int (nI u2'))) 178 1536 g3 i) _
                rw [aset_nei z]
                exact hs i hi
            · show rxQ (aset (mset h 27 (.int (nI u2'))) 178 1536 g3)
              obtain ⟨n, dn, ff, c1, c2, c3⟩ := hp1
              obtain ⟨c, gg, d1, d2, d3⟩ := hp2
              obtain ⟨f4, r1, r2⟩ := hp4
              exact ⟨⟨n, dn, ff, mF_as (by decide) (mF_ne (by decide) c1), aset_ne (by decide) (mset_arr (by decide) c2), c3⟩, ⟨c, gg, mF_as (by decide) (mF_ne (by decide) d1), mF_as (by decide) (mF_ne (by decide) d2), d3⟩, hrow, f4, aset_ne (by decide) (mset_arr (by decide) r1), r2⟩
        · cases e
      · cases e
  · cases e
/-- reading alone -/
def rkp : kn := kn_or (kn_of 181 rk_takes) (kn_or (kn_of 182 rk_isDigit) (kn_or (kn_of 183 rk_takesOf) (kn_or (kn_of 184 rk_number) (kn_of 185 rk_digitIn))))
theorem rkp_ok (hat : at_ok F PP) : kn_ok rkp PT bB 198 F PP := kn_or_ok (kn_of_ok (rk_takes_ok hat)) (kn_or_ok (kn_of_ok (rk_isDigit_ok hat)) (kn_or_ok (kn_of_ok (rk_takesOf_ok hat)) (kn_or_ok (kn_of_ok (rk_number_ok hat)) (kn_of_ok (rk_digitIn_ok hat)))))
def rk : kn := kn_or (kn_of 181 rk_takes) (kn_or (kn_of 182 rk_isDigit) (kn_or (kn_of 183 rk_takesOf) (kn_or (kn_of 184 rk_number) (kn_or (kn_of 185 rk_digitIn) (kn_or (kn_of 200 rk_ruled) (kn_or (kn_of 229 rk_copies) (kn_or (kn_of 211 rk_putsBy) (kn_of 212 rk_adds))))))))
theorem rk_ok : kn_ok rk PT bB 198 rxF rxQ := kn_or_ok (kn_of_ok (rk_takes_ok at_rx)) (kn_or_ok (kn_of_ok (rk_isDigit_ok at_rx)) (kn_or_ok (kn_of_ok (rk_takesOf_ok at_rx)) (kn_or_ok (kn_of_ok (rk_number_ok at_rx)) (kn_or_ok (kn_of_ok (rk_digitIn_ok at_rx)) (kn_or_ok (kn_of_ok rk_ruled_ok) (kn_or_ok (kn_of_ok rk_copies_ok) (kn_or_ok (kn_of_ok rk_putsBy_ok) (kn_of_ok rk_adds_ok))))))))
end RKF
