/-! undo, keep and again keep what must be kept -/
section UKA
variable {fr lo sl : Nat} {h : pm_H}
/-- the row of a court's world is typed -/
theorem ty_row {g : Nat → Int32} (t : ∀ j, j < 96 → av_ok (.int (g j)) (rowT j)) : ac_ok (.inl (0, 96, .inl g)) (bB 170) := by
  have hb : ∃ cs, bB 170 = .inr (1000, cs) ∧ cs.length = 96 := ⟨_, rfl, rfl⟩
  obtain ⟨cs, eb, hl⟩ := hb
  have er : ∀ j, rowT j = cs.getD j (0, 0, 0) := fun j => by unfold rowT; rw [eb]
  rw [eb]
  refine ⟨rfl, hl.symm, fun j a ha => ?_⟩
  have hj : j < 96 := by have := (List.getElem?_eq_some_iff.mp ha).1; omega
  have := t j hj
  rw [er, List.getD_eq_getElem?_getD, ha] at this
  exact this
theorem ty_row_of {g : Nat → Int32} (hh : ah_ok bB 198 [] h) (e : h 170 = .inl (0, 96, .inl g)) : ∀ j, j < 96 → av_ok (.int (g j)) (rowT j) := by
  intro j hj
  have hb : ∃ cs, bB 170 = .inr (1000, cs) ∧ cs.length = 96 := ⟨_, rfl, rfl⟩
  obtain ⟨cs, eb, hl⟩ := hb
  have h0 : ac_ok (h 170) (bB 170) := hh 170 (by decide)
  rw [e, eb] at h0
  have er : rowT j = cs.getD j (0, 0, 0) := by unfold rowT; rw [eb]
  have hc : cs[j]? = some cs[j] := List.getElem?_eq_getElem (by omega)
  rw [er, List.getD_eq_getElem?_getD, hc]
  exact h0.2.2 j _ hc
def noC (_ : Nat) : Bool := false
def g0G (g : Nat) : Bool := Nat.beq g 0
def nowC (i : Nat) : Bool := Nat.beq i 170
def g27G (g : Nat) : Bool := Nat.beq g 0 || Nat.beq g 27
theorem x_lt {C : Nat → Bool} {G : Nat → Bool} {h h' : pm_H} (d : dD C G h h') (hC : ∀ i, i < 162 → C i = false) : ∀ i, i < 162 → h' i = h i := fun i hi => d.1 i (by omega) (hC i hi)
theorem post0 (hI : mInv h) {x0 : Value} (m0 : mF h 0 x0) {A : Option Value → Prop} {v : Option Value} (hA : A v) : mPost A h sl (v, mset h 0 (.int 0), 198, sl) := by
  have d : dD noC g0G h (mset h 0 (.int 0)) := dD_set rfl
  refine ⟨hA, rfl, x_lt d (fun _ _ => rfl), dD_ty hI.1 d (fun i hi => by cases hi) (fun g hg b hb => ?_), rxQ_dD d rfl rfl rfl rfl rfl rfl hI.2⟩
  have := Nat.eq_of_beq_eq_true hg
  subst this
  cases (Option.some.inj hb : _ = b)
  exact ⟨_, mF_self m0, ⟨rfl, by decide, by decide⟩⟩
theorem hm_undo (hI : mInv h) (hf : 100 ≤ fr) (hl : 4000 ≤ lo) : pm_WP PT fr lo 214 (0, pm_l0 [.ref 162] 2, [], h, 198, sl) (mPost anInt h sl) := by
  obtain ⟨hh, hq⟩ := id hI
  obtain ⟨x0, h0, -⟩ := ty_fld hh (g := 0) rfl
  obtain ⟨u, h27, hu⟩ := ty_nat hh (g := 27) (u := 15) rfl (by decide)
  have h12 := ty_ref hh (g := 12) (p := 170) rfl
  have h28 := ty_ref hh (g := 28) (p := 178) rfl
  obtain ⟨g, hN, -⟩ := ty_arrE hh (i := 170) (by decide) rfl
  obtain ⟨q1, q2, ⟨f, hU, tU⟩, q4⟩ := id hq
  refine wp_mono (hd_undo h0 h12 h28 h27 hu hU hN) ?_
  rintro _ (⟨-, rfl⟩ | ⟨v, g2, rfl, rfl, hg⟩)
  · exact post0 hI h0 ⟨_, rfl⟩
  · have d : dD nowC g27G h (aset (mset (mset h 0 (.int 0)) 27 (.int (nI v))) 170 96 g2) := dD_tr (dD_tr (dD_set rfl) (dD_set rfl)) (dD_arr rfl (by decide))
    refine ⟨⟨_, rfl⟩, rfl, x_lt d (fun i hi => nb_ne (by omega)), dD_ty hh d (fun i hi _ _ => ?_) (fun k hg b hb => ?_), rxQ_dD d rfl rfl rfl rfl rfl rfl hq⟩
    · have := Nat.eq_of_beq_eq_true hi
      subst this
      show ac_ok (aset (mset (mset h 0 (.int 0)) 27 (.int (nI v))) 170 96 g2 170) (bB 170)
      rw [aset_self]
      refine ty_row (fun j hj => ?_)
      rw [hg j hj]
      have := tU (96 * v + j) (by omega)
      rw [show (96 * v + j) % 96 = j by omega] at this
      exact this
    · have hg2 : k = 0 ∨ k = 27 := by
        unfold g27G at hg
        simp only [Bool.or_eq_true, Nat.beq_eq] at hg
        exact hg
      rcases hg2 with rfl | rfl
      · cases (Option.some.inj hb : _ = b); exact ⟨_, mF_as (by decide) (mF_ne (by decide) (mF_self h0)), ⟨rfl, by decide, by decide⟩⟩
      · cases (Option.some.inj hb : _ = b); exact ⟨_, mF_as (by decide) (mF_self (mF_ne (by decide) h27)), av_nI (by omega) (by omega) (by omega)⟩
def aBool (v : Option Value) : Prop := v = some (.int 0) ∨ v = some (.int 1)
def kpC (i : Nat) : Bool := Nat.beq i 194 || (Nat.beq i 195 || Nat.beq i 196)
theorem ty_bool (hh : ah_ok bB 198 [] h) : ∃ b : Nat → Int32, h 194 = .inl (3, 3, .inl b) ∧ ∀ j, j < 3 → av_ok (.int (b j)) (0, 0, 1) := by
  have h0 : ac_ok (h 194) (bB 194) := hh 194 (by decide)
  have hb : bB 194 = .inl (3, 3, (0, 0, 1)) := rfl
  rw [hb] at h0
  cases e : h 194 with
  | inr q => rw [e] at h0; obtain ⟨ci, fs⟩ := q; exact h0.elim
  | inl q =>
    rw [e] at h0
    obtain ⟨kd, m, f | f | f | f | f⟩ := q
    · obtain ⟨rfl, rfl, q⟩ := h0
      exact ⟨f, rfl, q⟩
    · have := (h0.2.2 0 (by rw [h0.2.1]; decide)).1
      cases this
    · exact h0.elim
    · exact h0.elim
    · have q := h0.2.2 0 (by rw [h0.2.1]; decide)
      cases e3 : f 0 with
      | none => rw [e3] at q; cases q
      | some p => rw [e3] at q; cases q.1
theorem hm_keep (hI : mInv h) (v : Int32) (hf : 100 ≤ fr) (hl : 4000 ≤ lo) : pm_WP PT fr lo 264 (0, pm_l0 [.ref 162, .int v] 3, [], h, 198, sl) (fun x => mPost aBool h sl x ∧ x.1 = some (.int (cond (in_b v.toInt64 0 2) 1 0))) := by
  obtain ⟨hh, hq⟩ := id hI
  obtain ⟨x0, h0, -⟩ := ty_fld hh (g := 0) rfl
  obtain ⟨ch, h5, -⟩ := ty_int hh (g := 5) rfl
  have h12 := ty_ref hh (g := 12) (p := 170) rfl
  have h52 := ty_ref hh (g := 52) (p := 194) rfl
  have h53 := ty_ref hh (g := 53) (p := 195) rfl
  have h54 := ty_ref hh (g := 54) (p := 196) rfl
  obtain ⟨f, hN, -⟩ := ty_arrE hh (i := 170) (by decide) rfl
  obtain ⟨b, hB, tB⟩ := ty_bool hh
  obtain ⟨c, hC, -⟩ := ty_arr hh (i := 195) (by decide) rfl rfl (by decide)
  obtain ⟨q1, q2, q3, ⟨g, hK, tK⟩⟩ := id hq
  refine wp_mono (hd_keep v h0 h5 h52 h53 h54 h12 hN hK hB hC (by omega) (by omega)) ?_
  rintro _ (⟨e, rfl⟩ | ⟨i, g2, hi, rfl, rfl, c1, c2⟩)
  · rw [e]
    exact ⟨post0 hI h0 (Or.inl rfl), rfl⟩
  · have e1 : in_b (nI i).toInt64 0 2 = true := by
      have : ∀ i : Nat, i < 3 → in_b (nI i).toInt64 0 2 = true := by decide
      exact this i hi
    rw [e1]
    refine ⟨?_, rfl⟩
    generalize hw : aset (aset (zset (mset h 0 (.int 0)) 194 3 (upd b i 1)) 195 3 (upd c i ch)) 196 288 g2 = w
    have w196 : w 196 = .inl (0, 288, .inl g2) := by rw [← hw, aset_self]
    have w195 : w 195 = .inl (0, 3, .inl (upd c i ch)) := by rw [← hw, aset_nei (by decide), aset_self]
    have w194 : w 194 = .inl (3, 3, .inl (upd b i 1)) := by rw [← hw, aset_nei (by decide), aset_nei (by decide), zset_self]
    have d : dD kpC g0G h w := by
      rw [← hw]
      refine dD_tr (dD_tr (dD_tr (dD_set (f := 0) (v := .int 0) rfl) ?_) (dD_arr (a := 195) rfl (by decide))) (dD_arr (a := 196) rfl (by decide))
      refine ⟨fun i _ hb => zset_nei (fun q => by rw [q] at hb; cases hb), fun fs e => ⟨fs, ?_, rfl, fun _ _ => rfl⟩⟩
      rw [zset_nei (by decide)]
      exact e
    have w0 : mF w 0 (.int 0) := by
      rw [← hw]
      exact mF_as (by decide) (mF_as (by decide) (mF_zs (by decide) (mF_self h0)))
    refine ⟨Or.inr rfl, rfl, x_lt d (fun i hi => by unfold kpC; rw [nb_ne (by omega), nb_ne (by omega), nb_ne (by omega)]; rfl), dD_ty hh d (fun k hk _ _ => ?_) (fun k hg b hb => ?_), ?_⟩
    · have hk2 : k = 194 ∨ k = 195 ∨ k = 196 := by
        unfold kpC at hk
        simp only [Bool.or_eq_true, Nat.beq_eq] at hk
        exact hk
      rcases hk2 with rfl | rfl | rfl
      · show ac_ok (w 194) _
        rw [w194]
        refine ⟨rfl, rfl, fun j hj => ?_⟩
        unfold upd
        by_cases z : j = i
        · rw [if_pos z]; exact ⟨rfl, by decide, by decide⟩
        · rw [if_neg z]; exact tB j hj
      · show ac_ok (w 195) _
        rw [w195]
        exact ⟨rfl, rfl, fun j _ => ai_top_ok _⟩
      · show ac_ok (w 196) _
        rw [w196]
        exact ⟨rfl, rfl, fun j _ => ai_top_ok _⟩
    · have := Nat.eq_of_beq_eq_true hg
      subst this
      cases (Option.some.inj hb : _ = b)
      exact ⟨_, w0, ⟨rfl, by decide, by decide⟩⟩
    · obtain ⟨⟨n, dn, ff, a1, a2, a3⟩, ⟨cc, gg, b1, b2, b3⟩, ⟨f1, r1, r2⟩⟩ : codeOk h ∧ cgOk h ∧ rowsOk h 178 1536 := ⟨q1, q2, q3⟩
      refine ⟨⟨n, dn, ff, dD_mF d rfl a1, (d.1 174 (by decide) rfl).trans a2, a3⟩, ⟨cc, gg, dD_mF d rfl b1, dD_mF d rfl b2, b3⟩, ⟨f1, (d.1 178 (by decide) rfl).trans r1, r2⟩, g2, w196, fun j hj => ?_⟩
      by_cases z : 96 * i ≤ j ∧ j < 96 * i + 96
      · have := c1 (j - 96 * i) (by omega)
        rw [show 96 * i + (j - 96 * i) = j by omega, Nat.zero_add] at this
        rw [this, show j % 96 = j - 96 * i by omega]
        exact ty_row_of hh hN _ (by omega)
      · rw [c2 j (by omega)]
        exact tK j hj
theorem hm_again (hI : mInv h) (v : Int32) (hf : 100 ≤ fr) (hl : 4000 ≤ lo) : pm_WP PT fr lo 265 (0, pm_l0 [.ref 162, .int v] 3, [], h, 198, sl) (mPost aBool h sl) := by
  obtain ⟨hh, hq⟩ := id hI
  obtain ⟨x0, h0, -⟩ := ty_fld hh (g := 0) rfl
  obtain ⟨x27, h27, -⟩ := ty_fld hh (g := 27) rfl
  obtain ⟨ch, h5, -⟩ := ty_int hh (g := 5) rfl
  have h12 := ty_ref hh (g := 12) (p := 170) rfl
  have h52 := ty_ref hh (g := 52) (p := 194) rfl
  have h53 := ty_ref hh (g := 53) (p := 195) rfl
  have h54 := ty_ref hh (g := 54) (p := 196) rfl
  obtain ⟨g, hN, -⟩ := ty_arrE hh (i := 170) (by decide) rfl
  obtain ⟨b, hB, tB⟩ := ty_bool hh
  obtain ⟨c, hC, -⟩ := ty_arr hh (i := 195) (by decide) rfl rfl (by decide)
  obtain ⟨q1, q2, q3, ⟨f, hK, tK⟩⟩ := id hq
  refine wp_mono (hd_again v h0 h5 h27 h52 h53 h54 h12 hN hK hB hC (by omega) (by omega)) ?_
  rintro _ (rfl | ⟨i, g2, hi, rfl, rfl, hg⟩)
  · exact post0 hI h0 (Or.inl rfl)
  · have d : dD nowC g27G h (mset (aset (mset h 0 (.int 0)) 170 96 g2) 27 (.int 0)) := dD_tr (dD_tr (dD_set rfl) (dD_arr rfl (by decide))) (dD_set rfl)
    refine ⟨Or.inr rfl, rfl, x_lt d (fun i hi => nb_ne (by omega)), dD_ty hh d (fun k hk _ _ => ?_) (fun k hg b hb => ?_), rxQ_dD d rfl rfl rfl rfl rfl rfl hq⟩
    · have := Nat.eq_of_beq_eq_true hk
      subst this
      show ac_ok (mset (aset (mset h 0 (.int 0)) 170 96 g2) 27 (.int 0) 170) (bB 170)
      rw [mset_ne (by decide), aset_self]
      refine ty_row (fun j hj => ?_)
      rw [hg j hj]
      have := tK (96 * i + j) (by omega)
      rw [show (96 * i + j) % 96 = j by omega] at this
      exact this
    · have hg2 : k = 0 ∨ k = 27 := by
        unfold g27G at hg
        simp only [Bool.or_eq_true, Nat.beq_eq] at hg
        exact hg
      rcases hg2 with rfl | rfl
      · cases (Option.some.inj hb : _ = b); exact ⟨_, mF_ne (by decide) (mF_as (by decide) (mF_self h0)), ⟨rfl, by decide, by decide⟩⟩
      · cases (Option.some.inj hb : _ = b); exact ⟨_, mF_self (mF_as (by decide) (mF_ne (by decide) h27)), ⟨rfl, by decide, by decide⟩⟩
end UKA
