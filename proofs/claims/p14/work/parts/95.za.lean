/-! THE TEXT of both, and how many COURTS: what is kept beside mInv -/
section RL4
variable {P : pm_St → Prop} {sl bS Ln i pc n fr lo k : Nat} {xs : Nat → Int32} {L : pm_L} {h h1 : pm_H} {R : pm_Rs}
def nrA (i : Nat) : Bool := Nat.beq i 172
def nrG (ci f : Nat) : Bool := Nat.beq ci 11 && Nat.beq f 14
def av_has (a : av) (p : Nat) : Bool := Nat.beq a.1 2 && (av_ids a).contains p
def nr_tc (c : ac) : Bool := match c with
  | .inr (ci, as) => (List.range as.length).all (fun f => nrG ci f || (match as[f]? with
    | some a => !(av_has a 172)
    | none => true))
  | .inl (_, n, a) => (List.range n).all (fun j => !(av_has (aq a j) 172))
theorem nr_tb : (List.range 198).all (fun i => nr_tc (bB i)) = true := by decide +kernel
theorem nrv_av {v : Value} {a : av} (hv : av_ok v a) (ha : av_has a 172 = false) : nrv nrA v := by
  intro p e
  subst e
  cases hp : nrA p with
  | false => rfl
  | true =>
    exfalso
    have ep := Nat.eq_of_beq_eq_true hp
    subst ep
    obtain ⟨h1, h2⟩ := hv
    unfold av_has at ha
    rw [h1] at ha
    have : (av_ids a).contains 172 = true := List.elem_iff.mpr h2
    rw [this] at ha
    cases ha
theorem nrH_ty (hh : ah_ok bB 198 [] h) : nrH nrA nrG h := by
  refine ⟨fun i ci fs hi e f v hv hG => ?_, fun i kd n f hi e j hj => ?_⟩
  · have h0 := hh i hi
    have hb := List.all_eq_true.mp nr_tb i (List.mem_range.mpr hi)
    rw [show ah_get bB [] i = bB i from rfl, e] at h0
    cases hB : bB i with
    | inl q =>
      rw [hB] at h0
      exact h0.elim
    | inr q =>
      obtain ⟨ci', as⟩ := q
      rw [hB] at h0 hb
      obtain ⟨⟨h1, -⟩, h2, h3⟩ := h0
      subst h1
      have hf : f < as.length := by rw [← h2]; exact (List.getElem?_eq_some_iff.mp hv).1
      have hq := List.all_eq_true.mp hb f (List.mem_range.mpr hf)
      rw [hG, Bool.false_or, List.getElem?_eq_getElem hf] at hq
      exact nrv_av (h3 f v _ hv (List.getElem?_eq_getElem hf)) (by simpa using hq)
  · have h0 := hh i hi
    have hb := List.all_eq_true.mp nr_tb i (List.mem_range.mpr hi)
    rw [show ah_get bB [] i = bB i from rfl, e] at h0
    cases hB : bB i with
    | inl q =>
      obtain ⟨kd', n', a⟩ := q
      rw [hB] at h0 hb
      obtain ⟨h1, h2, h3⟩ := h0
      subst h2
      exact nrv_av (h3 j hj) (by simpa using List.all_eq_true.mp hb j (List.mem_range.mpr hj))
    | inr q =>
      rw [hB] at h0
      exact h0.elim
/-- the reference's calls that neither read nor write what the relation speaks of -/
def sM (ci f : Nat) : Bool := Nat.beq ci 11 && (Nat.beq f 15 || (Nat.beq f 3 || Nat.beq f 14))
def sMX : List Nat := [0, 6, 15, 22, 45, 52, 57, 72, 78, 82, 85, 91, 92, 93, 128, 161, 178, 179, 180, 181, 182, 183, 184, 185, 187, 188, 191, 192, 194, 195, 196, 198, 226, 228, 258]
def sMK : Nat → Bool := sf_X sMX
theorem sM_all : ((List.range 271).filter (fun k => !(sMX.any (fun x => Nat.beq x k)))).all (fun k => sf_b sM sMK k && nr_b nrG sMK k) = true := by decide +kernel
theorem sM_ok : sf_ok sM sMK := sf_of sf_X_in (List.all_eq_true.mpr (fun k hk => ((Bool.and_eq_true _ _).mp (List.all_eq_true.mp sM_all k hk)).1))
theorem sM_nr : nr_ok nrG sMK := nr_of sf_X_in (List.all_eq_true.mpr (fun k hk => ((Bool.and_eq_true _ _).mp (List.all_eq_true.mp sM_all k hk)).2))
/-- all calls but courts leave the number of COURTS alone -/
def sC (ci f : Nat) : Bool := (Nat.beq ci 3 && Nat.beq f 0) || (Nat.beq ci 11 && Nat.beq f 3)
def sCX : List Nat := [0, 6, 15, 22, 45, 52, 57, 72, 78, 82, 85, 88, 91, 92, 93, 128, 161, 188]
def sCK : Nat → Bool := sf_X sCX
theorem sC_all : ((List.range 271).filter (fun k => !(sCX.any (fun x => Nat.beq x k)))).all (sf_b sC sCK) = true := by decide +kernel
theorem sC_ok : sf_ok sC sCK := sf_of sf_X_in sC_all
def REL4 (h : pm_H) : Prop := ∃ (n0 cc : Nat) (f g : Nat → Int32), n0 ≤ 80 ∧ cc ≤ 6 ∧ (pT h n0 f ∧ rC h (.int (nI cc))) ∧ (mF h 15 (.int (nI n0)) ∧ h 172 = .inl (0, 80, .inl g) ∧ mF h 3 (.int (nI cc))) ∧ ∀ j, j < n0 → f j = g j
def LI4 (h : pm_H) : Prop := mInv h ∧ REL4 h
theorem pT_fm {n0 : Nat} {f : Nat → Int32} (q : fm (sfF sQ) h h1) (a : akp 1 h h1) (x : pT h n0 f) : pT h1 n0 f := by
  obtain ⟨⟨gs, b1, b2, b3⟩, c1⟩ := x
  obtain ⟨gs', g1, -, g2⟩ := q.2 1 8 gs b1
  exact ⟨⟨gs', g1, (g2 0 rfl).trans b2, (g2 1 rfl).trans b3⟩, a 2 _ c1⟩
theorem pT_lo {n0 : Nat} {f : Nat → Int32} (q : ∀ i, i < 162 → h1 i = h i) (x : pT h n0 f) : pT h1 n0 f := by
  obtain ⟨⟨gs, b1, b2, b3⟩, c1⟩ := x
  exact ⟨⟨gs, (q 1 (by decide)).trans b1, b2, b3⟩, (q 2 (by decide)).trans c1⟩
theorem rC_lo {v : Value} (q : ∀ i, i < 162 → h1 i = h i) (x : rC h v) : rC h1 v := by
  obtain ⟨rs, b1, b2⟩ := x
  exact ⟨rs, (q 5 (by decide)).trans b1, b2⟩
theorem rC_fm {F : Nat → Nat → Bool} (hF : F 3 0 = true) {v : Value} (q : fm (sfF F) h h1) (x : rC h v) : rC h1 v := by
  obtain ⟨rs, b1, b2⟩ := x
  obtain ⟨rs', g1, -, g2⟩ := q.2 5 3 rs b1
  exact ⟨rs', g1, (g2 0 hF).trans b2⟩
theorem mF_hi {g : Nat} {v : Value} (q : fm cxF h h1) (x : mF h g v) : mF h1 g v := by
  obtain ⟨fs, e1, e2⟩ := x
  exact ⟨fs, (q.1 162 rfl).trans e1, e2⟩
theorem twX_LI4 (hI : LI4 h) (q : twX h h1) : LI4 h1 := by
  refine ⟨twX_inv hI.1 q, ?_⟩
  obtain ⟨n0, cc, f, g, r1, r2, ⟨⟨⟨gs, b1, b2, b3⟩, c1⟩, rs, d1, d2⟩, ⟨⟨ms, m1, m2⟩, t1, ms', m1', m2'⟩, hj⟩ := hI.2
  exact ⟨n0, cc, f, g, r1, r2, ⟨⟨⟨gs, (q.1 1 (by decide)).trans b1, b2, b3⟩, (q.1 2 (by decide)).trans c1⟩, rs, (q.1 5 (by decide)).trans d1, d2⟩, ⟨⟨ms, (q.1 162 (by decide)).trans m1, m2⟩, (q.1 172 (by decide)).trans t1, ms', (q.1 162 (by decide)).trans m1', m2'⟩, hj⟩
/-- what a call of the reference outside of sMX leaves alone -/
theorem m_keeps {As : List Value} {mx : Nat} (hk : sMK k = true) (hI : mInv h) (hA : nrS nrA As) (hh : pm_run PT n fr lo k (0, pm_l0 As mx, [], h, 198, sl) = some R) : fm (sfF sM) h R.2.1 ∧ R.2.1 172 = h 172 := by
  refine ⟨sf_run sM_ok n fr lo k _ R hk hh, ?_⟩
  exact (nr_run sM_nr sM_ok n fr lo k _ R hk (Nat.le_refl _) ⟨nrL_l0 hA, fun v hv => absurd hv (by simp), nrH_ty hI.1⟩ hh).2 172 rfl
theorem nrS_ints (vs : List Int32) : nrS nrA (.ref 162 :: vs.map Value.int) := by
  refine nrS_cons.mpr ⟨fun p e => by cases e; rfl, fun v hv => ?_⟩
  obtain ⟨x, -, rfl⟩ := List.mem_map.mp hv
  exact nrv_i x
end RL4
