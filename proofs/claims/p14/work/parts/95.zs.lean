/-! the reference's again, exactly -/
section AGX
variable {fr lo sl : Nat} {h : pm_H}
def agB (b c : Nat → Int32) (ch v : Int32) : Bool := in_b v.toInt64 0 2 && (!decide (b v.toNatClampNeg = 0) && decide (c v.toNatClampNeg = ch))
theorem hd_agx {f g b c : Nat → Int32} {ch : Int32} {x0 x27 : Value} (v : Int32) (h0 : mF h 0 x0) (h5 : mF h 5 (.int ch)) (h27 : mF h 27 x27) (h52 : mF h 52 (.ref 194)) (h53 : mF h 53 (.ref 195)) (h54 : mF h 54 (.ref 196)) (h12 : mF h 12 (.ref 170)) (hN : h 170 = .inl (0, 96, .inl g)) (hK : h 196 = .inl (0, 288, .inl f)) (hB : h 194 = .inl (3, 3, .inl b)) (hCh : h 195 = .inl (0, 3, .inl c)) (hf : 1 ≤ fr) (hl : 30 ≤ lo) : pm_WP PT fr lo 265 (0, pm_l0 [.ref 162, .int v] 3, [], h, 198, sl) (fun r => r.1 = some (.int (cond (agB b c ch v) 1 0)) ∧ r.2.1 194 = h 194 ∧ r.2.1 195 = h 195) := by
  have no : ∀ (w : Int32) (L : pm_L), agB b c ch w = false → pm_WP PT fr lo 265 (40, L, [.int 0], (mset h 0 (.int 0)), 198, sl) (fun r => r.1 = some (.int (cond (agB b c ch w) 1 0)) ∧ r.2.1 194 = h 194 ∧ r.2.1 195 = h 195) := by
    intro w L e
    rw [e]
    exact wp_zret rfl rfl (by decide) ⟨rfl, mset_ne (by decide), mset_ne (by decide)⟩
  refine wp_i rfl rfl rfl rfl ?_
  refine wp_i rfl rfl rfl rfl ?_
  show pm_WP PT fr lo 265 (2, [some (.ref 162), some (.int v), none], [.int 0, .ref 162], h, 198, sl) _
  refine wp_pfm rfl rfl rfl (by decide) h0 ?_
  refine wp_i rfl rfl rfl rfl ?_
  refine wp_i rfl rfl rfl rfl ?_
  refine wp_i rfl rfl rfl rfl ?_
  refine wp_i rfl rfl rfl rfl ?_
  show pm_WP PT fr lo 265 (11, [some (.ref 162), some (.int v), none], [.long 2, .long 0, .long (v).toInt64], (mset h 0 (.int 0)), 198, sl) _
  refine wp_callS (t := 163) (As := [.long (v).toInt64, .long 0, .long 2]) (rest := []) (mx := 6) rfl rfl rfl rfl (Nat.le_of_ble_eq_true rfl) (Nat.le_of_ble_eq_true rfl) (by omega) (by omega) (wp_mono (hd_in v.toInt64 0 2) ?_)
  rintro _ rfl
  by_cases hin : in_b v.toInt64 0 2 = true
  · obtain ⟨i, hi, rfl⟩ := in3 v hin
    have ea : agB b c ch (nI i) = (!decide (b i = 0) && decide (c i = ch)) := by
      unfold agB
      rw [hin, Bool.true_and, nI_clamp (by omega)]
    rw [hin]
    refine wp_i rfl rfl rfl rfl ?_
    refine wp_i rfl rfl rfl rfl ?_
    show pm_WP PT fr lo 265 (18, [some (.ref 162), some (.int (nI i)), none], [.ref 162], (mset h 0 (.int 0)), 198, sl) _
    refine wp_gfm rfl rfl (mF_ne (by decide) h52) ?_
    refine wp_i rfl rfl rfl rfl ?_
    show pm_WP PT fr lo 265 (22, [some (.ref 162), some (.int (nI i)), none], [.int (nI i), .ref 194], (mset h 0 (.int 0)), 198, sl) _
    refine wp_zam rfl (by rw [mset_ne (by decide)]; exact hB) (hI_in hi (by decide)) (by decide) ?_
    rw [nI_clamp (by omega)]
    show pm_WP PT fr lo 265 (23, [some (.ref 162), some (.int (nI i)), none], [.int (b i)], (mset h 0 (.int 0)), 198, sl) _
    refine wp_if (c := .eq) (off := 16) (t := 39) rfl rfl (fun q1 => ?_) (fun q1 => ?_)
    · refine wp_i rfl rfl rfl rfl ?_
      show pm_WP PT fr lo 265 (40, [some (.ref 162), some (.int (nI i)), none], [.int 0], (mset h 0 (.int 0)), 198, sl) _
      exact no (nI i) _ (by rw [ea, decide_eq_true (show b i = 0 from of_decide_eq_true q1)]; rfl)
    · have q1 : ¬ b i = 0 := of_decide_eq_false q1
      refine wp_i rfl rfl rfl rfl ?_
      show pm_WP PT fr lo 265 (27, [some (.ref 162), some (.int (nI i)), none], [.ref 162], (mset h 0 (.int 0)), 198, sl) _
      refine wp_gfm rfl rfl (mF_ne (by decide) h53) ?_
      refine wp_i rfl rfl rfl rfl ?_
      show pm_WP PT fr lo 265 (31, [some (.ref 162), some (.int (nI i)), none], [.int (nI i), .ref 195], (mset h 0 (.int 0)), 198, sl) _
      refine wp_iam rfl (mset_arr (by decide) hCh) (hI_in hi (by decide)) (by decide) ?_
      rw [nI_clamp (by omega)]
      refine wp_i rfl rfl rfl rfl ?_
      show pm_WP PT fr lo 265 (33, [some (.ref 162), some (.int (nI i)), none], [.ref 162, .int (c i)], (mset h 0 (.int 0)), 198, sl) _
      refine wp_gfm rfl rfl (mF_ne (by decide) h5) ?_
      show pm_WP PT fr lo 265 (36, [some (.ref 162), some (.int (nI i)), none], [.int ch, .int (c i)], (mset h 0 (.int 0)), 198, sl) _
      refine wp_icmp (c := .eq) (off := 5) (t := 41) rfl rfl (fun q2 => ?_) (fun q2 => ?_)
      · have q2 : c i = ch := of_decide_eq_true q2
        have ev : agB b c ch (nI i) = true := by rw [ea, decide_eq_false q1, decide_eq_true q2]; rfl
        refine wp_i rfl rfl rfl rfl ?_
        refine wp_i rfl rfl rfl rfl ?_
        show pm_WP PT fr lo 265 (43, [some (.ref 162), some (.int (nI i)), some (.int 0)], [], (mset h 0 (.int 0)), 198, sl) _
        have e9 := aset_same (mset_arr (f := 0) (v := .int 0) (by decide) hN)
        rw [← e9]
        refine cp_again (f := f) (g := g) hi (mF_ne (by decide) h54) (mF_ne (by decide) h12) (mset_arr (by decide) hK) (fun gk hc => ?_) 96 0 g (by omega) (cpk_0 f g (96 * i) 0)
        refine wp_i rfl rfl rfl rfl ?_
        refine wp_i rfl rfl rfl rfl ?_
        show pm_WP PT fr lo 265 (74, [some (.ref 162), some (.int (nI i)), some (.int (nI 96))], [.int 0, .ref 162], (aset (mset h 0 (.int 0)) 170 96 gk), 198, sl) _
        refine wp_pfm rfl rfl rfl (by decide) (mF_as (by decide) (mF_ne (by decide) h27)) ?_
        refine wp_i rfl rfl rfl rfl ?_
        show pm_WP PT fr lo 265 (78, [some (.ref 162), some (.int (nI i)), some (.int (nI 96))], [.int 1], (mset (aset (mset h 0 (.int 0)) 170 96 gk) 27 (.int 0)), 198, sl) _
        refine wp_zret rfl rfl (by decide) ⟨by rw [ev]; rfl, ?_, ?_⟩
        · show mset (aset (mset h 0 (.int 0)) 170 96 gk) 27 (.int 0) 194 = h 194
          rw [mset_ne (by decide), aset_nei (by decide), mset_ne (by decide)]
        · show mset (aset (mset h 0 (.int 0)) 170 96 gk) 27 (.int 0) 195 = h 195
          rw [mset_ne (by decide), aset_nei (by decide), mset_ne (by decide)]
      · have q2 : ¬ c i = ch := of_decide_eq_false q2
        refine wp_i rfl rfl rfl rfl ?_
        show pm_WP PT fr lo 265 (40, [some (.ref 162), some (.int (nI i)), none], [.int 0], (mset h 0 (.int 0)), 198, sl) _
        exact no (nI i) _ (by rw [ea, decide_eq_false q2, Bool.and_false])
  · have hin : in_b v.toInt64 0 2 = false := by
      cases e : in_b v.toInt64 0 2 with
      | true => exact absurd e hin
      | false => rfl
    have ea : agB b c ch v = false := by
      unfold agB
      rw [hin, Bool.false_and]
    rw [hin]
    refine wp_i rfl rfl rfl rfl ?_
    refine wp_i rfl rfl rfl rfl ?_
    show pm_WP PT fr lo 265 (40, [some (.ref 162), some (.int v), none], [.int 0], (mset h 0 (.int 0)), 198, sl) _
    exact no v _ ea
theorem in2_b (x : Int32) : in_b x.toInt64 0 2 = decide (0 ≤ x.toInt ∧ x.toInt ≤ 2) := by
  have e2 : (nI 2).toInt64 = 2 := by decide
  have q := in_bc x (c := 2) (by decide)
  rw [e2] at q
  exact q
end AGX
/-! the cells of what is kept are reached by keep and again alone -/
section NR2
variable {h : pm_H}
def nrA2 (i : Nat) : Bool := Nat.beq i 194 || Nat.beq i 195
def nrG2 (ci f : Nat) : Bool := Nat.beq ci 11 && (Nat.beq f 52 || Nat.beq f 53)
def nr_tc2 (c : ac) : Bool := match c with
  | .inr (ci, as) => (List.range as.length).all (fun f => nrG2 ci f || (match as[f]? with
    | some a => !(av_has a 194) && !(av_has a 195)
    | none => true))
  | .inl (_, n, a) => (List.range n).all (fun j => !(av_has (aq a j) 194) && !(av_has (aq a j) 195))
theorem nr_tb2 : (List.range 198).all (fun i => nr_tc2 (bB i)) = true := by decide +kernel
theorem av_hasn {a : av} {p : Nat} (h1 : a.1 = 2) (h2 : p ∈ av_ids a) : av_has a p = true := by
  unfold av_has
  rw [h1]
  have : (av_ids a).contains p = true := List.elem_iff.mpr h2
  rw [this]
  rfl
theorem nrv_av2 {v : Value} {a : av} (hv : av_ok v a) (ha : (!(av_has a 194) && !(av_has a 195)) = true) : nrv nrA2 v := by
  intro p e
  subst e
  cases hp : nrA2 p with
  | false => rfl
  | true =>
    exfalso
    obtain ⟨h1, h2⟩ := hv
    unfold nrA2 at hp
    rw [Bool.or_eq_true] at hp
    rw [Bool.and_eq_true] at ha
    rcases hp with hp | hp
    · have ep := Nat.eq_of_beq_eq_true hp
      subst ep
      have := ha.1
      rw [av_hasn h1 h2] at this
      cases this
    · have ep := Nat.eq_of_beq_eq_true hp
      subst ep
      have := ha.2
      rw [av_hasn h1 h2] at this
      cases this
theorem nrH_ty2 (hh : ah_ok bB 198 [] h) : nrH nrA2 nrG2 h := by
  refine ⟨fun i ci fs hi e f v hv hG => ?_, fun i kd n f hi e j hj => ?_⟩
  · have h0 := hh i hi
    have hb := List.all_eq_true.mp nr_tb2 i (List.mem_range.mpr hi)
    rw [show ah_get bB [] i = bB i from rfl, e] at h0
    cases hB : bB i with
    | inl q =>
      rw [hB] at h0
      exact h0.elim
    | inr q =>
      obtain ⟨ci', as⟩ := q
      rw [hB] at h0 hb
      obtain ⟨⟨h1, -⟩, h2, h3⟩ := h0
      subst h1
      have hf : f < as.length := by rw [← h2]; exact (List.getElem?_eq_some_iff.mp hv).1
      have hq := List.all_eq_true.mp hb f (List.mem_range.mpr hf)
      rw [hG, Bool.false_or, List.getElem?_eq_getElem hf] at hq
      exact nrv_av2 (h3 f v _ hv (List.getElem?_eq_getElem hf)) hq
  · have h0 := hh i hi
    have hb := List.all_eq_true.mp nr_tb2 i (List.mem_range.mpr hi)
    rw [show ah_get bB [] i = bB i from rfl, e] at h0
    cases hB : bB i with
    | inl q =>
      obtain ⟨kd', n', a⟩ := q
      rw [hB] at h0 hb
      obtain ⟨h1, h2, h3⟩ := h0
      subst h2
      exact nrv_av2 (h3 j hj) (List.all_eq_true.mp hb j (List.mem_range.mpr hj))
    | inr q =>
      rw [hB] at h0
      exact h0.elim
theorem nrS_ints2 (vs : List Int32) : nrS nrA2 (.ref 162 :: vs.map Value.int) := by
  refine nrS_cons.mpr ⟨fun p e => by cases e; rfl, fun v hv => ?_⟩
  obtain ⟨x, -, rfl⟩ := List.mem_map.mp hv
  exact nrv_i x
def nKX : List Nat := [0, 6, 15, 22, 45, 52, 57, 72, 78, 82, 85, 91, 92, 93, 128, 161, 264, 265]
def nKK : Nat → Bool := sf_X nKX
def nP0 (_ _ : Nat) : Bool := false
theorem nK_all : ((List.range 271).filter (fun k => !(nKX.any (fun x => Nat.beq x k)))).all (fun k => sf_b nP0 nKK k && nr_b nrG2 nKK k) = true := by decide +kernel
theorem nK_sf : sf_ok nP0 nKK := sf_of sf_X_in (List.all_eq_true.mpr (fun k hk => ((Bool.and_eq_true _ _).mp (List.all_eq_true.mp nK_all k hk)).1))
theorem nK_nr : nr_ok nrG2 nKK := nr_of sf_X_in (List.all_eq_true.mpr (fun k hk => ((Bool.and_eq_true _ _).mp (List.all_eq_true.mp nK_all k hk)).2))
def sK (ci f : Nat) : Bool := (Nat.beq ci 10 && Nat.beq f 7) || (Nat.beq ci 11 && (Nat.beq f 5 || (Nat.beq f 3 || Nat.beq f 4)))
def sKX : List Nat := [0, 6, 15, 22, 45, 52, 57, 72, 78, 82, 85, 88, 89, 91, 92, 93, 125, 128, 133, 161, 188, 190, 192]
def sKK : Nat → Bool := sf_X sKX
theorem sK_all : ((List.range 271).filter (fun k => !(sKX.any (fun x => Nat.beq x k)))).all (sf_b sK sKK) = true := by decide +kernel
theorem sK_ok : sf_ok sK sKK := sf_of sf_X_in sK_all
end NR2
/-! turns told by the runs of both calls -/
section RUN
variable {P : pm_St → Prop} {sl bS Ln i pc n kx km pe : Nat} {xs : Nat → Int32} {L : pm_L} {h h1 h2 : pm_H} {vs : List Int32} {v w : Int32}
def prX (sl kx : Nat) (vs : List Int32) (h h1 : pm_H) (v : Int32) : Prop := ∃ m, pm_run PT m 2047 (84000 - (19 + pm_max PT kx)) kx (0, pm_l0 (.ref 0 :: vs.map Value.int) (pm_max PT kx), [], h, 198, sl) = some (some (.int v), h1, 198, sl)
def prM (sl km : Nat) (vs : List Int32) (h1 h2 : pm_H) (w : Int32) : Prop := ∃ m, pm_run PT m 2047 (84000 - (19 + pm_max PT km)) km (0, pm_l0 (.ref 162 :: vs.map Value.int) (pm_max PT km), [], h1, 198, sl) = some (some (.int w), h2, 198, sl)
def prun (sl kx km : Nat) (vs : List Int32) (h h1 h2 : pm_H) (v w : Int32) : Prop := prX sl kx vs h h1 v ∧ (fm cxF h h1 ∧ mInv h1) ∧ prM sl km vs h1 h2 w ∧ (∀ i, i < 162 → h2 i = h1 i) ∧ mInv h2
theorem op_wp (hI : mInv h) {c : con} (hx : con_ok PT bB 198 cxF cxQ c) (ek : c.1 = kx) (ec : cx_int c vs.length = true) {A : Option Value → Prop} (hA : ∀ v, A v → ∃ x : Int32, v = some (.int x)) (hm : ∀ h1, mInv h1 → pm_WP PT 2047 (84000 - (19 + pm_max PT km)) km (0, pm_l0 (.ref 162 :: vs.map Value.int) (pm_max PT km), [], h1, 198, sl) (mPost A h1 sl)) : pm_WP PT 2047 (84000 - (19 + pm_max PT kx)) kx (0, pm_l0 (.ref 0 :: vs.map Value.int) (pm_max PT kx), [], h, 198, sl) (fun q => q.2.2 = (198, sl) ∧ ∃ v : Int32, q.1 = some (.int v) ∧ (∃ f2, q.2.1 162 = .inr (11, f2)) ∧ pm_WP PT 2047 (84000 - (19 + pm_max PT km)) km (0, pm_l0 (.ref 162 :: vs.map Value.int) (pm_max PT km), [], q.2) (fun y => y.2.2 = (198, sl) ∧ ∃ w : Int32, y.1 = some (.int w) ∧ prun sl kx km vs h q.2.1 y.2.1 v w)) := by
  subst ek
  unfold cx_int at ec
  simp only [Bool.and_eq_true] at ec
  obtain ⟨e1, e2, e3, e4, e5, e6, e7, e8⟩ := ec
  have e1 := of_decide_eq_true e1
  have e2 := of_decide_eq_true e2
  have e4 := of_decide_eq_true e4
  have e5 := Nat.le_of_ble_eq_true e5
  have e6 := Nat.le_of_ble_eq_true e6
  have e8 := Nat.le_of_ble_eq_true e8
  have e7 : c.2.2.2.2.2.2.2 = false := by simpa using e7
  refine wp_mono (wp_runs (Z := fun r => ∃ m, pm_run PT m 2047 (84000 - (19 + pm_max PT c.1)) c.1 (0, pm_l0 (.ref 0 :: vs.map Value.int) (pm_max PT c.1), [], h, 198, sl) = some r) (hx (.ref 0 :: vs.map Value.int) h 2047 (84000 - (19 + pm_max PT c.1)) sl ?_ ?_ trivial e5 (by omega)) (fun m r hh => ⟨m, hh⟩)) ?_
  · rw [e1]
    exact ⟨⟨rfl, List.mem_singleton_self _⟩, as_top vs⟩
  · rw [e2]; exact hI.1
  · rintro ⟨rv, h1, s1⟩ ⟨⟨⟨a, ha, hv⟩, q1, ⟨q2, -⟩, q3⟩, q4⟩
    rw [e7, e4] at q3
    dsimp only [cond] at hv q1 q2 q3 q4
    cases q1
    have hI1 := cx_inv hI q2 q3
    have ex : ∃ x : Int32, rv = some (.int x) := by
      have ea := List.all_eq_true.mp e3 a ha
      cases a with
      | none => cases ea
      | some b =>
        cases rv with
        | none => exact hv.elim
        | some v =>
          obtain ⟨x, rfl, -⟩ := av_int (Nat.eq_of_beq_eq_true ea) hv
          exact ⟨x, rfl⟩
    obtain ⟨x, rfl⟩ := ex
    refine ⟨rfl, x, rfl, ty_162 hI1.1, wp_mono (wp_runs (Z := fun r => ∃ m, pm_run PT m 2047 (84000 - (19 + pm_max PT km)) km (0, pm_l0 (.ref 162 :: vs.map Value.int) (pm_max PT km), [], h1, 198, sl) = some r) (hm h1 hI1) (fun m r hh => ⟨m, hh⟩)) ?_⟩
    rintro ⟨rv2, h2, s2⟩ ⟨⟨p1, p2, p3, p4⟩, p5⟩
    dsimp only at p1 p2 p3 p4 p5
    cases p2
    obtain ⟨y, rfl⟩ := hA _ p1
    exact ⟨rfl, y, rfl, q4, ⟨q2, hI1⟩, p5, p3, p4⟩
theorem op_run (H : lc_Cl 198 sl bS Ln xs P) {n kx km pe : Nat} (hc : lc_twp pc n kx km pe = true) (hL : lc_L bS i L) (hb : i + 1 + n ≤ Ln) (hI : mInv h) {c : con} (hx : con_ok PT bB 198 cxF cxQ c) (ek : c.1 = kx) (ec : cx_int c n = true) {A : Option Value → Prop} (hA : ∀ v, A v → ∃ x : Int32, v = some (.int x)) (hm : ∀ h1, mInv h1 → pm_WP PT 2047 (84000 - (19 + pm_max PT km)) km (0, pm_l0 (.ref 162 :: (lc_vals xs i n 1).map Value.int) (pm_max PT km), [], h1, 198, sl) (mPost A h1 sl)) (kk : ∀ h1 h2 v w, prun sl kx km (lc_vals xs i n 1) h h1 h2 v w → P (pe, L, [], h2, 198, sl)) : P (pc, L, [], h, 198, sl) := by
  obtain ⟨f1, o1⟩ := ty_0 hI.1
  refine lc_twp_ok H hc hL hb (by decide) o1 (wp_mono (op_wp hI hx ek (by rw [lc_vals_len]; exact ec) hA hm) ?_)
  rintro ⟨rv, h1, s1⟩ ⟨q1, v, q2, q3, q4⟩
  cases q1
  refine ⟨rfl, ⟨v, q2⟩, q3, wp_mono q4 ?_⟩
  rintro ⟨rv2, h2, s2⟩ ⟨p2, w, p1, p3⟩
  cases p2
  exact ⟨⟨w, p1⟩, rfl, kk _ h2 v w p3⟩
end RUN
