/-! heard, forget: box by box, the count known -/
section HRD
variable {P : pm_St → Prop} {sl bS Ln i pc : Nat} {xs : Nat → Int32} {L : pm_L} {h h1 : pm_H}
/-- a field known more closely -/
theorem ovf_in {a ci f : Nat} {as : List av} {fs : List Value} {v : Value} {x : av} (hh : ah_ok bB 198 [] h) (ha : a < 198) (hb : bB a = .inr (ci, as)) (he : h a = .inr (ci, fs)) (hv : fs[f]? = some v) (hx : av_ok v x) : ah_ok bB 198 [(a, .inr (ci, as.set f x))] h := by
  intro i hi
  by_cases z : i = a
  · subst z
    have e0 : ah_get bB [(i, .inr (ci, as.set f x))] i = .inr (ci, as.set f x) := by
      unfold ah_get pm_fd
      rw [Nat.beq_refl]
      rfl
    have h0 := hh i hi
    rw [show ah_get bB [] i = bB i from rfl, hb, he] at h0
    rw [e0, he]
    obtain ⟨h1, h2, h3⟩ := h0
    refine ⟨h1, by rw [List.length_set]; exact h2, fun j w y hw hy => ?_⟩
    by_cases zj : f = j
    · subst zj
      rw [hv] at hw
      cases hw
      have hl : f < as.length := by rw [← h2]; exact (List.getElem?_eq_some_iff.mp hv).1
      rw [List.getElem?_set_self hl] at hy
      cases hy
      exact hx
    · rw [List.getElem?_set_ne zj] at hy
      exact h3 j w y hw hy
  · have e0 : ah_get bB [(a, .inr (ci, as.set f x))] i = bB i := by
      unfold ah_get pm_fd
      rw [nb_ne (fun e => z e.symm)]
      rfl
    rw [e0]
    exact hh i hi
theorem ovf_out {a ci f : Nat} {as : List av} {x y : av} (hh : ah_ok bB 198 [(a, .inr (ci, as.set f x))] h) (ha : a < 198) (hlt : ci < 1000) (hb : bB a = .inr (ci, as)) (hy : as[f]? = some y) (hle : av_le x y = true) : ah_ok bB 198 [] h ∧ ∃ fs v, h a = .inr (ci, fs) ∧ fs[f]? = some v ∧ av_ok v x := by
  have hl : f < as.length := (List.getElem?_eq_some_iff.mp hy).1
  have e0 : ah_get bB [(a, .inr (ci, as.set f x))] a = .inr (ci, as.set f x) := by
    unfold ah_get pm_fd
    rw [Nat.beq_refl]
    rfl
  have h0 := hh a ha
  rw [e0] at h0
  obtain ⟨fs, ef, hlen, hg⟩ := aE_obj h0 hlt
  rw [List.length_set] at hlen
  have hlf : f < fs.length := by omega
  have ev : fs[f]? = some fs[f] := List.getElem?_eq_getElem hlf
  have hv := hg f _ x ev (List.getElem?_set_self hl)
  refine ⟨fun i hi => ?_, fs, fs[f], ef, ev, hv⟩
  by_cases z : i = a
  · subst z
    rw [show ah_get bB [] i = bB i from rfl, hb, ef]
    refine ⟨⟨rfl, hlt⟩, hlen, fun j w u hw hu => ?_⟩
    by_cases zj : f = j
    · subst zj
      rw [hy] at hu
      cases hu
      rw [ev] at hw
      cases hw
      exact av_le_ok hle hv
    · exact hg j w u hw (by rw [List.getElem?_set_ne zj]; exact hu)
  · have h1 := hh i hi
    have e1 : ah_get bB [(a, .inr (ci, as.set f x))] i = bB i := by
      unfold ah_get pm_fd
      rw [nb_ne (fun e => z e.symm)]
      rfl
    rw [e1] at h1
    exact h1
def asC : List av := match bB 159 with
  | .inr (_, as) => as
  | _ => []
def asM : List av := match bB 162 with
  | .inr (_, as) => as
  | _ => []
theorem asC_eq : bB 159 = .inr (0, asC) := rfl
theorem asM_eq : bB 162 = .inr (11, asM) := rfl
theorem asC_0 : asC[0]? = some (0, 0, 12) := by decide +kernel
theorem asM_47 : asM[47]? = some (0, 0, 12) := by decide +kernel
def hoC (kx : Nat) (bs : List av) (c c' : Nat) (a : Int) : con := (kx, (2, 0, 1) :: bs, [(159, .inr (0, asC.set 0 (0, c, c)))], [some (0, a, a)], [(159, .inr (0, asC.set 0 (0, c', c')))], 20, 1500, false)
def hoM (km : Nat) (bs : List av) (c c' : Nat) (a : Int) : con := (km, (2, 162, 1) :: bs, [(162, .inr (11, asM.set 47 (0, c, c)))], [some (0, a, a)], [(162, .inr (11, asM.set 47 (0, c', c')))], 20, 1500, false)
def ho_J (_ : Nat) (_ _ : ast) : Bool := false
def ho_jo (_ : Nat) (_ _ : ar) : Bool := false
def ho_P (_ _ : Nat) : List sp := []
def ho_chk (kx km : Nat) (bs : List av) (c c' : Nat) (a : Int) : Bool := con_chk (kl bB cxF []) PT bB 198 cxF ho_J ho_jo ho_P 500 (hoC kx bs c c' a) && con_chk (kl bB rxF []) PT bB 198 rxF0 ho_J ho_jo ho_P 500 (hoM km bs c c' a)
theorem nIof {x : Int32} {c : Nat} (hc : c ≤ 12) (h1 : (c : Int) ≤ x.toInt) (h2 : x.toInt ≤ (c : Int)) : x = nI c := Int32.toInt_inj.1 (by rw [nI_toInt (by omega)]; omega)
/-- both calls, from a count on, answer the same and count the same -/
theorem ho_pair {kx km : Nat} {bs : List av} {c c' : Nat} {a : Int} (e : ho_chk kx km bs c c' a = true) (hc : c ≤ 12) (hc' : c' ≤ 12) {As : List Value} (hAs : as_ok As bs) (hI : mInv h) (r1 : cl_F h (.int (nI c))) (r2 : mF h 47 (.int (nI c))) (lx : 1500 ≤ 84000 - (19 + pm_max PT kx)) (lm : 1500 ≤ 84000 - (19 + pm_max PT km)) :
    pm_WP PT 2047 (84000 - (19 + pm_max PT kx)) kx (0, pm_l0 (.ref 0 :: As) (pm_max PT kx), [], h, 198, sl) (fun q => q.2.2 = (198, sl) ∧ ∃ v : Int32, q.1 = some (.int v) ∧ (∃ f2, q.2.1 162 = .inr (11, f2)) ∧ pm_WP PT 2047 (84000 - (19 + pm_max PT km)) km (0, pm_l0 (.ref 162 :: As) (pm_max PT km), [], q.2) (fun y => y.1 = some (.int v) ∧ y.2.2 = (198, sl) ∧ LI y.2.1)) := by
  unfold ho_chk at e
  rw [Bool.and_eq_true] at e
  have hx : con_ok PT bB 198 cxF cxQ (hoC kx bs c c' a) := con_chk_ok (fun _ _ h => h) cxpp (kl_ok (fun _ h => by cases h)) nw_class (fun h => by cases h) e.1
  have hm : con_ok PT bB 198 rxF rxQ (hoM km bs c c' a) := con_chk_ok rxle rxpp (kl_ok (fun _ h => by cases h)) nw_class (fun h => by cases h) e.2
  have cI : (nI c).toInt = (c : Int) := nI_toInt (by omega)
  obtain ⟨fs, g1, g2⟩ := r1
  refine wp_mono (hx (.ref 0 :: As) h 2047 (84000 - (19 + pm_max PT kx)) sl ⟨⟨rfl, List.mem_singleton_self _⟩, hAs⟩ (ovf_in hI.1 (by decide) asC_eq g1 g2 ⟨rfl, by rw [cI]; exact Int.le_refl _, by rw [cI]; exact Int.le_refl _⟩) trivial (Nat.le_of_ble_eq_true rfl) lx) ?_
  rintro ⟨rv, h1, s1⟩ ⟨⟨b, hb, hv⟩, q1, ⟨q2, -⟩, q3⟩
  cases q1
  cases List.mem_singleton.mp hb
  obtain ⟨t1, fs1, w1, k1, k2, k3⟩ := ovf_out q3 (by decide) (by decide) asC_eq asC_0 (by
    unfold av_le
    rw [Bool.and_eq_true]
    exact ⟨rfl, by show (decide ((0 : Int) ≤ (c' : Int)) && decide ((c' : Int) ≤ 12)) = true; rw [Bool.and_eq_true]; exact ⟨decide_eq_true (by omega), decide_eq_true (by omega)⟩⟩)
  have hI1 := cx_inv hI q2 t1
  obtain ⟨y, rfl, y1, y2⟩ := ao_i hv
  obtain ⟨gs, m1, m2⟩ := r2
  have m1' : h1 162 = .inr (11, gs) := (q2.1 162 rfl).trans m1
  refine ⟨rfl, y, rfl, ⟨gs, m1'⟩, ?_⟩
  refine wp_mono (hm (.ref 162 :: As) h1 2047 (84000 - (19 + pm_max PT km)) sl ⟨⟨rfl, List.mem_singleton_self _⟩, hAs⟩ (ovf_in hI1.1 (by decide) asM_eq m1' m2 ⟨rfl, by rw [cI]; exact Int.le_refl _, by rw [cI]; exact Int.le_refl _⟩) hI1.2 (Nat.le_of_ble_eq_true rfl) lm) ?_
  rintro ⟨rv2, h2, s2⟩ ⟨⟨b2, hb2, hv2⟩, p1, ⟨p2, p4⟩, p3⟩
  cases p1
  cases List.mem_singleton.mp hb2
  obtain ⟨t2, fs2, w2, j1, j2, j3⟩ := ovf_out p3 (by decide) (by decide) asM_eq asM_47 (by
    unfold av_le
    rw [Bool.and_eq_true]
    exact ⟨rfl, by show (decide ((0 : Int) ≤ (c' : Int)) && decide ((c' : Int) ≤ 12)) = true; rw [Bool.and_eq_true]; exact ⟨decide_eq_true (by omega), decide_eq_true (by omega)⟩⟩)
  obtain ⟨z, rfl, z1, z2⟩ := ao_i hv2
  have ez : y = z := Int32.toInt_inj.1 (by omega)
  subst ez
  refine ⟨rfl, rfl, ⟨t2, p4⟩, c', hc', ⟨fs1, (p2.1 159 rfl).trans k1, ?_⟩, fs2, j1, ?_⟩
  · obtain ⟨u, rfl, u1, u2⟩ := av_int rfl k3
    rw [← nIof hc' u1 u2]
    exact k2
  · obtain ⟨u, rfl, u1, u2⟩ := av_int rfl j3
    rw [← nIof hc' u1 u2]
    exact j2
def he_B : List (Int × Int × Int × Int × Bool) := [(-2147483648, -1, -2147483648, 2147483647, false), (0, 0, -2147483648, -1, false), (0, 0, 0, 4, true), (0, 0, 5, 2147483647, false), (1, 1, -2147483648, 0, false), (1, 1, 1, 99, true), (1, 1, 100, 2147483647, false), (2, 2, -2147483648, -1, false), (2, 2, 0, 5, true), (2, 2, 6, 2147483647, false), (3, 3, -2147483648, -1, false), (3, 3, 0, 0, true), (3, 3, 1, 1, true), (3, 3, 2, 2147483647, false), (4, 2147483647, -2147483648, 2147483647, false)]
def he_o (b : Int × Int × Int × Int × Bool) (c : Nat) : Bool := b.2.2.2.2 && Nat.blt c 12
def he_c (b : Int × Int × Int × Int × Bool) (c : Nat) : Nat := cond (he_o b c) (c + 1) c
def he_a (b : Int × Int × Int × Int × Bool) (c : Nat) : Int := cond (he_o b c) ((c : Int) + 1) (-1)
def he_bs (b : Int × Int × Int × Int × Bool) : List av := [(0, b.1, b.2.1), (0, b.2.2.1, b.2.2.2.1)]
theorem he_all : (List.range 13).all (fun c => he_B.all (fun b => ho_chk 118 251 (he_bs b) c (he_c b c) (he_a b c))) = true := by decide +kernel
theorem fo_all : (List.range 13).all (fun c => ho_chk 119 252 [] c 0 c) = true := by decide +kernel
theorem he_cov (x y : Int32) : ∃ b ∈ he_B, as_ok [.int x, .int y] (he_bs b) := by
  have rx := ai_rng x
  have ry := ai_rng y
  have mk : ∀ (l u l2 u2 : Int) (o : Bool), (l, u, l2, u2, o) ∈ he_B → l ≤ x.toInt → x.toInt ≤ u → l2 ≤ y.toInt → y.toInt ≤ u2 → ∃ b ∈ he_B, as_ok [.int x, .int y] (he_bs b) := fun l u l2 u2 o hb h1 h2 h3 h4 => ⟨(l, u, l2, u2, o), hb, ⟨rfl, h1, h2⟩, ⟨rfl, h3, h4⟩, trivial⟩
  by_cases x0 : x.toInt ≤ -1
  · exact mk (-2147483648) (-1) (-2147483648) 2147483647 false (by decide) rx.1 x0 ry.1 ry.2
  by_cases x4 : 4 ≤ x.toInt
  · exact mk 4 2147483647 (-2147483648) 2147483647 false (by decide) x4 rx.2 ry.1 ry.2
  have hx : x.toInt = 0 ∨ x.toInt = 1 ∨ x.toInt = 2 ∨ x.toInt = 3 := by omega
  rcases hx with z | z | z | z
  · by_cases y1 : y.toInt ≤ -1
    · exact mk 0 0 (-2147483648) (-1) false (by decide) (by omega) (by omega) ry.1 y1
    by_cases y2 : 5 ≤ y.toInt
    · exact mk 0 0 5 2147483647 false (by decide) (by omega) (by omega) y2 ry.2
    · exact mk 0 0 0 4 true (by decide) (by omega) (by omega) (by omega) (by omega)
  · by_cases y1 : y.toInt ≤ 0
    · exact mk 1 1 (-2147483648) 0 false (by decide) (by omega) (by omega) ry.1 y1
    by_cases y2 : 100 ≤ y.toInt
    · exact mk 1 1 100 2147483647 false (by decide) (by omega) (by omega) y2 ry.2
    · exact mk 1 1 1 99 true (by decide) (by omega) (by omega) (by omega) (by omega)
  · by_cases y1 : y.toInt ≤ -1
    · exact mk 2 2 (-2147483648) (-1) false (by decide) (by omega) (by omega) ry.1 y1
    by_cases y2 : 6 ≤ y.toInt
    · exact mk 2 2 6 2147483647 false (by decide) (by omega) (by omega) y2 ry.2
    · exact mk 2 2 0 5 true (by decide) (by omega) (by omega) (by omega) (by omega)
  · by_cases y1 : y.toInt ≤ -1
    · exact mk 3 3 (-2147483648) (-1) false (by decide) (by omega) (by omega) ry.1 y1
    by_cases y2 : 2 ≤ y.toInt
    · exact mk 3 3 2 2147483647 false (by decide) (by omega) (by omega) y2 ry.2
    by_cases y3 : y.toInt = 0
    · exact mk 3 3 0 0 true (by decide) (by omega) (by omega) (by omega) (by omega)
    · exact mk 3 3 1 1 true (by decide) (by omega) (by omega) (by omega) (by omega)
/-- what both calls do -/
def twoWP (sl : Nat) (h : pm_H) (kx km : Nat) (As : List Value) : Prop := pm_WP PT 2047 (84000 - (19 + pm_max PT kx)) kx (0, pm_l0 (.ref 0 :: As) (pm_max PT kx), [], h, 198, sl) (fun q => q.2.2 = (198, sl) ∧ ∃ v : Int32, q.1 = some (.int v) ∧ (∃ f2, q.2.1 162 = .inr (11, f2)) ∧ pm_WP PT 2047 (84000 - (19 + pm_max PT km)) km (0, pm_l0 (.ref 162 :: As) (pm_max PT km), [], q.2) (fun y => y.1 = some (.int v) ∧ y.2.2 = (198, sl) ∧ LI y.2.1))
theorem he_two (hI : LI h) (x y : Int32) : twoWP sl h 118 251 [.int x, .int y] := by
  obtain ⟨hI0, c, hc, r1, r2⟩ := hI
  obtain ⟨b, hb, hAs⟩ := he_cov x y
  have e := List.all_eq_true.mp (List.all_eq_true.mp he_all c (List.mem_range.mpr (by omega))) b hb
  refine ho_pair e hc ?_ hAs hI0 r1 r2 (Nat.le_of_ble_eq_true rfl) (Nat.le_of_ble_eq_true rfl)
  unfold he_c
  cases ho : he_o b c with
  | false => exact hc
  | true =>
    unfold he_o at ho
    rw [Bool.and_eq_true] at ho
    exact Nat.le_of_ble_eq_true ho.2
theorem fo_two (hI : LI h) : twoWP sl h 119 252 [] := by
  obtain ⟨hI0, c, hc, r1, r2⟩ := hI
  exact ho_pair (List.all_eq_true.mp fo_all c (List.mem_range.mpr (by omega))) hc (Nat.zero_le _) trivial hI0 r1 r2 (Nat.le_of_ble_eq_true rfl) (Nat.le_of_ble_eq_true rfl)
/-- such a turn, its answers thrown away -/
theorem two_pop (H : lc_Cl 198 sl bS Ln xs P) {n kx km pe : Nat} (hc : lc_twp pc n kx km pe = true) (hL : lc_L bS i L) (hb : i + 1 + n ≤ Ln) (hI : LI h) (q : twoWP sl h kx km ((lc_vals xs i n 1).map Value.int)) (kk : ∀ h2, LI h2 → P (pe, L, [], h2, 198, sl)) : P (pc, L, [], h, 198, sl) := by
  obtain ⟨f1, o1⟩ := ty_0 hI.1.1
  refine lc_twp_ok H hc hL hb (by decide) o1 (wp_mono q ?_)
  rintro ⟨rv, h1, s1⟩ ⟨q1, v, q2, q3, q4⟩
  cases q1
  refine ⟨rfl, ⟨v, q2⟩, q3, wp_mono q4 ?_⟩
  rintro ⟨rv2, h2, s2⟩ ⟨p1, p2, p3⟩
  cases p2
  exact ⟨⟨v, p1⟩, rfl, kk h2 p3⟩
end HRD
