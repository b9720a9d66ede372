section MG37abscelx0
/-! the shapes that touch cells, jumps and locals -/
section ABW
variable {T : pm_Tab} {B : Nat → ac} {sz sl fr lo k pc : Nat} {A : List (Option av)} {SA : List av} {o : ah} {L : pm_L} {S : List Value} {h : pm_H} {ss : List ast}
theorem aR_lo {t n i : Nat} (e : aa_lo t n i (pc, A, SA, o) = some ss) (ht : t ≤ 2) (hL : al_ok L A) (hS : as_ok S SA) (hH : ah_ok B sz o h) : aa_R B sz sl (pm_lo t n pc i L S h sz sl) ss := by
  unfold aa_lo at e
  dsimp only at e
  split at e
  · rename_i a ea
    split at e
    · rename_i q
      obtain ⟨v, hv, hok⟩ := al_get hL ea
      have hT : pm_isT t v = true := by
        subst q
        cases v with
        | int x => rw [hok.1]; rfl
        | long x => rw [hok.1]; rfl
        | ref x => rw [hok.1]; rfl
        | null => have hok : a.1 = 3 := hok; omega
        | retAddr x => have := hok.1; omega
        | _ => exact hok.elim
      refine aR_n e hL (S := v :: S) ⟨hok, hS⟩ hH ?_
      unfold pm_lo pm_ld
      rw [hv]
      dsimp only
      rw [if_pos hT]
    · cases e
  · cases e
theorem aR_isT {t : Nat} {v : Value} {a : av} (ht : t ≤ 2) (q : a.1 = t) (hok : av_ok v a) : pm_isT t v = true := by
  subst q
  cases v with
  | int x => rw [hok.1]; rfl
  | long x => rw [hok.1]; rfl
  | ref x => rw [hok.1]; rfl
  | null => have hok : a.1 = 3 := hok; omega
  | retAddr x => have := hok.1; omega
  | _ => exact hok.elim
theorem aR_so {t n mx i : Nat} (e : aa_so t n mx i (pc, A, SA, o) = some ss) (ht : t ≤ 2) (hL : al_ok L A) (hS : as_ok S SA) (hH : ah_ok B sz o h) : aa_R B sz sl (pm_so t n mx pc i L S h sz sl) ss := by
  unfold aa_so at e
  dsimp only at e
  match SA, hS, e with
  | [], _, e => cases e
  | a :: r, hS, e =>
    dsimp only at e
    split at e
    · rename_i q
      obtain ⟨v, S1, rfl, hv, hS1⟩ := as_cons hS
      cases e
      refine aR_1 (al_st1 hL hv q.2.2) hS1 hH ?_
      unfold pm_so
      dsimp only
      rw [if_pos ⟨aR_isT ht q.1 hv, q.2.1⟩]
    · cases e
theorem aR_sL {n mx i : Nat} (e : aa_sL n mx i (pc, A, SA, o) = some ss) (hL : al_ok L A) (hS : as_ok S SA) (hH : ah_ok B sz o h) : aa_R B sz sl (pm_sL n mx pc i L S h sz sl) ss := by
  unfold aa_sL at e
  dsimp only at e
  match SA, hS, e with
  | [], _, e => cases e
  | a :: r, hS, e =>
    dsimp only at e
    split at e
    · rename_i q
      obtain ⟨v, S1, rfl, hv, hS1⟩ := as_cons hS
      obtain ⟨x, rfl, -, -⟩ := av_long q.1 hv
      cases e
      refine aR_1 (al_st2 hL hv q.2.2) hS1 hH ?_
      unfold pm_sL
      dsimp only
      rw [if_pos q.2.1]
    · cases e
theorem aR_jp {off : Int} {SB : List av} (e : aa_jp (pc, A, SB, o) off SA = some ss) (hL : al_ok L A) (hS : as_ok S SA) (hH : ah_ok B sz o h) : aa_R B sz sl (pm_jp pc off L S h sz sl) ss := by
  unfold aa_jp at e
  dsimp only at e
  split at e
  · rename_i t et
    cases e
    refine aR_1 hL hS hH ?_
    unfold pm_jp
    rw [et]
  · cases e
theorem aR_br {b : Bool} {r : Option Bool} {off : Int} {SB : List av} (hb : ∀ c, r = some c → b = c) (e : aa_br r (pc, A, SB, o) off SA = some ss) (hL : al_ok L A) (hS : as_ok S SA) (hH : ah_ok B sz o h) : aa_R B sz sl (pm_br b pc off L S h sz sl) ss := by
  unfold aa_br at e
  dsimp only at e
  split at e
  · rename_i t et
    unfold pm_br
    rw [et]
    dsimp only
    split at e
    · cases e; rw [hb _ rfl]; exact aR_1 hL hS hH rfl
    · cases e; rw [hb _ rfl]; exact aR_1 hL hS hH rfl
    · cases e
      cases b with
      | true => exact ⟨_, rfl, _, List.mem_cons_self, rfl, hL, hS, hH, rfl, rfl⟩
      | false => exact ⟨_, rfl, _, List.mem_cons_of_mem _ (List.mem_singleton_self _), rfl, hL, hS, hH, rfl, rfl⟩
  · cases e
theorem aR_all {off : Int} {SB : List av} (hL : al_ok L A) (hS : as_ok S SA) (hH : ah_ok B sz o h) : ∀ {os : List Int} {ss : List ast}, off ∈ os → aa_all (pc, A, SB, o) SA os = some ss → aa_R B sz sl (pm_jp pc off L S h sz sl) ss
  | [], _, hm, _ => by cases hm
  | q :: r, ss, hm, e => by
    unfold aa_all at e
    dsimp only at e
    split at e
    · rename_i t l e1 e2
      cases e
      rcases List.mem_cons.mp hm with rfl | hm
      · refine ⟨(t, L, S, h, sz, sl), ?_, _, List.mem_cons_self, rfl, hL, hS, hH, rfl, rfl⟩
        unfold pm_jp
        rw [e1]
      · obtain ⟨st', h1, s', h2, h3⟩ := aR_all hL hS hH hm e2
        exact ⟨st', h1, s', List.mem_cons_of_mem _ h2, h3⟩
    · cases e
theorem aR_look : ∀ (ps : List (Int × Int)) (d x : Int), Op.lookupswitch.offset ps d x ∈ d :: ps.map (fun q => q.2)
  | [], d, x => List.mem_cons_self
  | (a, f) :: r, d, x => by
    rw [Op.lookupswitch.offset_cons]
    split
    · exact List.mem_cons_of_mem _ List.mem_cons_self
    · rcases List.mem_cons.mp (aR_look r d x) with q | q
      · rw [q]; exact List.mem_cons_self
      · exact List.mem_cons_of_mem _ (List.mem_cons_of_mem _ q)
/-! arrays of ints and of longs -/
theorem aE_int {e : pm_E} {kd n : Nat} {a : av} (q : ac_ok e (.inl (kd, n, a))) (ha : a.1 = 0) (hn : 0 < n) : ∃ f, e = .inl (kd, n, .inl f) ∧ ∀ j, j < n → av_ok (.int (f j)) a := by
  obtain ⟨kd', m, f | f | f | f | f⟩ | ⟨ci, fs⟩ := e
  · obtain ⟨rfl, rfl, q3⟩ := q; exact ⟨f, rfl, q3⟩
  · obtain ⟨rfl, rfl, q3⟩ := q
    have := (q3 0 hn).1
    omega
  · exact q.elim
  · exact q.elim
  · obtain ⟨rfl, rfl, q3⟩ := q
    have h5 := q3 0 hn
    unfold aq at h5
    rw [if_neg (by omega)] at h5
    cases hf : f 0 with
    | none => rw [hf] at h5; have h5 : a.1 = 3 := h5; omega
    | some p => rw [hf] at h5; have := h5.1; omega
  · exact q.elim
theorem aE_long {e : pm_E} {kd n : Nat} {a : av} (q : ac_ok e (.inl (kd, n, a))) (ha : a.1 = 1) (hn : 0 < n) : ∃ f, e = .inl (kd, n, .inr (.inl f)) ∧ ∀ j, j < n → av_ok (.long (f j)) a := by
  obtain ⟨kd', m, f | f | f | f | f⟩ | ⟨ci, fs⟩ := e
  · obtain ⟨rfl, rfl, q3⟩ := q
    have := (q3 0 hn).1
    omega
  · obtain ⟨rfl, rfl, q3⟩ := q; exact ⟨f, rfl, q3⟩
  · exact q.elim
  · exact q.elim
  · obtain ⟨rfl, rfl, q3⟩ := q
    have h5 := q3 0 hn
    unfold aq at h5
    rw [if_neg (by omega)] at h5
    cases hf : f 0 with
    | none => rw [hf] at h5; have h5 : a.1 = 3 := h5; omega
    | some p => rw [hf] at h5; have := h5.1; omega
  · exact q.elim
theorem aE_obj {e : pm_E} {ci : Nat} {as : List av} (q : ac_ok e (.inr (ci, as))) (hlt : ci < 1000) : ∃ fs, e = .inr (ci, fs) ∧ fs.length = as.length ∧ ∀ (i : Nat) (v : Value) (a : av), fs[i]? = some v → as[i]? = some a → av_ok v a := by
  obtain ⟨kd', m, f | f | f | f | f⟩ | ⟨ci', fs⟩ := e
  · have := q.1
    omega
  · exact q.elim
  · exact q.elim
  · exact q.elim
  · exact q.elim
  · obtain ⟨⟨rfl, -⟩, q2, q3⟩ := q
    exact ⟨fs, rfl, q2, q3⟩
theorem aI_in {x : Int32} {n : Nat} (h0 : 0 ≤ x.toInt) (h1 : x.toInt < n) : pm_in x n = true ∧ x.toNatClampNeg < n := by
  have h2 : x.toNatClampNeg < n := by
    show x.toInt.toNat < n
    omega
  refine ⟨decide_eq_true ?_, h2⟩
  rintro (q | q)
  · rw [Int32.lt_iff_toInt_lt, Int32.toInt_zero] at q; omega
  · omega
theorem aE_elt {t : Nat} {ty : FieldType} {ix b : av} {i : Nat} (e : aa_elt T B o sz t ty ix i = some b) : i < sz ∧ ∃ kd n, ah_get B o i = .inl (kd, n, b) ∧ (pm_ty T)[kd]? = some ty ∧ b.1 = t ∧ 0 ≤ ix.2.1 ∧ ix.2.2 < n := by
  unfold aa_elt at e
  split at e
  · rename_i hi
    split at e
    · rename_i kd n a ea
      split at e
      · rename_i q
        cases e
        exact ⟨hi, kd, n, ea, q⟩
      · cases e
    · cases e
  · cases e
theorem aE_elti {ty : FieldType} {ix b : av} {i : Nat} (e : aa_elti T B o sz ty ix i = some b) : i < sz ∧ ∀ (x : pm_E), ac_ok x (ah_get B o i) → ix.2.1 ≤ ix.2.2 → ∃ kd n f, x = .inl (kd, n, .inl f) ∧ (pm_ty T)[kd]? = some ty ∧ 0 ≤ ix.2.1 ∧ ix.2.2 < n ∧ ∀ j : Nat, ix.2.1 ≤ (j : Int) → (j : Int) ≤ ix.2.2 → av_ok (.int (f j)) b := by
  unfold aa_elti at e
  split at e
  · rename_i hi
    refine ⟨hi, fun x hx hle => ?_⟩
    split at e
    · rename_i kd n a ea
      rw [ea] at hx
      split at e
      · rename_i q
        cases e
        obtain ⟨f, rfl, hf⟩ := aE_int hx q.2.1 (by omega)
        exact ⟨kd, n, f, rfl, q.1, q.2.2.1, q.2.2.2, fun j h1 h2 => hf j (by omega)⟩
      · cases e
    · rename_i c as ea
      rw [ea] at hx
      split at e
      · rename_i q
        obtain ⟨kd', m, f | f | f | f | f⟩ | ⟨ci, fs⟩ := x
        · obtain ⟨rfl, rfl, hf⟩ := hx
          have hk : 1000 + kd' - 1000 = kd' := by omega
          rw [hk] at q
          refine ⟨kd', as.length, f, rfl, q.2.1, q.2.2.1, q.2.2.2, fun j h1 h2 => ?_⟩
          have hm : j ∈ (List.range (ix.2.2 - ix.2.1 + 1).toNat).map (fun j => ix.2.1.toNat + j) := by
            rw [List.mem_map]
            exact ⟨j - ix.2.1.toNat, List.mem_range.mpr (by omega), by omega⟩
          obtain ⟨b', hb', hok⟩ := aa_over_ok e hm
          exact hok _ (hf j b' hb')
        · exact hx.elim
        · exact hx.elim
        · exact hx.elim
        · exact hx.elim
        · have h9 := hx.1
          omega
      · cases e
  · cases e
theorem aR_aldi {ty : FieldType} (e : aa_aldi T B sz ty (pc, A, SA, o) = some ss) (hL : al_ok L A) (hS : as_ok S SA) (hH : ah_ok B sz o h) : aa_R B sz sl (pm_ia T ty pc L S h sz sl) ss := by
  unfold aa_aldi at e
  dsimp only at e
  match SA, hS, e with
  | [], _, e => cases e
  | [_], _, e => cases e
  | ix :: a :: r, hS, e =>
    dsimp only at e
    split at e
    · rename_i q
      split at e
      · rename_i v ev
        obtain ⟨w1, w2, S2, rfl, hv, hw, hS2⟩ := as_two hS
        obtain ⟨x, rfl, x1, x2⟩ := av_int q.1 hv
        obtain ⟨p, rfl, hp⟩ := av_ref q.2 hw
        obtain ⟨b, eb, hb⟩ := aa_over_ok ev hp
        obtain ⟨hi, key⟩ := aE_elti eb
        obtain ⟨kd, n, f, ef, ety, hl, hr, hf⟩ := key _ (hH p hi) (by omega)
        obtain ⟨g1, g2⟩ := aI_in (x := x) (n := n) (by omega) (by omega)
        have hn : (x.toNatClampNeg : Int) = x.toInt := by
          show ((x.toInt.toNat : Nat) : Int) = x.toInt
          omega
        refine aR_n e hL (S := .int (f x.toNatClampNeg) :: S2) ⟨hb _ (hf _ (by omega) (by omega)), hS2⟩ hH ?_
        unfold pm_ia pm_iar
        dsimp only
        rw [if_pos hi, ef]
        dsimp only
        rw [if_pos ety]
        dsimp only
        rw [if_pos g1]
      · cases e
    · cases e
theorem aR_lald (e : aa_ald T B sz 1 .long (pc, A, SA, o) = some ss) (hL : al_ok L A) (hS : as_ok S SA) (hH : ah_ok B sz o h) : aa_R B sz sl (pm_la T pc L S h sz sl) ss := by
  unfold aa_ald at e
  dsimp only at e
  match SA, hS, e with
  | [], _, e => cases e
  | [_], _, e => cases e
  | ix :: a :: r, hS, e =>
    dsimp only at e
    split at e
    · rename_i q
      split at e
      · rename_i v ev
        obtain ⟨w1, w2, S2, rfl, hv, hw, hS2⟩ := as_two hS
        obtain ⟨x, rfl, x1, x2⟩ := av_int q.1 hv
        obtain ⟨p, rfl, hp⟩ := av_ref q.2 hw
        obtain ⟨b, eb, hb⟩ := aa_over_ok ev hp
        obtain ⟨hi, kd, n, eg, ety, hb0, hl, hr⟩ := aE_elt eb
        have hc := hH p hi
        rw [eg] at hc
        obtain ⟨f, ef, hf⟩ := aE_long hc hb0 (by omega)
        obtain ⟨g1, g2⟩ := aI_in (x := x) (n := n) (by omega) (by omega)
        refine aR_n e hL (S := .long (f x.toNatClampNeg) :: S2) ⟨hb _ (hf _ g2), hS2⟩ hH ?_
        unfold pm_la pm_lar
        dsimp only
        rw [if_pos hi, ef]
        dsimp only
        rw [if_pos ety]
        dsimp only
        rw [if_pos g1]
      · cases e
    · cases e
theorem aE_ref {e : pm_E} {kd n : Nat} {a : av} (q : ac_ok e (.inl (kd, n, a))) (ha : a.1 = 2) (hn : 0 < n) : ∃ f, e = .inl (kd, n, .inr (.inr (.inr (.inr f)))) ∧ ∀ j, j < n → av_ok (va_rf (f j)) (aq a j) := by
  obtain ⟨kd', m, f | f | f | f | f⟩ | ⟨ci, fs⟩ := e
  · obtain ⟨rfl, rfl, q3⟩ := q
    have := (q3 0 hn).1
    omega
  · obtain ⟨rfl, rfl, q3⟩ := q
    have := (q3 0 hn).1
    omega
  · exact q.elim
  · exact q.elim
  · obtain ⟨rfl, rfl, q3⟩ := q; exact ⟨f, rfl, q3⟩
  · exact q.elim
theorem aE_qelt {ix b : av} {i : Nat} (e : aa_qelt T B o sz ix i = some b) : i < sz ∧ ∃ kd n a, ah_get B o i = .inl (kd, n, a) ∧ b = (2, a.2.1 + 6 * ix.2.1, ix.2.2 - ix.2.1 + 1) ∧ pm_isObj (pm_ty T)[kd]? = true ∧ a.1 = 2 ∧ 0 ≤ ix.2.1 ∧ ix.2.2 < n ∧ 0 ≤ a.2.1 ∧ ix.2.2 < 900 := by
  unfold aa_qelt at e
  split at e
  · rename_i hi
    split at e
    · rename_i kd n a ea
      split at e
      · rename_i q
        cases e
        exact ⟨hi, kd, n, a, ea, rfl, q⟩
      · cases e
    · cases e
  · cases e
/-- the one at the place x lies among those of the places lo .. hi -/
theorem aq_sub {v : Value} {a : av} {x lo hi : Int} (q : av_ok v (2, a.2.1 + 6 * x, 1)) (h0 : 0 ≤ a.2.1) (h1 : 0 ≤ lo) (h2 : lo ≤ x) (h3 : x ≤ hi) (h4 : hi < 900) : av_ok v (2, a.2.1 + 6 * lo, hi - lo + 1) := by
  obtain ⟨p, rfl, hp⟩ := av_ref rfl q
  refine ⟨rfl, ?_⟩
  unfold av_ids at hp ⊢
  rw [List.mem_map] at hp ⊢
  obtain ⟨j, hj, rfl⟩ := hp
  rw [List.mem_range] at hj
  have hj0 : j = 0 := by
    have h9 : j < 1 := hj
    omega
  subst hj0
  refine ⟨(x - lo).toNat, List.mem_range.mpr ?_, ?_⟩
  · show (x - lo).toNat < (hi - lo + 1).toNat % 1000
    omega
  · have e1 : Nat.blt (hi - lo + 1).toNat 1000 = true := Nat.ble_eq_true_of_le (by omega)
    show (a.2.1 + 6 * lo).toNat + cond (Nat.blt (hi - lo + 1).toNat 1000) 6 ((hi - lo + 1).toNat / 1000) * (x - lo).toNat = (a.2.1 + 6 * x).toNat + 6 * 0
    rw [e1]
    show (a.2.1 + 6 * lo).toNat + 6 * (x - lo).toNat = (a.2.1 + 6 * x).toNat + 6 * 0
    omega
theorem aR_qld (e : aa_qld T B sz (pc, A, SA, o) = some ss) (hL : al_ok L A) (hS : as_ok S SA) (hH : ah_ok B sz o h) : aa_R B sz sl (pm_qa T pc L S h sz sl) ss := by
  unfold aa_qld at e
  dsimp only at e
  match SA, hS, e with
  | [], _, e => cases e
  | [_], _, e => cases e
  | ix :: a :: r, hS, e =>
    dsimp only at e
    split at e
    · rename_i q
      split at e
      · rename_i v ev
        obtain ⟨w1, w2, S2, rfl, hv, hw, hS2⟩ := as_two hS
        obtain ⟨x, rfl, x1, x2⟩ := av_int q.1 hv
        obtain ⟨p, rfl, hp⟩ := av_ref q.2 hw
        obtain ⟨b, eb, hb⟩ := aa_over_ok ev hp
        obtain ⟨hi, kd, n, a', eg, rfl, ety, hb0, hl, hr, hge⟩ := aE_qelt eb
        have hc := hH p hi
        rw [eg] at hc
        obtain ⟨f, ef, hf⟩ := aE_ref hc hb0 (by omega)
        have hf2 : ∀ j : Nat, j < n → (j : Int) = x.toInt → av_ok (va_rf (f j)) (2, a'.2.1 + 6 * ix.2.1, ix.2.2 - ix.2.1 + 1) := by
          intro j hj hx
          have h7 := hf j hj
          unfold aq at h7
          rw [if_pos hb0] at h7
          exact aq_sub (x := (j : Int)) h7 hge.1 hl (by omega) (by omega) hge.2
        obtain ⟨g1, g2⟩ := aI_in (x := x) (n := n) (by omega) (by omega)
        refine aR_n e hL (S := va_rf (f x.toNatClampNeg) :: S2) ⟨hb _ (hf2 _ g2 (by show ((x.toInt.toNat : Nat) : Int) = x.toInt; omega)), hS2⟩ hH ?_
        unfold pm_qa pm_qar
        dsimp only
        rw [if_pos hi, ef]
        dsimp only
        rw [if_pos ⟨g1, ety⟩]
      · cases e
    · cases e
theorem aE_astu {t : Nat} {ty : FieldType} {ix v : av} {c c' : ac} (e : aa_astu T t ty ix v c = some c') : ∃ kd n a b, c = .inl (kd, n, a) ∧ c' = .inl (kd, n, b) ∧ av_join a v = some b ∧ (pm_ty T)[kd]? = some ty ∧ a.1 = t ∧ 0 ≤ ix.2.1 ∧ ix.2.2 < n := by
  unfold aa_astu at e
  split at e
  · rename_i kd n a
    split at e
    · rename_i q
      split at e
      · rename_i b eb
        cases e
        exact ⟨kd, n, a, b, rfl, rfl, eb, q⟩
      · cases e
    · cases e
  · cases e
theorem aE_all {f : ac → Option ac} {is : List Nat} {p : Nat} (e : is.all (fun i => decide (i < sz) && (f (ah_get B o i)).isSome) = true) (hp : p ∈ is) : p < sz ∧ ∃ c', f (ah_get B o p) = some c' := by
  have h5 := List.all_eq_true.mp e p hp
  rw [Bool.and_eq_true] at h5
  exact ⟨of_decide_eq_true h5.1, Option.isSome_iff_exists.mp h5.2⟩
theorem aa_wk_ok {v : av} {lo hi : Int} : ∀ {i : Nat} {as bs : List av}, aa_wk v lo hi i as = some bs → as.length = bs.length ∧ ∀ (j : Nat) (b : av), bs[j]? = some b → ∃ a, as[j]? = some a ∧ (∀ w, av_ok w a → av_ok w b) ∧ (lo ≤ ((i + j : Nat) : Int) → ((i + j : Nat) : Int) ≤ hi → ∀ w, av_ok w v → av_ok w b)
  | i, [], bs, e => by
    cases (Option.some.inj e : [] = bs)
    exact ⟨rfl, fun j b h => by simp at h⟩
  | i, a :: r, bs, e => by
    unfold aa_wk at e
    split at e
    · rename_i b t e1 e2
      cases e
      obtain ⟨h1, h2⟩ := aa_wk_ok e2
      refine ⟨by simp [h1], fun j b' h => ?_⟩
      match j, h with
      | 0, h =>
        have h : some b = some b' := h
        cases h
        refine ⟨a, rfl, ?_, ?_⟩
        · intro w hw
          split at e1
          · exact (av_join_ok e1).1 hw
          · cases e1; exact hw
        · intro g1 g2 w hw
          rw [if_pos ⟨by simpa using g1, by simpa using g2⟩] at e1
          exact (av_join_ok e1).2 hw
      | j + 1, h =>
        obtain ⟨a', k1, k2, k3⟩ := h2 j b' h
        refine ⟨a', k1, k2, fun g1 g2 => k3 ?_ ?_⟩
        · rw [show i + 1 + j = i + (j + 1) by omega]; exact g1
        · rw [show i + 1 + j = i + (j + 1) by omega]; exact g2
    · cases e
/-- a store of y at x into an array of ints -/
theorem aE_astui {ty : FieldType} {ix v : av} {c c' : ac} (e : aa_astui T ty ix v c = some c') (hle : ix.2.1 ≤ ix.2.2) {x : pm_E} (hx : ac_ok x c) : ∃ kd n f, x = .inl (kd, n, .inl f) ∧ (pm_ty T)[kd]? = some ty ∧ 0 ≤ ix.2.1 ∧ ix.2.2 < n ∧ ∀ (i : Nat) (y : Int32), ix.2.1 ≤ (i : Int) → (i : Int) ≤ ix.2.2 → av_ok (.int y) v → ac_ok (.inl (kd, n, .inl (upd f i y))) c' := by
  unfold aa_astui at e
  split at e
  · rename_i kd n a
    split at e
    · rename_i q
      split at e
      · rename_i b eb
        cases e
        obtain ⟨f, rfl, hf⟩ := aE_int hx q.2.1 (by omega)
        refine ⟨kd, n, f, rfl, q.1, q.2.2.1, q.2.2.2, fun i y h1 h2 hy => ⟨rfl, rfl, fun j hj => ?_⟩⟩
        unfold upd
        split
        · exact (av_join_ok eb).2 hy
        · exact (av_join_ok eb).1 (hf j hj)
      · cases e
    · cases e
  · rename_i c as
    split at e
    · rename_i q
      obtain ⟨kd', m, f | f | f | f | f⟩ | ⟨ci, fs⟩ := x
      · obtain ⟨rfl, rfl, hf⟩ := hx
        have hk : 1000 + kd' - 1000 = kd' := by omega
        rw [hk] at q
        refine ⟨kd', as.length, f, rfl, q.2.1, q.2.2.1, q.2.2.2, fun i y h1 h2 hy => ?_⟩
        split at e
        · rename_i q5
          cases e
          refine ⟨rfl, by simp, fun j a hj => ?_⟩
          have hi : ix.2.1.toNat = i := by omega
          rw [hi] at hj
          unfold upd
          by_cases ej : j = i
          · rw [if_pos ej]
            subst ej
            rw [List.getElem?_set_self (by omega)] at hj
            cases hj
            exact hy
          · rw [if_neg ej]
            rw [List.getElem?_set_ne (Ne.symm ej)] at hj
            exact hf j a hj
        · split at e
          · rename_i bs eb
            cases e
            obtain ⟨k1, k2⟩ := aa_wk_ok eb
            refine ⟨rfl, k1, fun j a hj => ?_⟩
            obtain ⟨a', g1, g2, g3⟩ := k2 j a hj
            unfold upd
            split
            · rename_i ej
              subst ej
              exact g3 (by rw [Nat.zero_add]; exact h1) (by rw [Nat.zero_add]; exact h2) _ hy
            · exact g2 _ (hf j a' g1)
          · cases e
      · exact hx.elim
      · exact hx.elim
      · exact hx.elim
      · exact hx.elim
      · have h9 := hx.1
        omega
    · cases e
theorem aR_iast {ty : FieldType} {nr : av → av} {F : Int32 → Int32} (hF : ∀ (a : av) (x : Int32), a.1 = 0 → a.2.1 ≤ x.toInt → x.toInt ≤ a.2.2 → av_ok (.int (F x)) (nr a)) (e : aa_asti T B sz ty nr (pc, A, SA, o) = some ss) (hL : al_ok L A) (hS : as_ok S SA) (hH : ah_ok B sz o h) : aa_R B sz sl (pm_iS T ty F pc L S h sz sl) ss := by
  unfold aa_asti at e
  dsimp only at e
  match SA, hS, e with
  | [], _, e => cases e
  | [_], _, e => cases e
  | [_, _], _, e => cases e
  | v :: ix :: a :: r, hS, e =>
    dsimp only at e
    split at e
    · rename_i q
      split at e
      · rename_i o' eo
        obtain ⟨w0, S0, rfl, hw0, hS0⟩ := as_cons hS
        obtain ⟨w1, w2, S2, rfl, hv, hw, hS2⟩ := as_two hS0
        obtain ⟨y, rfl, y1, y2⟩ := av_int q.1 hw0
        obtain ⟨x, rfl, x1, x2⟩ := av_int q.2.1 hv
        obtain ⟨p, rfl, hp⟩ := av_ref q.2.2.1 hw
        obtain ⟨hi, c', ec⟩ := aE_all q.2.2.2 hp
        obtain ⟨kd, n, f, ef, ety, hl, hr, -⟩ := aE_astui ec (by omega) (hH p hi)
        obtain ⟨g1, g2⟩ := aI_in (x := x) (n := n) (by omega) (by omega)
        have hn : (x.toNatClampNeg : Int) = x.toInt := by
          show ((x.toInt.toNat : Nat) : Int) = x.toInt
          omega
        cases e
        refine aR_1 (h := va_up h p (.inl (kd, n, .inl (upd f x.toNatClampNeg (F y))))) hL hS2 ?_ ?_
        · refine ah_upd_ok eo hp hi hH (fun c c' hcc hok => ?_)
          obtain ⟨kd2, n2, f2, ef2, -, -, -, key⟩ := aE_astui hcc (by omega) hok
          rw [ef] at ef2
          cases ef2
          exact key _ _ (by omega) (by omega) (hF _ _ q.1 y1 y2)
        · unfold pm_iS pm_iar
          dsimp only
          rw [if_pos hi, ef]
          dsimp only
          rw [if_pos ety]
          dsimp only
          rw [if_pos g1]
      · cases e
    · cases e
theorem aR_last (e : aa_ast T B sz 1 .long (fun v => v) (pc, A, SA, o) = some ss) (hL : al_ok L A) (hS : as_ok S SA) (hH : ah_ok B sz o h) : aa_R B sz sl (pm_lS T pc L S h sz sl) ss := by
  unfold aa_ast at e
  dsimp only at e
  match SA, hS, e with
  | [], _, e => cases e
  | [_], _, e => cases e
  | [_, _], _, e => cases e
  | v :: ix :: a :: r, hS, e =>
    dsimp only at e
    split at e
    · rename_i q
      split at e
      · rename_i o' eo
        obtain ⟨w0, S0, rfl, hw0, hS0⟩ := as_cons hS
        obtain ⟨w1, w2, S2, rfl, hv, hw, hS2⟩ := as_two hS0
        obtain ⟨y, rfl, y1, y2⟩ := av_long q.1 hw0
        obtain ⟨x, rfl, x1, x2⟩ := av_int q.2.1 hv
        obtain ⟨p, rfl, hp⟩ := av_ref q.2.2.1 hw
        obtain ⟨hi, c', ec⟩ := aE_all q.2.2.2 hp
        obtain ⟨kd, n, a', b', eg, -, -, ety, ha', hl, hr⟩ := aE_astu ec
        have hc := hH p hi
        rw [eg] at hc
        obtain ⟨f, ef, hf⟩ := aE_long hc ha' (by omega)
        obtain ⟨g1, g2⟩ := aI_in (x := x) (n := n) (by omega) (by omega)
        cases e
        refine aR_1 (h := va_up h p (.inl (kd, n, .inr (.inl (vp_updL f x.toNatClampNeg y))))) hL hS2 ?_ ?_
        · refine ah_upd_ok eo hp hi hH (fun c c' hcc hok => ?_)
          obtain ⟨kd2, n2, a2, b2, rfl, rfl, ej, -, -, -, -⟩ := aE_astu hcc
          rw [ef] at hok
          obtain ⟨rfl, rfl, hok⟩ := hok
          refine ⟨rfl, rfl, fun j hj => ?_⟩
          unfold vp_updL
          split
          · exact (av_join_ok ej).2 ⟨q.1, y1, y2⟩
          · exact (av_join_ok ej).1 (hok j hj)
        · unfold pm_lS pm_lar
          dsimp only
          rw [if_pos hi, ef]
          dsimp only
          rw [if_pos ety]
          dsimp only
          rw [if_pos g1]
      · cases e
    · cases e
theorem aR_alen (e : aa_alen T B sz (pc, A, SA, o) = some ss) (hL : al_ok L A) (hS : as_ok S SA) (hH : ah_ok B sz o h) : aa_R B sz sl (pm_al T pc L S h sz sl) ss := by
  unfold aa_alen at e
  dsimp only at e
  match SA, hS, e with
  | [], _, e => cases e
  | a :: r, hS, e =>
    dsimp only at e
    split at e
    · rename_i q
      split at e
      · rename_i v ev
        obtain ⟨w, S2, rfl, hw, hS2⟩ := as_cons hS
        obtain ⟨p, rfl, hp⟩ := av_ref q hw
        obtain ⟨b, eb, hb⟩ := aa_over_ok ev hp
        unfold aa_len at eb
        split at eb
        · rename_i hi
          split at eb
          · rename_i kd n a' eg
            split at eb
            · rename_i hty
              cases eb
              have hc := hH p hi
              rw [eg] at hc
              refine aR_n e hL (S := .int (Int32.ofNat n) :: S2) ⟨hb _ ⟨rfl, Int.le_refl _, Int.le_refl _⟩, hS2⟩ hH ?_
              unfold pm_al
              dsimp only
              rw [if_pos hi]
              generalize h p = x at hc
              obtain ⟨kd', m, f | f | f | f | f⟩ | ⟨ci, fs⟩ := x
              · obtain ⟨rfl, rfl, -⟩ := hc; dsimp only; rw [if_pos hty]
              · obtain ⟨rfl, rfl, -⟩ := hc; dsimp only; rw [if_pos hty]
              · exact hc.elim
              · exact hc.elim
              · obtain ⟨rfl, rfl, -⟩ := hc; dsimp only; rw [if_pos hty]
              · exact hc.elim
            · cases eb
          · rename_i c as eg
            split at eb
            · rename_i hty
              cases eb
              have hc := hH p hi
              rw [eg] at hc
              refine aR_n e hL (S := .int (Int32.ofNat as.length) :: S2) ⟨hb _ ⟨rfl, Int.le_refl _, Int.le_refl _⟩, hS2⟩ hH ?_
              unfold pm_al
              dsimp only
              rw [if_pos hi]
              generalize h p = x at hc
              obtain ⟨kd', m, f | f | f | f | f⟩ | ⟨ci, fs⟩ := x
              · obtain ⟨rfl, rfl, -⟩ := hc
                have hk : 1000 + kd' - 1000 = kd' := by omega
                rw [hk] at hty
                dsimp only
                rw [if_pos hty.2]
              · exact hc.elim
              · exact hc.elim
              · exact hc.elim
              · exact hc.elim
              · have h9 := hc.1
                omega
            · cases eb
        · cases eb
      · cases e
    · cases e
/-! fields -/
theorem aR_gf {j : Nat} (e : aa_gf T B sz k j (pc, A, SA, o) = some ss) (hL : al_ok L A) (hS : as_ok S SA) (hH : ah_ok B sz o h) : aa_R B sz sl (pm_gf T k j pc L S h sz sl) ss := by
  unfold aa_gf at e
  dsimp only at e
  match SA, hS, e with
  | [], _, e => cases e
  | a :: r, hS, e =>
    dsimp only at e
    split at e
    · rename_i q
      split at e
      · rename_i cj f t efl
        split at e
        · rename_i v ev
          obtain ⟨w, S2, rfl, hw, hS2⟩ := as_cons hS
          obtain ⟨p, rfl, hp⟩ := av_ref q hw
          obtain ⟨b, eb, hb⟩ := aa_over_ok ev hp
          unfold aa_fld at eb
          split at eb
          · rename_i hi
            split at eb
            · rename_i ci as eg
              split at eb
              · rename_i hci
                have hc := hH p hi
                rw [eg] at hc
                obtain ⟨fs, ef, hlen, hfs⟩ := aE_obj hc hci.2
                have hf : f < fs.length := by
                  rw [hlen]
                  exact (List.getElem?_eq_some_iff.mp eb).1
                have hfv : fs[f]? = some fs[f] := List.getElem?_eq_getElem hf
                refine aR_n e hL (S := fs[f] :: S2) ⟨hb _ (hfs _ _ _ hfv eb), hS2⟩ hH ?_
                unfold pm_gf pm_obj
                dsimp only
                rw [if_pos hi, ef, efl]
                dsimp only
                rw [if_pos hci.1.symm, hfv]
              · cases eb
            · cases eb
          · cases eb
        · cases e
      · cases e
    · cases e
theorem aE_fits {t : Nat} {v : Value} {a : av} (e : aa_fits t a = true) (hv : av_ok v a) : pm_fits t v = true := by
  unfold aa_fits at e
  split at e
  · obtain ⟨x, rfl, -, -⟩ := av_int (of_decide_eq_true e) hv; rfl
  · obtain ⟨x, rfl, -, -⟩ := av_long (of_decide_eq_true e) hv; rfl
  · obtain ⟨x, rfl, -⟩ := av_ref (of_decide_eq_true e) hv; rfl
  · obtain ⟨h1, h2, h3⟩ := of_decide_eq_true e
    obtain ⟨x, rfl, h4, h5⟩ := av_int h1 hv
    refine decide_eq_true ?_
    have n1 : (1 : Int32).toInt = 1 := by decide
    by_cases q : x.toInt = 0
    · exact Or.inl (Int32.toInt_inj.1 (by rw [q, Int32.toInt_zero]))
    · exact Or.inr (Int32.toInt_inj.1 (by rw [n1]; omega))
  · cases e
theorem aE_pfu {cj f : Nat} {v : av} {c c' : ac} (e : aa_pfu cj f v c = some c') : ∃ as, c = .inr (cj, as) ∧ f < as.length ∧ cj < 1000 ∧ c' = .inr (cj, as.set f v) := by
  unfold aa_pfu at e
  split at e
  · split at e
    · rename_i ci as q
      cases e
      obtain ⟨rfl, q2, q3⟩ := q
      exact ⟨as, rfl, q2, q3, rfl⟩
    · cases e
  · cases e
theorem aR_pf {j : Nat} (e : aa_pf T B sz k j (pc, A, SA, o) = some ss) (hL : al_ok L A) (hS : as_ok S SA) (hH : ah_ok B sz o h) : aa_R B sz sl (pm_pf T k j pc L S h sz sl) ss := by
  unfold aa_pf at e
  dsimp only at e
  match SA, hS, e with
  | [], _, e => cases e
  | [_], _, e => cases e
  | v :: a :: r, hS, e =>
    dsimp only at e
    split at e
    · rename_i q0
      split at e
      · rename_i cj f t efl
        split at e
        · rename_i q
          split at e
          · rename_i o' eo
            obtain ⟨w, w2, S2, rfl, hv, hw, hS2⟩ := as_two hS
            obtain ⟨p, rfl, hp⟩ := av_ref q0 hw
            obtain ⟨hi, c', ec⟩ := aE_all q.2.2 hp
            obtain ⟨as, eg, hf, hlt, -⟩ := aE_pfu ec
            have hc := hH p hi
            rw [eg] at hc
            obtain ⟨fs, ef, hlen, hfs⟩ := aE_obj hc hlt
            cases e
            refine aR_1 (h := va_up h p (.inr (cj, fs.set f w))) hL hS2 ?_ ?_
            · refine ah_upd_ok eo hp hi hH (fun c c' hcc hok => ?_)
              obtain ⟨as2, rfl, hf2, -, rfl⟩ := aE_pfu hcc
              rw [ef] at hok
              obtain ⟨-, hl2, hok⟩ := hok
              refine ⟨⟨rfl, hlt⟩, by simp [hl2], fun i u b h1 h2 => ?_⟩
              by_cases ei : i = f
              · subst ei
                rw [List.getElem?_set_self (by omega)] at h1
                rw [List.getElem?_set_self (by omega)] at h2
                cases h1
                cases h2
                exact hv
              · rw [List.getElem?_set_ne (Ne.symm ei)] at h1 h2
                exact hok i u b h1 h2
            · unfold pm_pf pm_obj
              dsimp only
              rw [if_pos hi, ef, efl]
              dsimp only
              rw [if_pos ⟨rfl, by omega, aE_fits q.1 hv, q.2.1⟩]
          · cases e
        · cases e
      · cases e
    · cases e
end ABW
end MG37abscelx0
section MG37abscelx1
/-! what the library does, and all simple instructions -/
section ABX
variable {T : pm_Tab} {B : Nat → ac} {sz sl fr lo k pc : Nat} {A : List (Option av)} {SA : List av} {o : ah} {L : pm_L} {S : List Value} {h : pm_H} {ss : List ast}
theorem as_sum : ∀ {S : List Value} {SA : List av}, as_ok S SA → pm_sum S = aa_sum SA
  | [], [], _ => rfl
  | v :: vs, a :: as, q => by
    have h1 := as_sum q.2
    have h2 := av_cat q.1
    unfold pm_sum aa_sum at h1 ⊢
    simp only [List.map_cons, List.sum_cons]
    rw [h1, h2]
    congr 1
    by_cases e : a.1 = 1
    · rw [if_pos e, e]; rfl
    · rw [if_neg e]
      cases hb : Nat.beq a.1 1 with
      | false => rfl
      | true => exact absurd (Nat.eq_of_beq_eq_true hb) e
  | [], _ :: _, q => q.elim
  | _ :: _, [], q => q.elim
theorem aE_src {q : Int} {b : av} {i : Nat} (e : aa_src T B o sz q i = some b) : i < sz ∧ ∃ kd n, ah_get B o i = .inl (kd, n, b) ∧ (pm_ty T)[kd]? = some .int ∧ b.1 = 0 ∧ q ≤ n ∧ 0 < n := by
  unfold aa_src at e
  split at e
  · rename_i hi
    split at e
    · rename_i kd n a ea
      split at e
      · rename_i q
        cases e
        exact ⟨hi, kd, n, ea, q⟩
      · cases e
    · cases e
  · cases e
theorem aE_cpu {q : Int} {v : av} {c c' : ac} (e : aa_cpu T q v c = some c') : ∃ kd n a b, c = .inl (kd, n, a) ∧ c' = .inl (kd, n, b) ∧ av_join a v = some b ∧ (pm_ty T)[kd]? = some .int ∧ a.1 = 0 ∧ q ≤ n ∧ 0 < n := by
  unfold aa_cpu at e
  split at e
  · rename_i kd n a
    split at e
    · rename_i q
      split at e
      · rename_i b eb
        cases e
        exact ⟨kd, n, a, b, rfl, rfl, eb, q⟩
      · cases e
    · cases e
  · cases e
theorem aI_nn {x : Int32} (h0 : 0 ≤ x.toInt) : ¬ x < 0 ∧ (x.toNatClampNeg : Int) = x.toInt := by
  refine ⟨fun q => ?_, ?_⟩
  · rw [Int32.lt_iff_toInt_lt, Int32.toInt_zero] at q; omega
  · show ((x.toInt.toNat : Nat) : Int) = x.toInt
    omega
theorem aR_lib {w : Nat} (e : aa_lib T B sz fr lo w (pc, A, SA, o) = some ss) (hL : al_ok L A) (hS : as_ok S SA) (hH : ah_ok B sz o h) : aa_R B sz sl (pm_lib T fr lo w pc L S h sz sl) ss := by
  unfold aa_lib at e
  dsimp only at e
  split at e
  · rename_i a r
    split at e
    · rename_i q
      obtain ⟨w, S2, rfl, hw, hS2⟩ := as_cons hS
      obtain ⟨p, rfl, hp⟩ := av_ref q.1 hw
      refine aR_n e hL hS2 hH ?_
      exact if_pos ⟨q.2.1, by rw [as_sum hS2]; exact q.2.2⟩
    · cases e
  · rename_i b a r
    split at e
    · rename_i q
      obtain ⟨w1, w2, S2, rfl, hv, hw, hS2⟩ := as_two hS
      obtain ⟨y, rfl, y1, y2⟩ := av_int q.2.1 hv
      obtain ⟨x, rfl, x1, x2⟩ := av_int q.1 hw
      refine aR_n e hL (S := .int (if y < x then y else x) :: S2) ⟨?_, hS2⟩ hH ?_
      · split
        · rename_i hlt
          rw [Int32.lt_iff_toInt_lt] at hlt
          exact ⟨rfl, by dsimp only; omega, by dsimp only; omega⟩
        · rename_i hlt
          rw [Int32.lt_iff_toInt_lt] at hlt
          exact ⟨rfl, by dsimp only; omega, by dsimp only; omega⟩
      · exact if_pos ⟨q.2.2.1, by rw [as_sum hS2]; exact q.2.2.2⟩
    · cases e
  · rename_i b a r
    split at e
    · rename_i q
      obtain ⟨w1, w2, S2, rfl, hv, hw, hS2⟩ := as_two hS
      obtain ⟨y, rfl, y1, y2⟩ := av_int q.2.1 hv
      obtain ⟨x, rfl, x1, x2⟩ := av_int q.1 hw
      refine aR_n e hL (S := .int (if x < y then y else x) :: S2) ⟨?_, hS2⟩ hH ?_
      · split
        · rename_i hlt
          rw [Int32.lt_iff_toInt_lt] at hlt
          exact ⟨rfl, by dsimp only; omega, by dsimp only; omega⟩
        · rename_i hlt
          rw [Int32.lt_iff_toInt_lt] at hlt
          exact ⟨rfl, by dsimp only; omega, by dsimp only; omega⟩
      · exact if_pos ⟨q.2.2.1, by rw [as_sum hS2]; exact q.2.2.2⟩
    · cases e
  · rename_i n dp a sp a0 r
    split at e
    · rename_i q
      obtain ⟨q1, q2, q3, q4, q5, q6, q7, q8, q9, q10⟩ := q
      split at e
      · rename_i v ev
        split at e
        · rename_i qa
          split at e
          · rename_i o' eo
            obtain ⟨w1, w2, S2, rfl, hv1, hv2, hS2⟩ := as_two hS
            obtain ⟨w3, w4, S4, rfl, hv3, hv4, hS4⟩ := as_two hS2
            obtain ⟨w5, S5, rfl, hv5, hS5⟩ := as_cons hS4
            obtain ⟨x, rfl, x1, x2⟩ := av_int q1 hv1
            obtain ⟨y, rfl, y1, y2⟩ := av_int q2 hv2
            obtain ⟨p, rfl, hp⟩ := av_ref q3 hv3
            obtain ⟨z, rfl, z1, z2⟩ := av_int q4 hv4
            obtain ⟨p0, rfl, hp0⟩ := av_ref q5 hv5
            obtain ⟨b, eb, hb⟩ := aa_over_ok ev hp0
            obtain ⟨hi0, kd0, n0, eg0, ety0, hb0, hr0, hn0⟩ := aE_src eb
            obtain ⟨hi, c', ec⟩ := aE_all qa hp
            obtain ⟨kd, n1, a', b', eg, -, -, ety, ha', hr, hn1⟩ := aE_cpu ec
            have hc0 := hH p0 hi0
            rw [eg0] at hc0
            obtain ⟨f0, ef0, hf0⟩ := aE_int hc0 hb0 hn0
            have hc := hH p hi
            rw [eg] at hc
            obtain ⟨f, ef, hf⟩ := aE_int hc ha' hn1
            obtain ⟨gx1, gx2⟩ := aI_nn (x := x) (by omega)
            obtain ⟨gy1, gy2⟩ := aI_nn (x := y) (by omega)
            obtain ⟨gz1, gz2⟩ := aI_nn (x := z) (by omega)
            cases e
            refine aR_1 (h := va_up h p (.inl (kd, n1, .inl (va_cpy f0 f z.toNatClampNeg y.toNatClampNeg x.toNatClampNeg)))) hL hS5 ?_ ?_
            · refine ah_upd_ok eo hp hi hH (fun c c' hcc hok => ?_)
              obtain ⟨kd2, n2, a2, b2, rfl, rfl, ej, -, -, -, -⟩ := aE_cpu hcc
              rw [ef] at hok
              obtain ⟨rfl, rfl, hok⟩ := hok
              refine ⟨rfl, rfl, fun j hj => ?_⟩
              unfold va_cpy
              split
              · rename_i hjj
                exact (av_join_ok ej).2 (hb _ (hf0 _ (by omega)))
              · exact (av_join_ok ej).1 (hok j hj)
            · have i0 : pm_iar T .int h sz p0 = some (kd0, n0, f0) := by
                unfold pm_iar
                rw [if_pos hi0, ef0]
                dsimp only
                rw [if_pos ety0]
              have i1 : pm_iar T .int h sz p = some (kd, n1, f) := by
                unfold pm_iar
                rw [if_pos hi, ef]
                dsimp only
                rw [if_pos ety]
              simp only [pm_lib, i0, i1]
              rw [if_pos ⟨⟨q9, by rw [as_sum hS5]; exact q10⟩, gz1, gy1, gx1, by omega, by omega⟩]
          · cases e
        · cases e
      · cases e
    · cases e
  · cases e
theorem aR_libW {sp : Bool} {j : Nat} (e : aa_libW T B sp sz fr lo k j (pc, A, SA, o) = some ss) (hL : al_ok L A) (hS : as_ok S SA) (hH : ah_ok B sz o h) : aa_R B sz sl (pm_libW T sp fr lo k j pc L S h sz sl) ss := by
  unfold aa_libW at e
  unfold pm_libW
  cases em : pm_mlk T (pm_o T k) j with
  | none => rw [em] at e; cases e
  | some wt =>
    obtain ⟨w, t⟩ := wt
    rw [em] at e
    dsimp only at e ⊢
    by_cases q : (w == 6) = sp
    · rw [if_pos q] at e ⊢
      exact aR_lib e hL hS hH
    · rw [if_neg q] at e; cases e
theorem ag_gd_ok {F : Int32 → Int32 → Int32} {g : av → av → Option av} (hg : ab_S F g) : ab_S F (ag_gd F g) := by
  intro a b c x y e h1 h2 h3 h4
  unfold ag_gd at e
  split at e
  · exact ab_ex_ok hg a b c x y e h1 h2 h3 h4
  · cases e
theorem ag_gd_some {F : Int32 → Int32 → Int32} {g : av → av → Option av} {a b c : av} (e : ag_gd F g a b = some c) : ∃ d, g a b = some d := by
  unfold ag_gd at e
  split at e
  · rename_i d h
    exact ⟨d, h⟩
  · cases e
theorem aR_lookd : ∀ {ps : List (Int × Int)} {d x lo hi : Int}, ps.all (fun q => decide (q.1 < lo ∨ hi < q.1)) = true → lo ≤ x → x ≤ hi → Op.lookupswitch.offset ps d x = d
  | [], d, x, lo, hi, _, _, _ => rfl
  | (a, f) :: r, d, x, lo, hi, h, h1, h2 => by
    rw [List.all_cons, Bool.and_eq_true] at h
    have h3 : a < lo ∨ hi < a := of_decide_eq_true h.1
    rw [Op.lookupswitch.offset_cons, if_neg (by omega)]
    exact aR_lookd h.2 h1 h2
theorem aa_k_ok (x : Int32) : av_ok (.int x) (aa_k x) := ⟨rfl, Int.le_refl _, Int.le_refl _⟩
theorem av_cat1 {v : Value} {a : av} (q : av_ok v a) (e : a.1 ≠ 1) : v.category = 1 := by rw [av_cat q, if_neg e]
set_option maxHeartbeats 4000000 in
theorem aa_simple_ok {i : Instr} (e : aa_simple T B sz fr lo k i (pc, A, SA, o) = some ss) (hL : al_ok L A) (hS : as_ok S SA) (hH : ah_ok B sz o h) : aa_R B sz sl (pm_simple T fr lo k i pc L S h sz sl) ss := by
  cases i
  case iconst n => exact aR_n e hL (S := .int (Int32.ofInt n) :: S) ⟨aa_k_ok _, hS⟩ hH rfl
  case bipush n => exact aR_n e hL (S := .int (Int8.ofInt n).toInt32 :: S) ⟨aa_k_ok _, hS⟩ hH rfl
  case sipush n => exact aR_n e hL (S := .int (Int16.ofInt n).toInt32 :: S) ⟨aa_k_ok _, hS⟩ hH rfl
  case lconst n => exact aR_n e hL (S := .long (Int64.ofNat n.val) :: S) ⟨⟨rfl, Int.le_refl _, Int.le_refl _⟩, hS⟩ hH rfl
  case ldc j =>
    dsimp only [aa_simple] at e
    dsimp only [pm_simple]
    cases em : pm_con T (pm_o T k) j with
    | none =>
      rw [em] at e
      dsimp only at e ⊢
      cases es : st_str (pm_o T k) j with
      | none => rw [es] at e; cases e
      | some i =>
        rw [es] at e
        exact aR_n e hL (S := .retAddr i :: S) ⟨⟨rfl, rfl⟩, hS⟩ hH rfl
    | some v =>
      rw [em] at e
      exact aR_n e hL (S := .int v :: S) ⟨aa_k_ok _, hS⟩ hH rfl
  case ldc_w j =>
    dsimp only [aa_simple] at e
    dsimp only [pm_simple]
    cases em : pm_con T (pm_o T k) j with
    | none =>
      rw [em] at e
      dsimp only at e ⊢
      cases es : st_str (pm_o T k) j with
      | none => rw [es] at e; cases e
      | some i =>
        rw [es] at e
        exact aR_n e hL (S := .retAddr i :: S) ⟨⟨rfl, rfl⟩, hS⟩ hH rfl
    | some v =>
      rw [em] at e
      exact aR_n e hL (S := .int v :: S) ⟨aa_k_ok _, hS⟩ hH rfl
  case ldc2_w j =>
    dsimp only [aa_simple] at e
    dsimp only [pm_simple]
    cases em : pm_conL T (pm_o T k) j with
    | none => rw [em] at e; cases e
    | some v =>
      rw [em] at e
      exact aR_n e hL (S := .long v :: S) ⟨⟨rfl, Int.le_refl _, Int.le_refl _⟩, hS⟩ hH rfl
  case iload j => exact aR_lo e (by omega) hL hS hH
  case iload_n j => exact aR_lo e (by omega) hL hS hH
  case lload j => exact aR_lo e (by omega) hL hS hH
  case lload_n j => exact aR_lo e (by omega) hL hS hH
  case aload j => exact aR_lo e (by omega) hL hS hH
  case aload_n j => exact aR_lo e (by omega) hL hS hH
  case istore j => exact aR_so e (by omega) hL hS hH
  case istore_n j => exact aR_so e (by omega) hL hS hH
  case astore j => exact aR_so e (by omega) hL hS hH
  case astore_n j => exact aR_so e (by omega) hL hS hH
  case lstore j => exact aR_sL e hL hS hH
  case lstore_n j => exact aR_sL e hL hS hH
  case iinc j n =>
    dsimp only [aa_simple] at e
    dsimp only [pm_simple]
    cases ea : aA_get A j with
    | none => rw [ea] at e; cases e
    | some a =>
      rw [ea] at e
      dsimp only at e
      split at e
      · rename_i q
        split at e
        · rename_i c ec
          cases e
          obtain ⟨v, hv, hok⟩ := al_get hL ea
          obtain ⟨x, rfl, x1, x2⟩ := av_int q.1 hok
          rw [hv]
          dsimp only
          rw [if_pos q.2.1]
          exact aR_1 (al_st1 hL (ab_ex_ok ag_add_ok _ _ _ _ _ ec x1 x2 (Int.le_refl _) (Int.le_refl _)) q.2.2) hS hH rfl
        · cases e
      · cases e
  case iadd => exact aR_bi (ab_ex_ok ag_add_ok) e hL hS hH
  case isub => exact aR_bi (ab_ex_ok ag_sub_ok) e hL hS hH
  case imul => exact aR_bi (ab_ex_ok ag_mul_ok) e hL hS hH
  case iand => exact aR_bi (ab_ex_ok ag_and_ok) e hL hS hH
  case ior => exact aR_bi (ab_ex_ok ag_or_ok) e hL hS hH
  case ixor => exact aR_bi (ab_ex_ok ag_xor_ok) e hL hS hH
  case ishl => exact aR_bi (ab_ex_ok ag_shl_ok) e hL hS hH
  case ishr => exact aR_bi (ab_ex_ok ag_shr_ok) e hL hS hH
  case iushr => exact aR_bi (ab_ex_ok ag_ushr_ok) e hL hS hH
  case idiv => exact aR_bd (ag_gd_ok ag_div_ok) (fun q h1 h2 => by obtain ⟨d, hd⟩ := ag_gd_some q; exact ag_div_ne hd h1 h2) e hL hS hH
  case irem => exact aR_bd (ag_gd_ok ag_rem_ok) (fun q h1 h2 => by obtain ⟨d, hd⟩ := ag_gd_some q; exact ag_rem_ne hd h1 h2) e hL hS hH
  case ineg => exact aR_ui ag_neg_ok e hL hS hH
  case i2l => exact aR_ui ag_i2l_ok e hL hS hH
  case i2b => exact aR_ui ag_b_ok e hL hS hH
  case i2s => exact aR_ui ag_s_ok e hL hS hH
  case i2c => exact aR_ui ag_c_ok e hL hS hH
  case lmul => exact aR_bl ag_mulL_ok e hL hS hH
  case ladd => exact aR_bl ag_addL_ok e hL hS hH
  case lsub => exact aR_bl ag_subL_ok e hL hS hH
  case ldiv => exact aR_bdL e hL hS hH
  case lrem => exact aR_bdL e hL hS hH
  case lcmp =>
    dsimp only [aa_simple] at e
    unfold aa_bl at e
    dsimp only at e
    match SA, hS, e with
    | [], _, e => cases e
    | [_], _, e => cases e
    | b :: a :: r, hS, e =>
      dsimp only at e
      split at e
      · rename_i q
        split at e
        · rename_i c ec
          obtain ⟨v, w, S2, rfl, hv, hw, hS2⟩ := as_two hS
          obtain ⟨y, rfl, y1, y2⟩ := av_long q.2 hv
          obtain ⟨x, rfl, x1, x2⟩ := av_long q.1 hw
          exact aR_n e hL (S := .int (lg_cmp x y) :: S2) ⟨ag_lcmp_ok ec x1 x2 y1 y2, hS2⟩ hH rfl
        · cases e
      · cases e
  case dup =>
    dsimp only [aa_simple] at e
    match SA, hS, e with
    | [], _, e => cases e
    | a :: r, hS, e =>
      dsimp only at e
      split at e
      · rename_i q
        obtain ⟨v, S2, rfl, hv, hS2⟩ := as_cons hS
        exact aR_n e hL (S := v :: v :: S2) ⟨hv, hv, hS2⟩ hH (if_pos (av_cat1 hv q))
      · cases e
  case pop =>
    dsimp only [aa_simple] at e
    match SA, hS, e with
    | [], _, e => cases e
    | a :: r, hS, e =>
      dsimp only at e
      split at e
      · rename_i q
        obtain ⟨v, S2, rfl, hv, hS2⟩ := as_cons hS
        exact aR_n e hL (S := S2) hS2 hH (if_pos (av_cat1 hv q))
      · cases e
  case dup_x1 =>
    dsimp only [aa_simple] at e
    match SA, hS, e with
    | [], _, e => cases e
    | [_], _, e => cases e
    | a :: b :: r, hS, e =>
      dsimp only at e
      split at e
      · rename_i q
        obtain ⟨v, w, S2, rfl, hv, hw, hS2⟩ := as_two hS
        exact aR_n e hL (S := v :: w :: v :: S2) ⟨hv, hw, hv, hS2⟩ hH (if_pos ⟨av_cat1 hv q.1, av_cat1 hw q.2⟩)
      · cases e
  case dup_x2 =>
    dsimp only [aa_simple] at e
    match SA, hS, e with
    | [], _, e => cases e
    | [_], _, e => cases e
    | [_, _], _, e => cases e
    | a :: b :: c :: r, hS, e =>
      dsimp only at e
      split at e
      · rename_i q
        obtain ⟨v, w, S1, rfl, hv, hw, hS1⟩ := as_two hS
        obtain ⟨z, S2, rfl, hz, hS2⟩ := as_cons hS1
        exact aR_n e hL (S := v :: w :: z :: v :: S2) ⟨hv, hw, hz, hv, hS2⟩ hH (if_pos ⟨av_cat1 hv q.1, av_cat1 hw q.2.1, av_cat1 hz q.2.2⟩)
      · cases e
  case dup2 =>
    dsimp only [aa_simple] at e
    match SA, hS, e with
    | [], _, e => cases e
    | [_], _, e => cases e
    | a :: b :: r, hS, e =>
      dsimp only at e
      split at e
      · rename_i q
        obtain ⟨v, w, S2, rfl, hv, hw, hS2⟩ := as_two hS
        exact aR_n e hL (S := v :: w :: v :: w :: S2) ⟨hv, hw, hv, hw, hS2⟩ hH (if_pos ⟨av_cat1 hv q.1, av_cat1 hw q.2⟩)
      · cases e
  case ifCond c off =>
    dsimp only [aa_simple] at e
    match SA, hS, e with
    | [], _, e => cases e
    | a :: r, hS, e =>
      dsimp only at e
      split at e
      · rename_i q
        obtain ⟨v, S2, rfl, hv, hS2⟩ := as_cons hS
        obtain ⟨x, rfl, x1, x2⟩ := av_int q hv
        exact aR_br (fun b hb => ag_cmp_ok hb x1 x2 (by rw [Int32.toInt_zero]; exact Int.le_refl _) (by rw [Int32.toInt_zero]; exact Int.le_refl _)) e hL hS2 hH
      · cases e
  case if_icmp c off =>
    dsimp only [aa_simple] at e
    match SA, hS, e with
    | [], _, e => cases e
    | [_], _, e => cases e
    | b :: a :: r, hS, e =>
      dsimp only at e
      split at e
      · rename_i q
        obtain ⟨v, w, S2, rfl, hv, hw, hS2⟩ := as_two hS
        obtain ⟨y, rfl, y1, y2⟩ := av_int q.2 hv
        obtain ⟨x, rfl, x1, x2⟩ := av_int q.1 hw
        exact aR_br (fun b hb => ag_cmp_ok hb x1 x2 y1 y2) e hL hS2 hH
      · cases e
  case goto off => exact aR_jp e hL hS hH
  case tableswitch d lo' hi offs =>
    dsimp only [aa_simple] at e
    dsimp only [pm_simple]
    match SA, hS, e with
    | [], _, e => cases e
    | a :: r, hS, e =>
      dsimp only at e
      split at e
      · rename_i q
        obtain ⟨v, S2, rfl, hv, hS2⟩ := as_cons hS
        obtain ⟨x, rfl, x1, x2⟩ := av_int q hv
        dsimp only
        split at e
        · rename_i qo
          rw [if_pos (by omega)]
          exact aR_jp e hL hS2 hH
        split at e
        · rename_i qe
          have ex : a.2.1 = x.toInt := by omega
          rw [ex] at e
          by_cases q5 : x.toInt < lo' ∨ hi < x.toInt
          · rw [if_pos q5] at e ⊢
            exact aR_jp e hL hS2 hH
          · rw [if_neg q5] at e ⊢
            cases ef : offs[(x.toInt - lo').toNat]? with
            | none => rw [ef] at e; cases e
            | some off => rw [ef] at e; exact aR_jp e hL hS2 hH
        · split at e
          · rename_i qs
            by_cases q5 : x.toInt < lo' ∨ hi < x.toInt
            · rw [if_pos q5]
              exact aR_all hL hS2 hH List.mem_cons_self e
            · rw [if_neg q5]
              have hlt : (x.toInt - lo').toNat < offs.size := by omega
              have ef : offs[(x.toInt - lo').toNat]? = some offs[(x.toInt - lo').toNat] := Array.getElem?_eq_getElem hlt
              rw [ef]
              refine aR_all hL hS2 hH (List.mem_cons_of_mem _ ?_) e
              exact Array.getElem_mem_toList hlt
          · cases e
      · cases e
  case lookupswitch d ps =>
    dsimp only [aa_simple] at e
    dsimp only [pm_simple]
    match SA, hS, e with
    | [], _, e => cases e
    | a :: r, hS, e =>
      dsimp only at e
      split at e
      · rename_i q
        obtain ⟨v, S2, rfl, hv, hS2⟩ := as_cons hS
        obtain ⟨x, rfl, x1, x2⟩ := av_int q.1 hv
        dsimp only
        rw [if_pos q.2]
        split at e
        · rename_i qo
          rw [aR_lookd qo x1 x2]
          exact aR_jp e hL hS2 hH
        split at e
        · rename_i qe
          have ex : a.2.1 = x.toInt := by omega
          rw [ex] at e
          exact aR_jp e hL hS2 hH
        · exact aR_all hL hS2 hH (aR_look _ _ _) e
      · cases e
  case getfield j => exact aR_gf e hL hS hH
  case putfield j => exact aR_pf e hL hS hH
  case iaload => exact aR_aldi e hL hS hH
  case caload => exact aR_aldi e hL hS hH
  case baload => exact aR_aldi e hL hS hH
  case laload => exact aR_lald e hL hS hH
  case aaload => exact aR_qld e hL hS hH
  case iastore => exact aR_iast (F := fun x => x) (fun a x q h1 h2 => ⟨q, h1, h2⟩) e hL hS hH
  case castore => exact aR_iast (F := fun x => vp_nar .char x) (fun a x q h1 h2 => by rw [ac_char]; exact ag_c_ok a x q h1 h2) e hL hS hH
  case bastore => exact aR_iast (F := fun x => vp_nar .boolean x) ag_z_ok e hL hS hH
  case lastore => exact aR_last e hL hS hH
  case arraylength => exact aR_alen e hL hS hH
  case invokespecial j => exact aR_libW e hL hS hH
  case invokestatic j => exact aR_libW e hL hS hH
  all_goals cases e
end ABX
end MG37abscelx1
section MG37abscelx2
/-! whole methods on the abstract machine: a list of states that wait, the lowest place first; states of one place are joined where J says so -/
section ABR
variable {T : pm_Tab} {B : Nat → ac} {sz sl : Nat}
abbrev ar : Type := Option av × ah
def aE_end (T : pm_Tab) (k : Nat) (s : ast) : Option ar := match pm_ins T k s.1 with
  | none => none
  | some (i, len) => if pm_lenOk i len = true then (match i, s.2.2.1 with
    | .return_, [] => (match pm_ret T k with
      | none => some (none, s.2.2.2)
      | _ => none)
    | .ireturn, [a] => if a.1 = 0 then (match pm_ret T k with
      | some .int => some (some a, s.2.2.2)
      | some .boolean => if 0 ≤ a.2.1 ∧ a.2.2 ≤ 1 then some (some a, s.2.2.2) else none
      | _ => none) else none
    | .lreturn, [a] => if a.1 = 1 then (match pm_ret T k with
      | some .long => some (some a, s.2.2.2)
      | _ => none) else none
    | _, _ => none) else none
def ao_ok (v : Option Value) (a : Option av) : Prop := match v, a with
  | none, none => True
  | some v, some a => av_ok v a
  | _, _ => False
def ar_ok (B : Nat → ac) (sz sl : Nat) (r : ar) (q : pm_Rs) : Prop := ao_ok q.1 r.1 ∧ ah_ok B sz r.2 q.2.1 ∧ q.2.2.1 = sz ∧ q.2.2.2 = sl
theorem as_nil {S : List Value} (q : as_ok S []) : S = [] := by
  cases S with
  | nil => rfl
  | cons v r => exact q.elim
theorem aE_end_ok {k : Nat} {s : ast} {r : ar} {st : pm_St} (e : aE_end T k s = some r) (hs : ast_ok B sz sl s st) : ∃ q, pm_end T k st = some q ∧ ar_ok B sz sl r q := by
  obtain ⟨h1, hL, hS, hH, h5, h6⟩ := hs
  obtain ⟨pc, L, S, h, sz', sl'⟩ := st
  dsimp only at h1 hL hS hH h5 h6
  subst h1 h5 h6
  unfold aE_end at e
  unfold pm_end
  dsimp only
  cases ei : pm_ins T k s.1 with
  | none => rw [ei] at e; cases e
  | some il =>
    obtain ⟨i, len⟩ := il
    rw [ei] at e
    dsimp only at e ⊢
    by_cases hl : pm_lenOk i len = true
    · rw [if_pos hl] at e ⊢
      split at e
      · rename_i hq
        rw [hq] at hS
        cases as_nil hS
        dsimp only [pm_rets]
        cases er : pm_ret T k with
        | some _ => rw [er] at e; cases e
        | none =>
          rw [er] at e
          cases e
          exact ⟨_, rfl, trivial, hH, rfl, rfl⟩
      · rename_i a hq
        rw [hq] at hS
        obtain ⟨v, S2, rfl, hv, hS2⟩ := as_cons hS
        cases as_nil hS2
        split at e
        · rename_i h0
          obtain ⟨x, rfl, x1, x2⟩ := av_int h0 hv
          dsimp only [pm_rets]
          split at e
          · rename_i er
            rw [er]
            cases e
            exact ⟨_, rfl, hv, hH, rfl, rfl⟩
          · rename_i er
            rw [er]
            dsimp only
            split at e
            · rename_i hb
              cases e
              have n1 : (1 : Int32).toInt = 1 := by decide
              have hx : x = 0 ∨ x = 1 := by
                by_cases q : x.toInt = 0
                · exact Or.inl (Int32.toInt_inj.1 (by rw [q, Int32.toInt_zero]))
                · exact Or.inr (Int32.toInt_inj.1 (by rw [n1]; omega))
              rw [if_pos hx]
              exact ⟨_, rfl, hv, hH, rfl, rfl⟩
            · cases e
          · cases e
        · cases e
      · rename_i a hq
        rw [hq] at hS
        obtain ⟨v, S2, rfl, hv, hS2⟩ := as_cons hS
        cases as_nil hS2
        split at e
        · rename_i h0
          obtain ⟨x, rfl, x1, x2⟩ := av_long h0 hv
          dsimp only [pm_rets]
          split at e
          · rename_i er
            rw [er]
            cases e
            exact ⟨_, rfl, hv, hH, rfl, rfl⟩
          · cases e
        · cases e
      · cases e
    · rw [if_neg hl] at e; cases e
/-! calls -/
def aa_args : List av → List (Option av)
  | [] => []
  | a :: r => cond (Nat.beq a.1 1) (some a :: none :: aa_args r) (some a :: aa_args r)
def aa_l0 (as : List av) (n : Nat) : List (Option av) := aa_args as ++ List.replicate (n - (aa_args as).length) none
theorem as_len : ∀ {S : List Value} {SA : List av}, as_ok S SA → S.length = SA.length
  | [], [], _ => rfl
  | _ :: _, _ :: _, q => by simp [as_len q.2]
  | [], _ :: _, q => q.elim
  | _ :: _, [], q => q.elim
theorem as_take : ∀ (n : Nat) {S : List Value} {SA : List av}, as_ok S SA → as_ok (S.take n) (SA.take n)
  | 0, _, _, _ => by simp [as_ok]
  | n + 1, [], [], _ => by simp [as_ok]
  | n + 1, _ :: _, _ :: _, q => ⟨q.1, as_take n q.2⟩
  | n + 1, [], _ :: _, q => q.elim
  | n + 1, _ :: _, [], q => q.elim
theorem as_drop : ∀ (n : Nat) {S : List Value} {SA : List av}, as_ok S SA → as_ok (S.drop n) (SA.drop n)
  | 0, _, _, q => q
  | n + 1, [], [], _ => by simp [as_ok]
  | n + 1, _ :: _, _ :: _, q => as_drop n q.2
  | n + 1, [], _ :: _, q => q.elim
  | n + 1, _ :: _, [], q => q.elim
theorem as_app : ∀ {S : List Value} {SA : List av} {S' : List Value} {SA' : List av}, as_ok S SA → as_ok S' SA' → as_ok (S ++ S') (SA ++ SA')
  | [], [], _, _, _, q => q
  | _ :: _, _ :: _, _, _, p, q => ⟨p.1, as_app p.2 q⟩
  | [], _ :: _, _, _, p, _ => p.elim
  | _ :: _, [], _, _, p, _ => p.elim
theorem as_rev : ∀ {S : List Value} {SA : List av}, as_ok S SA → as_ok S.reverse SA.reverse
  | [], [], _ => by simp [as_ok]
  | v :: r, a :: t, q => by
    rw [List.reverse_cons, List.reverse_cons]
    exact as_app (as_rev q.2) ⟨q.1, trivial⟩
  | [], _ :: _, q => q.elim
  | _ :: _, [], q => q.elim
/-- place by place -/
def al2_ok : pm_L → List (Option av) → Prop
  | [], [] => True
  | v :: r, a :: t => (∀ x, a = some x → ∃ w, v = some w ∧ av_ok w x) ∧ al2_ok r t
  | _, _ => False
theorem al2_al : ∀ {L : pm_L} {A : List (Option av)}, al2_ok L A → al_ok L A
  | [], [], _ => ⟨rfl, fun i a q => by simp at q⟩
  | v :: r, a :: t, q => by
    obtain ⟨h1, h2⟩ := al2_al q.2
    refine ⟨by simp [h1], fun i x hx => ?_⟩
    match i, hx with
    | 0, hx =>
      have hx : some a = some (some x) := hx
      obtain ⟨w, rfl, hw⟩ := q.1 x (Option.some.inj hx)
      exact ⟨w, rfl, hw⟩
    | i + 1, hx => exact h2 i x hx
  | [], _ :: _, q => q.elim
  | _ :: _, [], q => q.elim
theorem al2_args : ∀ {S : List Value} {SA : List av}, as_ok S SA → al2_ok (pm_args S) (aa_args SA)
  | [], [], _ => trivial
  | v :: r, a :: t, q => by
    have h1 := al2_args q.2
    have h2 := av_cat q.1
    unfold pm_args aa_args
    by_cases e : a.1 = 1
    · rw [if_pos e] at h2
      rw [if_pos h2, e]
      exact ⟨fun x hx => ⟨v, rfl, (by cases hx; exact q.1)⟩, (fun x hx => (by cases hx)), h1⟩
    · rw [if_neg e] at h2
      rw [if_neg (by omega)]
      have hb : Nat.beq a.1 1 = false := by
        cases hb : Nat.beq a.1 1 with
        | false => rfl
        | true => exact absurd (Nat.eq_of_beq_eq_true hb) e
      rw [hb]
      exact ⟨fun x hx => ⟨v, rfl, (by cases hx; exact q.1)⟩, h1⟩
  | [], _ :: _, q => q.elim
  | _ :: _, [], q => q.elim
theorem al2_len : ∀ {L : pm_L} {A : List (Option av)}, al2_ok L A → L.length = A.length
  | [], [], _ => rfl
  | _ :: _, _ :: _, q => by simp [al2_len q.2]
  | [], _ :: _, q => q.elim
  | _ :: _, [], q => q.elim
theorem al2_app : ∀ {L : pm_L} {A : List (Option av)} {L' : pm_L} {A' : List (Option av)}, al2_ok L A → al2_ok L' A' → al2_ok (L ++ L') (A ++ A')
  | [], [], _, _, _, q => q
  | _ :: _, _ :: _, _, _, p, q => ⟨p.1, al2_app p.2 q⟩
  | [], _ :: _, _, _, p, _ => p.elim
  | _ :: _, [], _, _, p, _ => p.elim
theorem al2_rep : ∀ n : Nat, al2_ok (List.replicate n none) (List.replicate n none)
  | 0 => trivial
  | n + 1 => ⟨fun x hx => (by cases hx), al2_rep n⟩
theorem al_l0 {S : List Value} {SA : List av} (q : as_ok S SA) (n : Nat) : al_ok (pm_l0 S n) (aa_l0 SA n) := by
  have h1 := al2_args q
  unfold pm_l0 aa_l0
  rw [al2_len h1]
  exact al2_al (al2_app h1 (al2_rep _))
def aa_rcv (T : pm_Tab) (B : Nat → ac) (sz w t : Nat) (as : List av) (o : ah) : Bool := if w = 2 ∨ w = 3 then true else (match as with
  | a :: _ => decide (a.1 = 2) && (av_ids a).all (fun i => decide (i < sz) && (match ah_get B o i with
    | .inr (ci, _) => ci == pm_ci T t && Nat.blt ci 1000
    | _ => false))
  | _ => false)
theorem aa_rcv_ok {w t : Nat} {As : List Value} {as : List av} {o : ah} {h : pm_H} (e : aa_rcv T B sz w t as o = true) (q : as_ok As as) (hH : ah_ok B sz o h) : pm_rcv T w t As h sz = true := by
  unfold aa_rcv at e
  unfold pm_rcv
  by_cases hw : w = 2 ∨ w = 3
  · rw [if_pos hw]
  · rw [if_neg hw] at e ⊢
    match as, q, e with
    | [], _, e => cases e
    | a :: r, q, e =>
      obtain ⟨v, S2, rfl, hv, hS2⟩ := as_cons q
      dsimp only at e
      rw [Bool.and_eq_true] at e
      obtain ⟨p, rfl, hp⟩ := av_ref (of_decide_eq_true e.1) hv
      have h5 := List.all_eq_true.mp e.2 p hp
      rw [Bool.and_eq_true] at h5
      have hi := of_decide_eq_true h5.1
      have h6 := h5.2
      have hc := hH p hi
      dsimp only [pm_obj]
      rw [if_pos hi]
      split at h6
      · rename_i ci as' eg
        rw [eg] at hc
        rw [Bool.and_eq_true] at h6
        obtain ⟨fs, ef, -, -⟩ := aE_obj hc (by have := Nat.le_of_ble_eq_true h6.2; omega)
        rw [ef]
        exact h6.1
      · cases h6
/-- the callee, its arguments, what stays -/
def aa_cd (T : pm_Tab) (B : Nat → ac) (sz k : Nat) (s : ast) : Option (Nat × List av × List av) := match pm_ins T k s.1 with
  | none => none
  | some (i, len) => if pm_lenOk i len = true then (match pm_callee T k i with
    | some (w, t) => if pm_na T t ≤ s.2.2.1.length ∧ aa_rcv T B sz w t (s.2.2.1.take (pm_na T t)).reverse s.2.2.2 = true ∧ aa_sum (s.2.2.1.drop (pm_na T t)) ≤ 8 ∧ (aa_args (s.2.2.1.take (pm_na T t)).reverse).length ≤ pm_max T t then some (t, (s.2.2.1.take (pm_na T t)).reverse, s.2.2.1.drop (pm_na T t)) else none
    | none => none) else none
theorem aa_cd_ok {k t : Nat} {as rest : List av} {s : ast} {st : pm_St} (e : aa_cd T B sz k s = some (t, as, rest)) (hs : ast_ok B sz sl s st) : ∃ As Rest, pm_cd T k st = some (t, As, Rest) ∧ as_ok As as ∧ as_ok Rest rest := by
  obtain ⟨h1, hL, hS, hH, h5, h6⟩ := hs
  obtain ⟨pc, L, S, h, sz', sl'⟩ := st
  dsimp only at h1 hL hS hH h5 h6
  subst h1 h5 h6
  unfold aa_cd at e
  unfold pm_cd
  dsimp only
  cases ei : pm_ins T k s.1 with
  | none => rw [ei] at e; cases e
  | some il =>
    obtain ⟨i, len⟩ := il
    rw [ei] at e
    dsimp only at e ⊢
    by_cases hl : pm_lenOk i len = true
    · rw [if_pos hl] at e ⊢
      cases ec : pm_callee T k i with
      | none => rw [ec] at e; cases e
      | some wt =>
        obtain ⟨w, t'⟩ := wt
        rw [ec] at e
        dsimp only at e ⊢
        split at e
        · rename_i q
          cases e
          have a1 := as_rev (as_take (pm_na T t) hS)
          have a2 := as_drop (pm_na T t) hS
          refine ⟨_, _, if_pos ⟨by rw [as_len hS]; exact q.1, aa_rcv_ok q.2.1 a1 hH, by rw [as_sum a2]; exact q.2.2.1, by rw [al2_len (al2_args a1)]; exact q.2.2.2⟩, a1, a2⟩
        · cases e
    · rw [if_neg hl] at e; cases e
end ABR
end MG37abscelx2
section MG37abscelx3
/-! joins of states, the list that waits, and whole runs -/
section ABG
variable {T : pm_Tab} {B : Nat → ac} {sz sl : Nat}
def aj_L : List (Option av) → List (Option av) → List (Option av)
  | a :: r, b :: t => (match a, b with
    | some a, some b => av_join a b
    | _, _ => none) :: aj_L r t
  | _, _ => []
theorem aj_L_len : ∀ (A A' : List (Option av)), A.length = A'.length → (aj_L A A').length = A.length
  | [], [], _ => rfl
  | _ :: r, _ :: t, e => by
    unfold aj_L
    simp only [List.length_cons] at e ⊢
    rw [aj_L_len r t (by omega)]
  | [], _ :: _, e => by simp at e
  | _ :: _, [], e => by simp at e
theorem aj_L_get : ∀ (A A' : List (Option av)) (i : Nat) (c : av), (aj_L A A')[i]? = some (some c) → ∃ a b, A[i]? = some (some a) ∧ A'[i]? = some (some b) ∧ av_join a b = some c
  | a :: r, b :: t, i, c, h => by
    unfold aj_L at h
    match i, h with
    | 0, h =>
      rw [List.getElem?_cons_zero] at h
      cases a with
      | none => cases h
      | some a =>
        cases b with
        | none => cases h
        | some b => exact ⟨a, b, rfl, rfl, Option.some.inj h⟩
    | i + 1, h => exact aj_L_get r t i c h
  | [], _, i, c, h => by simp [aj_L] at h
  | _ :: _, [], i, c, h => by simp [aj_L] at h
theorem aj_L_ok {L : pm_L} {A A' : List (Option av)} (e : A.length = A'.length) : (al_ok L A → al_ok L (aj_L A A')) ∧ (al_ok L A' → al_ok L (aj_L A A')) := by
  constructor
  · intro q
    refine ⟨by rw [aj_L_len A A' e]; exact q.1, fun i c hc => ?_⟩
    obtain ⟨a, b, h1, h2, h3⟩ := aj_L_get A A' i c hc
    obtain ⟨v, hv, hok⟩ := q.2 i a h1
    exact ⟨v, hv, (av_join_ok h3).1 hok⟩
  · intro q
    refine ⟨by rw [aj_L_len A A' e, e]; exact q.1, fun i c hc => ?_⟩
    obtain ⟨a, b, h1, h2, h3⟩ := aj_L_get A A' i c hc
    obtain ⟨v, hv, hok⟩ := q.2 i b h2
    exact ⟨v, hv, (av_join_ok h3).2 hok⟩
theorem aj_S_ok : ∀ {SA SB SC : List av} {S : List Value}, al2 av_join SA SB = some SC → (as_ok S SA → as_ok S SC) ∧ (as_ok S SB → as_ok S SC)
  | [], [], SC, S, e => by
    cases (Option.some.inj e : [] = SC)
    exact ⟨id, id⟩
  | a :: r, b :: t, SC, S, e => by
    unfold al2 at e
    split at e
    · rename_i c u e1 e2
      cases e
      constructor
      · intro q
        obtain ⟨v, S2, rfl, hv, hS2⟩ := as_cons q
        exact ⟨(av_join_ok e1).1 hv, (aj_S_ok e2).1 hS2⟩
      · intro q
        obtain ⟨v, S2, rfl, hv, hS2⟩ := as_cons q
        exact ⟨(av_join_ok e1).2 hv, (aj_S_ok e2).2 hS2⟩
    · cases e
  | [], _ :: _, SC, S, e => by cases e
  | _ :: _, [], SC, S, e => by cases e
/-- the cells of these places, joined into o -/
def aj_H (B : Nat → ac) (o o' : ah) : List Nat → ah → Option ah
  | [], u => some u
  | i :: r, u => match ac_join (ah_get B o i) (ah_get B o' i) with
    | some c => aj_H B o o' r (ah_put u i c)
    | none => none
def aj_h (B : Nat → ac) (o o' : ah) : Option ah := aj_H B o o' (o.map (fun e => e.1) ++ o'.map (fun e => e.1)) []
theorem aj_H_get {o o' : ah} : ∀ {is : List Nat} {u v : ah}, aj_H B o o' is u = some v → ∀ j, (j ∈ is → ∃ c, ac_join (ah_get B o j) (ah_get B o' j) = some c ∧ ah_get B v j = c) ∧ (j ∉ is → ah_get B v j = ah_get B u j)
  | [], u, v, e, j => by
    cases (Option.some.inj e : u = v)
    exact ⟨fun q => (by cases q), fun _ => rfl⟩
  | i :: r, u, v, e, j => by
    unfold aj_H at e
    split at e
    · rename_i c ec
      obtain ⟨h1, h2⟩ := aj_H_get e j
      constructor
      · intro hm
        by_cases hr : j ∈ r
        · exact h1 hr
        · have ej : j = i := (List.mem_cons.mp hm).resolve_right hr
          subst ej
          refine ⟨c, ec, ?_⟩
          rw [h2 hr, ah_put_get, if_pos rfl]
      · intro hm
        rw [h2 (fun q => hm (List.mem_cons_of_mem _ q)), ah_put_get, if_neg (fun q => hm (by rw [q]; exact List.mem_cons_self))]
    · cases e
theorem fd_none : ∀ {o : ah} {j : Nat}, j ∉ o.map (fun e => e.1) → pm_fd o j = none
  | [], _, _ => rfl
  | e :: r, j, h => by
    unfold pm_fd
    have h1 : Nat.beq e.1 j = false := by
      cases hb : Nat.beq e.1 j with
      | false => rfl
      | true => exact absurd (by rw [← Nat.eq_of_beq_eq_true hb]; exact List.mem_cons_self) h
    rw [h1]
    exact fd_none (fun q => h (List.mem_cons_of_mem _ q))
theorem aj_h_ok {o o' v : ah} {h : pm_H} (e : aj_h B o o' = some v) : (ah_ok B sz o h → ah_ok B sz v h) ∧ (ah_ok B sz o' h → ah_ok B sz v h) := by
  have key : ∀ j, (∃ c, ac_join (ah_get B o j) (ah_get B o' j) = some c ∧ ah_get B v j = c) ∨ (ah_get B v j = ah_get B o j ∧ ah_get B v j = ah_get B o' j) := by
    intro j
    obtain ⟨h1, h2⟩ := aj_H_get e j
    by_cases hm : j ∈ o.map (fun e => e.1) ++ o'.map (fun e => e.1)
    · exact Or.inl (h1 hm)
    · have h3 := h2 hm
      rw [List.mem_append] at hm
      have a1 : pm_fd o j = none := fd_none (fun q => hm (Or.inl q))
      have a2 : pm_fd o' j = none := fd_none (fun q => hm (Or.inr q))
      refine Or.inr ⟨?_, ?_⟩
      · rw [h3]; unfold ah_get; rw [a1]; rfl
      · rw [h3]; unfold ah_get; rw [a2]; rfl
  constructor
  · intro q j hj
    rcases key j with ⟨c, h1, h2⟩ | ⟨h1, h2⟩
    · rw [h2]; exact (ac_join_ok h1).1 (q j hj)
    · rw [h1]; exact q j hj
  · intro q j hj
    rcases key j with ⟨c, h1, h2⟩ | ⟨h1, h2⟩
    · rw [h2]; exact (ac_join_ok h1).2 (q j hj)
    · rw [h2]; exact q j hj
def aj_s (B : Nat → ac) (s t : ast) : Option ast := if s.1 = t.1 ∧ s.2.1.length = t.2.1.length then (match al2 av_join s.2.2.1 t.2.2.1, aj_h B s.2.2.2 t.2.2.2 with
  | some S, some o => some (s.1, aj_L s.2.1 t.2.1, S, o)
  | _, _ => none) else none
theorem aj_s_ok {s t u : ast} {st : pm_St} (e : aj_s B s t = some u) : (ast_ok B sz sl s st → ast_ok B sz sl u st) ∧ (ast_ok B sz sl t st → ast_ok B sz sl u st) := by
  unfold aj_s at e
  split at e
  · rename_i q
    split at e
    · rename_i S o e1 e2
      cases e
      constructor
      · rintro ⟨h1, h2, h3, h4, h5⟩
        exact ⟨h1, (aj_L_ok q.2).1 h2, (aj_S_ok e1).1 h3, (aj_h_ok e2).1 h4, h5⟩
      · rintro ⟨h1, h2, h3, h4, h5⟩
        exact ⟨h1.trans q.1.symm, (aj_L_ok q.2).2 h2, (aj_S_ok e1).2 h3, (aj_h_ok e2).2 h4, h5⟩
    · cases e
  · cases e
/-- the list that waits -/
def aw_ins (B : Nat → ac) (J : Nat → Bool) (s : ast) : List ast → List ast
  | [] => [s]
  | t :: W => cond (Nat.blt s.1 t.1) (s :: t :: W) (cond (Nat.beq s.1 t.1 && J s.1) (match aj_s B s t with
    | some u => u :: W
    | none => t :: aw_ins B J s W) (t :: aw_ins B J s W))
theorem aw_ins_ok {J : Nat → Bool} {s : ast} {st : pm_St} : ∀ {W : List ast}, (ast_ok B sz sl s st ∨ ∃ t, t ∈ W ∧ ast_ok B sz sl t st) → ∃ t, t ∈ aw_ins B J s W ∧ ast_ok B sz sl t st
  | [], h => by
    rcases h with h | ⟨t, ht, _⟩
    · exact ⟨s, List.mem_cons_self, h⟩
    · cases ht
  | x :: W, h => by
    have skip : ∃ t, t ∈ x :: aw_ins B J s W ∧ ast_ok B sz sl t st := by
      rcases h with h | ⟨t, ht, h⟩
      · obtain ⟨t, h1, h2⟩ := aw_ins_ok (J := J) (W := W) (Or.inl h)
        exact ⟨t, List.mem_cons_of_mem _ h1, h2⟩
      · rcases List.mem_cons.mp ht with rfl | ht
        · exact ⟨t, List.mem_cons_self, h⟩
        · obtain ⟨t, h1, h2⟩ := aw_ins_ok (J := J) (s := s) (W := W) (Or.inr ⟨t, ht, h⟩)
          exact ⟨t, List.mem_cons_of_mem _ h1, h2⟩
    unfold aw_ins
    cases Nat.blt s.1 x.1 with
    | true =>
      dsimp only [cond]
      rcases h with h | ⟨t, ht, h⟩
      · exact ⟨s, List.mem_cons_self, h⟩
      · exact ⟨t, List.mem_cons_of_mem _ ht, h⟩
    | false =>
      dsimp only [cond]
      cases (Nat.beq s.1 x.1 && J s.1) with
      | false => exact skip
      | true =>
        dsimp only
        split
        · rename_i u eu
          rcases h with h | ⟨t, ht, h⟩
          · exact ⟨u, List.mem_cons_self, (aj_s_ok eu).1 h⟩
          · rcases List.mem_cons.mp ht with rfl | ht
            · exact ⟨u, List.mem_cons_self, (aj_s_ok eu).2 h⟩
            · exact ⟨t, List.mem_cons_of_mem _ ht, h⟩
        · exact skip
def aw_all (B : Nat → ac) (J : Nat → Bool) : List ast → List ast → List ast
  | [], W => W
  | s :: r, W => aw_all B J r (aw_ins B J s W)
theorem aw_all_ok {J : Nat → Bool} {st : pm_St} : ∀ {ss W : List ast}, ((∃ t, t ∈ ss ∧ ast_ok B sz sl t st) ∨ ∃ t, t ∈ W ∧ ast_ok B sz sl t st) → ∃ t, t ∈ aw_all B J ss W ∧ ast_ok B sz sl t st
  | [], W, h => by
    rcases h with ⟨t, ht, _⟩ | h
    · cases ht
    · exact h
  | s :: r, W, h => by
    unfold aw_all
    apply aw_all_ok
    rcases h with ⟨t, ht, h⟩ | h
    · rcases List.mem_cons.mp ht with rfl | ht
      · exact Or.inr (aw_ins_ok (Or.inl h))
      · exact Or.inl ⟨t, ht, h⟩
    · exact Or.inr (aw_ins_ok (Or.inr h))
/-- answers -/
def aj_r (B : Nat → ac) (r q : ar) : Option ar := match r.1, q.1, aj_h B r.2 q.2 with
  | none, none, some o => some (none, o)
  | some a, some b, some o => (match av_join a b with
    | some c => some (some c, o)
    | none => none)
  | _, _, _ => none
theorem aj_r_ok {r q u : ar} {x : pm_Rs} (e : aj_r B r q = some u) : (ar_ok B sz sl r x → ar_ok B sz sl u x) ∧ (ar_ok B sz sl q x → ar_ok B sz sl u x) := by
  obtain ⟨r1, r2⟩ := r
  obtain ⟨q1, q2⟩ := q
  unfold aj_r at e
  dsimp only at e
  split at e
  · rename_i o eo
    cases e
    exact ⟨fun h => ⟨h.1, (aj_h_ok eo).1 h.2.1, h.2.2⟩, fun h => ⟨h.1, (aj_h_ok eo).2 h.2.1, h.2.2⟩⟩
  · rename_i a b o eo
    split at e
    · rename_i c ec
      cases e
      obtain ⟨x1, x2⟩ := x
      constructor
      · rintro ⟨h1, h2, h3⟩
        cases x1 with
        | none => exact h1.elim
        | some v => exact ⟨(av_join_ok ec).1 h1, (aj_h_ok eo).1 h2, h3⟩
      · rintro ⟨h1, h2, h3⟩
        cases x1 with
        | none => exact h1.elim
        | some v => exact ⟨(av_join_ok ec).2 h1, (aj_h_ok eo).2 h2, h3⟩
    · cases e
  · cases e
def aw_out (B : Nat → ac) (jo : Bool) (r : ar) (R : List ar) : List ar := match R with
  | [] => [r]
  | q :: R' => cond jo (match aj_r B r q with
    | some u => u :: R'
    | none => r :: R) (r :: R)
theorem aw_out_ok {jo : Bool} {r : ar} {R : List ar} {x : pm_Rs} (h : ar_ok B sz sl r x ∨ ∃ q, q ∈ R ∧ ar_ok B sz sl q x) : ∃ q, q ∈ aw_out B jo r R ∧ ar_ok B sz sl q x := by
  have plain : ∃ q, q ∈ r :: R ∧ ar_ok B sz sl q x := by
    rcases h with h | ⟨q, hq, h⟩
    · exact ⟨r, List.mem_cons_self, h⟩
    · exact ⟨q, List.mem_cons_of_mem _ hq, h⟩
  unfold aw_out
  split
  · exact plain
  · rename_i q R'
    cases jo with
    | false => exact plain
    | true =>
      dsimp only [cond]
      split
      · rename_i u eu
        rcases h with h | ⟨p, hp, h⟩
        · exact ⟨u, List.mem_cons_self, (aj_r_ok eu).1 h⟩
        · rcases List.mem_cons.mp hp with rfl | hp
          · exact ⟨u, List.mem_cons_self, (aj_r_ok eu).2 h⟩
          · exact ⟨p, List.mem_cons_of_mem _ hp, h⟩
      · exact plain
/-- one step: 'go' runs a callee -/
def aa_step (T : pm_Tab) (B : Nat → ac) (sz : Nat) (go : Nat → Nat → Nat → List av → ah → Option (List ar)) (fr lo k : Nat) (s : ast) : Option (List ast) := match aa_cd T B sz k s with
  | some (t, as, rest) => if 1 ≤ fr ∧ 19 + pm_max T t ≤ lo then (match go (fr - 1) (lo - (19 + pm_max T t)) t as s.2.2.2 with
    | some R => some (R.map (fun r => (s.1 + 3, s.2.1, r.1.toList ++ rest, r.2)))
    | none => none) else none
  | none => (match pm_ins T k s.1 with
    | none => none
    | some (i, len) => if pm_lenOk i len = true ∧ pm_callee T k i = none then aa_simple T B sz fr lo k i s else none)
/-- whole runs: J tells where states are joined, by the method and the place; jo, of which methods the answers are joined -/
def aa_run (T : pm_Tab) (B : Nat → ac) (sz : Nat) (J : Nat → Nat → Bool) (jo : Nat → Bool) : Nat → Nat → Nat → Nat → List ast → List ar → Option (List ar)
  | 0, _, _, _, _, _ => none
  | n + 1, fr, lo, k, W, R => match W with
    | [] => some R
    | s :: W => match aE_end T k s with
      | some r => aa_run T B sz J jo n fr lo k W (aw_out B (jo k) r R)
      | none => match aa_step T B sz (fun fr lo t as o => aa_run T B sz J jo n fr lo t [(0, aa_l0 as (pm_max T t), [], o)] []) fr lo k s with
        | some ss => aa_run T B sz J jo n fr lo k (aw_all B (J k) ss W) R
        | none => none
theorem aa_run_ok {J : Nat → Nat → Bool} {jo : Nat → Bool} : ∀ (n fr lo k : Nat) (W : List ast) (R R' : List ar), aa_run T B sz J jo n fr lo k W R = some R' → (∀ x, (∃ r, r ∈ R ∧ ar_ok B sz sl r x) → ∃ r, r ∈ R' ∧ ar_ok B sz sl r x) ∧ ∀ st, (∃ s, s ∈ W ∧ ast_ok B sz sl s st) → pm_WP T fr lo k st (fun x => ∃ r, r ∈ R' ∧ ar_ok B sz sl r x)
  | 0, _, _, _, _, _, _, e => by cases e
  | n + 1, fr, lo, k, W, R, R', e => by
    unfold aa_run at e
    match W, e with
    | [], e =>
      cases (Option.some.inj e : R = R')
      exact ⟨fun x h => h, fun st h => by obtain ⟨s, hs, _⟩ := h; cases hs⟩
    | s :: W, e =>
      dsimp only at e
      cases ee : aE_end T k s with
      | some r =>
        rw [ee] at e
        dsimp only at e
        obtain ⟨i1, i2⟩ := aa_run_ok n fr lo k W _ R' e
        refine ⟨fun x h => i1 x (aw_out_ok (Or.inr h)), fun st h => ?_⟩
        obtain ⟨s', hs', hok⟩ := h
        rcases List.mem_cons.mp hs' with rfl | hs'
        · obtain ⟨q, h1, h2⟩ := aE_end_ok ee hok
          exact wp_end h1 (i1 q (aw_out_ok (Or.inl h2)))
        · exact i2 st ⟨s', hs', hok⟩
      | none =>
        rw [ee] at e
        dsimp only at e
        split at e
        · rename_i ss es
          obtain ⟨i1, i2⟩ := aa_run_ok n fr lo k _ R R' e
          refine ⟨i1, fun st h => ?_⟩
          obtain ⟨s', hs', hok⟩ := h
          rcases List.mem_cons.mp hs' with rfl | hs'
          · unfold aa_step at es
            cases ec : aa_cd T B sz k s' with
            | some tar =>
              obtain ⟨t, as, rest⟩ := tar
              rw [ec] at es
              dsimp only at es
              split at es
              · rename_i hfl
                split at es
                · rename_i Rc ego
                  cases es
                  obtain ⟨As, Rest, c1, c2, c3⟩ := aa_cd_ok ec hok
                  obtain ⟨-, j2⟩ := aa_run_ok n _ _ t _ [] Rc ego
                  have hcal : ast_ok B sz sl (0, aa_l0 as (pm_max T t), [], s'.2.2.2) (0, pm_l0 As (pm_max T t), [], st.2.2.2) := ⟨rfl, al_l0 c2 _, trivial, hok.2.2.2.1, hok.2.2.2.2.1, hok.2.2.2.2.2⟩
                  refine wp_call c1 rfl hfl.1 hfl.2 (wp_mono (j2 _ ⟨_, List.mem_singleton_self _, hcal⟩) ?_)
                  rintro ⟨rv, h1, sz1, sl1⟩ ⟨r, hr, q1, q2, q3, q4⟩
                  refine i2 _ (aw_all_ok (Or.inl ⟨_, List.mem_map_of_mem hr, ?_⟩))
                  refine ⟨by show st.1 + 3 = s'.1 + 3; rw [hok.1], hok.2.1, ?_, q2, q3, q4⟩
                  obtain ⟨r1, r2⟩ := r
                  dsimp only at q1 ⊢
                  cases rv with
                  | none =>
                    cases r1 with
                    | none => exact c3
                    | some a => exact q1.elim
                  | some v =>
                    cases r1 with
                    | none => exact q1.elim
                    | some a => exact ⟨q1, c3⟩
                · cases es
              · cases es
            | none =>
              rw [ec] at es
              dsimp only at es
              cases ei : pm_ins T k s'.1 with
              | none => rw [ei] at es; cases es
              | some il =>
                obtain ⟨i, len⟩ := il
                rw [ei] at es
                dsimp only at es
                split at es
                · rename_i hq
                  obtain ⟨h1, hL, hS, hH, h5, h6⟩ := hok
                  obtain ⟨pc, L, S, h, sz', sl'⟩ := st
                  dsimp only at h1 hL hS hH h5 h6
                  subst h1 h5 h6
                  obtain ⟨st', g1, s2, g2, g3⟩ := aa_simple_ok (pc := s'.1) es hL hS hH
                  refine wp_step (st' := st') ?_ (i2 _ (aw_all_ok (Or.inl ⟨s2, g2, g3⟩)))
                  unfold pm_step
                  dsimp only
                  rw [ei]
                  dsimp only
                  rw [if_pos hq.1, hq.2]
                  exact g1
                · cases es
          · exact i2 st (aw_all_ok (Or.inr ⟨s', hs', hok⟩))
        · cases e
end ABG
end MG37abscelx3
