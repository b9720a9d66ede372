/-! the shapes that touch cells, jumps and locals -/
section ABW
variable {T : pm_Tab} {B : Nat → ac} {sz sl fr lo k pc : Nat} {A : List (Option av)} {SA : List av} {o : ah} {L : pm_L} {S : List Value} {h : pm_H} {ss : List ast}
theorem aR_lo {t n i : Nat} (e : aa_lo t n i (pc, A, SA, o) = some ss) (ht : t ≤ 2) (hL : al_ok L A) (hS : as_ok S SA) (hH : ah_ok B sz o h) : aa_R B sz sl (pm_lo t n pc i L S h sz sl) ss := by
  unfold aa_lo at e
  dsimp only at e
  split at e
  · rename_i a ea
    split at e
    · rename_i q
      obtain ⟨v, hv, hok⟩ := al_get hL ea
      have hT : pm_isT t v = true := by
        subst q
        cases v with
        | int x => rw [hok.1]; rfl
        | long x => rw [hok.1]; rfl
        | ref x => rw [hok.1]; rfl
        | null => have hok : a.1 = 3 := hok; omega
        | retAddr x => have := hok.1; omega
        | _ => exact hok.elim
      refine aR_n e hL (S := v :: S) ⟨hok, hS⟩ hH ?_
      unfold pm_lo pm_ld
      rw [hv]
      dsimp only
      rw [if_pos hT]
    · cases e
  · cases e
theorem aR_isT {t : Nat} {v : Value} {a : av} (ht : t ≤ 2) (q : a.1 = t) (hok : av_ok v a) : pm_isT t v = true := by
  subst q
  cases v with
  | int x => rw [hok.1]; rfl
  | long x => rw [hok.1]; rfl
  | ref x => rw [hok.1]; rfl
  | null => have hok : a.1 = 3 := hok; omega
  | retAddr x => have := hok.1; omega
  | _ => exact hok.elim
theorem aR_so {t n mx i : Nat} (e : aa_so t n mx i (pc, A, SA, o) = some ss) (ht : t ≤ 2) (hL : al_ok L A) (hS : as_ok S SA) (hH : ah_ok B sz o h) : aa_R B sz sl (pm_so t n mx pc i L S h sz sl) ss := by
  unfold aa_so at e
  dsimp only at e
  match SA, hS, e with
  | [], _, e => cases e
  | a :: r, hS, e =>
    dsimp only at e
    split at e
    · rename_i q
      obtain ⟨v, S1, rfl, hv, hS1⟩ := as_cons hS
      cases e
      refine aR_1 (al_st1 hL hv q.2.2) hS1 hH ?_
      unfold pm_so
      dsimp only
      rw [if_pos ⟨aR_isT ht q.1 hv, q.2.1⟩]
    · cases e
theorem aR_sL {n mx i : Nat} (e : aa_sL n mx i (pc, A, SA, o) = some ss) (hL : al_ok L A) (hS : as_ok S SA) (hH : ah_ok B sz o h) : aa_R B sz sl (pm_sL n mx pc i L S h sz sl) ss := by
  unfold aa_sL at e
  dsimp only at e
  match SA, hS, e with
  | [], _, e => cases e
  | a :: r, hS, e =>
    dsimp only at e
    split at e
    · rename_i q
      obtain ⟨v, S1, rfl, hv, hS1⟩ := as_cons hS
      obtain ⟨x, rfl, -, -⟩ := av_long q.1 hv
      cases e
      refine aR_1 (al_st2 hL hv q.2.2) hS1 hH ?_
      unfold pm_sL
      dsimp only
      rw [if_pos q.2.1]
    · cases e
theorem aR_jp {off : Int} {SB : List av} (e : aa_jp (pc, A, SB, o) off SA = some ss) (hL : al_ok L A) (hS : as_ok S SA) (hH : ah_ok B sz o h) : aa_R B sz sl (pm_jp pc off L S h sz sl) ss := by
  unfold aa_jp at e
  dsimp only at e
  split at e
  · rename_i t et
    cases e
    refine aR_1 hL hS hH ?_
    unfold pm_jp
    rw [et]
  · cases e
theorem aR_br {b : Bool} {r : Option Bool} {off : Int} {SB : List av} (hb : ∀ c, r = some c → b = c) (e : aa_br r (pc, A, SB, o) off SA = some ss) (hL : al_ok L A) (hS : as_ok S SA) (hH : ah_ok B sz o h) : aa_R B sz sl (pm_br b pc off L S h sz sl) ss := by
  unfold aa_br at e
  dsimp only at e
  split at e
  · rename_i t et
    unfold pm_br
    rw [et]
    dsimp only
    split at e
    · cases e; rw [hb _ rfl]; exact aR_1 hL hS hH rfl
    · cases e; rw [hb _ rfl]; exact aR_1 hL hS hH rfl
    · cases e
      cases b with
      | true => exact ⟨_, rfl, _, List.mem_cons_self, rfl, hL, hS, hH, rfl, rfl⟩
      | false => exact ⟨_, rfl, _, List.mem_cons_of_mem _ (List.mem_singleton_self _), rfl, hL, hS, hH, rfl, rfl⟩
  · cases e
theorem aR_all {off : Int} {SB : List av} (hL : al_ok L A) (hS : as_ok S SA) (hH : ah_ok B sz o h) : ∀ {os : List Int} {ss : List ast}, off ∈ os → aa_all (pc, A, SB, o) SA os = some ss → aa_R B sz sl (pm_jp pc off L S h sz sl) ss
  | [], _, hm, _ => by cases hm
  | q :: r, ss, hm, e => by
    unfold aa_all at e
    dsimp only at e
    split at e
    · rename_i t l e1 e2
      cases e
      rcases List.mem_cons.mp hm with rfl | hm
      · refine ⟨(t, L, S, h, sz, sl), ?_, _, List.mem_cons_self, rfl, hL, hS, hH, rfl, rfl⟩
        unfold pm_jp
        rw [e1]
      · obtain ⟨st', h1, s', h2, h3⟩ := aR_all hL hS hH hm e2
        exact ⟨st', h1, s', List.mem_cons_of_mem _ h2, h3⟩
    · cases e
theorem aR_look : ∀ (ps : List (Int × Int)) (d x : Int), Op.lookupswitch.offset ps d x ∈ d :: ps.map (fun q => q.2)
  | [], d, x => List.mem_cons_self
  | (a, f) :: r, d, x => by
    rw [Op.lookupswitch.offset_cons]
    split
    · exact List.mem_cons_of_mem _ List.mem_cons_self
    · rcases List.mem_cons.mp (aR_look r d x) with q | q
      · rw [q]; exact List.mem_cons_self
      · exact List.mem_cons_of_mem _ (List.mem_cons_of_mem _ q)
/-! arrays of ints and of longs -/
theorem aE_int {e : pm_E} {kd n : Nat} {a : av} (q : ac_ok e (.inl (kd, n, a))) (ha : a.1 = 0) (hn : 0 < n) : ∃ f, e = .inl (kd, n, .inl f) ∧ ∀ j, j < n → av_ok (.int (f j)) a := by
  obtain ⟨kd', m, f | f | f | f | f⟩ | ⟨ci, fs⟩ := e
  · obtain ⟨rfl, rfl, q3⟩ := q; exact ⟨f, rfl, q3⟩
  · obtain ⟨rfl, rfl, q3⟩ := q
    have := (q3 0 hn).1
    omega
  · exact q.elim
  · exact q.elim
  · obtain ⟨rfl, rfl, q3⟩ := q
    have h5 := q3 0 hn
    unfold aq at h5
    rw [if_neg (by omega)] at h5
    cases hf : f 0 with
    | none => rw [hf] at h5; have h5 : a.1 = 3 := h5; omega
    | some p => rw [hf] at h5; have := h5.1; omega
  · exact q.elim
theorem aE_long {e : pm_E} {kd n : Nat} {a : av} (q : ac_ok e (.inl (kd, n, a))) (ha : a.1 = 1) (hn : 0 < n) : ∃ f, e = .inl (kd, n, .inr (.inl f)) ∧ ∀ j, j < n → av_ok (.long (f j)) a := by
  obtain ⟨kd', m, f | f | f | f | f⟩ | ⟨ci, fs⟩ := e
  · obtain ⟨rfl, rfl, q3⟩ := q
    have := (q3 0 hn).1
    omega
  · obtain ⟨rfl, rfl, q3⟩ := q; exact ⟨f, rfl, q3⟩
  · exact q.elim
  · exact q.elim
  · obtain ⟨rfl, rfl, q3⟩ := q
    have h5 := q3 0 hn
    unfold aq at h5
    rw [if_neg (by omega)] at h5
    cases hf : f 0 with
    | none => rw [hf] at h5; have h5 : a.1 = 3 := h5; omega
    | some p => rw [hf] at h5; have := h5.1; omega
  · exact q.elim
theorem aE_obj {e : pm_E} {ci : Nat} {as : List av} (q : ac_ok e (.inr (ci, as))) (hlt : ci < 1000) : ∃ fs, e = .inr (ci, fs) ∧ fs.length = as.length ∧ ∀ (i : Nat) (v : Value) (a : av), fs[i]? = some v → as[i]? = some a → av_ok v a := by
  obtain ⟨kd', m, f | f | f | f | f⟩ | ⟨ci', fs⟩ := e
  · have := q.1
    omega
  · exact q.elim
  · exact q.elim
  · exact q.elim
  · exact q.elim
  · obtain ⟨⟨rfl, -⟩, q2, q3⟩ := q
    exact ⟨fs, rfl, q2, q3⟩
theorem aI_in {x : Int32} {n : Nat} (h0 : 0 ≤ x.toInt) (h1 : x.toInt < n) : pm_in x n = true ∧ x.toNatClampNeg < n := by
  have h2 : x.toNatClampNeg < n := by
    show x.toInt.toNat < n
    omega
  refine ⟨decide_eq_true ?_, h2⟩
  rintro (q | q)
  · rw [Int32.lt_iff_toInt_lt, Int32.toInt_zero] at q; omega
  · omega
theorem aE_elt {t : Nat} {ty : FieldType} {ix b : av} {i : Nat} (e : aa_elt T B o sz t ty ix i = some b) : i < sz ∧ ∃ kd n, ah_get B o i = .inl (kd, n, b) ∧ (pm_ty T)[kd]? = some ty ∧ b.1 = t ∧ 0 ≤ ix.2.1 ∧ ix.2.2 < n := by
  unfold aa_elt at e
  split at e
  · rename_i hi
    split at e
    · rename_i kd n a ea
      split at e
      · rename_i q
        cases e
        exact ⟨hi, kd, n, ea, q⟩
      · cases e
    · cases e
  · cases e
theorem aE_elti {ty : FieldType} {ix b : av} {i : Nat} (e : aa_elti T B o sz ty ix i = some b) : i < sz ∧ ∀ (x : pm_E), ac_ok x (ah_get B o i) → ix.2.1 ≤ ix.2.2 → ∃ kd n f, x = .inl (kd, n, .inl f) ∧ (pm_ty T)[kd]? = some ty ∧ 0 ≤ ix.2.1 ∧ ix.2.2 < n ∧ ∀ j : Nat, ix.2.1 ≤ (j : Int) → (j : Int) ≤ ix.2.2 → av_ok (.int (f j)) b := by
  unfold aa_elti at e
  split at e
  · rename_i hi
    refine ⟨hi, fun x hx hle => ?_⟩
    split at e
    · rename_i kd n a ea
      rw [ea] at hx
      split at e
      · rename_i q
        cases e
        obtain ⟨f, rfl, hf⟩ := aE_int hx q.2.1 (by omega)
        exact ⟨kd, n, f, rfl, q.1, q.2.2.1, q.2.2.2, fun j h1 h2 => hf j (by omega)⟩
      · cases e
    · rename_i c as ea
      rw [ea] at hx
      split at e
      · rename_i q
        obtain ⟨kd', m, f | f | f | f | f⟩ | ⟨ci, fs⟩ := x
        · obtain ⟨rfl, rfl, hf⟩ := hx
          have hk : 1000 + kd' - 1000 = kd' := by omega
          rw [hk] at q
          refine ⟨kd', as.length, f, rfl, q.2.1, q.2.2.1, q.2.2.2, fun j h1 h2 => ?_⟩
          have hm : j ∈ (List.range (ix.2.2 - ix.2.1 + 1).toNat).map (fun j => ix.2.1.toNat + j) := by
            rw [List.mem_map]
            exact ⟨j - ix.2.1.toNat, List.mem_range.mpr (by omega), by omega⟩
          obtain ⟨b', hb', hok⟩ := aa_over_ok e hm
          exact hok _ (hf j b' hb')
        · exact hx.elim
        · exact hx.elim
        · exact hx.elim
        · exact hx.elim
        · have h9 := hx.1
          omega
      · cases e
  · cases e
theorem aR_aldi {ty : FieldType} (e : aa_aldi T B sz ty (pc, A, SA, o) = some ss) (hL : al_ok L A) (hS : as_ok S SA) (hH : ah_ok B sz o h) : aa_R B sz sl (pm_ia T ty pc L S h sz sl) ss := by
  unfold aa_aldi at e
  dsimp only at e
  match SA, hS, e with
  | [], _, e => cases e
  | [_], _, e => cases e
  | ix :: a :: r, hS, e =>
    dsimp only at e
    split at e
    · rename_i q
      split at e
      · rename_i v ev
        obtain ⟨w1, w2, S2, rfl, hv, hw, hS2⟩ := as_two hS
        obtain ⟨x, rfl, x1, x2⟩ := av_int q.1 hv
        obtain ⟨p, rfl, hp⟩ := av_ref q.2 hw
        obtain ⟨b, eb, hb⟩ := aa_over_ok ev hp
        obtain ⟨hi, key⟩ := aE_elti eb
        obtain ⟨kd, n, f, ef, ety, hl, hr, hf⟩ := key _ (hH p hi) (by omega)
        obtain ⟨g1, g2⟩ := aI_in (x := x) (n := n) (by omega) (by omega)
        have hn : (x.toNatClampNeg : Int) = x.toInt := by
          show ((x.toInt.toNat : Nat) : Int) = x.toInt
          omega
        refine aR_n e hL (S := .int (f x.toNatClampNeg) :: S2) ⟨hb _ (hf _ (by omega) (by omega)), hS2⟩ hH ?_
        unfold pm_ia pm_iar
        dsimp only
        rw [if_pos hi, ef]
        dsimp only
        rw [if_pos ety]
        dsimp only
        rw [if_pos g1]
      · cases e
    · cases e
theorem aR_lald (e : aa_ald T B sz 1 .long (pc, A, SA, o) = some ss) (hL : al_ok L A) (hS : as_ok S SA) (hH : ah_ok B sz o h) : aa_R B sz sl (pm_la T pc L S h sz sl) ss := by
  unfold aa_ald at e
  dsimp only at e
  match SA, hS, e with
  | [], _, e => cases e
  | [_], _, e => cases e
  | ix :: a :: r, hS, e =>
    dsimp only at e
    split at e
    · rename_i q
      split at e
      · rename_i v ev
        obtain ⟨w1, w2, S2, rfl, hv, hw, hS2⟩ := as_two hS
        obtain ⟨x, rfl, x1, x2⟩ := av_int q.1 hv
        obtain ⟨p, rfl, hp⟩ := av_ref q.2 hw
        obtain ⟨b, eb, hb⟩ := aa_over_ok ev hp
        obtain ⟨hi, kd, n, eg, ety, hb0, hl, hr⟩ := aE_elt eb
        have hc := hH p hi
        rw [eg] at hc
        obtain ⟨f, ef, hf⟩ := aE_long hc hb0 (by omega)
        obtain ⟨g1, g2⟩ := aI_in (x := x) (n := n) (by omega) (by omega)
        refine aR_n e hL (S := .long (f x.toNatClampNeg) :: S2) ⟨hb _ (hf _ g2), hS2⟩ hH ?_
        unfold pm_la pm_lar
        dsimp only
        rw [if_pos hi, ef]
        dsimp only
        rw [if_pos ety]
        dsimp only
        rw [if_pos g1]
      · cases e
    · cases e
theorem aE_ref {e : pm_E} {kd n : Nat} {a : av} (q : ac_ok e (.inl (kd, n, a))) (ha : a.1 = 2) (hn : 0 < n) : ∃ f, e = .inl (kd, n, .inr (.inr (.inr (.inr f)))) ∧ ∀ j, j < n → av_ok (va_rf (f j)) (aq a j) := by
  obtain ⟨kd', m, f | f | f | f | f⟩ | ⟨ci, fs⟩ := e
  · obtain ⟨rfl, rfl, q3⟩ := q
    have := (q3 0 hn).1
    omega
  · obtain ⟨rfl, rfl, q3⟩ := q
    have := (q3 0 hn).1
    omega
  · exact q.elim
  · exact q.elim
  · obtain ⟨rfl, rfl, q3⟩ := q; exact ⟨f, rfl, q3⟩
  · exact q.elim
theorem aE_qelt {ix b : av} {i : Nat} (e : aa_qelt T B o sz ix i = some b) : i < sz ∧ ∃ kd n a, ah_get B o i = .inl (kd, n, a) ∧ b = (2, a.2.1 + 6 * ix.2.1, ix.2.2 - ix.2.1 + 1) ∧ pm_isObj (pm_ty T)[kd]? = true ∧ a.1 = 2 ∧ 0 ≤ ix.2.1 ∧ ix.2.2 < n ∧ 0 ≤ a.2.1 ∧ ix.2.2 < 900 := by
  unfold aa_qelt at e
  split at e
  · rename_i hi
    split at e
    · rename_i kd n a ea
      split at e
      · rename_i q
        cases e
        exact ⟨hi, kd, n, a, ea, rfl, q⟩
      · cases e
    · cases e
  · cases e
/-- the one at the place x lies among those of the places lo .. hi -/
theorem aq_sub {v : Value} {a : av} {x lo hi : Int} (q : av_ok v (2, a.2.1 + 6 * x, 1)) (h0 : 0 ≤ a.2.1) (h1 : 0 ≤ lo) (h2 : lo ≤ x) (h3 : x ≤ hi) (h4 : hi < 900) : av_ok v (2, a.2.1 + 6 * lo, hi - lo + 1) := by
  obtain ⟨p, rfl, hp⟩ := av_ref rfl q
  refine ⟨rfl, ?_⟩
  unfold av_ids at hp ⊢
  rw [List.mem_map] at hp ⊢
  obtain ⟨j, hj, rfl⟩ := hp
  rw [List.mem_range] at hj
  have hj0 : j = 0 := by
    have h9 : j < 1 := hj
    omega
  subst hj0
  refine ⟨(x - lo).toNat, List.mem_range.mpr ?_, ?_⟩
  · show (x - lo).toNat < (hi - lo + 1).toNat % 1000
    omega
  · have e1 : Nat.blt (hi - lo + 1).toNat 1000 = true := Nat.ble_eq_true_of_le (by omega)
    show (a.2.1 + 6 * lo).toNat + cond (Nat.blt (hi - lo + 1).toNat 1000) 6 ((hi - lo + 1).toNat / 1000) * (x - lo).toNat = (a.2.1 + 6 * x).toNat + 6 * 0
    rw [e1]
    show (a.2.1 + 6 * lo).toNat + 6 * (x - lo).toNat = (a.2.1 + 6 * x).toNat + 6 * 0
    omega
theorem aR_qld (e : aa_qld T B sz (pc, A, SA, o) = some ss) (hL : al_ok L A) (hS : as_ok S SA) (hH : ah_ok B sz o h) : aa_R B sz sl (pm_qa T pc L S h sz sl) ss := by
  unfold aa_qld at e
  dsimp only at e
  match SA, hS, e with
  | [], _, e => cases e
  | [_], _, e => cases e
  | ix :: a :: r, hS, e =>
    dsimp only at e
    split at e
    · rename_i q
      split at e
      · rename_i v ev
        obtain ⟨w1, w2, S2, rfl, hv, hw, hS2⟩ := as_two hS
        obtain ⟨x, rfl, x1, x2⟩ := av_int q.1 hv
        obtain ⟨p, rfl, hp⟩ := av_ref q.2 hw
        obtain ⟨b, eb, hb⟩ := aa_over_ok ev hp
        obtain ⟨hi, kd, n, a', eg, rfl, ety, hb0, hl, hr, hge⟩ := aE_qelt eb
        have hc := hH p hi
        rw [eg] at hc
        obtain ⟨f, ef, hf⟩ := aE_ref hc hb0 (by omega)
        have hf2 : ∀ j : Nat, j < n → (j : Int) = x.toInt → av_ok (va_rf (f j)) (2, a'.2.1 + 6 * ix.2.1, ix.2.2 - ix.2.1 + 1) := by
          intro j hj hx
          have h7 := hf j hj
          unfold aq at h7
          rw [if_pos hb0] at h7
          exact aq_sub (x := (j : Int)) h7 hge.1 hl (by omega) (by omega) hge.2
        obtain ⟨g1, g2⟩ := aI_in (x := x) (n := n) (by omega) (by omega)
        refine aR_n e hL (S := va_rf (f x.toNatClampNeg) :: S2) ⟨hb _ (hf2 _ g2 (by show ((x.toInt.toNat : Nat) : Int) = x.toInt; omega)), hS2⟩ hH ?_
        unfold pm_qa pm_qar
        dsimp only
        rw [if_pos hi, ef]
        dsimp only
        rw [if_pos ⟨g1, ety⟩]
      · cases e
    · cases e
theorem aE_astu {t : Nat} {ty : FieldType} {ix v : av} {c c' : ac} (e : aa_astu T t ty ix v c = some c') : ∃ kd n a b, c = .inl (kd, n, a) ∧ c' = .inl (kd, n, b) ∧ av_join a v = some b ∧ (pm_ty T)[kd]? = some ty ∧ a.1 = t ∧ 0 ≤ ix.2.1 ∧ ix.2.2 < n := by
  unfold aa_astu at e
  split at e
  · rename_i kd n a
    split at e
    · rename_i q
      split at e
      · rename_i b eb
        cases e
        exact ⟨kd, n, a, b, rfl, rfl, eb, q⟩
      · cases e
    · cases e
  · cases e
theorem aE_all {f : ac → Option ac} {is : List Nat} {p : Nat} (e : is.all (fun i => decide (i < sz) && (f (ah_get B o i)).isSome) = true) (hp : p ∈ is) : p < sz ∧ ∃ c', f (ah_get B o p) = some c' := by
  have h5 := List.all_eq_true.mp e p hp
  rw [Bool.and_eq_true] at h5
  exact ⟨of_decide_eq_true h5.1, Option.isSome_iff_exists.mp h5.2⟩
theorem aa_wk_ok {v : av} {lo hi : Int} : ∀ {i : Nat} {as bs : List av}, aa_wk v lo hi i as = some bs → as.length = bs.length ∧ ∀ (j : Nat) (b : av), bs[j]? = some b → ∃ a, as[j]? = some a ∧ (∀ w, av_ok w a → av_ok w b) ∧ (lo ≤ ((i + j : Nat) : Int) → ((i + j : Nat) : Int) ≤ hi → ∀ w, av_ok w v → av_ok w b)
  | i, [], bs, e => by
    cases (Option.some.inj e : [] = bs)
    exact ⟨rfl, fun j b h => by simp at h⟩
  | i, a :: r, bs, e => by
    unfold aa_wk at e
    split at e
    · rename_i b t e1 e2
      cases e
      obtain ⟨h1, h2⟩ := aa_wk_ok e2
      refine ⟨by simp [h1], fun j b' h => ?_⟩
      match j, h with
      | 0, h =>
        have h : some b = some b' := h
        cases h
        refine ⟨a, rfl, ?_, ?_⟩
        · intro w hw
          split at e1
          · exact (av_join_ok e1).1 hw
          · cases e1; exact hw
        · intro g1 g2 w hw
          rw [if_pos ⟨by simpa using g1, by simpa using g2⟩] at e1
          exact (av_join_ok e1).2 hw
      | j + 1, h =>
        obtain ⟨a', k1, k2, k3⟩ := h2 j b' h
        refine ⟨a', k1, k2, fun g1 g2 => k3 ?_ ?_⟩
        · rw [show i + 1 + j = i + (j + 1) by omega]; exact g1
        · rw [show i + 1 + j = i + (j + 1) by omega]; exact g2
    · cases e
/-- a store of y at x into an array of ints -/
theorem aE_astui {ty : FieldType} {ix v : av} {c c' : ac} (e : aa_astui T ty ix v c = some c') (hle : ix.2.1 ≤ ix.2.2) {x : pm_E} (hx : ac_ok x c) : ∃ kd n f, x = .inl (kd, n, .inl f) ∧ (pm_ty T)[kd]? = some ty ∧ 0 ≤ ix.2.1 ∧ ix.2.2 < n ∧ ∀ (i : Nat) (y : Int32), ix.2.1 ≤ (i : Int) → (i : Int) ≤ ix.2.2 → av_ok (.int y) v → ac_ok (.inl (kd, n, .inl (upd f i y))) c' := by
  unfold aa_astui at e
  split at e
  · rename_i kd n a
    split at e
    · rename_i q
      split at e
      · rename_i b eb
        cases e
        obtain ⟨f, rfl, hf⟩ := aE_int hx q.2.1 (by omega)
        refine ⟨kd, n, f, rfl, q.1, q.2.2.1, q.2.2.2, fun i y h1 h2 hy => ⟨rfl, rfl, fun j hj => ?_⟩⟩
        unfold upd
        split
        · exact (av_join_ok eb).2 hy
        · exact (av_join_ok eb).1 (hf j hj)
      · cases e
    · cases e
  · rename_i c as
    split at e
    · rename_i q
      obtain ⟨kd', m, f | f | f | f | f⟩ | ⟨ci, fs⟩ := x
      · obtain ⟨rfl, rfl, hf⟩ := hx
        have hk : 1000 + kd' - 1000 = kd' := by omega
        rw [hk] at q
        refine ⟨kd', as.length, f, rfl, q.2.1, q.2.2.1, q.2.2.2, fun i y h1 h2 hy => ?_⟩
        split at e
        · rename_i q5
          cases e
          refine ⟨rfl, by simp, fun j a hj => ?_⟩
          have hi : ix.2.1.toNat = i := by omega
          rw [hi] at hj
          unfold upd
          by_cases ej : j = i
          · rw [if_pos ej]
            subst ej
            rw [List.getElem?_set_self (by omega)] at hj
            cases hj
            exact hy
          · rw [if_neg ej]
            rw [List.getElem?_set_ne (Ne.symm ej)] at hj
            exact hf j a hj
        · split at e
          · rename_i bs eb
            cases e
            obtain ⟨k1, k2⟩ := aa_wk_ok eb
            refine ⟨rfl, k1, fun j a hj => ?_⟩
            obtain ⟨a', g1, g2, g3⟩ := k2 j a hj
            unfold upd
            split
            · rename_i ej
              subst ej
              exact g3 (by rw [Nat.zero_add]; exact h1) (by rw [Nat.zero_add]; exact h2) _ hy
            · exact g2 _ (hf j a' g1)
          · cases e
      · exact hx.elim
      · exact hx.elim
      · exact hx.elim
      · exact hx.elim
      · have h9 := hx.1
        omega
    · cases e
theorem aR_iast {ty : FieldType} {nr : av → av} {F : Int32 → Int32} (hF : ∀ (a : av) (x : Int32), a.1 = 0 → a.2.1 ≤ x.toInt → x.toInt ≤ a.2.2 → av_ok (.int (F x)) (nr a)) (e : aa_asti T B sz ty nr (pc, A, SA, o) = some ss) (hL : al_ok L A) (hS : as_ok S SA) (hH : ah_ok B sz o h) : aa_R B sz sl (pm_iS T ty F pc L S h sz sl) ss := by
  unfold aa_asti at e
  dsimp only at e
  match SA, hS, e with
  | [], _, e => cases e
  | [_], _, e => cases e
  | [_, _], _, e => cases e
  | v :: ix :: a :: r, hS, e =>
    dsimp only at e
    split at e
    · rename_i q
      split at e
      · rename_i o' eo
        obtain ⟨w0, S0, rfl, hw0, hS0⟩ := as_cons hS
        obtain ⟨w1, w2, S2, rfl, hv, hw, hS2⟩ := as_two hS0
        obtain ⟨y, rfl, y1, y2⟩ := av_int q.1 hw0
        obtain ⟨x, rfl, x1, x2⟩ := av_int q.2.1 hv
        obtain ⟨p, rfl, hp⟩ := av_ref q.2.2.1 hw
        obtain ⟨hi, c', ec⟩ := aE_all q.2.2.2 hp
        obtain ⟨kd, n, f, ef, ety, hl, hr, -⟩ := aE_astui ec (by omega) (hH p hi)
        obtain ⟨g1, g2⟩ := aI_in (x := x) (n := n) (by omega) (by omega)
        have hn : (x.toNatClampNeg : Int) = x.toInt := by
          show ((x.toInt.toNat : Nat) : Int) = x.toInt
          omega
        cases e
        refine aR_1 (h := va_up h p (.inl (kd, n, .inl (upd f x.toNatClampNeg (F y))))) hL hS2 ?_ ?_
        · refine ah_upd_ok eo hp hi hH (fun c c' hcc hok => ?_)
          obtain ⟨kd2, n2, f2, ef2, -, -, -, key⟩ := aE_astui hcc (by omega) hok
          rw [ef] at ef2
          cases ef2
          exact key _ _ (by omega) (by omega) (hF _ _ q.1 y1 y2)
        · unfold pm_iS pm_iar
          dsimp only
          rw [if_pos hi, ef]
          dsimp only
          rw [if_pos ety]
          dsimp only
          rw [if_pos g1]
      · cases e
    · cases e
theorem aR_last (e : aa_ast T B sz 1 .long (fun v => v) (pc, A, SA, o) = some ss) (hL : al_ok L A) (hS : as_ok S SA) (hH : ah_ok B sz o h) : aa_R B sz sl (pm_lS T pc L S h sz sl) ss := by
  unfold aa_ast at e
  dsimp only at e
  match SA, hS, e with
  | [], _, e => cases e
  | [_], _, e => cases e
  | [_, _], _, e => cases e
  | v :: ix :: a :: r, hS, e =>
    dsimp only at e
    split at e
    · rename_i q
      split at e
      · rename_i o' eo
        obtain ⟨w0, S0, rfl, hw0, hS0⟩ := as_cons hS
        obtain ⟨w1, w2, S2, rfl, hv, hw, hS2⟩ := as_two hS0
        obtain ⟨y, rfl, y1, y2⟩ := av_long q.1 hw0
        obtain ⟨x, rfl, x1, x2⟩ := av_int q.2.1 hv
        obtain ⟨p, rfl, hp⟩ := av_ref q.2.2.1 hw
        obtain ⟨hi, c', ec⟩ := aE_all q.2.2.2 hp
        obtain ⟨kd, n, a', b', eg, -, -, ety, ha', hl, hr⟩ := aE_astu ec
        have hc := hH p hi
        rw [eg] at hc
        obtain ⟨f, ef, hf⟩ := aE_long hc ha' (by omega)
        obtain ⟨g1, g2⟩ := aI_in (x := x) (n := n) (by omega) (by omega)
        cases e
        refine aR_1 (h := va_up h p (.inl (kd, n, .inr (.inl (vp_updL f x.toNatClampNeg y))))) hL hS2 ?_ ?_
        · refine ah_upd_ok eo hp hi hH (fun c c' hcc hok => ?_)
          obtain ⟨kd2, n2, a2, b2, rfl, rfl, ej, -, -, -, -⟩ := aE_astu hcc
          rw [ef] at hok
          obtain ⟨rfl, rfl, hok⟩ := hok
          refine ⟨rfl, rfl, fun j hj => ?_⟩
          unfold vp_updL
          split
          · exact (av_join_ok ej).2 ⟨q.1, y1, y2⟩
          · exact (av_join_ok ej).1 (hok j hj)
        · unfold pm_lS pm_lar
          dsimp only
          rw [if_pos hi, ef]
          dsimp only
          rw [if_pos ety]
          dsimp only
          rw [if_pos g1]
      · cases e
    · cases e
theorem aR_alen (e : aa_alen T B sz (pc, A, SA, o) = some ss) (hL : al_ok L A) (hS : as_ok S SA) (hH : ah_ok B sz o h) : aa_R B sz sl (pm_al T pc L S h sz sl) ss := by
  unfold aa_alen at e
  dsimp only at e
  match SA, hS, e with
  | [], _, e => cases e
  | a :: r, hS, e =>
    dsimp only at e
    split at e
    · rename_i q
      split at e
      · rename_i v ev
        obtain ⟨w, S2, rfl, hw, hS2⟩ := as_cons hS
        obtain ⟨p, rfl, hp⟩ := av_ref q hw
        obtain ⟨b, eb, hb⟩ := aa_over_ok ev hp
        unfold aa_len at eb
        split at eb
        · rename_i hi
          split at eb
          · rename_i kd n a' eg
            split at eb
            · rename_i hty
              cases eb
              have hc := hH p hi
              rw [eg] at hc
              refine aR_n e hL (S := .int (Int32.ofNat n) :: S2) ⟨hb _ ⟨rfl, Int.le_refl _, Int.le_refl _⟩, hS2⟩ hH ?_
              unfold pm_al
              dsimp only
              rw [if_pos hi]
              generalize h p = x at hc
              obtain ⟨kd', m, f | f | f | f | f⟩ | ⟨ci, fs⟩ := x
              · obtain ⟨rfl, rfl, -⟩ := hc; dsimp only; rw [if_pos hty]
              · obtain ⟨rfl, rfl, -⟩ := hc; dsimp only; rw [if_pos hty]
              · exact hc.elim
              · exact hc.elim
              · obtain ⟨rfl, rfl, -⟩ := hc; dsimp only; rw [if_pos hty]
              · exact hc.elim
            · cases eb
          · rename_i c as eg
            split at eb
            · rename_i hty
              cases eb
              have hc := hH p hi
              rw [eg] at hc
              refine aR_n e hL (S := .int (Int32.ofNat as.length) :: S2) ⟨hb _ ⟨rfl, Int.le_refl _, Int.le_refl _⟩, hS2⟩ hH ?_
              unfold pm_al
              dsimp only
              rw [if_pos hi]
              generalize h p = x at hc
              obtain ⟨kd', m, f | f | f | f | f⟩ | ⟨ci, fs⟩ := x
              · obtain ⟨rfl, rfl, -⟩ := hc
                have hk : 1000 + kd' - 1000 = kd' := by omega
                rw [hk] at hty
                dsimp only
                rw [if_pos hty.2]
              · exact hc.elim
              · exact hc.elim
              · exact hc.elim
              · exact hc.elim
              · have h9 := hc.1
                omega
            · cases eb
        · cases eb
      · cases e
    · cases e
/-! fields -/
theorem aR_gf {j : Nat} (e : aa_gf T B sz k j (pc, A, SA, o) = some ss) (hL : al_ok L A) (hS : as_ok S SA) (hH : ah_ok B sz o h) : aa_R B sz sl (pm_gf T k j pc L S h sz sl) ss := by
  unfold aa_gf at e
  dsimp only at e
  match SA, hS, e with
  | [], _, e => cases e
  | a :: r, hS, e =>
    dsimp only at e
    split at e
    · rename_i q
      split at e
      · rename_i cj f t efl
        split at e
        · rename_i v ev
          obtain ⟨w, S2, rfl, hw, hS2⟩ := as_cons hS
          obtain ⟨p, rfl, hp⟩ := av_ref q hw
          obtain ⟨b, eb, hb⟩ := aa_over_ok ev hp
          unfold aa_fld at eb
          split at eb
          · rename_i hi
            split at eb
            · rename_i ci as eg
              split at eb
              · rename_i hci
                have hc := hH p hi
                rw [eg] at hc
                obtain ⟨fs, ef, hlen, hfs⟩ := aE_obj hc hci.2
                have hf : f < fs.length := by
                  rw [hlen]
                  exact (List.getElem?_eq_some_iff.mp eb).1
                have hfv : fs[f]? = some fs[f] := List.getElem?_eq_getElem hf
                refine aR_n e hL (S := fs[f] :: S2) ⟨hb _ (hfs _ _ _ hfv eb), hS2⟩ hH ?_
                unfold pm_gf pm_obj
                dsimp only
                rw [if_pos hi, ef, efl]
                dsimp only
                rw [if_pos hci.1.symm, hfv]
              · cases eb
            · cases eb
          · cases eb
        · cases e
      · cases e
    · cases e
theorem aE_fits {t : Nat} {v : Value} {a : av} (e : aa_fits t a = true) (hv : av_ok v a) : pm_fits t v = true := by
  unfold aa_fits at e
  split at e
  · obtain ⟨x, rfl, -, -⟩ := av_int (of_decide_eq_true e) hv; rfl
  · obtain ⟨x, rfl, -, -⟩ := av_long (of_decide_eq_true e) hv; rfl
  · obtain ⟨x, rfl, -⟩ := av_ref (of_decide_eq_true e) hv; rfl
  · obtain ⟨h1, h2, h3⟩ := of_decide_eq_true e
    obtain ⟨x, rfl, h4, h5⟩ := av_int h1 hv
    refine decide_eq_true ?_
    have n1 : (1 : Int32).toInt = 1 := by decide
    by_cases q : x.toInt = 0
    · exact Or.inl (Int32.toInt_inj.1 (by rw [q, Int32.toInt_zero]))
    · exact Or.inr (Int32.toInt_inj.1 (by rw [n1]; omega))
  · cases e
theorem aE_pfu {cj f : Nat} {v : av} {c c' : ac} (e : aa_pfu cj f v c = some c') : ∃ as, c = .inr (cj, as) ∧ f < as.length ∧ cj < 1000 ∧ c' = .inr (cj, as.set f v) := by
  unfold aa_pfu at e
  split at e
  · split at e
    · rename_i ci as q
      cases e
      obtain ⟨rfl, q2, q3⟩ := q
      exact ⟨as, rfl, q2, q3, rfl⟩
    · cases e
  · cases e
theorem aR_pf {j : Nat} (e : aa_pf T B sz k j (pc, A, SA, o) = some ss) (hL : al_ok L A) (hS : as_ok S SA) (hH : ah_ok B sz o h) : aa_R B sz sl (pm_pf T k j pc L S h sz sl) ss := by
  unfold aa_pf at e
  dsimp only at e
  match SA, hS, e with
  | [], _, e => cases e
  | [_], _, e => cases e
  | v :: a :: r, hS, e =>
    dsimp only at e
    split at e
    · rename_i q0
      split at e
      · rename_i cj f t efl
        split at e
        · rename_i q
          split at e
          · rename_i o' eo
            obtain ⟨w, w2, S2, rfl, hv, hw, hS2⟩ := as_two hS
            obtain ⟨p, rfl, hp⟩ := av_ref q0 hw
            obtain ⟨hi, c', ec⟩ := aE_all q.2.2 hp
            obtain ⟨as, eg, hf, hlt, -⟩ := aE_pfu ec
            have hc := hH p hi
            rw [eg] at hc
            obtain ⟨fs, ef, hlen, hfs⟩ := aE_obj hc hlt
            cases e
            refine aR_1 (h := va_up h p (.inr (cj, fs.set f w))) hL hS2 ?_ ?_
            · refine ah_upd_ok eo hp hi hH (fun c c' hcc hok => ?_)
              obtain ⟨as2, rfl, hf2, -, rfl⟩ := aE_pfu hcc
              rw [ef] at hok
              obtain ⟨-, hl2, hok⟩ := hok
              refine ⟨⟨rfl, hlt⟩, by simp [hl2], fun i u b h1 h2 => ?_⟩
              by_cases ei : i = f
              · subst ei
                rw [List.getElem?_set_self (by omega)] at h1
                rw [List.getElem?_set_self (by omega)] at h2
                cases h1
                cases h2
                exact hv
              · rw [List.getElem?_set_ne (Ne.symm ei)] at h1 h2
                exact hok i u b h1 h2
            · unfold pm_pf pm_obj
              dsimp only
              rw [if_pos hi, ef, efl]
              dsimp only
              rw [if_pos ⟨rfl, by omega, aE_fits q.1 hv, q.2.1⟩]
          · cases e
        · cases e
      · cases e
    · cases e
end ABW
