/-! boxes of arguments, and both answers over them on the fresh heap -/
section BOX
abbrev bt : Type := List (Nat × Int)
/-- the boxes that wait; 0: the first goes through f; i + 1: its argument i is cut behind c -/
def bt_chk (f : List av → Bool) : bt → List (List av) → Bool
  | [], [] => true
  | (0, _) :: ts, bx :: st => f bx && bt_chk f ts st
  | (i + 1, c) :: ts, bx :: st => match bx[i]? with
    | some b => decide (b.1 = 0) && bt_chk f ts (bx.set i (0, b.2.1, c) :: bx.set i (0, c + 1, b.2.2) :: st)
    | none => false
  | _, _ => false
theorem as_get : ∀ {vs : List Value} {bx : List av} {i : Nat} {b : av}, as_ok vs bx → bx[i]? = some b → ∃ v, vs[i]? = some v ∧ av_ok v b
  | v :: r, a :: t, 0, b, q, h => by
    have h : some a = some b := h
    cases h
    exact ⟨v, rfl, q.1⟩
  | v :: r, a :: t, i + 1, b, q, h => as_get (vs := r) (bx := t) q.2 h
  | [], [], i, b, q, h => by simp at h
  | [], _ :: _, _, _, q, _ => q.elim
  | _ :: _, [], _, _, q, _ => q.elim
theorem as_set : ∀ {vs : List Value} {bx : List av} {i : Nat} {v : Value} {b : av}, as_ok vs bx → vs[i]? = some v → av_ok v b → as_ok vs (bx.set i b)
  | v :: r, a :: t, 0, v', b, q, h, hb => by
    have h : some v = some v' := h
    cases h
    exact ⟨hb, q.2⟩
  | v :: r, a :: t, i + 1, v', b, q, h, hb => ⟨q.1, as_set (vs := r) (bx := t) q.2 h hb⟩
  | [], [], i, v', b, q, h, hb => by simp at h
  | [], _ :: _, _, _, _, q, _, _ => q.elim
  | _ :: _, [], _, _, _, q, _, _ => q.elim
theorem bt_ok {f : List av → Bool} {P : List Value → Prop} (hf : ∀ bx vs, f bx = true → as_ok vs bx → P vs) : ∀ (t : bt) (st : List (List av)) (vs : List Value), bt_chk f t st = true → (∃ bx, bx ∈ st ∧ as_ok vs bx) → P vs
  | [], [], vs, h, q => by obtain ⟨bx, hb, _⟩ := q; cases hb
  | [], _ :: _, vs, h, q => by cases h
  | (0, _) :: ts, [], vs, h, q => by cases h
  | (i + 1, _) :: ts, [], vs, h, q => by cases h
  | (0, _) :: ts, bx :: st, vs, h, q => by
    unfold bt_chk at h
    rw [Bool.and_eq_true] at h
    obtain ⟨b, hb, q⟩ := q
    rcases List.mem_cons.mp hb with rfl | hb
    · exact hf _ vs h.1 q
    · exact bt_ok hf ts st vs h.2 ⟨b, hb, q⟩
  | (i + 1, c) :: ts, bx :: st, vs, h, q => by
    unfold bt_chk at h
    split at h
    · rename_i b eb
      rw [Bool.and_eq_true] at h
      obtain ⟨h0, h1⟩ := h
      refine bt_ok hf ts _ vs h1 ?_
      obtain ⟨b', hb, q⟩ := q
      rcases List.mem_cons.mp hb with rfl | hb
      · obtain ⟨v, hv, hok⟩ := as_get q eb
        obtain ⟨x, rfl, x1, x2⟩ := av_int (of_decide_eq_true h0) hok
        by_cases hc : x.toInt ≤ c
        · exact ⟨_, List.mem_cons_self, as_set q hv ⟨rfl, x1, hc⟩⟩
        · exact ⟨_, List.mem_cons_of_mem _ List.mem_cons_self, as_set q hv ⟨rfl, (by dsimp only; omega), x2⟩⟩
      · exact ⟨b', List.mem_cons_of_mem _ (List.mem_cons_of_mem _ hb), q⟩
    · cases h
/-- one value alone -/
def av_one (a : av) : Bool := decide (a.1 ≤ 1 ∧ a.2.1 = a.2.2)
theorem av_one_eq {a : av} {v w : Value} (e : av_one a = true) (hv : av_ok v a) (hw : av_ok w a) : v = w := by
  have e : a.1 ≤ 1 ∧ a.2.1 = a.2.2 := of_decide_eq_true e
  by_cases h : a.1 = 0
  · obtain ⟨x, rfl, x1, x2⟩ := av_int h hv
    obtain ⟨y, rfl, y1, y2⟩ := av_int h hw
    rw [Int32.toInt_inj.1 (show x.toInt = y.toInt by omega)]
  · obtain ⟨x, rfl, x1, x2⟩ := av_long (by omega) hv
    obtain ⟨y, rfl, y1, y2⟩ := av_long (by omega) hw
    rw [Int64.toInt_inj.1 (show x.toInt = y.toInt by omega)]
def fz_n : Nat → Nat → Bool := fun _ _ => false
def fz_m : Nat → Bool := fun _ => false
def fz_go (J : Nat → Nat → Bool) (jo : Nat → Bool) (n k : Nat) (as : List av) (o : ah) : Option (List ar) := aa_run PT fz_B 198 J jo n 2047 (84000 - (19 + pm_max PT k)) k [(0, aa_l0 as (pm_max PT k), [], o)] []
def fz_both (J : Nat → Nat → Bool) (jo : Nat → Bool) (n kx km : Nat) (bx : List av) : Bool := match fz_go J jo n kx ((2, 0, 1) :: bx) [] with
  | some R => R.all (fun r => match r.1 with
    | some a => av_one a && (match fz_go J jo n km ((2, 162, 1) :: bx) r.2 with
      | some R2 => R2.all (fun q => decide (q.1 = some a))
      | none => false)
    | none => false)
  | none => false
theorem fz_go_ok {J : Nat → Nat → Bool} {jo : Nat → Bool} {n k sl : Nat} {as : List av} {o : ah} {R : List ar} {As : List Value} {h : pm_H} (e : fz_go J jo n k as o = some R) (q : as_ok As as) (hH : ah_ok fz_B 198 o h) : pm_WP PT 2047 (84000 - (19 + pm_max PT k)) k (0, pm_l0 As (pm_max PT k), [], h, 198, sl) (fun x => ∃ r, r ∈ R ∧ ar_ok fz_B 198 sl r x) :=
  (aa_run_ok n _ _ k _ [] R e).2 _ ⟨_, List.mem_singleton_self _, rfl, al_l0 q _, trivial, hH, rfl, rfl⟩
/-- the class answers v, then the reference answers v -/
def fz_same (kx km sl : Nat) (h : pm_H) (vs : List Value) : Prop := pm_WP PT 2047 (84000 - (19 + pm_max PT kx)) kx (0, pm_l0 (.ref 0 :: vs) (pm_max PT kx), [], h, 198, sl) (fun x => ∃ v, x.1 = some v ∧ pm_WP PT 2047 (84000 - (19 + pm_max PT km)) km (0, pm_l0 (.ref 162 :: vs) (pm_max PT km), [], x.2) (fun y => y.1 = some v ∧ y.2.2 = (198, sl)))
theorem fz_both_ok {J : Nat → Nat → Bool} {jo : Nat → Bool} {n kx km sl : Nat} {h : pm_H} (hH : ah_ok fz_B 198 [] h) (bx : List av) (vs : List Value) (e : fz_both J jo n kx km bx = true) (q : as_ok vs bx) : fz_same kx km sl h vs := by
  unfold fz_both at e
  split at e
  · rename_i R eR
    have r0 : av_ok (.ref 0) (2, 0, 1) := ⟨rfl, by decide⟩
    have r1 : av_ok (.ref 162) (2, 162, 1) := ⟨rfl, by decide⟩
    refine wp_mono (fz_go_ok (As := .ref 0 :: vs) eR ⟨r0, q⟩ hH) ?_
    rintro ⟨rv, h1, sz1, sl1⟩ ⟨r, hr, q1, q2, q3, q4⟩
    have er := List.all_eq_true.mp e r hr
    obtain ⟨ra, ro⟩ := r
    dsimp only at er q1 q2 q3 q4
    subst q3 q4
    cases ra with
    | none => cases er
    | some a =>
      dsimp only at er
      rw [Bool.and_eq_true] at er
      obtain ⟨er1, er2⟩ := er
      cases rv with
      | none => exact q1.elim
      | some v =>
        refine ⟨v, rfl, ?_⟩
        split at er2
        · rename_i R2 eR2
          refine wp_mono (fz_go_ok (As := .ref 162 :: vs) eR2 ⟨r1, q⟩ q2) ?_
          rintro ⟨rv2, h2, sz2, sl2⟩ ⟨r2, hr2, p1, p2, p3, p4⟩
          have e2 : r2.1 = some a := of_decide_eq_true (List.all_eq_true.mp er2 r2 hr2)
          rw [e2] at p1
          dsimp only at p1 p3 p4
          subst p3 p4
          cases rv2 with
          | none => exact p1.elim
          | some w => exact ⟨by rw [av_one_eq er1 q1 p1], rfl⟩
        · cases er2
  · cases e
def bx_T (n : Nat) : List av := List.replicate n ai_top
theorem bx_T_ok : ∀ (xs : List Int32), as_ok (xs.map Value.int) (bx_T xs.length)
  | [] => trivial
  | x :: r => ⟨ai_top_ok x, bx_T_ok r⟩
theorem fz_op {J : Nat → Nat → Bool} {jo : Nat → Bool} {n kx km sl m : Nat} {t : bt} {h : pm_H} (e : bt_chk (fz_both J jo n kx km) t [bx_T m] = true) (hH : ah_ok fz_B 198 [] h) (xs : List Int32) (hx : xs.length = m) : fz_same kx km sl h (xs.map Value.int) := by
  subst hx
  exact bt_ok (fun bx vs h1 h2 => fz_both_ok hH bx vs h1 h2) t _ _ e ⟨_, List.mem_singleton_self _, bx_T_ok xs⟩
end BOX
