/-! contracts: a method, from a box of arguments and a heap, to an answer and a heap -/
section CON
variable {T : pm_Tab} {B : Nat → ac} {sz : Nat}
def av_le (a b : av) : Bool := Nat.beq a.1 b.1 && cond (Nat.ble a.1 1) (decide (b.2.1 ≤ a.2.1) && decide (a.2.2 ≤ b.2.2)) (cond (Nat.beq a.1 2) ((av_ids a).all (fun p => (av_ids b).contains p)) (decide (a.1 = 3 ∨ a.2.1 = b.2.1)))
theorem av_le_k {a b : av} (e : av_le a b = true) : a.1 = b.1 := by
  unfold av_le at e
  rw [Bool.and_eq_true] at e
  exact Nat.eq_of_beq_eq_true e.1
theorem av_le_ok {a b : av} {v : Value} (e : av_le a b = true) (h : av_ok v a) : av_ok v b := by
  have hk := av_le_k e
  unfold av_le at e
  rw [Bool.and_eq_true] at e
  have e2 := e.2
  cases v with
  | int x =>
    obtain ⟨h1, h2, h3⟩ := h
    have hb : Nat.ble a.1 1 = true := Nat.ble_eq_true_of_le (by omega)
    rw [hb] at e2
    dsimp only [cond] at e2
    rw [Bool.and_eq_true] at e2
    have g1 := of_decide_eq_true e2.1
    have g2 := of_decide_eq_true e2.2
    exact ⟨by rw [← hk]; exact h1, Int.le_trans g1 h2, Int.le_trans h3 g2⟩
  | long x =>
    obtain ⟨h1, h2, h3⟩ := h
    have hb : Nat.ble a.1 1 = true := Nat.ble_eq_true_of_le (by omega)
    rw [hb] at e2
    dsimp only [cond] at e2
    rw [Bool.and_eq_true] at e2
    have g1 := of_decide_eq_true e2.1
    have g2 := of_decide_eq_true e2.2
    exact ⟨by rw [← hk]; exact h1, Int.le_trans g1 h2, Int.le_trans h3 g2⟩
  | ref p =>
    obtain ⟨h1, h2⟩ := h
    have hb : Nat.ble a.1 1 = false := by rw [h1]; rfl
    have hc : Nat.beq a.1 2 = true := by rw [h1]; rfl
    rw [hb, hc] at e2
    dsimp only [cond] at e2
    have g := List.all_eq_true.mp e2 p h2
    exact ⟨by rw [← hk]; exact h1, List.elem_iff.mp g⟩
  | null => exact (show b.1 = 3 from hk.symm.trans h)
  | retAddr i =>
    obtain ⟨h1, h2⟩ := h
    have hb : Nat.ble a.1 1 = false := by rw [h1]; rfl
    have hc : Nat.beq a.1 2 = false := by rw [h1]; rfl
    rw [hb, hc] at e2
    dsimp only [cond] at e2
    exact ⟨by rw [← hk]; exact h1, by rw [← h2]; exact ((of_decide_eq_true e2).resolve_left (by omega)).symm⟩
  | _ => exact h.elim
def al_le : List av → List av → Bool
  | [], [] => true
  | a :: r, b :: t => av_le a b && al_le r t
  | _, _ => false
theorem al_le_ok : ∀ {as bs : List av} {vs : List Value}, al_le as bs = true → as_ok vs as → as_ok vs bs
  | [], [], vs, _, h => h
  | a :: r, b :: t, vs, e, h => by
    unfold al_le at e
    rw [Bool.and_eq_true] at e
    obtain ⟨v, S, rfl, hv, hS⟩ := as_cons h
    exact ⟨av_le_ok e.1 hv, al_le_ok e.2 hS⟩
  | [], _ :: _, _, e, _ => by cases e
  | _ :: _, [], _, e, _ => by cases e
theorem al_le_get : ∀ {as bs : List av}, al_le as bs = true → as.length = bs.length ∧ ∀ (i : Nat) (b : av), bs[i]? = some b → ∃ a, as[i]? = some a ∧ av_le a b = true
  | [], [], _ => ⟨rfl, fun i b h => by simp at h⟩
  | a :: r, b :: t, e => by
    unfold al_le at e
    rw [Bool.and_eq_true] at e
    obtain ⟨h1, h2⟩ := al_le_get e.2
    refine ⟨by simp [h1], fun i c hc => ?_⟩
    match i, hc with
    | 0, hc =>
      have hc : some b = some c := hc
      cases hc
      exact ⟨a, rfl, e.1⟩
    | i + 1, hc => exact h2 i c hc
  | [], _ :: _, e => by cases e
  | _ :: _, [], e => by cases e
def ac_le (c d : ac) : Bool := match c, d with
  | .inl (kd, n, a), .inl (kd', n', b) => Nat.beq kd kd' && (Nat.beq n n' && cond (Nat.beq a.1 2) (decide (a = b)) (av_le a b))
  | .inr (c, as), .inr (d, bs) => Nat.beq c d && al_le as bs
  | _, _ => false
theorem ac_le_ok {c d : ac} {e : pm_E} (q : ac_le c d = true) (h : ac_ok e c) : ac_ok e d := by
  obtain ⟨kd, n, a⟩ | ⟨c, as⟩ := c
  · obtain ⟨kd', n', b⟩ | ⟨d, bs⟩ := d
    · have q : (Nat.beq kd kd' && (Nat.beq n n' && cond (Nat.beq a.1 2) (decide (a = b)) (av_le a b))) = true := q
      rw [Bool.and_eq_true, Bool.and_eq_true] at q
      obtain ⟨q1, q2, q3⟩ := q
      have e1 := Nat.eq_of_beq_eq_true q1
      have e2 := Nat.eq_of_beq_eq_true q2
      subst e1 e2
      by_cases ha : a.1 = 2
      · rw [show Nat.beq a.1 2 = true by rw [ha]; rfl] at q3
        have e3 : a = b := of_decide_eq_true q3
        subst e3
        exact h
      · have hb2 : Nat.beq a.1 2 = false := by
          cases hb : Nat.beq a.1 2 with
          | false => rfl
          | true => exact absurd (Nat.eq_of_beq_eq_true hb) ha
        rw [hb2] at q3
        dsimp only [cond] at q3
        have hk := av_le_k q3
        obtain ⟨kd', m, f | f | f | f | f⟩ | ⟨ci, fs⟩ := e
        · obtain ⟨p1, p2, p3⟩ := h
          exact ⟨p1, p2, fun j hj => av_le_ok q3 (p3 j hj)⟩
        · obtain ⟨p1, p2, p3⟩ := h
          exact ⟨p1, p2, fun j hj => av_le_ok q3 (p3 j hj)⟩
        · exact h.elim
        · exact h.elim
        · obtain ⟨p1, p2, p3⟩ := h
          refine ⟨p1, p2, fun j hj => ?_⟩
          have p4 := p3 j hj
          unfold aq at p4 ⊢
          rw [if_neg ha] at p4
          rw [if_neg (by rw [← hk]; exact ha)]
          exact av_le_ok q3 p4
        · exact h.elim
    · cases q
  · obtain ⟨kd', n', b⟩ | ⟨d, bs⟩ := d
    · cases q
    · have q : (Nat.beq c d && al_le as bs) = true := q
      rw [Bool.and_eq_true] at q
      have e1 := Nat.eq_of_beq_eq_true q.1
      subst e1
      obtain ⟨l1, l2⟩ := al_le_get q.2
      obtain ⟨kd', m, f | f | f | f | f⟩ | ⟨ci, fs⟩ := e
      · obtain ⟨p1, p2, p3⟩ := h
        refine ⟨p1, p2.trans l1, fun j b hb => ?_⟩
        obtain ⟨a, ha, hle⟩ := l2 j b hb
        exact av_le_ok hle (p3 j a ha)
      · exact h.elim
      · exact h.elim
      · exact h.elim
      · exact h.elim
      · obtain ⟨p1, p2, p3⟩ := h
        refine ⟨p1, p2.trans l1, fun i v b hv hb => ?_⟩
        obtain ⟨a, ha, hle⟩ := l2 i b hb
        exact av_le_ok hle (p3 i v a hv ha)
def ah_le (B : Nat → ac) (o o' : ah) : Bool := o.all (fun e => ac_le (ah_get B o e.1) (ah_get B o' e.1)) && o'.all (fun e => ac_le (ah_get B o e.1) (ah_get B o' e.1))
theorem ah_le_ok {o o' : ah} {h : pm_H} (q : ah_le B o o' = true) (hh : ah_ok B sz o h) : ah_ok B sz o' h := by
  unfold ah_le at q
  rw [Bool.and_eq_true] at q
  intro i hi
  by_cases h1 : i ∈ o.map (fun e => e.1)
  · obtain ⟨e, he, rfl⟩ := List.mem_map.mp h1
    exact ac_le_ok (List.all_eq_true.mp q.1 e he) (hh _ hi)
  · by_cases h2 : i ∈ o'.map (fun e => e.1)
    · obtain ⟨e, he, rfl⟩ := List.mem_map.mp h2
      exact ac_le_ok (List.all_eq_true.mp q.2 e he) (hh _ hi)
    · have a1 : ah_get B o i = B i := by unfold ah_get; rw [fd_none h1]
      have a2 : ah_get B o' i = B i := by unfold ah_get; rw [fd_none h2]
      rw [a2, ← a1]
      exact hh i hi
def ao_le (a b : Option av) : Bool := match a, b with
  | none, none => true
  | some a, some b => av_le a b
  | _, _ => false
theorem ao_le_ok {a b : Option av} {v : Option Value} (e : ao_le a b = true) (h : ao_ok v a) : ao_ok v b := by
  cases a with
  | none =>
    cases b with
    | none => exact h
    | some b => cases e
  | some a =>
    cases b with
    | none => cases e
    | some b =>
      cases v with
      | none => exact h.elim
      | some v => exact av_le_ok e h
/-! what a run leaves alone is known as before -/
def mgl (F : fr_F) (ci : Nat) : Nat → List av → List av → List av
  | f, a :: r, d :: t => cond (F.2 ci f) a d :: mgl F ci (f + 1) r t
  | _, _, ds => ds
theorem mgl_get (F : fr_F) (ci : Nat) : ∀ (f : Nat) (as ds : List av), as.length = ds.length → (mgl F ci f as ds).length = ds.length ∧ ∀ (j : Nat) (x : av), (mgl F ci f as ds)[j]? = some x → (F.2 ci (f + j) = true ∧ as[j]? = some x) ∨ (F.2 ci (f + j) = false ∧ ds[j]? = some x)
  | f, [], [], _ => ⟨rfl, fun j x h => by simp [mgl] at h⟩
  | f, a :: r, d :: t, e => by
    obtain ⟨h1, h2⟩ := mgl_get F ci (f + 1) r t (by simpa using e)
    refine ⟨by simp [mgl, h1], fun j x h => ?_⟩
    unfold mgl at h
    match j, h with
    | 0, h =>
      rw [List.getElem?_cons_zero] at h
      cases hf : F.2 ci f with
      | true => rw [hf] at h; exact Or.inl ⟨rfl, h⟩
      | false => rw [hf] at h; exact Or.inr ⟨rfl, h⟩
    | j + 1, h =>
      rw [List.getElem?_cons_succ] at h
      have := h2 j x h
      rw [show f + 1 + j = f + (j + 1) by omega] at this
      exact this
  | f, [], _ :: _, e => by simp at e
  | f, _ :: _, [], e => by simp at e
def mg (F : fr_F) (i : Nat) (a d : ac) : ac := cond (F.1 i) a (match a, d with
  | .inr (ci, as), .inr (cj, ds) => cond (Nat.beq ci cj && (Nat.blt ci 1000 && Nat.beq as.length ds.length)) (.inr (ci, mgl F ci 0 as ds)) d
  | _, d => d)
theorem mg_ok {F : fr_F} {h h' : pm_H} {i : Nat} {a d : ac} (hf : fm F h h') (ha : ac_ok (h i) a) (hd : ac_ok (h' i) d) : ac_ok (h' i) (mg F i a d) := by
  unfold mg
  cases hF : F.1 i with
  | true => dsimp only [cond]; rw [hf.1 i hF]; exact ha
  | false =>
    dsimp only [cond]
    split
    · rename_i ci as cj ds
      cases hb : (Nat.beq ci cj && (Nat.blt ci 1000 && Nat.beq as.length ds.length)) with
      | false => exact hd
      | true =>
        dsimp only
        rw [Bool.and_eq_true, Bool.and_eq_true] at hb
        have e1 := Nat.eq_of_beq_eq_true hb.1
        have e2 : ci < 1000 := by have := Nat.le_of_ble_eq_true hb.2.1; omega
        have e3 := Nat.eq_of_beq_eq_true hb.2.2
        subst e1
        obtain ⟨fs, ef, hl, hg⟩ := aE_obj ha e2
        obtain ⟨fs', ef', hl', hg'⟩ := hf.2 i ci fs ef
        rw [ef'] at hd ⊢
        obtain ⟨d1, d2, d3⟩ := hd
        obtain ⟨m1, m2⟩ := mgl_get F ci 0 as ds e3
        refine ⟨d1, d2.trans m1.symm, fun j v x hv hx => ?_⟩
        rcases m2 j x hx with ⟨q1, q2⟩ | ⟨q1, q2⟩
        · rw [Nat.zero_add] at q1
          rw [hg' j q1] at hv
          exact hg j v x hv q2
        · exact d3 j v x hv q2
    · exact hd
/-- objects of which something is kept -/
def hasP (F : fr_F) (ci : Nat) : Nat → Bool
  | 0 => false
  | n + 1 => cond (F.2 ci n) true (hasP F ci n)
def mg_key (F : fr_F) (e : Nat × ac) : Bool := cond (F.1 e.1) true (match e.2 with
  | .inr (ci, as) => hasP F ci as.length
  | _ => false)
def con_mrg (B : Nat → ac) (F : fr_F) (o o' : ah) : ah := ((o.filter (mg_key F)).map (fun e => e.1) ++ o'.map (fun e => e.1)).map (fun i => (i, mg F i (ah_get B o i) (ah_get B o' i)))
theorem fd_mapk (f : Nat → ac) : ∀ (l : List Nat) (i : Nat), pm_fd (l.map (fun i => (i, f i))) i = if i ∈ l then some (f i) else none
  | [], i => rfl
  | x :: r, i => by
    rw [List.map_cons]
    unfold pm_fd
    by_cases e : x = i
    · subst e
      simp
    · have hb : Nat.beq x i = false := by
        cases hb : Nat.beq x i with
        | false => rfl
        | true => exact absurd (Nat.eq_of_beq_eq_true hb) e
      rw [hb]
      dsimp only [cond]
      rw [fd_mapk f r i]
      by_cases hr : i ∈ r
      · rw [if_pos hr, if_pos (List.mem_cons_of_mem _ hr)]
      · rw [if_neg hr, if_neg (fun q => by rcases List.mem_cons.mp q with q | q; exact e q.symm; exact hr q)]
theorem con_mrg_ok {F : fr_F} {h h' : pm_H} {o o' : ah} (hf : fm F h h') (ho : ah_ok B sz o h) (ho' : ah_ok B sz o' h') : ah_ok B sz (con_mrg B F o o') h' := by
  intro i hi
  unfold con_mrg
  have gen : ∀ (f : Nat → ac) (l : List Nat), ah_get B (l.map (fun i => (i, f i))) i = if i ∈ l then f i else B i := by
    intro f l
    unfold ah_get
    rw [fd_mapk f]
    by_cases q : i ∈ l
    · rw [if_pos q, if_pos q]
    · rw [if_neg q, if_neg q]
  have e := gen (fun i => mg F i (ah_get B o i) (ah_get B o' i)) ((o.filter (mg_key F)).map (fun e => e.1) ++ o'.map (fun e => e.1))
  rw [e]
  by_cases q : i ∈ (o.filter (mg_key F)).map (fun e => e.1) ++ o'.map (fun e => e.1)
  · rw [if_pos q]
    exact mg_ok hf (ho i hi) (ho' i hi)
  · rw [if_neg q]
    have h2 : i ∉ o'.map (fun e => e.1) := fun z => q (List.mem_append_right _ z)
    have a2 : ah_get B o' i = B i := by unfold ah_get; rw [fd_none h2]
    rw [← a2]
    exact ho' i hi
/-- method, box, heap before, answers, heap behind, frames, locals, does it leave the heap as it was -/
abbrev con : Type := Nat × List av × ah × List (Option av) × ah × Nat × Nat × Bool
def con_ok (T : pm_Tab) (B : Nat → ac) (sz : Nat) (F : fr_F) (PP : pm_H → Prop) (c : con) : Prop := ∀ (As : List Value) (h : pm_H) (fr lo sl : Nat), as_ok As c.2.1 → ah_ok B sz c.2.2.1 h → PP h → c.2.2.2.2.2.1 ≤ fr → c.2.2.2.2.2.2.1 ≤ lo → pm_WP T fr lo c.1 (0, pm_l0 As (pm_max T c.1), [], h, sz, sl) (fun x => (∃ a, a ∈ c.2.2.2.1 ∧ ao_ok x.1 a) ∧ x.2.2 = (sz, sl) ∧ (fm F h x.2.1 ∧ PP x.2.1) ∧ cond c.2.2.2.2.2.2.2 (x.2.1 = h) (ah_ok B sz c.2.2.2.2.1 x.2.1))
def con_use (B : Nat → ac) (F : fr_F) (c : con) : kn := fun t as o => cond (Nat.beq t c.1 && (al_le as c.2.1 && ah_le B o c.2.2.1)) (some (c.2.2.2.1.map (fun a => (a, cond c.2.2.2.2.2.2.2 o (con_mrg B F o c.2.2.2.2.1))), c.2.2.2.2.2.1, c.2.2.2.2.2.2.1)) none
theorem con_use_ok {F : fr_F} {PP : pm_H → Prop} {c : con} (hc : con_ok T B sz F PP c) : kn_ok (con_use B F c) T B sz F PP := by
  intro t as o R Fr Lo e As h fr lo sl hAs hh hp hF hL
  unfold con_use at e
  cases hb : (Nat.beq t c.1 && (al_le as c.2.1 && ah_le B o c.2.2.1)) with
  | false => rw [hb] at e; cases e
  | true =>
    rw [hb] at e
    cases e
    rw [Bool.and_eq_true, Bool.and_eq_true] at hb
    have ht := Nat.eq_of_beq_eq_true hb.1
    subst ht
    refine wp_mono (hc As h fr lo sl (al_le_ok hb.2.1 hAs) (ah_le_ok hb.2.2 hh) hp hF hL) ?_
    rintro ⟨rv, h1, sz1, sl1⟩ ⟨⟨a, ha, q1⟩, q2, q4, q3⟩
    dsimp only at q1 q2 q3 q4
    cases q2
    refine ⟨⟨_, List.mem_map_of_mem ha, q1, ?_, rfl, rfl⟩, q4.1, q4.2⟩
    dsimp only
    cases hk : c.2.2.2.2.2.2.2 with
    | true => rw [hk] at q3; dsimp only [cond] at q3 ⊢; rw [q3]; exact hh
    | false => rw [hk] at q3; exact con_mrg_ok q4.1 hh q3
/-- known callees, one list behind the other -/
def kn_or (K K' : kn) : kn := fun t as o => match K t as o with
  | some x => some x
  | none => K' t as o
theorem kn_or_ok {F : fr_F} {PP : pm_H → Prop} {K K' : kn} (h : kn_ok K T B sz F PP) (h' : kn_ok K' T B sz F PP) : kn_ok (kn_or K K') T B sz F PP := by
  intro t as o R Fr Lo e
  unfold kn_or at e
  split at e
  · rename_i x ex
    cases e
    exact h t as o R Fr Lo ex
  · exact h' t as o R Fr Lo e
/-- a list of contracts -/
def kl (B : Nat → ac) (F : fr_F) : List con → kn
  | [], _, _, _ => none
  | c :: r, t, as, o => match con_use B F c t as o with
    | some x => some x
    | none => kl B F r t as o
theorem kl_ok {F : fr_F} {PP : pm_H → Prop} : ∀ {l : List con}, (∀ c, c ∈ l → con_ok T B sz F PP c) → kn_ok (kl B F l) T B sz F PP
  | [], _ => fun t as o R F Lo e => by cases e
  | c :: r, h => fun t as o R Fr Lo e => by
    unfold kl at e
    split at e
    · rename_i x ex
      cases e
      exact con_use_ok (h c List.mem_cons_self) t as o R Fr Lo ex
    · exact kl_ok (fun d hd => h d (List.mem_cons_of_mem _ hd)) t as o R Fr Lo e
/-- the check of a contract -/
def con_chk (K : kn) (T : pm_Tab) (B : Nat → ac) (sz : Nat) (F : fr_F) (J : Nat → ast → ast → Bool) (jo : Nat → ar → ar → Bool) (P : Nat → Nat → List sp) (n : Nat) (c : con) : Bool := match cx_run K T B sz F J jo P n c.2.2.2.2.2.1 c.2.2.2.2.2.2.1 c.1 [(0, aa_l0 c.2.1 (pm_max T c.1), [], c.2.2.1)] [] with
  | some R => R.all (fun r => c.2.2.2.1.any (fun a => ao_le r.1 a) && (c.2.2.2.2.2.2.2 || ah_le B r.2 c.2.2.2.2.1))
  | none => false
theorem con_chk_ok {F F0 : fr_F} {PP : pm_H → Prop} (hF0 : ∀ h h', fm F0 h h' → fm F h h') (hPP : pp_ok F0 PP) {K : kn} (hK : kn_ok K T B sz F PP) {J : Nat → ast → ast → Bool} {jo : Nat → ar → ar → Bool} {P : Nat → Nat → List sp} {n : Nat} {c : con} {N : Nat → Bool} (hN : nw_ok T N) (hk : c.2.2.2.2.2.2.2 = true → N c.1 = true) (e : con_chk K T B sz F0 J jo P n c = true) : con_ok T B sz F PP c := by
  intro As h fr lo sl hAs hh hp hF hL
  unfold con_chk at e
  split at e
  · rename_i R eR
    have h1 := (cx_run_ok (sl := sl) hF0 hPP hK n _ _ c.1 _ [] R eR).2 (0, pm_l0 As (pm_max T c.1), [], h, sz, sl) ⟨_, List.mem_singleton_self _, rfl, al_l0 hAs _, trivial, hh, rfl, rfl⟩ hp
    obtain ⟨m, x, hx, ⟨r, hr, q1, q2, q3, q4⟩, q5⟩ := wp_room hF hL h1
    refine ⟨m, x, hx, ?_⟩
    have er := List.all_eq_true.mp e r hr
    rw [Bool.and_eq_true] at er
    obtain ⟨a, ha, hle⟩ := List.any_eq_true.mp er.1
    refine ⟨⟨a, ha, ao_le_ok hle q1⟩, Prod.ext q3 q4, q5, ?_⟩
    cases hb : c.2.2.2.2.2.2.2 with
    | true =>
      have := pm_run_nw hN m fr lo c.1 _ x (hk hb) hx
      dsimp only [cond]
      rw [this]
    | false =>
      have e2 := er.2
      rw [hb, Bool.false_or] at e2
      exact ah_le_ok e2 q2
  · cases e
/-- the same, the states at the entry cut apart and run one by one -/
def con_chkS (K : kn) (T : pm_Tab) (B : Nat → ac) (sz : Nat) (F : fr_F) (J : Nat → ast → ast → Bool) (jo : Nat → ar → ar → Bool) (P : Nat → Nat → List sp) (ps : List sp) (n : Nat) (c : con) : Bool := (sp_all B sz ps [(0, aa_l0 c.2.1 (pm_max T c.1), [], c.2.2.1)]).all (fun t => match cx_run K T B sz F J jo P n c.2.2.2.2.2.1 c.2.2.2.2.2.2.1 c.1 [t] [] with
  | some R => R.all (fun r => c.2.2.2.1.any (fun a => ao_le r.1 a) && (c.2.2.2.2.2.2.2 || ah_le B r.2 c.2.2.2.2.1))
  | none => false)
theorem con_chkS_ok {F F0 : fr_F} {PP : pm_H → Prop} (hF0 : ∀ h h', fm F0 h h' → fm F h h') (hPP : pp_ok F0 PP) {K : kn} (hK : kn_ok K T B sz F PP) {J : Nat → ast → ast → Bool} {jo : Nat → ar → ar → Bool} {P : Nat → Nat → List sp} {ps : List sp} {n : Nat} {c : con} {N : Nat → Bool} (hN : nw_ok T N) (hk : c.2.2.2.2.2.2.2 = true → N c.1 = true) (e : con_chkS K T B sz F0 J jo P ps n c = true) : con_ok T B sz F PP c := by
  intro As h fr lo sl hAs hh hp hF hL
  obtain ⟨t, ht, htok⟩ := sp_all_ok (B := B) (sz := sz) (sl := sl) (st := (0, pm_l0 As (pm_max T c.1), [], h, sz, sl)) ps [(0, aa_l0 c.2.1 (pm_max T c.1), [], c.2.2.1)] ⟨_, List.mem_singleton_self _, rfl, al_l0 hAs _, trivial, hh, rfl, rfl⟩
  have e := List.all_eq_true.mp e t ht
  split at e
  · rename_i R eR
    have h1 := (cx_run_ok (sl := sl) hF0 hPP hK n _ _ c.1 _ [] R eR).2 (0, pm_l0 As (pm_max T c.1), [], h, sz, sl) ⟨t, List.mem_singleton_self _, htok⟩ hp
    obtain ⟨m, x, hx, ⟨r, hr, q1, q2, q3, q4⟩, q5⟩ := wp_room hF hL h1
    refine ⟨m, x, hx, ?_⟩
    have er := List.all_eq_true.mp e r hr
    rw [Bool.and_eq_true] at er
    obtain ⟨a, ha, hle⟩ := List.any_eq_true.mp er.1
    refine ⟨⟨a, ha, ao_le_ok hle q1⟩, Prod.ext q3 q4, q5, ?_⟩
    cases hb : c.2.2.2.2.2.2.2 with
    | true =>
      have := pm_run_nw hN m fr lo c.1 _ x (hk hb) hx
      dsimp only [cond]
      rw [this]
    | false =>
      have e2 := er.2
      rw [hb, Bool.false_or] at e2
      exact ah_le_ok e2 q2
  · cases e
end CON
