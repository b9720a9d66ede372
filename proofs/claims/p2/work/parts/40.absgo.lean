/-! joins of states, the list that waits, and whole runs -/
section ABG
variable {T : pm_Tab} {B : Nat → ac} {sz sl : Nat}
def aj_L : List (Option av) → List (Option av) → List (Option av)
  | a :: r, b :: t => (match a, b with
    | some a, some b => av_join a b
    | _, _ => none) :: aj_L r t
  | _, _ => []
theorem aj_L_len : ∀ (A A' : List (Option av)), A.length = A'.length → (aj_L A A').length = A.length
  | [], [], _ => rfl
  | _ :: r, _ :: t, e => by
    unfold aj_L
    simp only [List.length_cons] at e ⊢
    rw [aj_L_len r t (by omega)]
  | [], _ :: _, e => by simp at e
  | _ :: _, [], e => by simp at e
theorem aj_L_get : ∀ (A A' : List (Option av)) (i : Nat) (c : av), (aj_L A A')[i]? = some (some c) → ∃ a b, A[i]? = some (some a) ∧ A'[i]? = some (some b) ∧ av_join a b = some c
  | a :: r, b :: t, i, c, h => by
    unfold aj_L at h
    match i, h with
    | 0, h =>
      rw [List.getElem?_cons_zero] at h
      cases a with
      | none => cases h
      | some a =>
        cases b with
        | none => cases h
        | some b => exact ⟨a, b, rfl, rfl, Option.some.inj h⟩
    | i + 1, h => exact aj_L_get r t i c h
  | [], _, i, c, h => by simp [aj_L] at h
  | _ :: _, [], i, c, h => by simp [aj_L] at h
theorem aj_L_ok {L : pm_L} {A A' : List (Option av)} (e : A.length = A'.length) : (al_ok L A → al_ok L (aj_L A A')) ∧ (al_ok L A' → al_ok L (aj_L A A')) := by
  constructor
  · intro q
    refine ⟨by rw [aj_L_len A A' e]; exact q.1, fun i c hc => ?_⟩
    obtain ⟨a, b, h1, h2, h3⟩ := aj_L_get A A' i c hc
    obtain ⟨v, hv, hok⟩ := q.2 i a h1
    exact ⟨v, hv, (av_join_ok h3).1 hok⟩
  · intro q
    refine ⟨by rw [aj_L_len A A' e, e]; exact q.1, fun i c hc => ?_⟩
    obtain ⟨a, b, h1, h2, h3⟩ := aj_L_get A A' i c hc
    obtain ⟨v, hv, hok⟩ := q.2 i b h2
    exact ⟨v, hv, (av_join_ok h3).2 hok⟩
theorem aj_S_ok : ∀ {SA SB SC : List av} {S : List Value}, al2 av_join SA SB = some SC → (as_ok S SA → as_ok S SC) ∧ (as_ok S SB → as_ok S SC)
  | [], [], SC, S, e => by
    cases (Option.some.inj e : [] = SC)
    exact ⟨id, id⟩
  | a :: r, b :: t, SC, S, e => by
    unfold al2 at e
    split at e
    · rename_i c u e1 e2
      cases e
      constructor
      · intro q
        obtain ⟨v, S2, rfl, hv, hS2⟩ := as_cons q
        exact ⟨(av_join_ok e1).1 hv, (aj_S_ok e2).1 hS2⟩
      · intro q
        obtain ⟨v, S2, rfl, hv, hS2⟩ := as_cons q
        exact ⟨(av_join_ok e1).2 hv, (aj_S_ok e2).2 hS2⟩
    · cases e
  | [], _ :: _, SC, S, e => by cases e
  | _ :: _, [], SC, S, e => by cases e
/-- the cells of these places, joined into o -/
def aj_H (B : Nat → ac) (o o' : ah) : List Nat → ah → Option ah
  | [], u => some u
  | i :: r, u => match ac_join (ah_get B o i) (ah_get B o' i) with
    | some c => aj_H B o o' r (ah_put u i c)
    | none => none
def aj_h (B : Nat → ac) (o o' : ah) : Option ah := aj_H B o o' (o.map (fun e => e.1) ++ o'.map (fun e => e.1)) []
theorem aj_H_get {o o' : ah} : ∀ {is : List Nat} {u v : ah}, aj_H B o o' is u = some v → ∀ j, (j ∈ is → ∃ c, ac_join (ah_get B o j) (ah_get B o' j) = some c ∧ ah_get B v j = c) ∧ (j ∉ is → ah_get B v j = ah_get B u j)
  | [], u, v, e, j => by
    cases (Option.some.inj e : u = v)
    exact ⟨fun q => (by cases q), fun _ => rfl⟩
  | i :: r, u, v, e, j => by
    unfold aj_H at e
    split at e
    · rename_i c ec
      obtain ⟨h1, h2⟩ := aj_H_get e j
      constructor
      · intro hm
        by_cases hr : j ∈ r
        · exact h1 hr
        · have ej : j = i := (List.mem_cons.mp hm).resolve_right hr
          subst ej
          refine ⟨c, ec, ?_⟩
          rw [h2 hr, ah_put_get, if_pos rfl]
      · intro hm
        rw [h2 (fun q => hm (List.mem_cons_of_mem _ q)), ah_put_get, if_neg (fun q => hm (by rw [q]; exact List.mem_cons_self))]
    · cases e
theorem fd_none : ∀ {o : ah} {j : Nat}, j ∉ o.map (fun e => e.1) → pm_fd o j = none
  | [], _, _ => rfl
  | e :: r, j, h => by
    unfold pm_fd
    have h1 : Nat.beq e.1 j = false := by
      cases hb : Nat.beq e.1 j with
      | false => rfl
      | true => exact absurd (by rw [← Nat.eq_of_beq_eq_true hb]; exact List.mem_cons_self) h
    rw [h1]
    exact fd_none (fun q => h (List.mem_cons_of_mem _ q))
theorem aj_h_ok {o o' v : ah} {h : pm_H} (e : aj_h B o o' = some v) : (ah_ok B sz o h → ah_ok B sz v h) ∧ (ah_ok B sz o' h → ah_ok B sz v h) := by
  have key : ∀ j, (∃ c, ac_join (ah_get B o j) (ah_get B o' j) = some c ∧ ah_get B v j = c) ∨ (ah_get B v j = ah_get B o j ∧ ah_get B v j = ah_get B o' j) := by
    intro j
    obtain ⟨h1, h2⟩ := aj_H_get e j
    by_cases hm : j ∈ o.map (fun e => e.1) ++ o'.map (fun e => e.1)
    · exact Or.inl (h1 hm)
    · have h3 := h2 hm
      rw [List.mem_append] at hm
      have a1 : pm_fd o j = none := fd_none (fun q => hm (Or.inl q))
      have a2 : pm_fd o' j = none := fd_none (fun q => hm (Or.inr q))
      refine Or.inr ⟨?_, ?_⟩
      · rw [h3]; unfold ah_get; rw [a1]; rfl
      · rw [h3]; unfold ah_get; rw [a2]; rfl
  constructor
  · intro q j hj
    rcases key j with ⟨c, h1, h2⟩ | ⟨h1, h2⟩
    · rw [h2]; exact (ac_join_ok h1).1 (q j hj)
    · rw [h1]; exact q j hj
  · intro q j hj
    rcases key j with ⟨c, h1, h2⟩ | ⟨h1, h2⟩
    · rw [h2]; exact (ac_join_ok h1).2 (q j hj)
    · rw [h2]; exact q j hj
def aj_s (B : Nat → ac) (s t : ast) : Option ast := if s.1 = t.1 ∧ s.2.1.length = t.2.1.length then (match al2 av_join s.2.2.1 t.2.2.1, aj_h B s.2.2.2 t.2.2.2 with
  | some S, some o => some (s.1, aj_L s.2.1 t.2.1, S, o)
  | _, _ => none) else none
theorem aj_s_ok {s t u : ast} {st : pm_St} (e : aj_s B s t = some u) : (ast_ok B sz sl s st → ast_ok B sz sl u st) ∧ (ast_ok B sz sl t st → ast_ok B sz sl u st) := by
  unfold aj_s at e
  split at e
  · rename_i q
    split at e
    · rename_i S o e1 e2
      cases e
      constructor
      · rintro ⟨h1, h2, h3, h4, h5⟩
        exact ⟨h1, (aj_L_ok q.2).1 h2, (aj_S_ok e1).1 h3, (aj_h_ok e2).1 h4, h5⟩
      · rintro ⟨h1, h2, h3, h4, h5⟩
        exact ⟨h1.trans q.1.symm, (aj_L_ok q.2).2 h2, (aj_S_ok e1).2 h3, (aj_h_ok e2).2 h4, h5⟩
    · cases e
  · cases e
/-- the list that waits -/
def aw_ins (B : Nat → ac) (J : Nat → Bool) (s : ast) : List ast → List ast
  | [] => [s]
  | t :: W => cond (Nat.blt s.1 t.1) (s :: t :: W) (cond (Nat.beq s.1 t.1 && J s.1) (match aj_s B s t with
    | some u => u :: W
    | none => t :: aw_ins B J s W) (t :: aw_ins B J s W))
theorem aw_ins_ok {J : Nat → Bool} {s : ast} {st : pm_St} : ∀ {W : List ast}, (ast_ok B sz sl s st ∨ ∃ t, t ∈ W ∧ ast_ok B sz sl t st) → ∃ t, t ∈ aw_ins B J s W ∧ ast_ok B sz sl t st
  | [], h => by
    rcases h with h | ⟨t, ht, _⟩
    · exact ⟨s, List.mem_cons_self, h⟩
    · cases ht
  | x :: W, h => by
    have skip : ∃ t, t ∈ x :: aw_ins B J s W ∧ ast_ok B sz sl t st := by
      rcases h with h | ⟨t, ht, h⟩
      · obtain ⟨t, h1, h2⟩ := aw_ins_ok (J := J) (W := W) (Or.inl h)
        exact ⟨t, List.mem_cons_of_mem _ h1, h2⟩
      · rcases List.mem_cons.mp ht with rfl | ht
        · exact ⟨t, List.mem_cons_self, h⟩
        · obtain ⟨t, h1, h2⟩ := aw_ins_ok (J := J) (s := s) (W := W) (Or.inr ⟨t, ht, h⟩)
          exact ⟨t, List.mem_cons_of_mem _ h1, h2⟩
    unfold aw_ins
    cases Nat.blt s.1 x.1 with
    | true =>
      dsimp only [cond]
      rcases h with h | ⟨t, ht, h⟩
      · exact ⟨s, List.mem_cons_self, h⟩
      · exact ⟨t, List.mem_cons_of_mem _ ht, h⟩
    | false =>
      dsimp only [cond]
      cases (Nat.beq s.1 x.1 && J s.1) with
      | false => exact skip
      | true =>
        dsimp only
        split
        · rename_i u eu
          rcases h with h | ⟨t, ht, h⟩
          · exact ⟨u, List.mem_cons_self, (aj_s_ok eu).1 h⟩
          · rcases List.mem_cons.mp ht with rfl | ht
            · exact ⟨u, List.mem_cons_self, (aj_s_ok eu).2 h⟩
            · exact ⟨t, List.mem_cons_of_mem _ ht, h⟩
        · exact skip
def aw_all (B : Nat → ac) (J : Nat → Bool) : List ast → List ast → List ast
  | [], W => W
  | s :: r, W => aw_all B J r (aw_ins B J s W)
theorem aw_all_ok {J : Nat → Bool} {st : pm_St} : ∀ {ss W : List ast}, ((∃ t, t ∈ ss ∧ ast_ok B sz sl t st) ∨ ∃ t, t ∈ W ∧ ast_ok B sz sl t st) → ∃ t, t ∈ aw_all B J ss W ∧ ast_ok B sz sl t st
  | [], W, h => by
    rcases h with ⟨t, ht, _⟩ | h
    · cases ht
    · exact h
  | s :: r, W, h => by
    unfold aw_all
    apply aw_all_ok
    rcases h with ⟨t, ht, h⟩ | h
    · rcases List.mem_cons.mp ht with rfl | ht
      · exact Or.inr (aw_ins_ok (Or.inl h))
      · exact Or.inl ⟨t, ht, h⟩
    · exact Or.inr (aw_ins_ok (Or.inr h))
/-- answers -/
def aj_r (B : Nat → ac) (r q : ar) : Option ar := match r.1, q.1, aj_h B r.2 q.2 with
  | none, none, some o => some (none, o)
  | some a, some b, some o => (match av_join a b with
    | some c => some (some c, o)
    | none => none)
  | _, _, _ => none
theorem aj_r_ok {r q u : ar} {x : pm_Rs} (e : aj_r B r q = some u) : (ar_ok B sz sl r x → ar_ok B sz sl u x) ∧ (ar_ok B sz sl q x → ar_ok B sz sl u x) := by
  obtain ⟨r1, r2⟩ := r
  obtain ⟨q1, q2⟩ := q
  unfold aj_r at e
  dsimp only at e
  split at e
  · rename_i o eo
    cases e
    exact ⟨fun h => ⟨h.1, (aj_h_ok eo).1 h.2.1, h.2.2⟩, fun h => ⟨h.1, (aj_h_ok eo).2 h.2.1, h.2.2⟩⟩
  · rename_i a b o eo
    split at e
    · rename_i c ec
      cases e
      obtain ⟨x1, x2⟩ := x
      constructor
      · rintro ⟨h1, h2, h3⟩
        cases x1 with
        | none => exact h1.elim
        | some v => exact ⟨(av_join_ok ec).1 h1, (aj_h_ok eo).1 h2, h3⟩
      · rintro ⟨h1, h2, h3⟩
        cases x1 with
        | none => exact h1.elim
        | some v => exact ⟨(av_join_ok ec).2 h1, (aj_h_ok eo).2 h2, h3⟩
    · cases e
  · cases e
def aw_out (B : Nat → ac) (jo : Bool) (r : ar) (R : List ar) : List ar := match R with
  | [] => [r]
  | q :: R' => cond jo (match aj_r B r q with
    | some u => u :: R'
    | none => r :: R) (r :: R)
theorem aw_out_ok {jo : Bool} {r : ar} {R : List ar} {x : pm_Rs} (h : ar_ok B sz sl r x ∨ ∃ q, q ∈ R ∧ ar_ok B sz sl q x) : ∃ q, q ∈ aw_out B jo r R ∧ ar_ok B sz sl q x := by
  have plain : ∃ q, q ∈ r :: R ∧ ar_ok B sz sl q x := by
    rcases h with h | ⟨q, hq, h⟩
    · exact ⟨r, List.mem_cons_self, h⟩
    · exact ⟨q, List.mem_cons_of_mem _ hq, h⟩
  unfold aw_out
  split
  · exact plain
  · rename_i q R'
    cases jo with
    | false => exact plain
    | true =>
      dsimp only [cond]
      split
      · rename_i u eu
        rcases h with h | ⟨p, hp, h⟩
        · exact ⟨u, List.mem_cons_self, (aj_r_ok eu).1 h⟩
        · rcases List.mem_cons.mp hp with rfl | hp
          · exact ⟨u, List.mem_cons_self, (aj_r_ok eu).2 h⟩
          · exact ⟨p, List.mem_cons_of_mem _ hp, h⟩
      · exact plain
/-- one step: 'go' runs a callee -/
def aa_step (T : pm_Tab) (B : Nat → ac) (sz : Nat) (go : Nat → Nat → Nat → List av → ah → Option (List ar)) (fr lo k : Nat) (s : ast) : Option (List ast) := match aa_cd T B sz k s with
  | some (t, as, rest) => if 1 ≤ fr ∧ 19 + pm_max T t ≤ lo then (match go (fr - 1) (lo - (19 + pm_max T t)) t as s.2.2.2 with
    | some R => some (R.map (fun r => (s.1 + 3, s.2.1, r.1.toList ++ rest, r.2)))
    | none => none) else none
  | none => (match pm_ins T k s.1 with
    | none => none
    | some (i, len) => if pm_lenOk i len = true ∧ pm_callee T k i = none then aa_simple T B sz fr lo k i s else none)
/-- whole runs: J tells where states are joined, by the method and the place; jo, of which methods the answers are joined -/
def aa_run (T : pm_Tab) (B : Nat → ac) (sz : Nat) (J : Nat → Nat → Bool) (jo : Nat → Bool) : Nat → Nat → Nat → Nat → List ast → List ar → Option (List ar)
  | 0, _, _, _, _, _ => none
  | n + 1, fr, lo, k, W, R => match W with
    | [] => some R
    | s :: W => match aE_end T k s with
      | some r => aa_run T B sz J jo n fr lo k W (aw_out B (jo k) r R)
      | none => match aa_step T B sz (fun fr lo t as o => aa_run T B sz J jo n fr lo t [(0, aa_l0 as (pm_max T t), [], o)] []) fr lo k s with
        | some ss => aa_run T B sz J jo n fr lo k (aw_all B (J k) ss W) R
        | none => none
theorem aa_run_ok {J : Nat → Nat → Bool} {jo : Nat → Bool} : ∀ (n fr lo k : Nat) (W : List ast) (R R' : List ar), aa_run T B sz J jo n fr lo k W R = some R' → (∀ x, (∃ r, r ∈ R ∧ ar_ok B sz sl r x) → ∃ r, r ∈ R' ∧ ar_ok B sz sl r x) ∧ ∀ st, (∃ s, s ∈ W ∧ ast_ok B sz sl s st) → pm_WP T fr lo k st (fun x => ∃ r, r ∈ R' ∧ ar_ok B sz sl r x)
  | 0, _, _, _, _, _, _, e => by cases e
  | n + 1, fr, lo, k, W, R, R', e => by
    unfold aa_run at e
    match W, e with
    | [], e =>
      cases (Option.some.inj e : R = R')
      exact ⟨fun x h => h, fun st h => by obtain ⟨s, hs, _⟩ := h; cases hs⟩
    | s :: W, e =>
      dsimp only at e
      cases ee : aE_end T k s with
      | some r =>
        rw [ee] at e
        dsimp only at e
        obtain ⟨i1, i2⟩ := aa_run_ok n fr lo k W _ R' e
        refine ⟨fun x h => i1 x (aw_out_ok (Or.inr h)), fun st h => ?_⟩
        obtain ⟨s', hs', hok⟩ := h
        rcases List.mem_cons.mp hs' with rfl | hs'
        · obtain ⟨q, h1, h2⟩ := aE_end_ok ee hok
          exact wp_end h1 (i1 q (aw_out_ok (Or.inl h2)))
        · exact i2 st ⟨s', hs', hok⟩
      | none =>
        rw [ee] at e
        dsimp only at e
        split at e
        · rename_i ss es
          obtain ⟨i1, i2⟩ := aa_run_ok n fr lo k _ R R' e
          refine ⟨i1, fun st h => ?_⟩
          obtain ⟨s', hs', hok⟩ := h
          rcases List.mem_cons.mp hs' with rfl | hs'
          · unfold aa_step at es
            cases ec : aa_cd T B sz k s' with
            | some tar =>
              obtain ⟨t, as, rest⟩ := tar
              rw [ec] at es
              dsimp only at es
              split at es
              · rename_i hfl
                split at es
                · rename_i Rc ego
                  cases es
                  obtain ⟨As, Rest, c1, c2, c3⟩ := aa_cd_ok ec hok
                  obtain ⟨-, j2⟩ := aa_run_ok n _ _ t _ [] Rc ego
                  have hcal : ast_ok B sz sl (0, aa_l0 as (pm_max T t), [], s'.2.2.2) (0, pm_l0 As (pm_max T t), [], st.2.2.2) := ⟨rfl, al_l0 c2 _, trivial, hok.2.2.2.1, hok.2.2.2.2.1, hok.2.2.2.2.2⟩
                  refine wp_call c1 rfl hfl.1 hfl.2 (wp_mono (j2 _ ⟨_, List.mem_singleton_self _, hcal⟩) ?_)
                  rintro ⟨rv, h1, sz1, sl1⟩ ⟨r, hr, q1, q2, q3, q4⟩
                  refine i2 _ (aw_all_ok (Or.inl ⟨_, List.mem_map_of_mem hr, ?_⟩))
                  refine ⟨by show st.1 + 3 = s'.1 + 3; rw [hok.1], hok.2.1, ?_, q2, q3, q4⟩
                  obtain ⟨r1, r2⟩ := r
                  dsimp only at q1 ⊢
                  cases rv with
                  | none =>
                    cases r1 with
                    | none => exact c3
                    | some a => exact q1.elim
                  | some v =>
                    cases r1 with
                    | none => exact q1.elim
                    | some a => exact ⟨q1, c3⟩
                · cases es
              · cases es
            | none =>
              rw [ec] at es
              dsimp only at es
              cases ei : pm_ins T k s'.1 with
              | none => rw [ei] at es; cases es
              | some il =>
                obtain ⟨i, len⟩ := il
                rw [ei] at es
                dsimp only at es
                split at es
                · rename_i hq
                  obtain ⟨h1, hL, hS, hH, h5, h6⟩ := hok
                  obtain ⟨pc, L, S, h, sz', sl'⟩ := st
                  dsimp only at h1 hL hS hH h5 h6
                  subst h1 h5 h6
                  obtain ⟨st', g1, s2, g2, g3⟩ := aa_simple_ok (pc := s'.1) es hL hS hH
                  refine wp_step (st' := st') ?_ (i2 _ (aw_all_ok (Or.inl ⟨s2, g2, g3⟩)))
                  unfold pm_step
                  dsimp only
                  rw [ei]
                  dsimp only
                  rw [if_pos hq.1, hq.2]
                  exact g1
                · cases es
          · exact i2 st (aw_all_ok (Or.inr ⟨s', hs', hok⟩))
        · cases e
end ABG
