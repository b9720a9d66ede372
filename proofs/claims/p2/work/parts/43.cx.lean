/-! whole methods on the abstract machine, with states cut apart, callees known, and places to stop at -/
section CXR
variable {T : pm_Tab} {B : Nat → ac} {sz sl : Nat} {stop : Nat → Bool}
/-- what is known of callees: by their arguments and the heap, the answers; from so many frames and so much room for locals on -/
abbrev kn : Type := Nat → List av → ah → Option (List ar × Nat × Nat)
def kn_ok (K : kn) (T : pm_Tab) (B : Nat → ac) (sz : Nat) (F : fr_F) (PP : pm_H → Prop) : Prop := ∀ (t : Nat) (as : List av) (o : ah) (R : List ar) (Fr Lo : Nat), K t as o = some (R, Fr, Lo) → ∀ (As : List Value) (h : pm_H) (fr lo sl : Nat), as_ok As as → ah_ok B sz o h → PP h → Fr ≤ fr → Lo ≤ lo → pm_WP T fr lo t (0, pm_l0 As (pm_max T t), [], h, sz, sl) (fun x => (∃ r, r ∈ R ∧ ar_ok B sz sl r x) ∧ fm F h x.2.1 ∧ PP x.2.1)
/-- what is kept by every run within the frame -/
def pp_ok (F : fr_F) (PP : pm_H → Prop) : Prop := ∀ h h', fm F h h' → PP h → PP h'
/-- joins of states where J says so -/
def cx_ins (B : Nat → ac) (J : ast → ast → Bool) (s : ast) : List ast → List ast
  | [] => [s]
  | t :: W => cond (Nat.blt s.1 t.1) (s :: t :: W) (cond (Nat.beq s.1 t.1 && J s t) (match aj_s B s t with
    | some u => u :: W
    | none => t :: cx_ins B J s W) (t :: cx_ins B J s W))
theorem cx_ins_ok {J : ast → ast → Bool} {s : ast} {st : pm_St} : ∀ {W : List ast}, (ast_ok B sz sl s st ∨ ∃ t, t ∈ W ∧ ast_ok B sz sl t st) → ∃ t, t ∈ cx_ins B J s W ∧ ast_ok B sz sl t st
  | [], h => by
    rcases h with h | ⟨t, ht, _⟩
    · exact ⟨s, List.mem_cons_self, h⟩
    · cases ht
  | x :: W, h => by
    have skip : ∃ t, t ∈ x :: cx_ins B J s W ∧ ast_ok B sz sl t st := by
      rcases h with h | ⟨t, ht, h⟩
      · obtain ⟨t, h1, h2⟩ := cx_ins_ok (J := J) (W := W) (Or.inl h)
        exact ⟨t, List.mem_cons_of_mem _ h1, h2⟩
      · rcases List.mem_cons.mp ht with rfl | ht
        · exact ⟨t, List.mem_cons_self, h⟩
        · obtain ⟨t, h1, h2⟩ := cx_ins_ok (J := J) (s := s) (W := W) (Or.inr ⟨t, ht, h⟩)
          exact ⟨t, List.mem_cons_of_mem _ h1, h2⟩
    unfold cx_ins
    cases Nat.blt s.1 x.1 with
    | true =>
      dsimp only [cond]
      rcases h with h | ⟨t, ht, h⟩
      · exact ⟨s, List.mem_cons_self, h⟩
      · exact ⟨t, List.mem_cons_of_mem _ ht, h⟩
    | false =>
      dsimp only [cond]
      cases (Nat.beq s.1 x.1 && J s x) with
      | false => exact skip
      | true =>
        dsimp only
        split
        · rename_i u eu
          rcases h with h | ⟨t, ht, h⟩
          · exact ⟨u, List.mem_cons_self, (aj_s_ok eu).1 h⟩
          · rcases List.mem_cons.mp ht with rfl | ht
            · exact ⟨u, List.mem_cons_self, (aj_s_ok eu).2 h⟩
            · exact ⟨t, List.mem_cons_of_mem _ ht, h⟩
        · exact skip
def cx_all (B : Nat → ac) (J : ast → ast → Bool) : List ast → List ast → List ast
  | [], W => W
  | s :: r, W => cx_all B J r (cx_ins B J s W)
theorem cx_all_ok {J : ast → ast → Bool} {st : pm_St} : ∀ {ss W : List ast}, ((∃ t, t ∈ ss ∧ ast_ok B sz sl t st) ∨ ∃ t, t ∈ W ∧ ast_ok B sz sl t st) → ∃ t, t ∈ cx_all B J ss W ∧ ast_ok B sz sl t st
  | [], W, h => by
    rcases h with ⟨t, ht, _⟩ | h
    · cases ht
    · exact h
  | s :: r, W, h => by
    unfold cx_all
    apply cx_all_ok
    rcases h with ⟨t, ht, h⟩ | h
    · rcases List.mem_cons.mp ht with rfl | ht
      · exact Or.inr (cx_ins_ok (Or.inl h))
      · exact Or.inl ⟨t, ht, h⟩
    · exact Or.inr (cx_ins_ok (Or.inr h))
/-- answers, joined with the first for which jo says so -/
def cx_out (B : Nat → ac) (jo : ar → ar → Bool) (r : ar) : List ar → List ar
  | [] => [r]
  | q :: R => cond (jo r q) (match aj_r B r q with
    | some u => u :: R
    | none => q :: cx_out B jo r R) (q :: cx_out B jo r R)
theorem cx_out_ok {jo : ar → ar → Bool} {r : ar} {x : pm_Rs} : ∀ {R : List ar}, (ar_ok B sz sl r x ∨ ∃ q, q ∈ R ∧ ar_ok B sz sl q x) → ∃ q, q ∈ cx_out B jo r R ∧ ar_ok B sz sl q x
  | [], h => by
    rcases h with h | ⟨q, hq, _⟩
    · exact ⟨r, List.mem_cons_self, h⟩
    · cases hq
  | p :: R, h => by
    have skip : ∃ q, q ∈ p :: cx_out B jo r R ∧ ar_ok B sz sl q x := by
      rcases h with h | ⟨q, hq, h⟩
      · obtain ⟨q, h1, h2⟩ := cx_out_ok (jo := jo) (R := R) (Or.inl h)
        exact ⟨q, List.mem_cons_of_mem _ h1, h2⟩
      · rcases List.mem_cons.mp hq with rfl | hq
        · exact ⟨q, List.mem_cons_self, h⟩
        · obtain ⟨q, h1, h2⟩ := cx_out_ok (jo := jo) (r := r) (R := R) (Or.inr ⟨q, hq, h⟩)
          exact ⟨q, List.mem_cons_of_mem _ h1, h2⟩
    unfold cx_out
    cases jo r p with
    | false => exact skip
    | true =>
      dsimp only [cond]
      split
      · rename_i u eu
        rcases h with h | ⟨q, hq, h⟩
        · exact ⟨u, List.mem_cons_self, (aj_r_ok eu).1 h⟩
        · rcases List.mem_cons.mp hq with rfl | hq
          · exact ⟨u, List.mem_cons_self, (aj_r_ok eu).2 h⟩
          · exact ⟨q, List.mem_cons_of_mem _ hq, h⟩
      · exact skip
/-- one step within the frame -/
def aa_stepF (T : pm_Tab) (B : Nat → ac) (sz : Nat) (F : fr_F) (go : Nat → Nat → Nat → List av → ah → Option (List ar)) (fr lo k : Nat) (s : ast) : Option (List ast) := match aa_cd T B sz k s with
  | some (t, as, rest) => if 1 ≤ fr ∧ 19 + pm_max T t ≤ lo then (match go (fr - 1) (lo - (19 + pm_max T t)) t as s.2.2.2 with
    | some R => some (R.map (fun r => (s.1 + 3, s.2.1, r.1.toList ++ rest, r.2)))
    | none => none) else none
  | none => (match pm_ins T k s.1 with
    | none => none
    | some (i, len) => cond (wr T F k i s.2.2.1) (if pm_lenOk i len = true ∧ pm_callee T k i = none then aa_simple T B sz fr lo k i s else none) none)
/-- one state: it ends, or it goes on; 'go' runs a callee -/
def cx_one (T : pm_Tab) (B : Nat → ac) (sz : Nat) (F : fr_F) (go : Nat → Nat → Nat → List av → ah → Option (List ar)) (fr lo k : Nat) (s : ast) : Option (ar ⊕ List ast) := match aE_end T k s with
  | some r => some (.inl r)
  | none => (match aa_stepF T B sz F go fr lo k s with
    | some ss => some (.inr ss)
    | none => none)
/-- the states of a list, one behind the other: the answers and the states behind them -/
def cx_each (f : ast → Option (ar ⊕ List ast)) : List ast → Option (List ar × List ast)
  | [] => some ([], [])
  | s :: r => match f s, cx_each f r with
    | some (.inl a), some (A, S) => some (a :: A, S)
    | some (.inr ss), some (A, S) => some (A, ss ++ S)
    | _, _ => none
theorem cx_each_mem {f : ast → Option (ar ⊕ List ast)} : ∀ {l : List ast} {A : List ar} {S : List ast}, cx_each f l = some (A, S) → ∀ s, s ∈ l → (∃ a, f s = some (.inl a) ∧ a ∈ A) ∨ ∃ ss, f s = some (.inr ss) ∧ ∀ t, t ∈ ss → t ∈ S
  | [], _, _, _, s, hs => by cases hs
  | x :: r, A, S, e, s, hs => by
    unfold cx_each at e
    split at e
    · rename_i a A' S' e1 e2
      cases e
      rcases List.mem_cons.mp hs with rfl | hs
      · exact Or.inl ⟨a, e1, List.mem_cons_self⟩
      · rcases cx_each_mem e2 s hs with ⟨b, h1, h2⟩ | ⟨ss, h1, h2⟩
        · exact Or.inl ⟨b, h1, List.mem_cons_of_mem _ h2⟩
        · exact Or.inr ⟨ss, h1, h2⟩
    · rename_i ss A' S' e1 e2
      cases e
      rcases List.mem_cons.mp hs with rfl | hs
      · exact Or.inr ⟨ss, e1, fun t ht => List.mem_append_left _ ht⟩
      · rcases cx_each_mem e2 s hs with ⟨b, h1, h2⟩ | ⟨ss', h1, h2⟩
        · exact Or.inl ⟨b, h1, h2⟩
        · exact Or.inr ⟨ss', h1, fun t ht => List.mem_append_right _ (h2 t ht)⟩
    · cases e
def cx_outs (B : Nat → ac) (jo : ar → ar → Bool) : List ar → List ar → List ar
  | [], R => R
  | a :: r, R => cx_outs B jo r (cx_out B jo a R)
theorem cx_outs_ok {jo : ar → ar → Bool} {x : pm_Rs} : ∀ {A R : List ar}, ((∃ a, a ∈ A ∧ ar_ok B sz sl a x) ∨ ∃ q, q ∈ R ∧ ar_ok B sz sl q x) → ∃ q, q ∈ cx_outs B jo A R ∧ ar_ok B sz sl q x
  | [], R, h => by
    rcases h with ⟨a, ha, _⟩ | h
    · cases ha
    · exact h
  | a :: r, R, h => by
    unfold cx_outs
    apply cx_outs_ok
    rcases h with ⟨b, hb, h⟩ | h
    · rcases List.mem_cons.mp hb with rfl | hb
      · exact Or.inr (cx_out_ok (Or.inl h))
      · exact Or.inl ⟨b, hb, h⟩
    · exact Or.inr (cx_out_ok (Or.inr h))
/-- whole runs -/
def cx_run (K : kn) (T : pm_Tab) (B : Nat → ac) (sz : Nat) (F : fr_F) (J : Nat → ast → ast → Bool) (jo : Nat → ar → ar → Bool) (P : Nat → Nat → List sp) : Nat → Nat → Nat → Nat → List ast → List ar → Option (List ar)
  | 0, _, _, _, _, _ => none
  | n + 1, fr, lo, k, W, R => match W with
    | [] => some R
    | s :: W => match cx_each (cx_one T B sz F (fun fr lo t as o => match K t as o with
        | some (Rc, Fr, Lo) => if Fr ≤ fr ∧ Lo ≤ lo then some Rc else none
        | none => cx_run K T B sz F J jo P n fr lo t [(0, aa_l0 as (pm_max T t), [], o)] []) fr lo k) (sp_all B sz (P k s.1) [s]) with
      | some (A, ss) => cx_run K T B sz F J jo P n fr lo k (cx_all B (J k) ss W) (cx_outs B (jo k) A R)
      | none => none
theorem cx_step_ok {F F0 : fr_F} {PP : pm_H → Prop} (hF0 : ∀ h h', fm F0 h h' → fm F h h') (hPP : pp_ok F0 PP) {go : Nat → Nat → Nat → List av → ah → Option (List ar)} {fr lo k : Nat} {s : ast} {ss : List ast} {st : pm_St} {Q : pm_Rs → Prop} (hgo : ∀ fr lo t as o Rc, go fr lo t as o = some Rc → ∀ As h, as_ok As as → ah_ok B sz o h → PP h → pm_WP T fr lo t (0, pm_l0 As (pm_max T t), [], h, sz, sl) (fun x => (∃ r, r ∈ Rc ∧ ar_ok B sz sl r x) ∧ fm F h x.2.1 ∧ PP x.2.1)) (es : aa_stepF T B sz F0 go fr lo k s = some ss) (hok : ast_ok B sz sl s st) (hp : PP st.2.2.2.1) (kk : ∀ st', (∃ t, t ∈ ss ∧ ast_ok B sz sl t st') → fm F st.2.2.2.1 st'.2.2.2.1 → PP st'.2.2.2.1 → pm_WP T fr lo k st' Q) : pm_WP T fr lo k st Q := by
  unfold aa_stepF at es
  cases ec : aa_cd T B sz k s with
  | some tar =>
    obtain ⟨t, as, rest⟩ := tar
    rw [ec] at es
    dsimp only at es
    split at es
    · rename_i hfl
      split at es
      · rename_i Rc ego
        cases es
        obtain ⟨As, Rest, c1, c2, c3⟩ := aa_cd_ok ec hok
        have hsz := hok.2.2.2.2
        obtain ⟨pc, L, S, h, sz', sl'⟩ := st
        dsimp only at hsz hp kk
        obtain ⟨rfl, rfl⟩ := hsz
        refine wp_call c1 rfl hfl.1 hfl.2 (wp_mono (hgo _ _ t as _ Rc ego As h c2 hok.2.2.2.1 hp) ?_)
        rintro ⟨rv, h1, sz1, sl1⟩ ⟨⟨r, hr, q1, q2, q3, q4⟩, q5, q6⟩
        refine kk _ ⟨_, List.mem_map_of_mem hr, ?_⟩ q5 q6
        refine ⟨by show pc + 3 = s.1 + 3; rw [← hok.1], hok.2.1, ?_, q2, q3, q4⟩
        obtain ⟨r1, r2⟩ := r
        dsimp only at q1 ⊢
        cases rv with
        | none =>
          cases r1 with
          | none => exact c3
          | some a => exact q1.elim
        | some v =>
          cases r1 with
          | none => exact q1.elim
          | some a => exact ⟨q1, c3⟩
      · cases es
    · cases es
  | none =>
    rw [ec] at es
    dsimp only at es
    cases ei : pm_ins T k s.1 with
    | none => rw [ei] at es; cases es
    | some il =>
      obtain ⟨i, len⟩ := il
      rw [ei] at es
      dsimp only at es
      cases ew : wr T F0 k i s.2.2.1 with
      | false => rw [ew] at es; cases es
      | true =>
        rw [ew] at es
        dsimp only [cond] at es
        split at es
        · rename_i hq
          obtain ⟨h1, hL, hS, hH, h5, h6⟩ := hok
          obtain ⟨pc, L, S, h, sz', sl'⟩ := st
          dsimp only at h1 hL hS hH h5 h6 hp kk
          subst h1 h5 h6
          obtain ⟨st', g1, s2, g2, g3⟩ := aa_simple_ok (pc := s.1) es hL hS hH
          have hfm := wr_ok ew hS g1
          refine wp_step (st' := st') ?_ (kk _ ⟨s2, g2, g3⟩ (hF0 _ _ hfm) (hPP _ _ hfm hp))
          unfold pm_step
          dsimp only
          rw [ei]
          dsimp only
          rw [if_pos hq.1, hq.2]
          exact g1
        · cases es
theorem cx_run_ok {F F0 : fr_F} {PP : pm_H → Prop} (hF0 : ∀ h h', fm F0 h h' → fm F h h') (hPP : pp_ok F0 PP) {K : kn} (hK : kn_ok K T B sz F PP) {J : Nat → ast → ast → Bool} {jo : Nat → ar → ar → Bool} {P : Nat → Nat → List sp} : ∀ (n fr lo k : Nat) (W : List ast) (R R' : List ar), cx_run K T B sz F0 J jo P n fr lo k W R = some R' → (∀ x, (∃ r, r ∈ R ∧ ar_ok B sz sl r x) → ∃ r, r ∈ R' ∧ ar_ok B sz sl r x) ∧ ∀ st, (∃ s, s ∈ W ∧ ast_ok B sz sl s st) → PP st.2.2.2.1 → pm_WP T fr lo k st (fun x => (∃ r, r ∈ R' ∧ ar_ok B sz sl r x) ∧ fm F st.2.2.2.1 x.2.1 ∧ PP x.2.1)
  | 0, _, _, _, _, _, _, e => by cases e
  | n + 1, fr, lo, k, W, R, R', e => by
    unfold cx_run at e
    match W, e with
    | [], e =>
      cases (Option.some.inj e : R = R')
      exact ⟨fun x h => h, fun st h => by obtain ⟨s, hs, _⟩ := h; cases hs⟩
    | s :: W, e =>
      dsimp only at e
      split at e
      · rename_i A ss es
        obtain ⟨i1, i2⟩ := cx_run_ok hF0 hPP hK n fr lo k _ _ R' e
        refine ⟨fun x h => i1 x (cx_outs_ok (Or.inr h)), fun st h hp => ?_⟩
        obtain ⟨s', hs', hok⟩ := h
        rcases List.mem_cons.mp hs' with rfl | hs'
        · obtain ⟨t, ht, htok⟩ := sp_all_ok (P k s'.1) [s'] ⟨s', List.mem_singleton_self _, hok⟩
          rcases cx_each_mem es t ht with ⟨a, h1, h2⟩ | ⟨st2, h1, h2⟩
          · unfold cx_one at h1
            split at h1
            · rename_i r ee
              cases h1
              obtain ⟨q, e1, e2⟩ := aE_end_ok ee htok
              refine wp_end e1 ⟨i1 q (cx_outs_ok (Or.inl ⟨_, h2, e2⟩)), ?_⟩
              have hh : q.2.1 = st.2.2.2.1 := by
                unfold pm_end at e1
                split at e1
                · cases e1
                · split at e1
                  · split at e1
                    · cases e1; rfl
                    · cases e1
                  · cases e1
              rw [hh]
              exact ⟨fm_rf _, hp⟩
            · split at h1
              · cases h1
              · cases h1
          · unfold cx_one at h1
            split at h1
            · cases h1
            · split at h1
              · rename_i ss2 ee
                cases h1
                refine cx_step_ok hF0 hPP ?_ ee htok hp (fun st' hst' hf' hp' => ?_)
                · intro fr lo t as o Rc ego As h hAs hh hph
                  split at ego
                  · rename_i Rc' Fr Lo ek
                    split at ego
                    · rename_i hfl
                      cases ego
                      exact hK t as o Rc Fr Lo ek As h fr lo sl hAs hh hph hfl.1 hfl.2
                    · cases ego
                  · exact (cx_run_ok hF0 hPP hK n fr lo t _ [] Rc ego).2 _ ⟨_, List.mem_singleton_self _, rfl, al_l0 hAs _, trivial, hh, rfl, rfl⟩ hph
                · obtain ⟨u, hu, huok⟩ := hst'
                  exact wp_mono (i2 st' (cx_all_ok (Or.inl ⟨u, h2 u hu, huok⟩)) hp') (fun x hx => ⟨hx.1, fm_tr hf' hx.2.1, hx.2.2⟩)
              · cases h1
        · exact i2 st (cx_all_ok (Or.inr ⟨s', hs', hok⟩)) hp
      · cases e
end CXR
