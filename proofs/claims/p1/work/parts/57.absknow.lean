/-! whole runs, with callees of which the answer is known: kn -/
section ABK
variable {T : pm_Tab} {B : Nat → ac} {sz sl : Nat}
def ak_run (kn : Nat → List av → Option av) (T : pm_Tab) (B : Nat → ac) (sz : Nat) (J : Nat → Nat → Bool) (jo : Nat → Bool) : Nat → Nat → Nat → Nat → List ast → List ar → Option (List ar)
  | 0, _, _, _, _, _ => none
  | n + 1, fr, lo, k, W, R => match W with
    | [] => some R
    | s :: W => match aE_end T k s with
      | some r => ak_run kn T B sz J jo n fr lo k W (aw_out B (jo k) r R)
      | none => match aa_step T B sz (fun fr lo t as o => match kn t as with
          | some a => if 2 ≤ fr ∧ 100 ≤ lo then some [(some a, o)] else none
          | none => ak_run kn T B sz J jo n fr lo t [(0, aa_l0 as (pm_max T t), [], o)] []) fr lo k s with
        | some ss => ak_run kn T B sz J jo n fr lo k (aw_all B (J k) ss W) R
        | none => none
def ak_ok (kn : Nat → List av → Option av) (T : pm_Tab) : Prop := ∀ (t : Nat) (as : List av) (a : av) (As : List Value) (fr lo : Nat) (h : pm_H) (sz sl : Nat), kn t as = some a → as_ok As as → 2 ≤ fr → 100 ≤ lo → pm_WP T fr lo t (0, pm_l0 As (pm_max T t), [], h, sz, sl) (fun r => ∃ v, r.1 = some v ∧ av_ok v a ∧ r.2 = (h, sz, sl))
theorem ak_run_ok {kn : Nat → List av → Option av} (hkn : ak_ok kn T) {J : Nat → Nat → Bool} {jo : Nat → Bool} : ∀ (n fr lo k : Nat) (W : List ast) (R R' : List ar), ak_run kn T B sz J jo n fr lo k W R = some R' → (∀ x, (∃ r, r ∈ R ∧ ar_ok B sz sl r x) → ∃ r, r ∈ R' ∧ ar_ok B sz sl r x) ∧ ∀ st, (∃ s, s ∈ W ∧ ast_ok B sz sl s st) → pm_WP T fr lo k st (fun x => ∃ r, r ∈ R' ∧ ar_ok B sz sl r x)
  | 0, _, _, _, _, _, _, e => by cases e
  | n + 1, fr, lo, k, W, R, R', e => by
    unfold ak_run at e
    match W, e with
    | [], e =>
      cases (Option.some.inj e : R = R')
      exact ⟨fun x h => h, fun st h => by obtain ⟨s, hs, _⟩ := h; cases hs⟩
    | s :: W, e =>
      dsimp only at e
      cases ee : aE_end T k s with
      | some r =>
        rw [ee] at e
        dsimp only at e
        obtain ⟨i1, i2⟩ := ak_run_ok hkn n fr lo k W _ R' e
        refine ⟨fun x h => i1 x (aw_out_ok (Or.inr h)), fun st h => ?_⟩
        obtain ⟨s', hs', hok⟩ := h
        rcases List.mem_cons.mp hs' with rfl | hs'
        · obtain ⟨q, h1, h2⟩ := aE_end_ok ee hok
          exact wp_end h1 (i1 q (aw_out_ok (Or.inl h2)))
        · exact i2 st ⟨s', hs', hok⟩
      | none =>
        rw [ee] at e
        dsimp only at e
        split at e
        · rename_i ss es
          obtain ⟨i1, i2⟩ := ak_run_ok hkn n fr lo k _ R R' e
          refine ⟨i1, fun st h => ?_⟩
          obtain ⟨s', hs', hok⟩ := h
          rcases List.mem_cons.mp hs' with rfl | hs'
          · unfold aa_step at es
            cases ec : aa_cd T B sz k s' with
            | some tar =>
              obtain ⟨t, as, rest⟩ := tar
              rw [ec] at es
              dsimp only at es
              split at es
              · rename_i hfl
                obtain ⟨As, Rest, c1, c2, c3⟩ := aa_cd_ok ec hok
                cases ek : kn t as with
                | some a =>
                  rw [ek] at es
                  dsimp only at es
                  by_cases h2 : 2 ≤ fr - 1 ∧ 100 ≤ lo - (19 + pm_max T t)
                  · rw [if_pos h2] at es
                    cases es
                    refine wp_call c1 rfl hfl.1 hfl.2 (wp_mono (hkn t as a As _ _ _ _ _ ek c2 h2.1 h2.2) ?_)
                    rintro ⟨rv, h1, sz1, sl1⟩ ⟨v, q1, q2, q3⟩
                    dsimp only at q1 q3
                    cases q1
                    cases q3
                    exact i2 _ (aw_all_ok (Or.inl ⟨_, List.mem_singleton_self _, by show st.1 + 3 = s'.1 + 3; rw [hok.1], hok.2.1, ⟨q2, c3⟩, hok.2.2.2.1, hok.2.2.2.2.1, hok.2.2.2.2.2⟩))
                  · rw [if_neg h2] at es; cases es
                | none =>
                rw [ek] at es
                dsimp only at es
                split at es
                · rename_i Rc ego
                  cases es
                  obtain ⟨-, j2⟩ := ak_run_ok hkn n _ _ t _ [] Rc ego
                  have hcal : ast_ok B sz sl (0, aa_l0 as (pm_max T t), [], s'.2.2.2) (0, pm_l0 As (pm_max T t), [], st.2.2.2) := ⟨rfl, al_l0 c2 _, trivial, hok.2.2.2.1, hok.2.2.2.2.1, hok.2.2.2.2.2⟩
                  refine wp_call c1 rfl hfl.1 hfl.2 (wp_mono (j2 _ ⟨_, List.mem_singleton_self _, hcal⟩) ?_)
                  rintro ⟨rv, h1, sz1, sl1⟩ ⟨r, hr, q1, q2, q3, q4⟩
                  refine i2 _ (aw_all_ok (Or.inl ⟨_, List.mem_map_of_mem hr, ?_⟩))
                  refine ⟨by show st.1 + 3 = s'.1 + 3; rw [hok.1], hok.2.1, ?_, q2, q3, q4⟩
                  obtain ⟨r1, r2⟩ := r
                  dsimp only at q1 ⊢
                  cases rv with
                  | none =>
                    cases r1 with
                    | none => exact c3
                    | some a => exact q1.elim
                  | some v =>
                    cases r1 with
                    | none => exact q1.elim
                    | some a => exact ⟨q1, c3⟩
                · cases es
              · cases es
            | none =>
              rw [ec] at es
              dsimp only at es
              cases ei : pm_ins T k s'.1 with
              | none => rw [ei] at es; cases es
              | some il =>
                obtain ⟨i, len⟩ := il
                rw [ei] at es
                dsimp only at es
                split at es
                · rename_i hq
                  obtain ⟨h1, hL, hS, hH, h5, h6⟩ := hok
                  obtain ⟨pc, L, S, h, sz', sl'⟩ := st
                  dsimp only at h1 hL hS hH h5 h6
                  subst h1 h5 h6
                  obtain ⟨st', g1, s2, g2, g3⟩ := aa_simple_ok (pc := s'.1) es hL hS hH
                  refine wp_step (st' := st') ?_ (i2 _ (aw_all_ok (Or.inl ⟨s2, g2, g3⟩)))
                  unfold pm_step
                  dsimp only
                  rw [ei]
                  dsimp only
                  rw [if_pos hq.1, hq.2]
                  exact g1
                · cases es
          · exact i2 st (aw_all_ok (Or.inr ⟨s', hs', hok⟩))
        · cases e
end ABK
