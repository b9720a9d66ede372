/-! contracts of methods that may stop at given places -/
section SXR
variable {T : pm_Tab} {B : Nat → ac} {sz sl : Nat}
theorem sx_step_ok {F F0 : fr_F} {PP : pm_H → Prop} (hF0 : ∀ h h', fm F0 h h' → fm F h h') (hPP : pp_ok F0 PP) {go : Nat → Nat → Nat → List av → ah → Option (List ar)} {fr lo k : Nat} {s : ast} {ss : List ast} {st : pm_St} {Q : pm_Rs → Prop} {X : pm_St → Prop} {stop : Nat → Bool} (hs0 : stop st.1 = false) (hgo : ∀ fr lo t as o Rc, go fr lo t as o = some Rc → ∀ As h, as_ok As as → ah_ok B sz o h → PP h → pm_WP T fr lo t (0, pm_l0 As (pm_max T t), [], h, sz, sl) (fun x => (∃ r, r ∈ Rc ∧ ar_ok B sz sl r x) ∧ fm F h x.2.1 ∧ PP x.2.1)) (es : aa_stepF T B sz F0 go fr lo k s = some ss) (hok : ast_ok B sz sl s st) (hp : PP st.2.2.2.1) (kk : ∀ st', (∃ t, t ∈ ss ∧ ast_ok B sz sl t st') → fm F st.2.2.2.1 st'.2.2.2.1 → PP st'.2.2.2.1 → pw_X T stop fr lo k st' Q X) : pw_X T stop fr lo k st Q X := by
  unfold aa_stepF at es
  cases ec : aa_cd T B sz k s with
  | some tar =>
    obtain ⟨t, as, rest⟩ := tar
    rw [ec] at es
    dsimp only at es
    split at es
    · rename_i hfl
      split at es
      · rename_i Rc ego
        cases es
        obtain ⟨As, Rest, c1, c2, c3⟩ := aa_cd_ok ec hok
        have hsz := hok.2.2.2.2
        obtain ⟨pc, L, S, h, sz', sl'⟩ := st
        dsimp only at hsz hp kk
        obtain ⟨rfl, rfl⟩ := hsz
        refine pw_call hs0 c1 hfl.1 hfl.2 (wp_mono (hgo _ _ t as _ Rc ego As h c2 hok.2.2.2.1 hp) ?_)
        rintro ⟨rv, h1, sz1, sl1⟩ ⟨⟨r, hr, q1, q2, q3, q4⟩, q5, q6⟩
        refine kk _ ⟨_, List.mem_map_of_mem hr, ?_⟩ q5 q6
        refine ⟨by show pc + 3 = s.1 + 3; rw [← hok.1], hok.2.1, ?_, q2, q3, q4⟩
        obtain ⟨r1, r2⟩ := r
        dsimp only at q1 ⊢
        cases rv with
        | none =>
          cases r1 with
          | none => exact c3
          | some a => exact q1.elim
        | some v =>
          cases r1 with
          | none => exact q1.elim
          | some a => exact ⟨q1, c3⟩
      · cases es
    · cases es
  | none =>
    rw [ec] at es
    dsimp only at es
    cases ei : pm_ins T k s.1 with
    | none => rw [ei] at es; cases es
    | some il =>
      obtain ⟨i, len⟩ := il
      rw [ei] at es
      dsimp only at es
      cases ew : wr T F0 k i s.2.2.1 with
      | false => rw [ew] at es; cases es
      | true =>
        rw [ew] at es
        dsimp only [cond] at es
        split at es
        · rename_i hq
          obtain ⟨h1, hL, hS, hH, h5, h6⟩ := hok
          obtain ⟨pc, L, S, h, sz', sl'⟩ := st
          dsimp only at h1 hL hS hH h5 h6 hp kk
          subst h1 h5 h6
          obtain ⟨st', g1, s2, g2, g3⟩ := aa_simple_ok (pc := s.1) es hL hS hH
          have hfm := wr_ok ew hS g1
          refine pw_step hs0 (st' := st') ?_ (kk _ ⟨s2, g2, g3⟩ (hF0 _ _ hfm) (hPP _ _ hfm hp))
          unfold pm_step
          dsimp only
          rw [ei]
          dsimp only
          rw [if_pos hq.1, hq.2]
          exact g1
        · cases es
/-- runs that stop at the states of Z; nothing is done at a stop -/
def sx_run (stop : Nat → Bool) (Z : List ast) (K : kn) (T : pm_Tab) (B : Nat → ac) (sz : Nat) (F : fr_F) (J : Nat → ast → ast → Bool) (jo : Nat → ar → ar → Bool) (P : Nat → Nat → List sp) : Nat → Nat → Nat → Nat → List ast → List ar → Option (List ar)
  | 0, _, _, _, _, _ => none
  | n + 1, fr, lo, k, W, R => match W with
    | [] => some R
    | s :: W => cond (stop s.1) (cond (Z.any (fun z => ast_le B s z)) (sx_run stop Z K T B sz F J jo P n fr lo k W R) none) (match cx_each (cx_one T B sz F (fun fr lo t as o => match K t as o with
        | some (Rc, Fr, Lo) => if Fr ≤ fr ∧ Lo ≤ lo then some Rc else none
        | none => cx_run K T B sz F J jo P n fr lo t [(0, aa_l0 as (pm_max T t), [], o)] []) fr lo k) (sp_all B sz (P k s.1) [s]) with
      | some (A, ss) => sx_run stop Z K T B sz F J jo P n fr lo k (cx_all B (J k) ss W) (cx_outs B (jo k) A R)
      | none => none)
theorem sx_run_ok {stop : Nat → Bool} {Z : List ast} {F F0 : fr_F} {PP : pm_H → Prop} (hF0 : ∀ h h', fm F0 h h' → fm F h h') (hPP : pp_ok F0 PP) {K : kn} (hK : kn_ok K T B sz F PP) {J : Nat → ast → ast → Bool} {jo : Nat → ar → ar → Bool} {P : Nat → Nat → List sp} : ∀ (n fr lo k : Nat) (W : List ast) (R R' : List ar), sx_run stop Z K T B sz F0 J jo P n fr lo k W R = some R' → (∀ x, (∃ r, r ∈ R ∧ ar_ok B sz sl r x) → ∃ r, r ∈ R' ∧ ar_ok B sz sl r x) ∧ ∀ st, (∃ s, s ∈ W ∧ ast_ok B sz sl s st) → PP st.2.2.2.1 → ∀ (Q : pm_Rs → Prop) (X : pm_St → Prop), (∀ x, (∃ r, r ∈ R' ∧ ar_ok B sz sl r x) → fm F st.2.2.2.1 x.2.1 → PP x.2.1 → Q x) → (∀ st', (∃ z, z ∈ Z ∧ ast_ok B sz sl z st') → fm F st.2.2.2.1 st'.2.2.2.1 → PP st'.2.2.2.1 → X st') → pw_X T stop fr lo k st Q X
  | 0, _, _, _, _, _, _, e => by cases e
  | n + 1, fr, lo, k, W, R, R', e => by
    unfold sx_run at e
    match W, e with
    | [], e =>
      cases (Option.some.inj e : R = R')
      exact ⟨fun x h => h, fun st h => by obtain ⟨s, hs, _⟩ := h; cases hs⟩
    | s :: W, e =>
      dsimp only at e
      cases hst : stop s.1 with
      | true =>
        rw [hst] at e
        dsimp only [cond] at e
        cases hz : Z.any (fun z => ast_le B s z) with
        | false => rw [hz] at e; cases e
        | true =>
        rw [hz] at e
        dsimp only [cond] at e
        obtain ⟨i1, i2⟩ := sx_run_ok hF0 hPP hK n fr lo k _ _ R' e
        refine ⟨i1, fun st h hp Q X hQ hS => ?_⟩
        obtain ⟨s', hs', hok⟩ := h
        rcases List.mem_cons.mp hs' with rfl | hs'
        · obtain ⟨z, hzm, hzl⟩ := List.any_eq_true.mp hz
          exact pw_stop (by rw [hok.1]; exact hst) (hS st ⟨z, hzm, ast_le_ok hzl hok⟩ (fm_rf _) hp)
        · exact i2 st ⟨s', hs', hok⟩ hp Q X hQ hS
      | false =>
        rw [hst] at e
        dsimp only [cond] at e
        split at e
        · rename_i A ss es
          obtain ⟨i1, i2⟩ := sx_run_ok hF0 hPP hK n fr lo k _ _ R' e
          refine ⟨fun x h => i1 x (cx_outs_ok (Or.inr h)), fun st h hp Q X hQ hS => ?_⟩
          obtain ⟨s', hs', hok⟩ := h
          rcases List.mem_cons.mp hs' with rfl | hs'
          · obtain ⟨t, ht, htok⟩ := sp_all_ok (P k s'.1) [s'] ⟨s', List.mem_singleton_self _, hok⟩
            rcases cx_each_mem es t ht with ⟨a, h1, h2⟩ | ⟨st2, h1, h2⟩
            · unfold cx_one at h1
              split at h1
              · rename_i r ee
                cases h1
                obtain ⟨q, e1, e2⟩ := aE_end_ok ee htok
                have hh : q.2.1 = st.2.2.2.1 := by
                  unfold pm_end at e1
                  split at e1
                  · cases e1
                  · split at e1
                    · split at e1
                      · cases e1; rfl
                      · cases e1
                    · cases e1
                refine pw_end (by rw [hok.1]; exact hst) e1 (hQ q (i1 q (cx_outs_ok (Or.inl ⟨_, h2, e2⟩))) ?_ ?_)
                · rw [hh]; exact fm_rf _
                · rw [hh]; exact hp
              · split at h1
                · cases h1
                · cases h1
            · unfold cx_one at h1
              split at h1
              · cases h1
              · split at h1
                · rename_i ss2 ee
                  cases h1
                  refine sx_step_ok hF0 hPP (by rw [hok.1]; exact hst) ?_ ee htok hp (fun st' hst' hf' hp' => ?_)
                  · intro fr lo t as o Rc ego As h hAs hh hph
                    split at ego
                    · rename_i Rc' Fr Lo ek
                      split at ego
                      · rename_i hfl
                        cases ego
                        exact hK t as o Rc Fr Lo ek As h fr lo sl hAs hh hph hfl.1 hfl.2
                      · cases ego
                    · exact (cx_run_ok hF0 hPP hK n fr lo t _ [] Rc ego).2 _ ⟨_, List.mem_singleton_self _, rfl, al_l0 hAs _, trivial, hh, rfl, rfl⟩ hph
                  · obtain ⟨u, hu, huok⟩ := hst'
                    exact i2 st' (cx_all_ok (Or.inl ⟨u, h2 u hu, huok⟩)) hp' Q X (fun x hx hfx => hQ x hx (fm_tr hf' hfx)) (fun st2 hz2 hf2 => hS st2 hz2 (fm_tr hf' hf2))
                · cases h1
          · exact i2 st (cx_all_ok (Or.inr ⟨s', hs', hok⟩)) hp Q X hQ hS
        · cases e
end SXR
