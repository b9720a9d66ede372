/-! runs that stop at given places -/
section PX
variable {T : pm_Tab} {stop : Nat → Bool} {k fr lo : Nat} {st st' : pm_St}
def px_run (T : pm_Tab) (stop : Nat → Bool) : Nat → Nat → Nat → Nat → pm_St → Option (pm_Rs ⊕ pm_St)
  | 0, _, _, _, _ => none
  | n + 1, fr, lo, k, st => cond (stop st.1) (some (.inr st)) (match pm_end T k st with
    | some r => some (.inl r)
    | none => match pm_step T (fun fr lo t as h sz sl => pm_run T n fr lo t (0, pm_l0 as (pm_max T t), [], h, sz, sl)) fr lo k st with
      | some st' => px_run T stop n fr lo k st'
      | none => none)
def px_sz (o : pm_Rs ⊕ pm_St) : Nat × Nat := match o with
  | .inl r => r.2.2
  | .inr st => st.2.2.2.2
theorem px_mono : ∀ (n fr lo k : Nat) (st : pm_St) (o : pm_Rs ⊕ pm_St), px_run T stop n fr lo k st = some o → st.2.2.2.2.1 ≤ (px_sz o).1 ∧ st.2.2.2.2.2 ≤ (px_sz o).2
  | 0, _, _, _, _, _, h => by cases h
  | n + 1, fr, lo, k, st, o, h => by
    unfold px_run at h
    cases hs : stop st.1 with
    | true =>
      rw [hs] at h
      cases h
      exact ⟨Nat.le_refl _, Nat.le_refl _⟩
    | false =>
      rw [hs] at h
      dsimp only [cond] at h
      split at h
      · rename_i r' e1
        cases h
        unfold pm_end at e1
        split at e1
        · cases e1
        · split at e1
          · split at e1
            · cases e1; exact ⟨Nat.le_refl _, Nat.le_refl _⟩
            · cases e1
          · cases e1
      · split at h
        · rename_i st' e2
          have ih := px_mono n fr lo k st' o h
          have h2 := pm_step_mono (fun fr lo t as h sz sl r q => pm_mono n _ _ _ _ _ q) e2
          omega
        · cases h
/-- from st the method ends with Q, or comes to a place of stop, with X -/
def pw_X (T : pm_Tab) (stop : Nat → Bool) (fr lo k : Nat) (st : pm_St) (Q : pm_Rs → Prop) (X : pm_St → Prop) : Prop := ∃ n o, px_run T stop n fr lo k st = some o ∧ (match o with
  | .inl r => Q r
  | .inr st' => stop st'.1 = true ∧ X st')
variable {Q Q' : pm_Rs → Prop} {X X' : pm_St → Prop}
theorem pw_mono (h : pw_X T stop fr lo k st Q X) (hq : ∀ r, Q r → Q' r) (hx : ∀ s, X s → X' s) : pw_X T stop fr lo k st Q' X' := by
  obtain ⟨n, o, h1, h2⟩ := h
  refine ⟨n, o, h1, ?_⟩
  cases o with
  | inl r => exact hq r h2
  | inr s => exact ⟨h2.1, hx s h2.2⟩
theorem px_run_succ : ∀ (n fr lo k : Nat) (st : pm_St) (o : pm_Rs ⊕ pm_St), px_run T stop n fr lo k st = some o → px_run T stop (n + 1) fr lo k st = some o
  | 0, _, _, _, _, _, h => by cases h
  | n + 1, fr, lo, k, st, o, h => by
    unfold px_run at h
    unfold px_run
    cases hs : stop st.1 with
    | true => rw [hs] at h; exact h
    | false =>
      rw [hs] at h
      dsimp only [cond] at h ⊢
      cases e1 : pm_end T k st with
      | some r' => rw [e1] at h; exact h
      | none =>
        rw [e1] at h
        dsimp only at h ⊢
        cases e2 : pm_step T (fun fr lo t as h sz sl => pm_run T n fr lo t (0, pm_l0 as (pm_max T t), [], h, sz, sl)) fr lo k st with
        | none => rw [e2] at h; cases h
        | some st' =>
          rw [e2] at h
          rw [pm_step_go (fun fr lo t as h sz sl r q => pm_run_succ n _ _ _ _ _ q) e2]
          exact px_run_succ n _ _ _ _ _ h
theorem px_run_le {n n' : Nat} {o : pm_Rs ⊕ pm_St} (hn : n ≤ n') (h : px_run T stop n fr lo k st = some o) : px_run T stop n' fr lo k st = some o := by
  induction hn with
  | refl => exact h
  | step _ ih => exact px_run_succ _ _ _ _ _ _ ih
theorem pw_stop (hs : stop st.1 = true) (hx : X st) : pw_X T stop fr lo k st Q X := ⟨1, .inr st, by unfold px_run; rw [hs]; rfl, hs, hx⟩
theorem pw_step (hs : stop st.1 = false) (h : pm_step T pm_go0 fr lo k st = some st') (kk : pw_X T stop fr lo k st' Q X) : pw_X T stop fr lo k st Q X := by
  obtain ⟨n, o, h1, h2⟩ := kk
  refine ⟨n + 1, o, ?_, h2⟩
  unfold px_run
  rw [hs, pm_end_no h, pm_step_go (go' := fun fr lo t as h sz sl => pm_run T n fr lo t (0, pm_l0 as (pm_max T t), [], h, sz, sl)) (fun _ _ _ _ _ _ _ _ q => by cases q) h]
  exact h1
theorem pw_end {r : pm_Rs} (hs : stop st.1 = false) (h : pm_end T k st = some r) (hq : Q r) : pw_X T stop fr lo k st Q X := ⟨1, .inl r, by unfold px_run; rw [hs, h]; rfl, hq⟩
theorem pm_cd_step {n t : Nat} {As rest : List Value} {r : pm_Rs} (h : pm_cd T k st = some (t, As, rest)) (hf : 1 ≤ fr) (hl : 19 + pm_max T t ≤ lo) (hr : pm_run T n (fr - 1) (lo - (19 + pm_max T t)) t (0, pm_l0 As (pm_max T t), [], st.2.2.2) = some r) : pm_step T (fun fr lo t as h sz sl => pm_run T n fr lo t (0, pm_l0 as (pm_max T t), [], h, sz, sl)) fr lo k st = some (st.1 + 3, st.2.1, r.1.toList ++ rest, r.2) := by
  unfold pm_cd at h
  unfold pm_step
  cases e1 : pm_ins T k st.1 with
  | none => rw [e1] at h; cases h
  | some il =>
    obtain ⟨i, len⟩ := il
    rw [e1] at h
    dsimp only at h ⊢
    by_cases e2 : pm_lenOk i len = true
    · rw [if_pos e2] at h ⊢
      cases e3 : pm_callee T k i with
      | none => rw [e3] at h; cases h
      | some wt =>
        obtain ⟨w, t'⟩ := wt
        rw [e3] at h
        dsimp only at h ⊢
        split at h
        · rename_i e4
          cases h
          rw [if_pos ⟨e4.1, e4.2.1, e4.2.2.1, hf, hl, e4.2.2.2⟩]
          have e5 : pm_run T n (fr - 1) (lo - (19 + pm_max T t)) t (0, pm_l0 (st.2.2.1.take (pm_na T t)).reverse (pm_max T t), [], st.2.2.2.1, st.2.2.2.2.1, st.2.2.2.2.2) = some r := hr
          rw [e5]
        · cases h
    · rw [if_neg e2] at h; cases h
theorem pw_call {t : Nat} {As rest : List Value} (hs : stop st.1 = false) (h : pm_cd T k st = some (t, As, rest)) (hf : 1 ≤ fr) (hl : 19 + pm_max T t ≤ lo)
    (kk : pm_WP T (fr - 1) (lo - (19 + pm_max T t)) t (0, pm_l0 As (pm_max T t), [], st.2.2.2) (fun r => pw_X T stop fr lo k (st.1 + 3, st.2.1, r.1.toList ++ rest, r.2) Q X)) : pw_X T stop fr lo k st Q X := by
  obtain ⟨n, r, h1, n2, o, h2, h3⟩ := kk
  have a1 := pm_run_le (Nat.le_max_left n n2) h1
  have a2 := px_run_le (Nat.le_max_right n n2) h2
  refine ⟨max n n2 + 1, o, ?_, h3⟩
  have hst := pm_cd_step h hf hl a1
  unfold px_run
  rw [hs, pm_end_no hst, hst]
  exact a2
end PX
section PXV
variable {p : Program} {l : Launch} {e : Env} {R : Room} {s : State} {m : MethodId} {args : Array Value} {below : List Frame} {meth : Method} {c : Code} {Q : State → Prop}
variable {T : pm_Tab} {G Ns : List Cond} {D : va_G} {aC : Nat → ClassId} {b g k fr lo sz0 sl0 : Nat} {stop : Nat → Bool}
/-- such a run, in any method that stands -/
theorem px_V (OK : pm_ok T G Ns) (hC : pm_C T G Ns D aC k p s m args meth c) (hfr : R.frames = fr) (hlo : R.locals = lo) (hs0 : s.heap.size = b + sz0 + g) {o : pm_Rs ⊕ pm_St} (ho : px_sz o = (sz0, sl0))
    (hq : ∀ r st1, o = .inl r → pm_end T k st1 = some r → st1.2.2.2.2 = (sz0, sl0) → pm_V p l e R s m args below meth c Q T D aC b k sz0 sl0 st1) (hx : ∀ st1, o = .inr st1 → pm_V p l e R s m args below meth c Q T D aC b k sz0 sl0 st1) :
    ∀ (n : Nat) (st : pm_St), sz0 ≤ st.2.2.2.2.1 → sl0 ≤ st.2.2.2.2.2 → px_run T stop n fr lo k st = some o → pm_V p l e R s m args below meth c Q T D aC b k sz0 sl0 st
  | 0, _, _, _, h => by cases h
  | n + 1, st, h0, h1, h => by
    have hm := px_mono _ _ _ _ _ _ h
    rw [ho] at hm
    dsimp only at hm
    unfold px_run at h
    cases hs : stop st.1 with
    | true =>
      rw [hs] at h
      cases h
      exact hx st rfl
    | false =>
      rw [hs] at h
      dsimp only [cond] at h
      split at h
      · rename_i r' e1
        cases h
        exact hq r' st rfl e1 (by
          have a : st.2.2.2.2.1 = sz0 := by omega
          have b : st.2.2.2.2.2 = sl0 := by omega
          rw [← a, ← b])
      · split at h
        · rename_i st' e2
          have hm1 := px_mono _ _ _ _ _ _ h
          rw [ho] at hm1
          dsimp only at hm1
          have hm2 := pm_step_mono (fun fr lo t as h sz sl r q => pm_mono n _ _ _ _ _ q) e2
          refine pm_step_ok OK hC hfr hlo hs0 (by omega) h0 h1 (by omega) (by omega) (fun fr lo t as h sz sl r q1 q2 q3 => ?_) e2 (px_V OK hC hfr hlo hs0 ho hq hx n st' (by omega) (by omega) h)
          have hm3 := pm_mono _ _ _ _ _ _ q3
          exact ⟨hm3.1, hm3.2, fun hg => pm_sound OK n fr lo t as h sz sl r q1 hg q2 q3⟩
        · cases h
end PXV
/-! the same on the abstract machine -/
section AX
variable {T : pm_Tab} {B : Nat → ac} {sz sl : Nat} {stop : Nat → Bool}
def ax_run (kn : Nat → List av → Option av) (T : pm_Tab) (B : Nat → ac) (sz : Nat) (J : Nat → Nat → Bool) (jo : Nat → Bool) (stop : Nat → Bool) : Nat → Nat → Nat → Nat → List ast → List ar → List ast → Option (List ar × List ast)
  | 0, _, _, _, _, _, _ => none
  | n + 1, fr, lo, k, W, R, Z => match W with
    | [] => some (R, Z)
    | s :: W => cond (stop s.1) (ax_run kn T B sz J jo stop n fr lo k W R (s :: Z)) (match aE_end T k s with
      | some r => ax_run kn T B sz J jo stop n fr lo k W (aw_out B (jo k) r R) Z
      | none => match aa_step T B sz (fun fr lo t as o => match kn t as with
          | some a => if 2 ≤ fr ∧ 100 ≤ lo then some [(some a, o)] else none
          | none => ak_run kn T B sz J jo n fr lo t [(0, aa_l0 as (pm_max T t), [], o)] []) fr lo k s with
        | some ss => ax_run kn T B sz J jo stop n fr lo k (aw_all B (J k) ss W) R Z
        | none => none)
theorem ax_run_ok {kn : Nat → List av → Option av} (hkn : ak_ok kn T) {J : Nat → Nat → Bool} {jo : Nat → Bool} : ∀ (n fr lo k : Nat) (W : List ast) (R : List ar) (Z : List ast) (R' : List ar) (Z' : List ast), ax_run kn T B sz J jo stop n fr lo k W R Z = some (R', Z') → (∀ x, (∃ r, r ∈ R ∧ ar_ok B sz sl r x) → ∃ r, r ∈ R' ∧ ar_ok B sz sl r x) ∧ (∀ z, z ∈ Z → z ∈ Z') ∧ ∀ st, (∃ s, s ∈ W ∧ ast_ok B sz sl s st) → pw_X T stop fr lo k st (fun x => ∃ r, r ∈ R' ∧ ar_ok B sz sl r x) (fun st' => ∃ s, s ∈ Z' ∧ ast_ok B sz sl s st')
  | 0, _, _, _, _, _, _, _, _, e => by cases e
  | n + 1, fr, lo, k, W, R, Z, R', Z', e => by
    unfold ax_run at e
    match W, e with
    | [], e =>
      cases e
      exact ⟨fun x h => h, fun z h => h, fun st h => by obtain ⟨s, hs, _⟩ := h; cases hs⟩
    | s :: W, e =>
      dsimp only at e
      cases est : stop s.1 with
      | true =>
        rw [est] at e
        dsimp only [cond] at e
        obtain ⟨i1, i2, i3⟩ := ax_run_ok hkn n fr lo k W R _ R' Z' e
        refine ⟨i1, fun z hz => i2 z (List.mem_cons_of_mem _ hz), fun st h => ?_⟩
        obtain ⟨s', hs', hok⟩ := h
        rcases List.mem_cons.mp hs' with rfl | hs'
        · exact pw_stop (by rw [hok.1]; exact est) ⟨s', i2 s' List.mem_cons_self, hok⟩
        · exact i3 st ⟨s', hs', hok⟩
      | false =>
      rw [est] at e
      dsimp only [cond] at e
      cases ee : aE_end T k s with
      | some r =>
        rw [ee] at e
        dsimp only at e
        obtain ⟨i1, i2, i3⟩ := ax_run_ok hkn n fr lo k W _ Z R' Z' e
        refine ⟨fun x h => i1 x (aw_out_ok (Or.inr h)), i2, fun st h => ?_⟩
        obtain ⟨s', hs', hok⟩ := h
        rcases List.mem_cons.mp hs' with rfl | hs'
        · obtain ⟨q, h1, h2⟩ := aE_end_ok ee hok
          exact pw_end (by rw [hok.1]; exact est) h1 (i1 q (aw_out_ok (Or.inl h2)))
        · exact i3 st ⟨s', hs', hok⟩
      | none =>
        rw [ee] at e
        dsimp only at e
        split at e
        · rename_i ss es
          obtain ⟨i1, i2, i3⟩ := ax_run_ok hkn n fr lo k _ R Z R' Z' e
          refine ⟨i1, i2, fun st h => ?_⟩
          obtain ⟨s', hs', hok⟩ := h
          rcases List.mem_cons.mp hs' with rfl | hs'
          · have hst : stop st.1 = false := by rw [hok.1]; exact est
            unfold aa_step at es
            cases ec : aa_cd T B sz k s' with
            | some tar =>
              obtain ⟨t, as, rest⟩ := tar
              rw [ec] at es
              dsimp only at es
              split at es
              · rename_i hfl
                obtain ⟨As, Rest, c1, c2, c3⟩ := aa_cd_ok ec hok
                cases ek : kn t as with
                | some a =>
                  rw [ek] at es
                  dsimp only at es
                  by_cases h2 : 2 ≤ fr - 1 ∧ 100 ≤ lo - (19 + pm_max T t)
                  · rw [if_pos h2] at es
                    cases es
                    refine pw_call hst c1 hfl.1 hfl.2 (wp_mono (hkn t as a As _ _ _ _ _ ek c2 h2.1 h2.2) ?_)
                    rintro ⟨rv, h1, sz1, sl1⟩ ⟨v, q1, q2, q3⟩
                    dsimp only at q1 q3
                    cases q1
                    cases q3
                    exact i3 _ (aw_all_ok (Or.inl ⟨_, List.mem_singleton_self _, by show st.1 + 3 = s'.1 + 3; rw [hok.1], hok.2.1, ⟨q2, c3⟩, hok.2.2.2.1, hok.2.2.2.2.1, hok.2.2.2.2.2⟩))
                  · rw [if_neg h2] at es; cases es
                | none =>
                rw [ek] at es
                dsimp only at es
                split at es
                · rename_i Rc ego
                  cases es
                  obtain ⟨-, j2⟩ := ak_run_ok hkn n _ _ t _ [] Rc ego
                  have hcal : ast_ok B sz sl (0, aa_l0 as (pm_max T t), [], s'.2.2.2) (0, pm_l0 As (pm_max T t), [], st.2.2.2) := ⟨rfl, al_l0 c2 _, trivial, hok.2.2.2.1, hok.2.2.2.2.1, hok.2.2.2.2.2⟩
                  refine pw_call hst c1 hfl.1 hfl.2 (wp_mono (j2 _ ⟨_, List.mem_singleton_self _, hcal⟩) ?_)
                  rintro ⟨rv, h1, sz1, sl1⟩ ⟨r, hr, q1, q2, q3, q4⟩
                  refine i3 _ (aw_all_ok (Or.inl ⟨_, List.mem_map_of_mem hr, ?_⟩))
                  refine ⟨by show st.1 + 3 = s'.1 + 3; rw [hok.1], hok.2.1, ?_, q2, q3, q4⟩
                  obtain ⟨r1, r2⟩ := r
                  dsimp only at q1 ⊢
                  cases rv with
                  | none =>
                    cases r1 with
                    | none => exact c3
                    | some a => exact q1.elim
                  | some v =>
                    cases r1 with
                    | none => exact q1.elim
                    | some a => exact ⟨q1, c3⟩
                · cases es
              · cases es
            | none =>
              rw [ec] at es
              dsimp only at es
              cases ei : pm_ins T k s'.1 with
              | none => rw [ei] at es; cases es
              | some il =>
                obtain ⟨i, len⟩ := il
                rw [ei] at es
                dsimp only at es
                split at es
                · rename_i hq
                  obtain ⟨h1, hL, hS, hH, h5, h6⟩ := hok
                  obtain ⟨pc, L, S, h, sz', sl'⟩ := st
                  dsimp only at h1 hL hS hH h5 h6 hst
                  subst h1 h5 h6
                  obtain ⟨st', g1, s2, g2, g3⟩ := aa_simple_ok (pc := s'.1) es hL hS hH
                  refine pw_step (st' := st') hst ?_ (i3 _ (aw_all_ok (Or.inl ⟨s2, g2, g3⟩)))
                  unfold pm_step
                  dsimp only
                  rw [ei]
                  dsimp only
                  rw [if_pos hq.1, hq.2]
                  exact g1
                · cases es
          · exact i3 st (aw_all_ok (Or.inr ⟨s', hs', hok⟩))
        · cases e
end AX
