/-! runs that stop at given places -/
section PX
variable {T : pm_Tab} {stop : Nat → Bool} {k fr lo : Nat} {st st' : pm_St}
def px_run (T : pm_Tab) (stop : Nat → Bool) : Nat → Nat → Nat → Nat → pm_St → Option (pm_Rs ⊕ pm_St)
  | 0, _, _, _, _ => none
  | n + 1, fr, lo, k, st => cond (stop st.1) (some (.inr st)) (match pm_end T k st with
    | some r => some (.inl r)
    | none => match pm_step T (fun fr lo t as h sz sl => pm_run T n fr lo t (0, pm_l0 as (pm_max T t), [], h, sz, sl)) fr lo k st with
      | some st' => px_run T stop n fr lo k st'
      | none => none)
def px_sz (o : pm_Rs ⊕ pm_St) : Nat × Nat := match o with
  | .inl r => r.2.2
  | .inr st => st.2.2.2.2
theorem px_mono : ∀ (n fr lo k : Nat) (st : pm_St) (o : pm_Rs ⊕ pm_St), px_run T stop n fr lo k st = some o → st.2.2.2.2.1 ≤ (px_sz o).1 ∧ st.2.2.2.2.2 ≤ (px_sz o).2
  | 0, _, _, _, _, _, h => by cases h
  | n + 1, fr, lo, k, st, o, h => by
    unfold px_run at h
    cases hs : stop st.1 with
    | true =>
      rw [hs] at h
      cases h
      exact ⟨Nat.le_refl _, Nat.le_refl _⟩
    | false =>
      rw [hs] at h
      dsimp only [cond] at h
      split at h
      · rename_i r' e1
        cases h
        unfold pm_end at e1
        split at e1
        · cases e1
        · split at e1
          · split at e1
            · cases e1; exact ⟨Nat.le_refl _, Nat.le_refl _⟩
            · cases e1
          · cases e1
      · split at h
        · rename_i st' e2
          have ih := px_mono n fr lo k st' o h
          have h2 := pm_step_mono (fun fr lo t as h sz sl r q => pm_mono n _ _ _ _ _ q) e2
          omega
        · cases h
/-- from st the method ends with Q, or comes to a place of stop, with X -/
def pw_X (T : pm_Tab) (stop : Nat → Bool) (fr lo k : Nat) (st : pm_St) (Q : pm_Rs → Prop) (X : pm_St → Prop) : Prop := ∃ n o, px_run T stop n fr lo k st = some o ∧ (match o with
  | .inl r => Q r
  | .inr st' => stop st'.1 = true ∧ X st')
variable {Q Q' : pm_Rs → Prop} {X X' : pm_St → Prop}
theorem pw_mono (h : pw_X T stop fr lo k st Q X) (hq : ∀ r, Q r → Q' r) (hx : ∀ s, X s → X' s) : pw_X T stop fr lo k st Q' X' := by
  obtain ⟨n, o, h1, h2⟩ := h
  refine ⟨n, o, h1, ?_⟩
  cases o with
  | inl r => exact hq r h2
  | inr s => exact ⟨h2.1, hx s h2.2⟩
theorem px_run_succ : ∀ (n fr lo k : Nat) (st : pm_St) (o : pm_Rs ⊕ pm_St), px_run T stop n fr lo k st = some o → px_run T stop (n + 1) fr lo k st = some o
  | 0, _, _, _, _, _, h => by cases h
  | n + 1, fr, lo, k, st, o, h => by
    unfold px_run at h
    unfold px_run
    cases hs : stop st.1 with
    | true => rw [hs] at h; exact h
    | false =>
      rw [hs] at h
      dsimp only [cond] at h ⊢
      cases e1 : pm_end T k st with
      | some r' => rw [e1] at h; exact h
      | none =>
        rw [e1] at h
        dsimp only at h ⊢
        cases e2 : pm_step T (fun fr lo t as h sz sl => pm_run T n fr lo t (0, pm_l0 as (pm_max T t), [], h, sz, sl)) fr lo k st with
        | none => rw [e2] at h; cases h
        | some st' =>
          rw [e2] at h
          rw [pm_step_go (fun fr lo t as h sz sl r q => pm_run_succ n _ _ _ _ _ q) e2]
          exact px_run_succ n _ _ _ _ _ h
theorem px_run_le {n n' : Nat} {o : pm_Rs ⊕ pm_St} (hn : n ≤ n') (h : px_run T stop n fr lo k st = some o) : px_run T stop n' fr lo k st = some o := by
  induction hn with
  | refl => exact h
  | step _ ih => exact px_run_succ _ _ _ _ _ _ ih
theorem pw_stop (hs : stop st.1 = true) (hx : X st) : pw_X T stop fr lo k st Q X := ⟨1, .inr st, by unfold px_run; rw [hs]; rfl, hs, hx⟩
theorem pw_step (hs : stop st.1 = false) (h : pm_step T pm_go0 fr lo k st = some st') (kk : pw_X T stop fr lo k st' Q X) : pw_X T stop fr lo k st Q X := by
  obtain ⟨n, o, h1, h2⟩ := kk
  refine ⟨n + 1, o, ?_, h2⟩
  unfold px_run
  rw [hs, pm_end_no h, pm_step_go (go' := fun fr lo t as h sz sl => pm_run T n fr lo t (0, pm_l0 as (pm_max T t), [], h, sz, sl)) (fun _ _ _ _ _ _ _ _ q => by cases q) h]
  exact h1
theorem pw_end {r : pm_Rs} (hs : stop st.1 = false) (h : pm_end T k st = some r) (hq : Q r) : pw_X T stop fr lo k st Q X := ⟨1, .inl r, by unfold px_run; rw [hs, h]; rfl, hq⟩
theorem pm_cd_step {n t : Nat} {As rest : List Value} {r : pm_Rs} (h : pm_cd T k st = some (t, As, rest)) (hf : 1 ≤ fr) (hl : 19 + pm_max T t ≤ lo) (hr : pm_run T n (fr - 1) (lo - (19 + pm_max T t)) t (0, pm_l0 As (pm_max T t), [], st.2.2.2) = some r) : pm_step T (fun fr lo t as h sz sl => pm_run T n fr lo t (0, pm_l0 as (pm_max T t), [], h, sz, sl)) fr lo k st = some (st.1 + 3, st.2.1, r.1.toList ++ rest, r.2) := by
  unfold pm_cd at h
  unfold pm_step
  cases e1 : pm_ins T k st.1 with
  | none => rw [e1] at h; cases h
  | some il =>
    obtain ⟨i, len⟩ := il
    rw [e1] at h
    dsimp only at h ⊢
    by_cases e2 : pm_lenOk i len = true
    · rw [if_pos e2] at h ⊢
      cases e3 : pm_callee T k i with
      | none => rw [e3] at h; cases h
      | some wt =>
        obtain ⟨w, t'⟩ := wt
        rw [e3] at h
        dsimp only at h ⊢
        split at h
        · rename_i e4
          cases h
          rw [if_pos ⟨e4.1, e4.2.1, e4.2.2.1, hf, hl, e4.2.2.2⟩]
          have e5 : pm_run T n (fr - 1) (lo - (19 + pm_max T t)) t (0, pm_l0 (st.2.2.1.take (pm_na T t)).reverse (pm_max T t), [], st.2.2.2.1, st.2.2.2.2.1, st.2.2.2.2.2) = some r := hr
          rw [e5]
        · cases h
    · rw [if_neg e2] at h; cases h
theorem pw_call {t : Nat} {As rest : List Value} (hs : stop st.1 = false) (h : pm_cd T k st = some (t, As, rest)) (hf : 1 ≤ fr) (hl : 19 + pm_max T t ≤ lo)
    (kk : pm_WP T (fr - 1) (lo - (19 + pm_max T t)) t (0, pm_l0 As (pm_max T t), [], st.2.2.2) (fun r => pw_X T stop fr lo k (st.1 + 3, st.2.1, r.1.toList ++ rest, r.2) Q X)) : pw_X T stop fr lo k st Q X := by
  obtain ⟨n, r, h1, n2, o, h2, h3⟩ := kk
  have a1 := pm_run_le (Nat.le_max_left n n2) h1
  have a2 := px_run_le (Nat.le_max_right n n2) h2
  refine ⟨max n n2 + 1, o, ?_, h3⟩
  have hst := pm_cd_step h hf hl a1
  unfold px_run
  rw [hs, pm_end_no hst, hst]
  exact a2
end PX
section PXV
variable {p : Program} {l : Launch} {e : Env} {R : Room} {s : State} {m : MethodId} {args : Array Value} {below : List Frame} {meth : Method} {c : Code} {Q : State → Prop}
variable {T : pm_Tab} {G Ns : List Cond} {D : va_G} {aC : Nat → ClassId} {b g k fr lo sz0 sl0 : Nat} {stop : Nat → Bool}
/-- such a run, in any method that stands -/
theorem px_V (OK : pm_ok T G Ns) (hC : pm_C T G Ns D aC b k p s m args meth c) (hfr : R.frames = fr) (hlo : R.locals = lo) (hs0 : s.heap.size = b + sz0 + g) {o : pm_Rs ⊕ pm_St} (ho : px_sz o = (sz0, sl0))
    (hq : ∀ r st1, o = .inl r → pm_end T k st1 = some r → st1.2.2.2.2 = (sz0, sl0) → pm_V p l e R s m args below meth c Q T D aC b k sz0 sl0 st1) (hx : ∀ st1, o = .inr st1 → pm_V p l e R s m args below meth c Q T D aC b k sz0 sl0 st1) :
    ∀ (n : Nat) (st : pm_St), sz0 ≤ st.2.2.2.2.1 → sl0 ≤ st.2.2.2.2.2 → px_run T stop n fr lo k st = some o → pm_V p l e R s m args below meth c Q T D aC b k sz0 sl0 st
  | 0, _, _, _, h => by cases h
  | n + 1, st, h0, h1, h => by
    have hm := px_mono _ _ _ _ _ _ h
    rw [ho] at hm
    dsimp only at hm
    unfold px_run at h
    cases hs : stop st.1 with
    | true =>
      rw [hs] at h
      cases h
      exact hx st rfl
    | false =>
      rw [hs] at h
      dsimp only [cond] at h
      split at h
      · rename_i r' e1
        cases h
        exact hq r' st rfl e1 (by
          have a : st.2.2.2.2.1 = sz0 := by omega
          have b : st.2.2.2.2.2 = sl0 := by omega
          rw [← a, ← b])
      · split at h
        · rename_i st' e2
          have hm1 := px_mono _ _ _ _ _ _ h
          rw [ho] at hm1
          dsimp only at hm1
          have hm2 := pm_step_mono (fun fr lo t as h sz sl r q => pm_mono n _ _ _ _ _ q) e2
          refine pm_step_ok OK hC hfr hlo hs0 (by omega) h0 h1 (by omega) (by omega) (fun fr lo t as h sz sl r q1 q2 q3 => ?_) e2 (px_V OK hC hfr hlo hs0 ho hq hx n st' (by omega) (by omega) h)
          have hm3 := pm_mono _ _ _ _ _ _ q3
          exact ⟨hm3.1, hm3.2, fun hg => pm_sound OK n fr lo t as h sz sl r q1 hg q2 q3⟩
        · cases h
end PXV
