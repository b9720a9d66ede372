/-! walks of a method that stands, out of runs of the pure machine -/
section PVW
variable {p : Program} {l : Launch} {e : Env} {R : Room} {s : State} {m : MethodId} {args : Array Value} {below : List Frame} {meth : Method} {c : Code} {Q : State → Prop}
variable {T : pm_Tab} {G Ns : List Cond} {D : va_G} {aC : Nat → ClassId} {b g k fr lo sz0 sl0 : Nat} {st st' : pm_St}
theorem pm_sN_mono : ∀ (n : Nat) {st st' : pm_St}, pm_sN T fr lo k n st = some st' → st.2.2.2.2.1 ≤ st'.2.2.2.2.1 ∧ st.2.2.2.2.2 ≤ st'.2.2.2.2.2
  | 0, st, st', h => by cases (Option.some.inj h : st = st'); exact ⟨Nat.le_refl _, Nat.le_refl _⟩
  | n + 1, st, st', h => by
    unfold pm_sN at h
    split at h
    · rename_i st1 e1
      have h1 := pm_step_mono (fun _ _ _ _ _ _ _ _ q => by cases q) e1
      have h2 := pm_sN_mono n h
      exact ⟨Nat.le_trans h1.1 h2.1, Nat.le_trans h1.2 h2.2⟩
    · cases h
/-- n simple steps -/
theorem pv_steps (OK : pm_ok T G Ns) (hC : pm_C T G Ns D aC b k p s m args meth c) (hfr : R.frames = fr) (hlo : R.locals = lo) (hs0 : s.heap.size = b + sz0 + g) : ∀ (n : Nat) {st st' : pm_St}, pm_sN T fr lo k n st = some st' → (g = 0 ∨ st'.2.2.2.2.1 = sz0) → sz0 ≤ st.2.2.2.2.1 → sl0 ≤ st.2.2.2.2.2 → st'.2.2.2.2.1 ≤ sz0 + R.cells → st'.2.2.2.2.2 ≤ sl0 + R.slots → pm_V p l e R s m args below meth c Q T D aC b k sz0 sl0 st' → pm_V p l e R s m args below meth c Q T D aC b k sz0 sl0 st
  | 0, st, st', h, _, _, _, _, _, kk => by cases (Option.some.inj h : st = st'); exact kk
  | n + 1, st, st', h, hg, h0, h1, hRc, hRs, kk => by
    unfold pm_sN at h
    split at h
    · rename_i st1 e1
      have m1 := pm_step_mono (fun _ _ _ _ _ _ _ _ q => by cases q) e1
      have m2 := pm_sN_mono n h
      refine pm_step_ok OK hC hfr hlo hs0 (by omega) h0 h1 (by omega) (by omega) (go := pm_go0) (fun _ _ _ _ _ _ _ _ _ _ q => by cases q) e1 (pv_steps OK hC hfr hlo hs0 n h hg (by omega) (by omega) hRc hRs kk)
    · cases h
/-- a call, by what the pure machine says of it -/
theorem pv_call (OK : pm_ok T G Ns) (hC : pm_C T G Ns D aC b k p s m args meth c) (hfr : R.frames = fr) (hlo : R.locals = lo) (hs0 : s.heap.size = b + sz0 + g) {t mx : Nat} {As rest : List Value} (h : pm_cd T k st = some (t, As, rest)) (hmx : pm_max T t = mx) (hf : 1 ≤ fr) (hl : 19 + mx ≤ lo) (h0 : sz0 ≤ st.2.2.2.2.1) (h1 : sl0 ≤ st.2.2.2.2.2)
    (kk : pm_WP T (fr - 1) (lo - (19 + mx)) t (0, pm_l0 As mx, [], st.2.2.2) (fun r => (g = 0 ∨ r.2.2.1 = sz0) ∧ r.2.2.1 ≤ sz0 + R.cells ∧ r.2.2.2 ≤ sl0 + R.slots ∧ pm_V p l e R s m args below meth c Q T D aC b k sz0 sl0 (st.1 + 3, st.2.1, r.1.toList ++ rest, r.2))) : pm_V p l e R s m args below meth c Q T D aC b k sz0 sl0 st := by
  subst hmx
  obtain ⟨n, r, hr, hg, hRc, hRs, hV⟩ := kk
  have hs : pm_step T (fun fr lo t as h sz sl => pm_run T n fr lo t (0, pm_l0 as (pm_max T t), [], h, sz, sl)) fr lo k st = some (st.1 + 3, st.2.1, r.1.toList ++ rest, r.2) := by
    unfold pm_cd at h
    unfold pm_step
    cases e1 : pm_ins T k st.1 with
    | none => rw [e1] at h; cases h
    | some il =>
      obtain ⟨i, len⟩ := il
      rw [e1] at h
      dsimp only at h ⊢
      by_cases e2 : pm_lenOk i len = true
      · rw [if_pos e2] at h ⊢
        cases e3 : pm_callee T k i with
        | none => rw [e3] at h; cases h
        | some wt =>
          obtain ⟨w, t'⟩ := wt
          rw [e3] at h
          dsimp only at h ⊢
          split at h
          · rename_i e4
            cases h
            rw [if_pos ⟨e4.1, e4.2.1, e4.2.2.1, hf, hl, e4.2.2.2⟩]
            have e5 : pm_run T n (fr - 1) (lo - (19 + pm_max T t)) t (0, pm_l0 (st.2.2.1.take (pm_na T t)).reverse (pm_max T t), [], st.2.2.2.1, st.2.2.2.2.1, st.2.2.2.2.2) = some r := hr
            rw [e5]
          · cases h
      · rw [if_neg e2] at h; cases h
  refine pm_step_ok OK hC hfr hlo hs0 hg h0 h1 hRc hRs (fun fr lo t as h sz sl r q1 q2 q3 => ?_) hs hV
  have hm3 := pm_mono _ _ _ _ _ _ q3
  exact ⟨hm3.1, hm3.2, fun hg => pm_sound OK n fr lo t as h sz sl r q1 hg q2 q3⟩
/-- the script's cells: .retAddr stands for its address -/
theorem pv_sld (OK : pm_ok T G Ns) (hC : pm_C T G Ns D aC b k p s m args meth c) {iS Ln : Nat} {xs : Nat → Int32} (hX : va_X (aC (1000 + iS)) Ln xs s s.heap) (hbl : aC (1000 + iS) < s.heap.size) (hbA : ¬ b ≤ aC (1000 + iS)) {pc sz sl : Nat} {L : pm_L} {S : List Value} {h : pm_H} {i : Int32} (hin : vp_in i Ln) (hi : pm_ins T k pc = some (.iaload, 1))
    (kk : pm_V p l e R s m args below meth c Q T D aC b k sz0 sl0 (pc + 1, L, .int (xs i.toNatClampNeg) :: S, h, sz, sl)) : pm_V p l e R s m args below meth c Q T D aC b k sz0 sl0 (pc, L, .int i :: .retAddr iS :: S, h, sz, sl) := by
  intro H locs ls hP hS hl
  exact va_sld hC.1 hC.2.1 hX hbl hbA hS hin (OK.1 _ _ _ _ hi) (kk H locs ls hP hS hl)
theorem pv_slen (OK : pm_ok T G Ns) (hC : pm_C T G Ns D aC b k p s m args meth c) {iS Ln : Nat} {xs : Nat → Int32} (hX : va_X (aC (1000 + iS)) Ln xs s s.heap) (hbl : aC (1000 + iS) < s.heap.size) (hbA : ¬ b ≤ aC (1000 + iS)) {pc sz sl : Nat} {L : pm_L} {S : List Value} {h : pm_H} (hi : pm_ins T k pc = some (.arraylength, 1))
    (kk : pm_V p l e R s m args below meth c Q T D aC b k sz0 sl0 (pc + 1, L, .int (Int32.ofNat Ln) :: S, h, sz, sl)) : pm_V p l e R s m args below meth c Q T D aC b k sz0 sl0 (pc, L, .retAddr iS :: S, h, sz, sl) := by
  intro H locs ls hP hS hl
  exact va_slen hC.1 hC.2.1 hX hbl hbA hS (OK.1 _ _ _ _ hi) (kk H locs ls hP hS hl)
/-- what a run answers is of the method's type -/
theorem pm_run_ty : ∀ (n fr lo k : Nat) (st : pm_St) (r : pm_Rs), (pm_ret T k = some .int ∨ pm_ret T k = some .boolean) → pm_run T n fr lo k st = some r → ∃ v, r.1 = some (.int v)
  | 0, _, _, _, _, _, _, h => by cases h
  | n + 1, fr, lo, k, st, r, hr, h => by
    unfold pm_run at h
    split at h
    · rename_i r' e1
      cases h
      unfold pm_end at e1
      split at e1
      · cases e1
      · split at e1
        · split at e1
          · rename_i rv e2
            cases e1
            unfold pm_rets at e2
            split at e2
            · rcases hr with hr | hr
              · rw [hr] at e2; cases e2
              · rw [hr] at e2; cases e2
            · split at e2
              · cases e2; exact ⟨_, rfl⟩
              · split at e2
                · cases e2; exact ⟨_, rfl⟩
                · cases e2
              · cases e2
            · rcases hr with hr | hr
              · rw [hr] at e2; cases e2
              · rw [hr] at e2; cases e2
            · cases e2
          · cases e1
        · cases e1
    · split at h
      · exact pm_run_ty n fr lo k _ r hr h
      · cases h
end PVW
