section MG85pxx0
/-! runs that stop at given places -/
section PX
variable {T : pm_Tab} {stop : Nat → Bool} {k fr lo : Nat} {st st' : pm_St}
def px_run (T : pm_Tab) (stop : Nat → Bool) : Nat → Nat → Nat → Nat → pm_St → Option (pm_Rs ⊕ pm_St)
  | 0, _, _, _, _ => none
  | n + 1, fr, lo, k, st => cond (stop st.1) (some (.inr st)) (match pm_end T k st with
    | some r => some (.inl r)
    | none => match pm_step T (fun fr lo t as h sz sl => pm_run T n fr lo t (0, pm_l0 as (pm_max T t), [], h, sz, sl)) fr lo k st with
      | some st' => px_run T stop n fr lo k st'
      | none => none)
def px_sz (o : pm_Rs ⊕ pm_St) : Nat × Nat := match o with
  | .inl r => r.2.2
  | .inr st => st.2.2.2.2
theorem px_mono : ∀ (n fr lo k : Nat) (st : pm_St) (o : pm_Rs ⊕ pm_St), px_run T stop n fr lo k st = some o → st.2.2.2.2.1 ≤ (px_sz o).1 ∧ st.2.2.2.2.2 ≤ (px_sz o).2
  | 0, _, _, _, _, _, h => by cases h
  | n + 1, fr, lo, k, st, o, h => by
    unfold px_run at h
    cases hs : stop st.1 with
    | true =>
      rw [hs] at h
      cases h
      exact ⟨Nat.le_refl _, Nat.le_refl _⟩
    | false =>
      rw [hs] at h
      dsimp only [cond] at h
      split at h
      · rename_i r' e1
        cases h
        unfold pm_end at e1
        split at e1
        · cases e1
        · split at e1
          · split at e1
            · cases e1; exact ⟨Nat.le_refl _, Nat.le_refl _⟩
            · cases e1
          · cases e1
      · split at h
        · rename_i st' e2
          have ih := px_mono n fr lo k st' o h
          have h2 := pm_step_mono (fun fr lo t as h sz sl r q => pm_mono n _ _ _ _ _ q) e2
          omega
        · cases h
/-- from st the method ends with Q, or comes to a place of stop, with X -/
def pw_X (T : pm_Tab) (stop : Nat → Bool) (fr lo k : Nat) (st : pm_St) (Q : pm_Rs → Prop) (X : pm_St → Prop) : Prop := ∃ n o, px_run T stop n fr lo k st = some o ∧ (match o with
  | .inl r => Q r
  | .inr st' => stop st'.1 = true ∧ X st')
variable {Q Q' : pm_Rs → Prop} {X X' : pm_St → Prop}
theorem pw_mono (h : pw_X T stop fr lo k st Q X) (hq : ∀ r, Q r → Q' r) (hx : ∀ s, X s → X' s) : pw_X T stop fr lo k st Q' X' := by
  obtain ⟨n, o, h1, h2⟩ := h
  refine ⟨n, o, h1, ?_⟩
  cases o with
  | inl r => exact hq r h2
  | inr s => exact ⟨h2.1, hx s h2.2⟩
theorem px_run_succ : ∀ (n fr lo k : Nat) (st : pm_St) (o : pm_Rs ⊕ pm_St), px_run T stop n fr lo k st = some o → px_run T stop (n + 1) fr lo k st = some o
  | 0, _, _, _, _, _, h => by cases h
  | n + 1, fr, lo, k, st, o, h => by
    unfold px_run at h
    unfold px_run
    cases hs : stop st.1 with
    | true => rw [hs] at h; exact h
    | false =>
      rw [hs] at h
      dsimp only [cond] at h ⊢
      cases e1 : pm_end T k st with
      | some r' => rw [e1] at h; exact h
      | none =>
        rw [e1] at h
        dsimp only at h ⊢
        cases e2 : pm_step T (fun fr lo t as h sz sl => pm_run T n fr lo t (0, pm_l0 as (pm_max T t), [], h, sz, sl)) fr lo k st with
        | none => rw [e2] at h; cases h
        | some st' =>
          rw [e2] at h
          rw [pm_step_go (fun fr lo t as h sz sl r q => pm_run_succ n _ _ _ _ _ q) e2]
          exact px_run_succ n _ _ _ _ _ h
theorem px_run_le {n n' : Nat} {o : pm_Rs ⊕ pm_St} (hn : n ≤ n') (h : px_run T stop n fr lo k st = some o) : px_run T stop n' fr lo k st = some o := by
  induction hn with
  | refl => exact h
  | step _ ih => exact px_run_succ _ _ _ _ _ _ ih
theorem pw_stop (hs : stop st.1 = true) (hx : X st) : pw_X T stop fr lo k st Q X := ⟨1, .inr st, by unfold px_run; rw [hs]; rfl, hs, hx⟩
theorem pw_step (hs : stop st.1 = false) (h : pm_step T pm_go0 fr lo k st = some st') (kk : pw_X T stop fr lo k st' Q X) : pw_X T stop fr lo k st Q X := by
  obtain ⟨n, o, h1, h2⟩ := kk
  refine ⟨n + 1, o, ?_, h2⟩
  unfold px_run
  rw [hs, pm_end_no h, pm_step_go (go' := fun fr lo t as h sz sl => pm_run T n fr lo t (0, pm_l0 as (pm_max T t), [], h, sz, sl)) (fun _ _ _ _ _ _ _ _ q => by cases q) h]
  exact h1
theorem pw_end {r : pm_Rs} (hs : stop st.1 = false) (h : pm_end T k st = some r) (hq : Q r) : pw_X T stop fr lo k st Q X := ⟨1, .inl r, by unfold px_run; rw [hs, h]; rfl, hq⟩
theorem pm_cd_step {n t : Nat} {As rest : List Value} {r : pm_Rs} (h : pm_cd T k st = some (t, As, rest)) (hf : 1 ≤ fr) (hl : 19 + pm_max T t ≤ lo) (hr : pm_run T n (fr - 1) (lo - (19 + pm_max T t)) t (0, pm_l0 As (pm_max T t), [], st.2.2.2) = some r) : pm_step T (fun fr lo t as h sz sl => pm_run T n fr lo t (0, pm_l0 as (pm_max T t), [], h, sz, sl)) fr lo k st = some (st.1 + 3, st.2.1, r.1.toList ++ rest, r.2) := by
  unfold pm_cd at h
  unfold pm_step
  cases e1 : pm_ins T k st.1 with
  | none => rw [e1] at h; cases h
  | some il =>
    obtain ⟨i, len⟩ := il
    rw [e1] at h
    dsimp only at h ⊢
    by_cases e2 : pm_lenOk i len = true
    · rw [if_pos e2] at h ⊢
      cases e3 : pm_callee T k i with
      | none => rw [e3] at h; cases h
      | some wt =>
        obtain ⟨w, t'⟩ := wt
        rw [e3] at h
        dsimp only at h ⊢
        split at h
        · rename_i e4
          cases h
          rw [if_pos ⟨e4.1, e4.2.1, e4.2.2.1, hf, hl, e4.2.2.2⟩]
          have e5 : pm_run T n (fr - 1) (lo - (19 + pm_max T t)) t (0, pm_l0 (st.2.2.1.take (pm_na T t)).reverse (pm_max T t), [], st.2.2.2.1, st.2.2.2.2.1, st.2.2.2.2.2) = some r := hr
          rw [e5]
        · cases h
    · rw [if_neg e2] at h; cases h
theorem pw_call {t : Nat} {As rest : List Value} (hs : stop st.1 = false) (h : pm_cd T k st = some (t, As, rest)) (hf : 1 ≤ fr) (hl : 19 + pm_max T t ≤ lo)
    (kk : pm_WP T (fr - 1) (lo - (19 + pm_max T t)) t (0, pm_l0 As (pm_max T t), [], st.2.2.2) (fun r => pw_X T stop fr lo k (st.1 + 3, st.2.1, r.1.toList ++ rest, r.2) Q X)) : pw_X T stop fr lo k st Q X := by
  obtain ⟨n, r, h1, n2, o, h2, h3⟩ := kk
  have a1 := pm_run_le (Nat.le_max_left n n2) h1
  have a2 := px_run_le (Nat.le_max_right n n2) h2
  refine ⟨max n n2 + 1, o, ?_, h3⟩
  have hst := pm_cd_step h hf hl a1
  unfold px_run
  rw [hs, pm_end_no hst, hst]
  exact a2
end PX
section PXV
variable {p : Program} {l : Launch} {e : Env} {R : Room} {s : State} {m : MethodId} {args : Array Value} {below : List Frame} {meth : Method} {c : Code} {Q : State → Prop}
variable {T : pm_Tab} {G Ns : List Cond} {D : va_G} {aC : Nat → ClassId} {b g k fr lo sz0 sl0 : Nat} {stop : Nat → Bool}
/-- such a run, in any method that stands -/
theorem px_V (OK : pm_ok T G Ns) (hC : pm_C T G Ns D aC b k p s m args meth c) (hfr : R.frames = fr) (hlo : R.locals = lo) (hs0 : s.heap.size = b + sz0 + g) {o : pm_Rs ⊕ pm_St} (ho : px_sz o = (sz0, sl0))
    (hq : ∀ r st1, o = .inl r → pm_end T k st1 = some r → st1.2.2.2.2 = (sz0, sl0) → pm_V p l e R s m args below meth c Q T D aC b k sz0 sl0 st1) (hx : ∀ st1, o = .inr st1 → pm_V p l e R s m args below meth c Q T D aC b k sz0 sl0 st1) :
    ∀ (n : Nat) (st : pm_St), sz0 ≤ st.2.2.2.2.1 → sl0 ≤ st.2.2.2.2.2 → px_run T stop n fr lo k st = some o → pm_V p l e R s m args below meth c Q T D aC b k sz0 sl0 st
  | 0, _, _, _, h => by cases h
  | n + 1, st, h0, h1, h => by
    have hm := px_mono _ _ _ _ _ _ h
    rw [ho] at hm
    dsimp only at hm
    unfold px_run at h
    cases hs : stop st.1 with
    | true =>
      rw [hs] at h
      cases h
      exact hx st rfl
    | false =>
      rw [hs] at h
      dsimp only [cond] at h
      split at h
      · rename_i r' e1
        cases h
        exact hq r' st rfl e1 (by
          have a : st.2.2.2.2.1 = sz0 := by omega
          have b : st.2.2.2.2.2 = sl0 := by omega
          rw [← a, ← b])
      · split at h
        · rename_i st' e2
          have hm1 := px_mono _ _ _ _ _ _ h
          rw [ho] at hm1
          dsimp only at hm1
          have hm2 := pm_step_mono (fun fr lo t as h sz sl r q => pm_mono n _ _ _ _ _ q) e2
          refine pm_step_ok OK hC hfr hlo hs0 (by omega) h0 h1 (by omega) (by omega) (fun fr lo t as h sz sl r q1 q2 q3 => ?_) e2 (px_V OK hC hfr hlo hs0 ho hq hx n st' (by omega) (by omega) h)
          have hm3 := pm_mono _ _ _ _ _ _ q3
          exact ⟨hm3.1, hm3.2, fun hg => pm_sound OK n fr lo t as h sz sl r q1 hg q2 q3⟩
        · cases h
end PXV
end MG85pxx0
section MG85pxx1
/-! contracts of methods that may stop at given places -/
section SXR
variable {T : pm_Tab} {B : Nat → ac} {sz sl : Nat}
theorem sx_step_ok {F F0 : fr_F} {PP : pm_H → Prop} (hF0 : ∀ h h', fm F0 h h' → fm F h h') (hPP : pp_ok F0 PP) {go : Nat → Nat → Nat → List av → ah → Option (List ar)} {fr lo k : Nat} {s : ast} {ss : List ast} {st : pm_St} {Q : pm_Rs → Prop} {X : pm_St → Prop} {stop : Nat → Bool} (hs0 : stop st.1 = false) (hgo : ∀ fr lo t as o Rc, go fr lo t as o = some Rc → ∀ As h, as_ok As as → ah_ok B sz o h → PP h → pm_WP T fr lo t (0, pm_l0 As (pm_max T t), [], h, sz, sl) (fun x => (∃ r, r ∈ Rc ∧ ar_ok B sz sl r x) ∧ fm F h x.2.1 ∧ PP x.2.1)) (es : aa_stepF T B sz F0 go fr lo k s = some ss) (hok : ast_ok B sz sl s st) (hp : PP st.2.2.2.1) (kk : ∀ st', (∃ t, t ∈ ss ∧ ast_ok B sz sl t st') → fm F st.2.2.2.1 st'.2.2.2.1 → PP st'.2.2.2.1 → pw_X T stop fr lo k st' Q X) : pw_X T stop fr lo k st Q X := by
  unfold aa_stepF at es
  cases ec : aa_cd T B sz k s with
  | some tar =>
    obtain ⟨t, as, rest⟩ := tar
    rw [ec] at es
    dsimp only at es
    split at es
    · rename_i hfl
      split at es
      · rename_i Rc ego
        cases es
        obtain ⟨As, Rest, c1, c2, c3⟩ := aa_cd_ok ec hok
        have hsz := hok.2.2.2.2
        obtain ⟨pc, L, S, h, sz', sl'⟩ := st
        dsimp only at hsz hp kk
        obtain ⟨rfl, rfl⟩ := hsz
        refine pw_call hs0 c1 hfl.1 hfl.2 (wp_mono (hgo _ _ t as _ Rc ego As h c2 hok.2.2.2.1 hp) ?_)
        rintro ⟨rv, h1, sz1, sl1⟩ ⟨⟨r, hr, q1, q2, q3, q4⟩, q5, q6⟩
        refine kk _ ⟨_, List.mem_map_of_mem hr, ?_⟩ q5 q6
        refine ⟨by show pc + 3 = s.1 + 3; rw [← hok.1], hok.2.1, ?_, q2, q3, q4⟩
        obtain ⟨r1, r2⟩ := r
        dsimp only at q1 ⊢
        cases rv with
        | none =>
          cases r1 with
          | none => exact c3
          | some a => exact q1.elim
        | some v =>
          cases r1 with
          | none => exact q1.elim
          | some a => exact ⟨q1, c3⟩
      · cases es
    · cases es
  | none =>
    rw [ec] at es
    dsimp only at es
    cases ei : pm_ins T k s.1 with
    | none => rw [ei] at es; cases es
    | some il =>
      obtain ⟨i, len⟩ := il
      rw [ei] at es
      dsimp only at es
      cases ew : wr T F0 k i s.2.2.1 with
      | false => rw [ew] at es; cases es
      | true =>
        rw [ew] at es
        dsimp only [cond] at es
        split at es
        · rename_i hq
          obtain ⟨h1, hL, hS, hH, h5, h6⟩ := hok
          obtain ⟨pc, L, S, h, sz', sl'⟩ := st
          dsimp only at h1 hL hS hH h5 h6 hp kk
          subst h1 h5 h6
          obtain ⟨st', g1, s2, g2, g3⟩ := aa_simple_ok (pc := s.1) es hL hS hH
          have hfm := wr_ok ew hS g1
          refine pw_step hs0 (st' := st') ?_ (kk _ ⟨s2, g2, g3⟩ (hF0 _ _ hfm) (hPP _ _ hfm hp))
          unfold pm_step
          dsimp only
          rw [ei]
          dsimp only
          rw [if_pos hq.1, hq.2]
          exact g1
        · cases es
/-- runs that stop at the states of Z; nothing is done at a stop -/
def sx_run (stop : Nat → Bool) (Z : List ast) (K : kn) (T : pm_Tab) (B : Nat → ac) (sz : Nat) (F : fr_F) (J : Nat → ast → ast → Bool) (jo : Nat → ar → ar → Bool) (P : Nat → Nat → List sp) : Nat → Nat → Nat → Nat → List ast → List ar → Option (List ar)
  | 0, _, _, _, _, _ => none
  | n + 1, fr, lo, k, W, R => match W with
    | [] => some R
    | s :: W => cond (stop s.1) (cond (Z.any (fun z => ast_le B s z)) (sx_run stop Z K T B sz F J jo P n fr lo k W R) none) (match cx_each (cx_one T B sz F (fun fr lo t as o => match K t as o with
        | some (Rc, Fr, Lo) => if Fr ≤ fr ∧ Lo ≤ lo then some Rc else none
        | none => cx_run K T B sz F J jo P n fr lo t [(0, aa_l0 as (pm_max T t), [], o)] []) fr lo k) (sp_all B sz (P k s.1) [s]) with
      | some (A, ss) => sx_run stop Z K T B sz F J jo P n fr lo k (cx_all B (J k) ss W) (cx_outs B (jo k) A R)
      | none => none)
theorem sx_run_ok {stop : Nat → Bool} {Z : List ast} {F F0 : fr_F} {PP : pm_H → Prop} (hF0 : ∀ h h', fm F0 h h' → fm F h h') (hPP : pp_ok F0 PP) {K : kn} (hK : kn_ok K T B sz F PP) {J : Nat → ast → ast → Bool} {jo : Nat → ar → ar → Bool} {P : Nat → Nat → List sp} : ∀ (n fr lo k : Nat) (W : List ast) (R R' : List ar), sx_run stop Z K T B sz F0 J jo P n fr lo k W R = some R' → (∀ x, (∃ r, r ∈ R ∧ ar_ok B sz sl r x) → ∃ r, r ∈ R' ∧ ar_ok B sz sl r x) ∧ ∀ st, (∃ s, s ∈ W ∧ ast_ok B sz sl s st) → PP st.2.2.2.1 → ∀ (Q : pm_Rs → Prop) (X : pm_St → Prop), (∀ x, (∃ r, r ∈ R' ∧ ar_ok B sz sl r x) → fm F st.2.2.2.1 x.2.1 → PP x.2.1 → Q x) → (∀ st', (∃ z, z ∈ Z ∧ ast_ok B sz sl z st') → fm F st.2.2.2.1 st'.2.2.2.1 → PP st'.2.2.2.1 → X st') → pw_X T stop fr lo k st Q X
  | 0, _, _, _, _, _, _, e => by cases e
  | n + 1, fr, lo, k, W, R, R', e => by
    unfold sx_run at e
    match W, e with
    | [], e =>
      cases (Option.some.inj e : R = R')
      exact ⟨fun x h => h, fun st h => by obtain ⟨s, hs, _⟩ := h; cases hs⟩
    | s :: W, e =>
      dsimp only at e
      cases hst : stop s.1 with
      | true =>
        rw [hst] at e
        dsimp only [cond] at e
        cases hz : Z.any (fun z => ast_le B s z) with
        | false => rw [hz] at e; cases e
        | true =>
        rw [hz] at e
        dsimp only [cond] at e
        obtain ⟨i1, i2⟩ := sx_run_ok hF0 hPP hK n fr lo k _ _ R' e
        refine ⟨i1, fun st h hp Q X hQ hS => ?_⟩
        obtain ⟨s', hs', hok⟩ := h
        rcases List.mem_cons.mp hs' with rfl | hs'
        · obtain ⟨z, hzm, hzl⟩ := List.any_eq_true.mp hz
          exact pw_stop (by rw [hok.1]; exact hst) (hS st ⟨z, hzm, ast_le_ok hzl hok⟩ (fm_rf _) hp)
        · exact i2 st ⟨s', hs', hok⟩ hp Q X hQ hS
      | false =>
        rw [hst] at e
        dsimp only [cond] at e
        split at e
        · rename_i A ss es
          obtain ⟨i1, i2⟩ := sx_run_ok hF0 hPP hK n fr lo k _ _ R' e
          refine ⟨fun x h => i1 x (cx_outs_ok (Or.inr h)), fun st h hp Q X hQ hS => ?_⟩
          obtain ⟨s', hs', hok⟩ := h
          rcases List.mem_cons.mp hs' with rfl | hs'
          · obtain ⟨t, ht, htok⟩ := sp_all_ok (P k s'.1) [s'] ⟨s', List.mem_singleton_self _, hok⟩
            rcases cx_each_mem es t ht with ⟨a, h1, h2⟩ | ⟨st2, h1, h2⟩
            · unfold cx_one at h1
              split at h1
              · rename_i r ee
                cases h1
                obtain ⟨q, e1, e2⟩ := aE_end_ok ee htok
                have hh : q.2.1 = st.2.2.2.1 := by
                  unfold pm_end at e1
                  split at e1
                  · cases e1
                  · split at e1
                    · split at e1
                      · cases e1; rfl
                      · cases e1
                    · cases e1
                refine pw_end (by rw [hok.1]; exact hst) e1 (hQ q (i1 q (cx_outs_ok (Or.inl ⟨_, h2, e2⟩))) ?_ ?_)
                · rw [hh]; exact fm_rf _
                · rw [hh]; exact hp
              · split at h1
                · cases h1
                · cases h1
            · unfold cx_one at h1
              split at h1
              · cases h1
              · split at h1
                · rename_i ss2 ee
                  cases h1
                  refine sx_step_ok hF0 hPP (by rw [hok.1]; exact hst) ?_ ee htok hp (fun st' hst' hf' hp' => ?_)
                  · intro fr lo t as o Rc ego As h hAs hh hph
                    split at ego
                    · rename_i Rc' Fr Lo ek
                      split at ego
                      · rename_i hfl
                        cases ego
                        exact hK t as o Rc Fr Lo ek As h fr lo sl hAs hh hph hfl.1 hfl.2
                      · cases ego
                    · exact (cx_run_ok hF0 hPP hK n fr lo t _ [] Rc ego).2 _ ⟨_, List.mem_singleton_self _, rfl, al_l0 hAs _, trivial, hh, rfl, rfl⟩ hph
                  · obtain ⟨u, hu, huok⟩ := hst'
                    exact i2 st' (cx_all_ok (Or.inl ⟨u, h2 u hu, huok⟩)) hp' Q X (fun x hx hfx => hQ x hx (fm_tr hf' hfx)) (fun st2 hz2 hf2 => hS st2 hz2 (fm_tr hf' hf2))
                · cases h1
          · exact i2 st (cx_all_ok (Or.inr ⟨s', hs', hok⟩)) hp Q X hQ hS
        · cases e
end SXR
end MG85pxx1
section MG85pxx2
/-! the class's four that may throw: they end, or come to a 'new' -/
section THR
def tx_stop (t pc : Nat) : Bool := match pm_ins PT t pc, pm_ins PT t (pc + 3), pm_ins PT t (pc + 4), pm_ins PT t (pc + 7) with
  | some (.new 129, 3), some (.dup, 1), some (.invokespecial 131, 3), some (.athrow, 1) => true
  | _, _, _, _ => false
/-- nothing is joined in court, between, gift -/
def cxJt (k : Nat) (s t : ast) : Bool := cond (Nat.ble 91 k && Nat.ble k 93) false (cxJ k s t)
def sx_chk (Z : List ast) (K : kn) (ps : List sp) (n fr lo k : Nat) (as : List av) (ans : List (Option av)) : Bool := match sx_run (tx_stop k) Z K PT bB 198 cxF cxJt cxjo cxP2 n fr lo k (sp_all bB 198 ps [(0, aa_l0 as (pm_max PT k), [], [])]) [] with
  | some R => R.all (fun r => ans.any (fun a => ao_le r.1 a) && ah_le bB r.2 [])
  | none => false
theorem sx_con {Z : List ast} {K : kn} (hK : kn_ok K PT bB 198 cxF cxQ) {ps : List sp} {n fr lo k : Nat} {as : List av} {ans : List (Option av)} (hZ : ∀ z, z ∈ Z → z.2.2 = ([], [])) (e : sx_chk Z K ps n fr lo k as ans = true) {As : List Value} {h : pm_H} {sl : Nat} (hAs : as_ok As as) (hh : ah_ok bB 198 [] h) : pw_X PT (tx_stop k) fr lo k (0, pm_l0 As (pm_max PT k), [], h, 198, sl) (fun x => (∃ a, a ∈ ans ∧ ao_ok x.1 a) ∧ x.2.2 = (198, sl) ∧ fm cxF h x.2.1 ∧ ah_ok bB 198 [] x.2.1) (fun st => st.2.2.1 = [] ∧ st.2.2.2.2 = (198, sl) ∧ fm cxF h st.2.2.2.1 ∧ ah_ok bB 198 [] st.2.2.2.1) := by
  unfold sx_chk at e
  split at e
  · rename_i R eR
    obtain ⟨t, ht, htok⟩ := sp_all_ok (B := bB) (sz := 198) (sl := sl) (st := (0, pm_l0 As (pm_max PT k), [], h, 198, sl)) ps [(0, aa_l0 as (pm_max PT k), [], [])] ⟨_, List.mem_singleton_self _, rfl, al_l0 hAs _, trivial, hh, rfl, rfl⟩
    refine (sx_run_ok (sl := sl) (fun _ _ q => q) cxpp hK n fr lo k _ [] R eR).2 _ ⟨t, ht, htok⟩ trivial _ _ (fun x hx hf _ => ?_) (fun st' hz hf _ => ?_)
    · obtain ⟨r, hr, q1, q2, q3, q4⟩ := hx
      have er := List.all_eq_true.mp e r hr
      rw [Bool.and_eq_true] at er
      obtain ⟨a, ha, hle⟩ := List.any_eq_true.mp er.1
      obtain ⟨xv, xh, xs, xl⟩ := x
      dsimp only at q3 q4
      subst q3 q4
      exact ⟨⟨a, ha, ao_le_ok hle q1⟩, rfl, hf, ah_le_ok er.2 q2⟩
    · obtain ⟨z, hz1, hz2⟩ := hz
      have e2 := hZ z hz1
      obtain ⟨q1, q2, q3, q4, q5, q6⟩ := hz2
      obtain ⟨pc, L, S, h', s', l'⟩ := st'
      obtain ⟨zp, zL, zS, zo⟩ := z
      cases e2
      dsimp only at q3 q4 q5 q6
      subst q5 q6
      refine ⟨?_, rfl, hf, q4⟩
      cases S with
      | nil => rfl
      | cons v S => exact q3.elim
  · cases e
def zt (n pc : Nat) : ast := (pc, List.replicate n none, [], [])
def cxKt : kn := kl bB cxF [cxt139, cxt91, cxt144, cxt2]
theorem cxKt_ok : kn_ok cxKt PT bB 198 cxF cxQ := kl_ok (List.forall_mem_cons.mpr ⟨cxo139, List.forall_mem_cons.mpr ⟨cxo91, List.forall_mem_cons.mpr ⟨cxo144, List.forall_mem_cons.mpr ⟨cxo2, fun _ h => (by cases h)⟩⟩⟩⟩)
theorem zt_ok {n pc : Nat} : (zt n pc).2.2 = ([], []) := rfl
theorem th_court : sx_chk [zt 3 11, zt 3 156] cxKt [(0, 1, 0, 0, [-1, 5])] 1000 2046 83954 91 [(2, 0, 1), ai_top, ai_top] [some ai_top] = true := by decide +kernel
theorem th_between : sx_chk [zt 5 12, zt 5 106] cxKt [(0, 1, 0, 0, [-1, 5]), (0, 2, 0, 0, [-1, 5])] 1000 2046 83951 92 [(2, 0, 1), ai_top, ai_top, ai_top] [some ai_top] = true := by decide +kernel
theorem th_gift : sx_chk [zt 3 11, zt 3 127] cxKt [(0, 1, 0, 0, [-1, 7])] 1000 2046 83954 93 [(2, 0, 1), ai_top, ai_top] [some ai_top] = true := by decide +kernel
theorem th_row : sx_chk [zt 2 15] cxKt [] 1000 2046 83956 128 [(2, 0, 1), ai_top] [some al_top] = true := by decide +kernel
end THR
end MG85pxx2
section MG85pxx3
/-! the class's court, between, gift, row write nothing on their way -/
section XNW
def px_H (o : pm_Rs ⊕ pm_St) : pm_H := match o with
  | .inl r => r.2.1
  | .inr st => st.2.2.2.1
def nwx_ok (stop : Nat → Bool) (k : Nat) : Prop := ∀ pc i len, stop pc = false → pm_ins PT k pc = some (i, len) → nw_i i = true ∧ (∀ w t, pm_callee PT k i = some (w, t) → nw_K t = true) ∧ ∀ j w x, (i = .invokestatic j ∨ i = .invokespecial j) → pm_mlk PT (pm_o PT k) j = some (w, x) → w ≠ 9
theorem px_run_nw {stop : Nat → Bool} {k : Nat} (hK : nwx_ok stop k) : ∀ (n fr lo : Nat) (st : pm_St) (o : pm_Rs ⊕ pm_St), px_run PT stop n fr lo k st = some o → px_H o = st.2.2.2.1
  | 0, _, _, _, _, h => by cases h
  | n + 1, fr, lo, st, o, h => by
    unfold px_run at h
    cases hs : stop st.1 with
    | true =>
      rw [hs] at h
      cases h
      rfl
    | false =>
      rw [hs] at h
      dsimp only [cond] at h
      split at h
      · rename_i r' e1
        cases h
        unfold pm_end at e1
        split at e1
        · cases e1
        · split at e1
          · split at e1
            · cases e1; rfl
            · cases e1
          · cases e1
      · split at h
        · rename_i st' e2
          rw [px_run_nw hK n fr lo st' o h]
          unfold pm_step at e2
          split at e2
          · cases e2
          · rename_i i len ei
            obtain ⟨n1, n2, n3⟩ := hK _ i len hs ei
            split at e2
            · split at e2
              · rename_i w t ec
                split at e2
                · split at e2
                  · rename_i rv h1 sz1 sl1 e3
                    cases e2
                    have := pm_run_nw nw_class n _ _ t _ (rv, h1, sz1, sl1) (n2 w t ec) e3
                    exact congrArg (fun q : pm_H × Nat × Nat => q.1) this
                  · cases e2
                · cases e2
              · exact congrArg (fun q : pm_H × Nat × Nat => q.1) (pm_simple_nw n1 n3 e2)
            · cases e2
        · cases h
def nwx_b (stop : Nat → Bool) (k : Nat) : Bool := match pd_a2 k with
  | some e => e.2.all (fun c => c.all (fun x => stop x.1 || nw_c k x.2.1))
  | none => true
theorem nwx_of {stop : Nat → Bool} {k : Nat} (hb : nwx_b stop k = true) : nwx_ok stop k := by
  intro pc i len hs hi
  have hi : pd_ins k pc = some (i, len) := hi
  unfold pd_ins at hi
  unfold nwx_b at hb
  split at hi
  · rename_i e ee
    rw [ee] at hb
    dsimp only at hb
    unfold pm_ch at hi
    split at hi
    · rename_i c ec
      have h1 := List.all_eq_true.mp (List.all_eq_true.mp hb c (pm_nth_mem ec)) _ (pm_fd_mem hi)
      rw [hs, Bool.false_or] at h1
      unfold nw_c at h1
      rw [Bool.and_eq_true, Bool.and_eq_true] at h1
      obtain ⟨a1, a2, a3⟩ := h1
      dsimp only at a1 a2 a3
      refine ⟨a1, fun w t ht => ?_, fun j w y hj hm => ?_⟩
      · rw [ht] at a2
        exact a2
      · rcases hj with rfl | rfl
        · dsimp only at a3
          rw [hm] at a3
          dsimp only at a3
          intro h9
          subst h9
          cases a3
        · dsimp only at a3
          rw [hm] at a3
          dsimp only at a3
          intro h9
          subst h9
          cases a3
    · cases hi
  · cases hi
theorem nwx_91 : nwx_ok (tx_stop 91) 91 := nwx_of (by decide +kernel)
theorem nwx_92 : nwx_ok (tx_stop 92) 92 := nwx_of (by decide +kernel)
theorem nwx_93 : nwx_ok (tx_stop 93) 93 := nwx_of (by decide +kernel)
theorem nwx_128 : nwx_ok (tx_stop 128) 128 := nwx_of (by decide +kernel)
end XNW
end MG85pxx3
section MG85pxx4
/-! a callee's throw, caught by the one handler of this method's table; its class may not have been looked up yet -/
section TXC
variable {p : Program} {l : Launch} {e : Env} {R : Room} {s : State} {m : MethodId} {args : Array Value} {below : List Frame} {meth : Method} {c : Code} {T : State} {H : Heap} {locs : List Loc} {cells slots : Nat} {Q : State → Prop}
theorem tx_find {g : JFrame} {a : Addr} {S : State} {x : ExceptionTableEntry} {cT : ClassId} {cell : Cell} (hm : S.vm.method? g.method = some meth) (hc : meth.code = some c) (htab : c.exceptionTable.toList = [x]) (hx : covers x g.pc = true) (h0 : x.catchType ≠ 0)
    (hl : S.vm.ClassLinks e.platform g.method.cls x.catchType cT) (hcell : S.heap[a]? = some cell) (hobj : ∀ k, cell.vm ≠ .statics k) (hk : ∃ k, S.vm.classes[cell.cls]? = some k) (hk2 : ∃ k, S.vm.classes[cT]? = some k) (hfit : S.vm.assignable cell.cls cT = true) (Q : Handler → Pre) (E : CtlPost) (d : Bool) (acts : List Action) :
    wp (findHandler g a) Q E e d acts S ↔ Q (.found x.handlerPc) d acts (S.setVm (S.vm.noted g.method.cls x.catchType (.cls cT))) := by
  rw [W.findHandler_eq hm hc, htab]
  simp only [covers] at hx
  obtain ⟨r1, r2⟩ := (resolveClass_links e.toSetting hl).op (op := VmOp.resolveClass g.method.cls x.catchType) rfl
  have al : S.vm.Alike (S.vm.noted g.method.cls x.catchType (.cls cT)) := (Vm.Alike.refl S.vm).noted _ _ _
  obtain ⟨k1, hk1⟩ := hk
  obtain ⟨k2, hk2⟩ := hk2
  obtain ⟨k1', hk1', -⟩ := al.2.2 _ _ hk1
  obtain ⟨k2', hk2', -⟩ := al.2.2 _ _ hk2
  have hfit' : (S.vm.noted g.method.cls x.catchType (.cls cT)).assignable cell.cls cT = true := by rw [al.assignable]; exact hfit
  simp [findHandler.go, hx, h0, r1, r2, hcell, hobj, hk1', hk2', hfit', VmOp.dirties, VmOp.acts]
theorem tx_step {g : JFrame} {a : Addr} {S : State} {r : List Frame} {pc : Nat} {vm' : Vm} (hf : ∀ (Q : Handler → Pre) (E : CtlPost) (d : Bool) (acts : List Action), wp (findHandler g a) Q E e d acts S ↔ Q (.found pc) d acts (S.setVm vm')) : (stepThrowing e S a (.java g :: r)).1 = (S.setVm vm').setFrames (.java { g with pc := pc, stack := [.ref a] } :: r) := by
  simp only [stepThrowing, searchFrame, vmDo]
  generalize hr : Sem.go _ e false [] S = res
  obtain ⟨as, rfl, ha⟩ := Sem.eq_ok_of hr (a := Handler.found pc) (s' := S.setVm vm') (acts' := []) (by simp [hf _ _ _ _])
  rfl
theorem tx_catch {own name E : String} {ce : Cell} {q : Addr} {x : ExceptionTableEntry} {pc : Nat} {ls : Array Slot} {rest : List Value} (hown : s.vm.findClass own = some m.cls) (htab : c.exceptionTable.toList = [x]) (hx : covers x pc = true) (h0 : x.catchType ≠ 0)
    (hlink : (Cond.classLink own x.catchType name).before args s = true) (hcast : (Cond.castable E name).before args s = true) (hcell : H[q]? = some ce) (hv : ce.vm = .none) (hcl : s.vm.findClass E = some ce.cls)
    (kk : W p l e R s m args below meth c H locs cells slots Q (F0 m x.handlerPc ls [.ref q])) : vx_W p l e R s m args below meth c H locs cells slots Q (F0 m pc ls rest) q := by
  intro T hT X
  have hpl : e.platform.magicAccessors = ({} : Platform).magicAccessors := by rw [X.admits.platform]
  obtain ⟨c3, c4, hc3, hc4, hasg⟩ := Cond.castable_spec hcast
  cases Option.some.inj (hc3.symm.trans hcl)
  obtain ⟨c5, hc5, hcl5⟩ := Cond.classLink_spec hown hlink e.platform hpl
  cases Option.some.inj (hc4.symm.trans hc5)
  obtain ⟨dk, _, _, kt, hd, _, _, _, _, hkt, _, hopen⟩ := hcl5.here
  have hW' : s.WarmedH (T.vm.noted m.cls x.catchType (.cls c4)) := X.warmed.noted hd hopen (State.rightAt_cls hcl5)
  have hal := X.warmed.alike
  obtain ⟨kt', hkt', -⟩ := hal.2.2 _ _ hkt
  have hfit' : T.vm.assignable ce.cls c4 = true := by rw [hal.assignable]; exact hasg
  have hcell' : T.heap[q]? = some ce := by rw [hT]; exact hcell
  obtain ⟨t, a1, b1⟩ := kk (T.setVm (T.vm.noted m.cls x.catchType (.cls c4))) hT (X.noted hW')
  refine ⟨t, ?_, b1⟩
  have hf := tx_find (e := e) (g := F0 m pc ls rest) (a := q) (S := (T.setTop (F0 m pc ls rest)).pushFrame (.throwing q)) (meth := meth) (c := c) (x := x) (cT := c4) (cell := ce) X.method' X.code htab hx h0 (X.warmed.classLinks hcl5) hcell' (VmData.ne_statics_of (by rw [hv]; rfl)) (Vm.classAt_of_assignable hfit' ⟨kt', hkt'⟩) ⟨kt', hkt'⟩ hfit'
  obtain ⟨hgo, hw⟩ := X.here.throwing q (g := F0 m pc ls rest)
  refine Steps.head hgo hw ?_
  rw [stepThread_throwing (frames_entered X.here.top _), tx_step hf]
  obtain ⟨g₀, hg⟩ := Option.isSome_iff_exists.mp X.here.top
  obtain ⟨r, hr⟩ := State.topJava?_eq_some.mp hg
  have hr' : (T.setVm (T.vm.noted m.cls x.catchType (.cls c4))).frames = .java g₀ :: r := hr
  rw [State.setTop_of_frames _ hr'] at a1
  have key : ∀ (u : State) (v : Vm) (F G : List Frame), ((u.setFrames F).setVm v).setFrames G = (u.setVm v).setFrames G := by
    intro u v F G
    have h1 : (u.setFrames F).setVm v = (u.setVm v).setFrames F := rfl
    rw [h1, State.setFrames_setFrames]
  rw [hr, List.tail_cons, State.pushFrame, key, State.setTop_of_frames _ hr, key]
  exact a1
end TXC
end MG85pxx4
