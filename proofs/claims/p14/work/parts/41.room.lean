/-! more room does no harm; runs that write nothing -/
section RM
variable {T : pm_Tab} {k fr lo fr' lo' pc sz sl : Nat} {L : pm_L} {S : List Value} {h : pm_H} {st st' : pm_St}
theorem pm_lib_room {w : Nat} (hf : fr ≤ fr') (hl : lo ≤ lo') (hh : pm_lib T fr lo w pc L S h sz sl = some st') : pm_lib T fr' lo' w pc L S h sz sl = some st' := by
  unfold pm_lib at hh ⊢
  split at hh
  · split at hh
    · rename_i q; rw [if_pos ⟨by omega, by omega⟩]; exact hh
    · cases hh
  · split at hh
    · rename_i q; rw [if_pos ⟨by omega, by omega⟩]; exact hh
    · cases hh
  · split at hh
    · rename_i q; rw [if_pos ⟨by omega, by omega⟩]; exact hh
    · cases hh
  · split at hh
    · rename_i e1 e2
      split at hh
      · rename_i q; rw [if_pos ⟨⟨by omega, by omega⟩, q.2⟩]; exact hh
      · cases hh
    · cases hh
  · cases hh
theorem pm_libV_room {j : Nat} (hf : fr ≤ fr') (hl : lo ≤ lo') (hh : pm_libV T fr lo k j pc L S h sz sl = some st') : pm_libV T fr' lo' k j pc L S h sz sl = some st' := by
  unfold pm_libV at hh ⊢
  split at hh
  · split at hh
    · rename_i q; rw [if_pos ⟨q.1, by omega, by omega, q.2.2.2⟩]; exact hh
    · cases hh
  · split at hh
    · rename_i q; rw [if_pos ⟨q.1, by omega, by omega, q.2.2.2⟩]; exact hh
    · cases hh
  · cases hh
theorem pm_simple_room {i : Instr} (hf : fr ≤ fr') (hl : lo ≤ lo') (hh : pm_simple T fr lo k i pc L S h sz sl = some st') : pm_simple T fr' lo' k i pc L S h sz sl = some st' := by
  by_cases hi : (∃ j, i = .invokespecial j) ∨ ∃ j, i = .invokestatic j
  · rcases hi with ⟨j, rfl⟩ | ⟨j, rfl⟩
    · have hh : pm_libW T true fr lo k j pc L S h sz sl = some st' := hh
      show pm_libW T true fr' lo' k j pc L S h sz sl = some st'
      unfold pm_libW at hh ⊢
      split at hh
      · rename_i w x e
        split at hh
        · rename_i q; rw [if_pos q]; exact pm_lib_room hf hl hh
        · cases hh
      · cases hh
    · have hh : pm_libW T false fr lo k j pc L S h sz sl = some st' := hh
      show pm_libW T false fr' lo' k j pc L S h sz sl = some st'
      unfold pm_libW at hh ⊢
      split at hh
      · rename_i w x e
        split at hh
        · rename_i q; rw [if_pos q]; exact pm_lib_room hf hl hh
        · cases hh
      · cases hh
  · cases i <;> first | exact hh | exact pm_libV_room hf hl hh | exact absurd (Or.inl ⟨_, rfl⟩) hi | exact absurd (Or.inr ⟨_, rfl⟩) hi | (rename_i a; cases a <;> exact hh)
theorem pm_step_room {go go' : Nat → Nat → Nat → List Value → pm_H → Nat → Nat → Option pm_Rs} (hg : ∀ f l f' l' t as h sz sl r, f ≤ f' → l ≤ l' → go f l t as h sz sl = some r → go' f' l' t as h sz sl = some r) (hf : fr ≤ fr') (hl : lo ≤ lo') (e : pm_step T go fr lo k st = some st') : pm_step T go' fr' lo' k st = some st' := by
  unfold pm_step at e ⊢
  cases e1 : pm_ins T k st.1 with
  | none => rw [e1] at e; cases e
  | some il =>
    obtain ⟨i, len⟩ := il
    rw [e1] at e
    dsimp only at e ⊢
    by_cases e2 : pm_lenOk i len = true
    · rw [if_pos e2] at e ⊢
      cases e3 : pm_callee T k i with
      | none => rw [e3] at e; exact pm_simple_room hf hl e
      | some wt =>
        obtain ⟨w, t⟩ := wt
        rw [e3] at e
        dsimp only at e ⊢
        split at e
        · rename_i e4
          rw [if_pos ⟨e4.1, e4.2.1, e4.2.2.1, by omega, by omega, e4.2.2.2.2.2⟩]
          split at e
          · rename_i rv h1 sz1 sl1 e5
            rw [hg _ _ (fr' - 1) (lo' - (19 + pm_max T t)) _ _ _ _ _ _ (by omega) (by omega) e5]
            exact e
          · cases e
        · cases e
    · rw [if_neg e2] at e; cases e
theorem pm_run_room : ∀ (n fr lo fr' lo' k : Nat) (st : pm_St) (r : pm_Rs), fr ≤ fr' → lo ≤ lo' → pm_run T n fr lo k st = some r → pm_run T n fr' lo' k st = some r
  | 0, _, _, _, _, _, _, _, _, _, h => by cases h
  | n + 1, fr, lo, fr', lo', k, st, r, hf, hl, h => by
    unfold pm_run at h ⊢
    cases e1 : pm_end T k st with
    | some r' => rw [e1] at h; exact h
    | none =>
      rw [e1] at h
      dsimp only at h ⊢
      cases e2 : pm_step T (fun fr lo t as h sz sl => pm_run T n fr lo t (0, pm_l0 as (pm_max T t), [], h, sz, sl)) fr lo k st with
      | none => rw [e2] at h; cases h
      | some st' =>
        rw [e2] at h
        rw [pm_step_room (fun f l f' l' t as h sz sl r q1 q2 q => pm_run_room n f l f' l' t (0, pm_l0 as (pm_max T t), [], h, sz, sl) r q1 q2 q) hf hl e2]
        exact pm_run_room n fr lo fr' lo' k st' r hf hl h
theorem wp_room {Q : pm_Rs → Prop} (hf : fr ≤ fr') (hl : lo ≤ lo') (h : pm_WP T fr lo k st Q) : pm_WP T fr' lo' k st Q := by
  obtain ⟨n, r, h1, h2⟩ := h
  exact ⟨n, r, pm_run_room _ _ _ _ _ _ _ _ hf hl h1, h2⟩
/-! methods that write nothing -/
def nw_i (i : Instr) : Bool := match i with
  | .putfield _ | .iastore | .castore | .bastore | .lastore | .aastore | .newarray _ | .anewarray _ | .new _ => false
  | _ => true
/-- K is closed: nothing in it writes, and it calls nothing outside; of the library it calls Math.min and Math.max alone -/
def nw_ok (T : pm_Tab) (K : Nat → Bool) : Prop := ∀ k pc i len, K k = true → pm_ins T k pc = some (i, len) → nw_i i = true ∧ (∀ w t, pm_callee T k i = some (w, t) → K t = true) ∧ ∀ j w x, (i = .invokestatic j ∨ i = .invokespecial j) → pm_mlk T (pm_o T k) j = some (w, x) → w ≠ 9
set_option maxHeartbeats 4000000 in
theorem pm_simple_nw {i : Instr} (hi : nw_i i = true) (hm : ∀ j w x, (i = .invokestatic j ∨ i = .invokespecial j) → pm_mlk T (pm_o T k) j = some (w, x) → w ≠ 9) (hh : pm_simple T fr lo k i pc L S h sz sl = some st') : st'.2.2.2 = (h, sz, sl) := by
  by_cases hq : (∃ j, i = .invokespecial j) ∨ ∃ j, i = .invokestatic j
  · have key : ∀ sp j, (i = .invokestatic j ∨ i = .invokespecial j) → pm_libW T sp fr lo k j pc L S h sz sl = some st' → st'.2.2.2 = (h, sz, sl) := by
      intro sp j hj hh
      unfold pm_libW at hh
      split at hh
      · rename_i w x e
        have h9 := hm j w x hj e
        split at hh
        · unfold pm_lib at hh
          split at hh
          · split at hh
            · cases hh; rfl
            · cases hh
          · split at hh
            · cases hh; rfl
            · cases hh
          · split at hh
            · cases hh; rfl
            · cases hh
          · exact absurd rfl h9
          · cases hh
        · cases hh
      · cases hh
    rcases hq with ⟨j, rfl⟩ | ⟨j, rfl⟩
    · exact key true j (Or.inr rfl) hh
    · exact key false j (Or.inl rfl) hh
  · unfold pm_simple at hh
    split at hh
    all_goals (try simp only [pm_bi, pm_bd, pm_bl, pm_bdL, pm_ui, pm_lo, pm_so, pm_sL, pm_jp, pm_br, pm_ia, pm_la, pm_qa, pm_al, pm_gf, pm_libV] at hh)
    all_goals (try (cases hi; done))
    all_goals (try (exact absurd (Or.inl ⟨_, rfl⟩) hq))
    all_goals (try (exact absurd (Or.inr ⟨_, rfl⟩) hq))
    all_goals (repeat' split at hh)
    all_goals (first | (cases hh; done) | (cases hh; rfl))
theorem pm_run_nw {K : Nat → Bool} (hK : nw_ok T K) : ∀ (n fr lo k : Nat) (st : pm_St) (r : pm_Rs), K k = true → pm_run T n fr lo k st = some r → r.2 = st.2.2.2
  | 0, _, _, _, _, _, _, h => by cases h
  | n + 1, fr, lo, k, st, r, hk, h => by
    unfold pm_run at h
    split at h
    · rename_i r' e1
      cases h
      unfold pm_end at e1
      split at e1
      · cases e1
      · split at e1
        · split at e1
          · cases e1; rfl
          · cases e1
        · cases e1
    · split at h
      · rename_i st' e2
        have ih := pm_run_nw hK n fr lo k st' r hk h
        rw [ih]
        unfold pm_step at e2
        split at e2
        · cases e2
        · rename_i i len ei
          obtain ⟨n1, n2, n3⟩ := hK k _ i len hk ei
          split at e2
          · split at e2
            · rename_i w t ec
              split at e2
              · split at e2
                · rename_i rv h1 sz1 sl1 e3
                  cases e2
                  exact pm_run_nw hK n _ _ t (0, pm_l0 (st.2.2.1.take (pm_na T t)).reverse (pm_max T t), [], st.2.2.2.1, st.2.2.2.2.1, st.2.2.2.2.2) (rv, h1, sz1, sl1) (n2 w t ec) e3
                · cases e2
              · cases e2
            · exact pm_simple_nw n1 n3 e2
          · cases e2
      · cases h
end RM
