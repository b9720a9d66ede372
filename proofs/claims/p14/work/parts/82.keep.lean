/-! runs keep what kind of thing lies in a cell -/
section KD
variable {T : pm_Tab} {k fr lo pc sz sl : Nat} {L : pm_L} {S : List Value} {h h' h'' : pm_H} {st st' : pm_St}
def kd_ok (sz : Nat) (h h' : pm_H) : Prop := ∀ a, a < sz → ∀ ci fs, h a = .inr (ci, fs) → ∃ fs', h' a = .inr (ci, fs')
theorem kd_rf : kd_ok sz h h := fun _ _ _ fs e => ⟨fs, e⟩
theorem kd_tr {sz1 : Nat} (h1 : kd_ok sz h h') (hz : sz ≤ sz1) (h2 : kd_ok sz1 h' h'') : kd_ok sz h h'' := fun a ha ci fs e => by
  obtain ⟨fs', e'⟩ := h1 a ha ci fs e
  exact h2 a (by omega) ci fs' e'
theorem kd_new {e : pm_E} : kd_ok sz h (va_up h sz e) := fun a ha ci fs e => ⟨fs, by unfold va_up; rw [if_neg (by omega)]; exact e⟩
theorem kd_arr {a : Nat} {x y : Nat × vp_A} (ha : h a = .inl x) : kd_ok sz h (va_up h a (.inl y)) := fun q hq ci fs e => by
  by_cases hqa : q = a
  · subst hqa
    rw [ha] at e
    cases e
  · exact ⟨fs, by unfold va_up; rw [if_neg hqa]; exact e⟩
theorem kd_iar {ty : FieldType} {a kd n : Nat} {f : Nat → Int32} {y : Nat × vp_A} (e : pm_iar T ty h sz a = some (kd, n, f)) : kd_ok sz h (va_up h a (.inl y)) := kd_arr (pm_iar_inv e).2.1
theorem kd_lar {a kd n : Nat} {f : Nat → Int64} {y : Nat × vp_A} (e : pm_lar T h sz a = some (kd, n, f)) : kd_ok sz h (va_up h a (.inl y)) := kd_arr (pm_lar_inv e).2.1
theorem kd_qar {a kd n : Nat} {f : Nat → Option Nat} {y : Nat × vp_A} (e : pm_qar h sz a = some (kd, n, f)) : kd_ok sz h (va_up h a (.inl y)) := kd_arr (pm_qar_inv e).2
theorem kd_obj {a ci : Nat} {fs fs' : List Value} (e : pm_obj h sz a = some (ci, fs)) : kd_ok sz h (va_up h a (.inr (ci, fs'))) := fun q hq cj gs eq => by
  have ha := (pm_obj_inv e).2
  by_cases hqa : q = a
  · subst hqa
    rw [ha] at eq
    cases eq
    exact ⟨fs', by unfold va_up; rw [if_pos rfl]⟩
  · exact ⟨gs, by unfold va_up; rw [if_neg hqa]; exact eq⟩
set_option maxHeartbeats 4000000 in
theorem pm_simple_keep {i : Instr} (hh : pm_simple T fr lo k i pc L S h sz sl = some st') : kd_ok sz h st'.2.2.2.1 := by
  unfold pm_simple at hh
  split at hh
  all_goals (try simp only [pm_bi, pm_bd, pm_bl, pm_bdL, pm_ui, pm_lo, pm_so, pm_sL, pm_jp, pm_br, pm_ia, pm_iS, pm_la, pm_lS, pm_qa, pm_qS, pm_al, pm_gf, pm_pf, pm_nw, pm_newI, pm_newL, pm_newQ, pm_newO, pm_libW, pm_libV, pm_lib] at hh)
  all_goals (repeat' split at hh)
  all_goals (first | (cases hh; done) | (cases hh; exact kd_rf) | (cases hh; exact kd_new) | (cases hh; exact kd_iar (by assumption)) | (cases hh; exact kd_lar (by assumption)) | (cases hh; exact kd_qar (by assumption)) | (cases hh; exact kd_obj (by assumption)))
theorem pm_step_keep {go : Nat → Nat → Nat → List Value → pm_H → Nat → Nat → Option pm_Rs} (hgo : ∀ fr lo t as h sz sl r, go fr lo t as h sz sl = some r → kd_ok sz h r.2.1) (e2 : pm_step T go fr lo k st = some st') : kd_ok st.2.2.2.2.1 st.2.2.2.1 st'.2.2.2.1 := by
  unfold pm_step at e2
  split at e2
  · cases e2
  · split at e2
    · split at e2
      · split at e2
        · split at e2
          · rename_i e3
            cases e2
            exact hgo _ _ _ _ _ _ _ _ e3
          · cases e2
        · cases e2
      · exact pm_simple_keep e2
    · cases e2
theorem pm_keep : ∀ (n fr lo k : Nat) (st : pm_St) (r : pm_Rs), pm_run T n fr lo k st = some r → kd_ok st.2.2.2.2.1 st.2.2.2.1 r.2.1
  | 0, _, _, _, _, _, h => by cases h
  | n + 1, fr, lo, k, st, r, h => by
    unfold pm_run at h
    split at h
    · rename_i r' e1
      cases h
      unfold pm_end at e1
      split at e1
      · cases e1
      · split at e1
        · split at e1
          · cases e1; exact kd_rf
          · cases e1
        · cases e1
    · split at h
      · rename_i st' e2
        have ih := pm_keep n fr lo k st' r h
        have h2 := pm_step_keep (fun fr lo t as h sz sl r q => pm_keep n _ _ _ _ _ q) e2
        have h3 := pm_step_mono (fun fr lo t as h sz sl r q => pm_mono n _ _ _ _ _ q) e2
        exact kd_tr h2 h3.1 ih
      · cases h
theorem wp_keep {Q : pm_Rs → Prop} (h : pm_WP T fr lo k st Q) : pm_WP T fr lo k st (fun r => Q r ∧ kd_ok st.2.2.2.2.1 st.2.2.2.1 r.2.1) := by
  obtain ⟨n, r, h1, h2⟩ := h
  exact ⟨n, r, h1, h2, pm_keep _ _ _ _ _ _ h1⟩
theorem wp_int {Q : pm_Rs → Prop} (hr : pm_ret T k = some .int ∨ pm_ret T k = some .boolean) (h : pm_WP T fr lo k st Q) : pm_WP T fr lo k st (fun r => Q r ∧ ∃ v, r.1 = some (.int v)) := by
  obtain ⟨n, r, h1, h2⟩ := h
  exact ⟨n, r, h1, h2, pm_run_ty _ _ _ _ _ _ hr h1⟩
end KD
