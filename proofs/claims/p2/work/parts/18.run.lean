/-! the soundness of a whole run -/
section PMX
variable {p : Program} {l : Launch} {e : Env} {R : Room} {s : State} {m : MethodId} {args : Array Value} {below : List Frame} {meth : Method} {c : Code} {Q : State → Prop}
variable {T : pm_Tab} {G Ns : List Cond} {D : va_G} {aC : Nat → ClassId} {b g k fr lo sz0 sl0 : Nat} {st st' : pm_St}
theorem pm_step_mono {go : Nat → Nat → Nat → List Value → pm_H → Nat → Nat → Option pm_Rs} (hgo : ∀ fr lo t as h sz sl r, go fr lo t as h sz sl = some r → sz ≤ r.2.2.1 ∧ sl ≤ r.2.2.2) (e2 : pm_step T go fr lo k st = some st') : st.2.2.2.2.1 ≤ st'.2.2.2.2.1 ∧ st.2.2.2.2.2 ≤ st'.2.2.2.2.2 := by
  unfold pm_step at e2
  split at e2
  · cases e2
  · split at e2
    · split at e2
      · split at e2
        · split at e2
          · rename_i e3
            cases e2
            exact hgo _ _ _ _ _ _ _ _ e3
          · cases e2
        · cases e2
      · exact pm_simple_mono e2
    · cases e2
theorem pm_mono : ∀ (n fr lo k : Nat) (st : pm_St) (r : pm_Rs), pm_run T n fr lo k st = some r → st.2.2.2.2.1 ≤ r.2.2.1 ∧ st.2.2.2.2.2 ≤ r.2.2.2
  | 0, _, _, _, _, _, h => by cases h
  | n + 1, fr, lo, k, st, r, h => by
    unfold pm_run at h
    split at h
    · rename_i r' e1
      cases h
      unfold pm_end at e1
      split at e1
      · cases e1
      · split at e1
        · split at e1
          · cases e1; exact ⟨Nat.le_refl _, Nat.le_refl _⟩
          · cases e1
        · cases e1
    · split at h
      · rename_i st' e2
        have ih := pm_mono n fr lo k st' r h
        have h2 := pm_step_mono (fun fr lo t as h sz sl r q => pm_mono n _ _ _ _ _ q) e2
        omega
      · cases h
theorem pm_okM_of (OK : pm_ok T G Ns) {o j w t : Nat} (h : pm_mlk T o j = some (w, t)) (hw : w < 6) : pm_okM T G t := by
  have hk := OK.2.2.2.2.1 _ _ _ _ h
  match w, hw, hk with
  | 0, _, hk => exact hk.1
  | 1, _, hk => exact hk.elim
  | 2, _, hk => exact hk.1
  | 3, _, hk => exact hk.1
  | 4, _, hk => exact hk.1
  | 5, _, hk => exact hk.1
/-- one step, given that callees are sound -/
theorem pm_step_ok (OK : pm_ok T G Ns) (hC : pm_C T G Ns D aC b k p s m args meth c) (hfr : R.frames = fr) (hlo : R.locals = lo) (hs0 : s.heap.size = b + sz0 + g) (hg : g = 0 ∨ st'.2.2.2.2.1 = sz0) (h0 : sz0 ≤ st.2.2.2.2.1) (h1 : sl0 ≤ st.2.2.2.2.2) (hRc : st'.2.2.2.2.1 ≤ sz0 + R.cells) (hRs : st'.2.2.2.2.2 ≤ sl0 + R.slots)
    {go : Nat → Nat → Nat → List Value → pm_H → Nat → Nat → Option pm_Rs} (hgo : ∀ fr lo t as h sz sl r, pm_okM T G t → (pm_args as).length ≤ pm_max T t → go fr lo t as h sz sl = some r → sz ≤ r.2.2.1 ∧ sl ≤ r.2.2.2 ∧ ((g = 0 ∨ r.2.2.1 = sz) → pm_Met T G Ns l D aC b g fr lo t as h sz sl r))
    (hh : pm_step T go fr lo k st = some st')
    (kk : pm_V p l e R s m args below meth c Q T D aC b k sz0 sl0 st') : pm_V p l e R s m args below meth c Q T D aC b k sz0 sl0 st := by
  obtain ⟨pc, L, S, h, sz, sl⟩ := st
  unfold pm_step at hh
  dsimp only at hh h0 h1
  split at hh
  case h_1 => cases hh
  case h_2 i len e1 =>
  have hd := OK.1 _ _ _ _ e1
  split at hh
  case isFalse => cases hh
  case isTrue hlen =>
  split at hh
  case h_2 e2 =>
    have hm := pm_simple_mono hh
    exact pm_simple_ok OK hC hfr hlo hs0 hg h0 h1 hm.1 hm.2 hRc hRs hlen hd hh kk
  case h_1 w t e2 =>
  split at hh
  case isFalse => cases hh
  case isTrue hc =>
  obtain ⟨c1, c2, c3, c4, c5, c6⟩ := hc
  split at hh
  case h_2 => cases hh
  case h_1 rv h1' sz1 sl1 e3 =>
  cases hh
  dsimp only at hRc hRs
  have hx : ∃ o j, pm_mlk T o j = some (w, t) ∧ w < 6 ∧ len = 3 := by
    unfold pm_callee at e2
    split at e2
    case h_4 => cases e2
    case h_1 j =>
      split at e2
      case h_1 e3 => cases e2; exact ⟨_, _, e3, by omega, eq_of_beq hlen⟩
      case h_2 e3 => cases e2; exact ⟨_, _, e3, by omega, eq_of_beq hlen⟩
      case h_3 => cases e2
    case h_2 j =>
      split at e2
      case h_1 e3 => cases e2; exact ⟨_, _, e3, by omega, eq_of_beq hlen⟩
      case h_2 e3 => cases e2; exact ⟨_, _, e3, by omega, eq_of_beq hlen⟩
      case h_3 => cases e2
    case h_3 j =>
      split at e2
      case h_1 e3 => cases e2; exact ⟨_, _, e3, by omega, eq_of_beq hlen⟩
      case h_2 e3 => cases e2; exact ⟨_, _, e3, by omega, eq_of_beq hlen⟩
      case h_3 => cases e2
  obtain ⟨o, j, e4, hw6, rfl⟩ := hx
  obtain ⟨g1, g2, hM⟩ := hgo _ _ t _ _ _ _ _ (pm_okM_of OK e4 hw6) c6 e3
  dsimp only at g1 g2 hg
  exact pm_call (r := (rv, h1', sz1, sl1)) OK hC hfr hlo hs0 (by omega) h0 h1 hd e2 g1 g2 hRc hRs c1 c2 c3 c4 c5 (hM (by dsimp only; omega)) kk
/-- the method's end -/
theorem pm_end_ok (OK : pm_ok T G Ns) (hC : pm_C T G Ns D aC b k p s m args meth c) (hr : meth.sig.returnType = pm_ret T k) (hlocks : meth.locks = false) {r : pm_Rs} (hh : pm_end T k st = some r) : pm_V p l e R s m args below meth c (MQ below (pm_Qc T D aC b r.1 r.2.1 r.2.2.1) args s (r.2.2.1 - sz0) (r.2.2.2 - sl0) (fun q => b ≤ q)) T D aC b k sz0 sl0 st := by
  obtain ⟨pc, L, S, h, sz, sl⟩ := st
  unfold pm_end at hh
  dsimp only at hh
  split at hh
  case h_1 => cases hh
  case h_2 i len e1 =>
  have hd := OK.1 _ _ _ _ e1
  split at hh
  case isFalse => cases hh
  case isTrue hlen =>
  split at hh
  case h_2 => cases hh
  case h_1 rv e2 =>
  cases hh
  have hx := hC.1
  have hb := hC.2.1
  intro H locs ls hP hS hl
  unfold pm_rets at e2
  split at e2
  case h_4 => cases e2
  case h_1 =>
    have hl1 : len = 1 := eq_of_beq hlen
    subst hl1
    split at e2
    case h_2 => cases e2
    case h_1 e3 =>
    cases e2
    exact W.vret hx hb (by rw [hr]; exact e3) (fun t ht hW => ⟨rfl, by rw [ht]; exact hP, hS.F ht⟩) hS.2.2 hd hlocks
  case h_2 v =>
    have hl1 : len = 1 := eq_of_beq hlen
    subst hl1
    split at e2
    case h_3 => cases e2
    case h_1 e3 =>
      cases e2
      exact W.iret hx hb (by rw [hr]; exact e3) (fun t ht hW => ⟨rfl, by rw [ht]; exact hP, hS.F ht⟩) hS.2.2 hd hlocks
    case h_2 e3 =>
      split at e2
      case isFalse => cases e2
      case isTrue e4 =>
      cases e2
      exact W.zret hx hb (by rw [hr]; exact e3) (by rcases e4 with rfl | rfl <;> rfl) (fun t ht hW => ⟨rfl, by rw [ht]; exact hP, hS.F ht⟩) hS.2.2 hd hlocks
  case h_3 v =>
    have hl1 : len = 1 := eq_of_beq hlen
    subst hl1
    split at e2
    case h_2 => cases e2
    case h_1 e3 =>
    cases e2
    exact W.lret hx hb (by rw [hr]; exact e3) (fun t ht hW => ⟨rfl, by rw [ht]; exact hP, hS.F ht⟩) hS.2.2 hd hlocks
/-- callees with n steps are sound -/
def pm_Sd (T : pm_Tab) (G Ns : List Cond) (l : Launch) (D : va_G) (aC : Nat → ClassId) (b g n : Nat) : Prop := ∀ fr lo t as h sz sl r, pm_okM T G t → (g = 0 ∨ r.2.2.1 = sz) → (pm_args as).length ≤ pm_max T t → pm_run T n fr lo t (0, pm_l0 as (pm_max T t), [], h, sz, sl) = some r → pm_Met T G Ns l D aC b g fr lo t as h sz sl r
/-- a run, in any method that stands -/
theorem pm_run_ok (OK : pm_ok T G Ns) (hC : pm_C T G Ns D aC b k p s m args meth c) (hr : meth.sig.returnType = pm_ret T k) (hlk : meth.locks = false) (hfr : R.frames = fr) (hlo : R.locals = lo) (hs0 : s.heap.size = b + sz0 + g) {r : pm_Rs} (hg : g = 0 ∨ r.2.2.1 = sz0) (hRc : r.2.2.1 ≤ sz0 + R.cells) (hRs : r.2.2.2 ≤ sl0 + R.slots)
    (hQ : ∀ st, pm_V p l e R s m args below meth c (MQ below (pm_Qc T D aC b r.1 r.2.1 r.2.2.1) args s (r.2.2.1 - sz0) (r.2.2.2 - sl0) (fun q => b ≤ q)) T D aC b k sz0 sl0 st → pm_V p l e R s m args below meth c Q T D aC b k sz0 sl0 st) :
    ∀ (n : Nat), (∀ n', n' < n → pm_Sd T G Ns l D aC b g n') → ∀ st : pm_St, sz0 ≤ st.2.2.2.2.1 → sl0 ≤ st.2.2.2.2.2 → pm_run T n fr lo k st = some r → pm_V p l e R s m args below meth c Q T D aC b k sz0 sl0 st := by
  intro n
  induction n with
  | zero => intro _ st _ _ h; cases h
  | succ n ih2 =>
    intro ih st h0 h1 h
    unfold pm_run at h
    split at h
    · rename_i r' e1
      cases h
      exact hQ st (pm_end_ok OK hC hr hlk e1)
    · split at h
      · rename_i st' e2
        have hm := pm_mono _ _ _ _ _ _ h
        have hm2 := pm_step_mono (fun fr lo t as h sz sl r q => pm_mono n _ _ _ _ _ q) e2
        refine pm_step_ok OK hC hfr hlo hs0 (by omega) h0 h1 (by omega) (by omega) (fun fr lo t as h sz sl r q1 q2 q3 => ?_) e2 (ih2 (fun n' hn' => ih n' (by omega)) st' (by omega) (by omega) h)
        have hm3 := pm_mono _ _ _ _ _ _ q3
        exact ⟨hm3.1, hm3.2, fun hg => ih n (by omega) fr lo t as h sz sl r q1 hg q2 q3⟩
      · cases h
/-- THE PURE MACHINE IS SOUND -/
theorem pm_sound (OK : pm_ok T G Ns) : ∀ n, pm_Sd T G Ns l D aC b g n := by
  intro n
  induction n using Nat.strongRecOn with
  | _ n ih =>
    intro fr lo t as h sz sl r hm hg hlen hrun
    have hmn := pm_mono _ _ _ _ _ _ hrun
    dsimp only at hmn
    obtain ⟨m1, m2, m3, m4, m5, m6⟩ := hm
    refine Met.ofW (cc := pm_code T t) (maxL := pm_max T t) (ret := pm_ret T t) m1 rfl ?_
    intro p e s m args below meth c s₁ B hml hv
    obtain ⟨rfl, hsz, hP, hK⟩ := hv
    have hts := atoms_spec (ws := pm_ws T G t) B.pre
    have hown : s.vm.findClass (pm_y T t).cls = some m.cls := findClass_of_methodNamed B.named
    have hC : pm_C T G Ns D aC b t p s m (as.map (pm_tr aC b)).toArray meth c := ⟨B.exec, B.bytes, hml, by rw [m2]; exact hown, fun w hw => hts w (List.mem_cons_of_mem _ hw), hK, fun q => by rw [(name_of_methodNamed B.named B.method).1]; exact m6 q⟩
    have key := pm_run_ok (p := p) (l := l) (e := e) (R := (headSpec (pm_ws T G t) (pm_rm fr lo (r.2.2.1 - sz) (r.2.2.2 - sl))).room) (below := below) (b := b) (sz0 := sz) (sl0 := sl) (Q := MQ below (pm_Qc T D aC b r.1 r.2.1 r.2.2.1) (as.map (pm_tr aC b)).toArray s (r.2.2.1 - sz) (r.2.2.2 - sl) (fun q => b ≤ q)) OK hC B.returns B.notSynchronized rfl rfl hsz (r := r) hg (by show r.2.2.1 ≤ sz + (r.2.2.1 - sz); omega) (by show r.2.2.2 ≤ sl + (r.2.2.2 - sl); omega) (fun _ q => q) n ih (0, pm_l0 as (pm_max T t), [], h, sz, sl) (Nat.le_refl _) (Nat.le_refl _) hrun
    have hW := key s.heap [] _ hP va_S.rf (pm_l0_loc aC b as hlen)
    rw [lg_entry_eq]
    dsimp only at hW
    rw [Nat.sub_self, Nat.sub_self] at hW
    exact hW
end PMX
