section MG18runx0
/-! the soundness of a whole run -/
section PMX
variable {p : Program} {l : Launch} {e : Env} {R : Room} {s : State} {m : MethodId} {args : Array Value} {below : List Frame} {meth : Method} {c : Code} {Q : State → Prop}
variable {T : pm_Tab} {G Ns : List Cond} {D : va_G} {aC : Nat → ClassId} {b g k fr lo sz0 sl0 : Nat} {st st' : pm_St}
theorem pm_step_mono {go : Nat → Nat → Nat → List Value → pm_H → Nat → Nat → Option pm_Rs} (hgo : ∀ fr lo t as h sz sl r, go fr lo t as h sz sl = some r → sz ≤ r.2.2.1 ∧ sl ≤ r.2.2.2) (e2 : pm_step T go fr lo k st = some st') : st.2.2.2.2.1 ≤ st'.2.2.2.2.1 ∧ st.2.2.2.2.2 ≤ st'.2.2.2.2.2 := by
  unfold pm_step at e2
  split at e2
  · cases e2
  · split at e2
    · split at e2
      · split at e2
        · split at e2
          · rename_i e3
            cases e2
            exact hgo _ _ _ _ _ _ _ _ e3
          · cases e2
        · cases e2
      · exact pm_simple_mono e2
    · cases e2
theorem pm_mono : ∀ (n fr lo k : Nat) (st : pm_St) (r : pm_Rs), pm_run T n fr lo k st = some r → st.2.2.2.2.1 ≤ r.2.2.1 ∧ st.2.2.2.2.2 ≤ r.2.2.2
  | 0, _, _, _, _, _, h => by cases h
  | n + 1, fr, lo, k, st, r, h => by
    unfold pm_run at h
    split at h
    · rename_i r' e1
      cases h
      unfold pm_end at e1
      split at e1
      · cases e1
      · split at e1
        · split at e1
          · cases e1; exact ⟨Nat.le_refl _, Nat.le_refl _⟩
          · cases e1
        · cases e1
    · split at h
      · rename_i st' e2
        have ih := pm_mono n fr lo k st' r h
        have h2 := pm_step_mono (fun fr lo t as h sz sl r q => pm_mono n _ _ _ _ _ q) e2
        omega
      · cases h
theorem pm_okM_of (OK : pm_ok T G Ns) {o j w t : Nat} (h : pm_mlk T o j = some (w, t)) (hw : w < 6) : pm_okM T G t := by
  have hk := OK.2.2.2.2.1 _ _ _ _ h
  match w, hw, hk with
  | 0, _, hk => exact hk.1
  | 1, _, hk => exact hk.elim
  | 2, _, hk => exact hk.1
  | 3, _, hk => exact hk.1
  | 4, _, hk => exact hk.1
  | 5, _, hk => exact hk.1
/-- one step, given that callees are sound -/
theorem pm_step_ok (OK : pm_ok T G Ns) (hC : pm_C T G Ns D aC b k p s m args meth c) (hfr : R.frames = fr) (hlo : R.locals = lo) (hs0 : s.heap.size = b + sz0 + g) (hg : g = 0 ∨ st'.2.2.2.2.1 = sz0) (h0 : sz0 ≤ st.2.2.2.2.1) (h1 : sl0 ≤ st.2.2.2.2.2) (hRc : st'.2.2.2.2.1 ≤ sz0 + R.cells) (hRs : st'.2.2.2.2.2 ≤ sl0 + R.slots)
    {go : Nat → Nat → Nat → List Value → pm_H → Nat → Nat → Option pm_Rs} (hgo : ∀ fr lo t as h sz sl r, pm_okM T G t → (pm_args as).length ≤ pm_max T t → go fr lo t as h sz sl = some r → sz ≤ r.2.2.1 ∧ sl ≤ r.2.2.2 ∧ ((g = 0 ∨ r.2.2.1 = sz) → pm_Met T G Ns l D aC b g fr lo t as h sz sl r))
    (hh : pm_step T go fr lo k st = some st')
    (kk : pm_V p l e R s m args below meth c Q T D aC b k sz0 sl0 st') : pm_V p l e R s m args below meth c Q T D aC b k sz0 sl0 st := by
  obtain ⟨pc, L, S, h, sz, sl⟩ := st
  unfold pm_step at hh
  dsimp only at hh h0 h1
  split at hh
  case h_1 => cases hh
  case h_2 i len e1 =>
  have hd := OK.1 _ _ _ _ e1
  split at hh
  case isFalse => cases hh
  case isTrue hlen =>
  split at hh
  case h_2 e2 =>
    have hm := pm_simple_mono hh
    exact pm_simple_ok OK hC hfr hlo hs0 hg h0 h1 hm.1 hm.2 hRc hRs hlen hd hh kk
  case h_1 w t e2 =>
  split at hh
  case isFalse => cases hh
  case isTrue hc =>
  obtain ⟨c1, c2, c3, c4, c5, c6⟩ := hc
  split at hh
  case h_2 => cases hh
  case h_1 rv h1' sz1 sl1 e3 =>
  cases hh
  dsimp only at hRc hRs
  have hx : ∃ o j, pm_mlk T o j = some (w, t) ∧ w < 6 ∧ len = 3 := by
    unfold pm_callee at e2
    split at e2
    case h_4 => cases e2
    case h_1 j =>
      split at e2
      case h_1 e3 => cases e2; exact ⟨_, _, e3, by omega, eq_of_beq hlen⟩
      case h_2 e3 => cases e2; exact ⟨_, _, e3, by omega, eq_of_beq hlen⟩
      case h_3 => cases e2
    case h_2 j =>
      split at e2
      case h_1 e3 => cases e2; exact ⟨_, _, e3, by omega, eq_of_beq hlen⟩
      case h_2 e3 => cases e2; exact ⟨_, _, e3, by omega, eq_of_beq hlen⟩
      case h_3 => cases e2
    case h_3 j =>
      split at e2
      case h_1 e3 => cases e2; exact ⟨_, _, e3, by omega, eq_of_beq hlen⟩
      case h_2 e3 => cases e2; exact ⟨_, _, e3, by omega, eq_of_beq hlen⟩
      case h_3 => cases e2
  obtain ⟨o, j, e4, hw6, rfl⟩ := hx
  obtain ⟨g1, g2, hM⟩ := hgo _ _ t _ _ _ _ _ (pm_okM_of OK e4 hw6) c6 e3
  dsimp only at g1 g2 hg
  exact pm_call (r := (rv, h1', sz1, sl1)) OK hC hfr hlo hs0 (by omega) h0 h1 hd e2 g1 g2 hRc hRs c1 c2 c3 c4 c5 (hM (by dsimp only; omega)) kk
/-- the method's end -/
theorem pm_end_ok (OK : pm_ok T G Ns) (hC : pm_C T G Ns D aC b k p s m args meth c) (hr : meth.sig.returnType = pm_ret T k) (hlocks : meth.locks = false) {r : pm_Rs} (hh : pm_end T k st = some r) : pm_V p l e R s m args below meth c (MQ below (pm_Qc T D aC b r.1 r.2.1 r.2.2.1) args s (r.2.2.1 - sz0) (r.2.2.2 - sl0) (fun q => b ≤ q)) T D aC b k sz0 sl0 st := by
  obtain ⟨pc, L, S, h, sz, sl⟩ := st
  unfold pm_end at hh
  dsimp only at hh
  split at hh
  case h_1 => cases hh
  case h_2 i len e1 =>
  have hd := OK.1 _ _ _ _ e1
  split at hh
  case isFalse => cases hh
  case isTrue hlen =>
  split at hh
  case h_2 => cases hh
  case h_1 rv e2 =>
  cases hh
  have hx := hC.1
  have hb := hC.2.1
  intro H locs ls hP hS hl
  unfold pm_rets at e2
  split at e2
  case h_4 => cases e2
  case h_1 =>
    have hl1 : len = 1 := eq_of_beq hlen
    subst hl1
    split at e2
    case h_2 => cases e2
    case h_1 e3 =>
    cases e2
    exact W.vret hx hb (by rw [hr]; exact e3) (fun t ht hW => ⟨rfl, by rw [ht]; exact hP, hS.F ht⟩) hS.2.2 hd hlocks
  case h_2 v =>
    have hl1 : len = 1 := eq_of_beq hlen
    subst hl1
    split at e2
    case h_3 => cases e2
    case h_1 e3 =>
      cases e2
      exact W.iret hx hb (by rw [hr]; exact e3) (fun t ht hW => ⟨rfl, by rw [ht]; exact hP, hS.F ht⟩) hS.2.2 hd hlocks
    case h_2 e3 =>
      split at e2
      case isFalse => cases e2
      case isTrue e4 =>
      cases e2
      exact W.zret hx hb (by rw [hr]; exact e3) (by rcases e4 with rfl | rfl <;> rfl) (fun t ht hW => ⟨rfl, by rw [ht]; exact hP, hS.F ht⟩) hS.2.2 hd hlocks
  case h_3 v =>
    have hl1 : len = 1 := eq_of_beq hlen
    subst hl1
    split at e2
    case h_2 => cases e2
    case h_1 e3 =>
    cases e2
    exact W.lret hx hb (by rw [hr]; exact e3) (fun t ht hW => ⟨rfl, by rw [ht]; exact hP, hS.F ht⟩) hS.2.2 hd hlocks
/-- callees with n steps are sound -/
def pm_Sd (T : pm_Tab) (G Ns : List Cond) (l : Launch) (D : va_G) (aC : Nat → ClassId) (b g n : Nat) : Prop := ∀ fr lo t as h sz sl r, pm_okM T G t → (g = 0 ∨ r.2.2.1 = sz) → (pm_args as).length ≤ pm_max T t → pm_run T n fr lo t (0, pm_l0 as (pm_max T t), [], h, sz, sl) = some r → pm_Met T G Ns l D aC b g fr lo t as h sz sl r
/-- a run, in any method that stands -/
theorem pm_run_ok (OK : pm_ok T G Ns) (hC : pm_C T G Ns D aC b k p s m args meth c) (hr : meth.sig.returnType = pm_ret T k) (hlk : meth.locks = false) (hfr : R.frames = fr) (hlo : R.locals = lo) (hs0 : s.heap.size = b + sz0 + g) {r : pm_Rs} (hg : g = 0 ∨ r.2.2.1 = sz0) (hRc : r.2.2.1 ≤ sz0 + R.cells) (hRs : r.2.2.2 ≤ sl0 + R.slots)
    (hQ : ∀ st, pm_V p l e R s m args below meth c (MQ below (pm_Qc T D aC b r.1 r.2.1 r.2.2.1) args s (r.2.2.1 - sz0) (r.2.2.2 - sl0) (fun q => b ≤ q)) T D aC b k sz0 sl0 st → pm_V p l e R s m args below meth c Q T D aC b k sz0 sl0 st) :
    ∀ (n : Nat), (∀ n', n' < n → pm_Sd T G Ns l D aC b g n') → ∀ st : pm_St, sz0 ≤ st.2.2.2.2.1 → sl0 ≤ st.2.2.2.2.2 → pm_run T n fr lo k st = some r → pm_V p l e R s m args below meth c Q T D aC b k sz0 sl0 st := by
  intro n
  induction n with
  | zero => intro _ st _ _ h; cases h
  | succ n ih2 =>
    intro ih st h0 h1 h
    unfold pm_run at h
    split at h
    · rename_i r' e1
      cases h
      exact hQ st (pm_end_ok OK hC hr hlk e1)
    · split at h
      · rename_i st' e2
        have hm := pm_mono _ _ _ _ _ _ h
        have hm2 := pm_step_mono (fun fr lo t as h sz sl r q => pm_mono n _ _ _ _ _ q) e2
        refine pm_step_ok OK hC hfr hlo hs0 (by omega) h0 h1 (by omega) (by omega) (fun fr lo t as h sz sl r q1 q2 q3 => ?_) e2 (ih2 (fun n' hn' => ih n' (by omega)) st' (by omega) (by omega) h)
        have hm3 := pm_mono _ _ _ _ _ _ q3
        exact ⟨hm3.1, hm3.2, fun hg => ih n (by omega) fr lo t as h sz sl r q1 hg q2 q3⟩
      · cases h
/-- THE PURE MACHINE IS SOUND -/
theorem pm_sound (OK : pm_ok T G Ns) : ∀ n, pm_Sd T G Ns l D aC b g n := by
  intro n
  induction n using Nat.strongRecOn with
  | _ n ih =>
    intro fr lo t as h sz sl r hm hg hlen hrun
    have hmn := pm_mono _ _ _ _ _ _ hrun
    dsimp only at hmn
    obtain ⟨m1, m2, m3, m4, m5, m6⟩ := hm
    refine Met.ofW (cc := pm_code T t) (maxL := pm_max T t) (ret := pm_ret T t) m1 rfl ?_
    intro p e s m args below meth c s₁ B hml hv
    obtain ⟨rfl, hsz, hP, hK⟩ := hv
    have hts := atoms_spec (ws := pm_ws T G t) B.pre
    have hown : s.vm.findClass (pm_y T t).cls = some m.cls := findClass_of_methodNamed B.named
    have hC : pm_C T G Ns D aC b t p s m (as.map (pm_tr aC b)).toArray meth c := ⟨B.exec, B.bytes, hml, by rw [m2]; exact hown, fun w hw => hts w (List.mem_cons_of_mem _ hw), hK, fun q => by rw [(name_of_methodNamed B.named B.method).1]; exact m6 q⟩
    have key := pm_run_ok (p := p) (l := l) (e := e) (R := (headSpec (pm_ws T G t) (pm_rm fr lo (r.2.2.1 - sz) (r.2.2.2 - sl))).room) (below := below) (b := b) (sz0 := sz) (sl0 := sl) (Q := MQ below (pm_Qc T D aC b r.1 r.2.1 r.2.2.1) (as.map (pm_tr aC b)).toArray s (r.2.2.1 - sz) (r.2.2.2 - sl) (fun q => b ≤ q)) OK hC B.returns B.notSynchronized rfl rfl hsz (r := r) hg (by show r.2.2.1 ≤ sz + (r.2.2.1 - sz); omega) (by show r.2.2.2 ≤ sl + (r.2.2.2 - sl); omega) (fun _ q => q) n ih (0, pm_l0 as (pm_max T t), [], h, sz, sl) (Nat.le_refl _) (Nat.le_refl _) hrun
    have hW := key s.heap [] _ hP va_S.rf (pm_l0_loc aC b as hlen)
    rw [lg_entry_eq]
    dsimp only at hW
    rw [Nat.sub_self, Nat.sub_self] at hW
    exact hW
end PMX
end MG18runx0
section MG18runx1
/-! THE TABLES of this claim, and that they are right -/
abbrev pd_I : Type := List (List (Nat × Instr × Nat))
def pl_0 : List (pm_M × pd_I) := [((yX0_init, prog_2_method_1_code, 2, none, 0, 2, 100), im_0), ((yX0_hear, prog_2_method_2_code, 3, some .boolean, 0, 3, 0), im_1), ((yX0_canBe, prog_2_method_3_code, 2, some .boolean, 0, 2, 0), im_2), ((yX0_fitting, prog_2_method_4_code, 4, some .int, 0, 2, 0), im_3), ((yX0_fitsAll, prog_2_method_5_code, 4, some .boolean, 0, 3, 0), im_4), ((yX0_fitsOne, prog_2_method_6_code, 5, some .boolean, 0, 5, 0), im_5), ((yX1_init, prog_3_method_1_code, 2, none, 1, 2, 101), im_6), ((yX1_owedBy, prog_3_method_2_code, 5, some .int, 1, 3, 1), im_7), ((yX1_owedTo, prog_3_method_3_code, 5, some .int, 1, 3, 1), im_8), ((yX1_allDues, prog_3_method_4_code, 4, some .int, 1, 2, 1), im_9), ((yX1_openNets, prog_3_method_5_code, 5, some .int, 1, 2, 1), im_10), ((yX1_fewestPayments, prog_3_method_6_code, 6, some .int, 1, 2, 1), im_11), ((yX1_shortestRing, prog_3_method_7_code, 4, some .int, 1, 2, 1), im_12), ((yX1_closes, prog_3_method_8_code, 7, some .boolean, 1, 5, 1), im_13), ((yX1_leastDue, prog_3_method_9_code, 6, some .int, 1, 3, 1), im_14), ((yX2_init, prog_4_method_1_code, 2, none, 2, 1, 102), im_15)]
def pl_1 : List (pm_M × pd_I) := [((yX2_mark, prog_4_method_2_code, 2, none, 2, 2, 2), im_16), ((yX2_commit, prog_4_method_3_code, 1, none, 2, 1, 2), im_17), ((yX2_remember, prog_4_method_4_code, 2, none, 2, 2, 2), im_18), ((yX2_restore, prog_4_method_5_code, 2, some .boolean, 2, 2, 2), im_19), ((yX2_clear, prog_4_method_6_code, 1, none, 2, 1, 2), im_20), ((yX2_slotOf, prog_4_method_7_code, 2, some .int, 2, 2, 2), im_21), ((yX3_init, prog_5_method_1_code, 1, none, 3, 1, 103), im_22), ((yX3_isCourt, prog_5_method_2_code, 2, some .boolean, 3, 2, 3), im_23), ((yX3_areTwoCourts, prog_5_method_3_code, 3, some .boolean, 3, 3, 3), im_24), ((yX3_isGift, prog_5_method_4_code, 2, some .boolean, 3, 2, 3), im_25), ((yX3_noteCourt, prog_5_method_5_code, 4, none, 3, 4, 3), im_26), ((yX3_noteGift, prog_5_method_6_code, 5, none, 3, 5, 3), im_27), ((yX3_tasteOf, prog_5_method_7_code, 3, some .int, 3, 3, 3), im_28), ((yX3_heldBy, prog_5_method_8_code, 5, some .int, 3, 3, 3), im_29), ((yX3_formerlyOf, prog_5_method_9_code, 5, some .int, 3, 3, 3), im_30), ((yX3_alliesOf, prog_5_method_10_code, 6, some .int, 3, 3, 3), im_31)]
def pl_2 : List (pm_M × pd_I) := [((yX3_foesOf, prog_5_method_11_code, 6, some .int, 3, 3, 3), im_32), ((yX3_alliedPairs, prog_5_method_12_code, 4, some .int, 3, 2, 3), im_33), ((yX3_warringPairs, prog_5_method_13_code, 4, some .int, 3, 2, 3), im_34), ((yX3_roadsThere, prog_5_method_14_code, 4, some .int, 3, 1, 3), im_35), ((yX3_allGrain, prog_5_method_15_code, 4, some .int, 3, 2, 3), im_36), ((yX3_esteemFor, prog_5_method_16_code, 5, some .int, 3, 3, 3), im_37), ((yX3_allEsteem, prog_5_method_17_code, 4, some .int, 3, 2, 3), im_38), ((yX3_valueFor, prog_5_method_18_code, 5, some .int, 3, 5, 3), im_39), ((yX3_deliver, prog_5_method_19_code, 9, none, 3, 5, 3), im_40), ((yX3_isEater, prog_5_method_20_code, 3, some .boolean, 3, 3, 3), im_41), ((yX3_passMonth, prog_5_method_21_code, 3, none, 3, 2, 3), im_42), ((yX3_passMonthAt, prog_5_method_22_code, 5, none, 3, 3, 3), im_43), ((yX3_firstDeath, prog_5_method_23_code, 5, some .int, 3, 3, 3), im_44), ((yX4_init, prog_6_method_1_code, 2, none, 4, 2, 104), im_45), ((yX4_fewestMonths, prog_6_method_2_code, 5, some .int, 4, 3, 4), im_46), ((yX4_shorten, prog_6_method_3_code, 4, none, 4, 2, 4), im_47)]
def pl_3 : List (pm_M × pd_I) := [((yX4_tellWay, prog_6_method_4_code, 5, none, 4, 3, 4), im_48), ((yX4_firstNext, prog_6_method_5_code, 4, some .int, 4, 2, 4), im_49), ((yX4_fewestFedMonths, prog_6_method_6_code, 7, some .int, 4, 5, 4), im_50), ((yX4_goOn, prog_6_method_7_code, 9, none, 4, 5, 4), im_51), ((yX5_init, prog_7_method_1_code, 1, none, 5, 1, 105), im_52), ((yX5_clear, prog_7_method_2_code, 1, none, 5, 1, 5), im_53), ((yX5_tell, prog_7_method_3_code, 3, none, 5, 2, 5), im_54), ((yX5_tellOne, prog_7_method_4_code, 3, none, 5, 2, 5), im_55), ((yX5_tellTwo, prog_7_method_5_code, 5, none, 5, 3, 5), im_56), ((yX6_init, prog_8_method_1_code, 2, none, 6, 2, 106), im_57), ((yX6_read, prog_8_method_2_code, 2, some .int, 6, 1, 6), im_58), ((yX6_beFirstRule, prog_8_method_3_code, 1, none, 6, 1, 6), im_59), ((yX6_emit, prog_8_method_4_code, 2, none, 6, 2, 6), im_60), ((yX6_nextSign, prog_8_method_5_code, 1, some .int, 6, 1, 6), im_61), ((yX6_readLevel, prog_8_method_6_code, 6, some .boolean, 6, 3, 6), im_62), ((yX6_levelOf, prog_8_method_7_code, 1, some .int, 6, 1, 6), im_63)]
def pl_4 : List (pm_M × pd_I) := [((yX6_readSigned, prog_8_method_8_code, 4, some .boolean, 6, 2, 6), im_64), ((yX6_readThing, prog_8_method_9_code, 3, some .boolean, 6, 2, 6), im_65), ((yX6_readNumber, prog_8_method_10_code, 4, none, 6, 1, 6), im_66), ((yX6_letterOf, prog_8_method_11_code, 1, some .int, 6, 1, 6), im_67), ((yX6_evaluate, prog_8_method_12_code, 6, some .int, 6, 2, 6), im_68), ((yX6_push, prog_8_method_13_code, 2, none, 6, 2, 6), im_69), ((yX6_pop, prog_8_method_14_code, 1, some .int, 6, 1, 6), im_70), ((yX6_joined, prog_8_method_15_code, 3, some .int, 6, 3, 6), im_71), ((yX7_init, prog_9_method_1_code, 1, none, 7, 1, 107), im_72), ((yX7_copyFrom, prog_9_method_2_code, 2, none, 7, 2, 7), im_73), ((yX7_isDead, prog_9_method_3_code, 2, some .boolean, 7, 2, 7), im_74), ((yX7_hadIt, prog_9_method_4_code, 3, some .boolean, 7, 3, 7), im_75), ((yX7_isWelcome, prog_9_method_5_code, 3, some .boolean, 7, 3, 7), im_76), ((yX7_esteemGained, prog_9_method_6_code, 5, some .int, 7, 5, 7), im_77), ((yX8_init, prog_10_method_1_code, 1, none, 8, 1, 108), im_78), ((yX8_addFour, prog_10_method_2_code, 3, some .boolean, 8, 2, 8), im_79)]
def pl_5 : List (pm_M × pd_I) := [((yX8_signAt, prog_10_method_3_code, 3, some .int, 8, 3, 8), im_80), ((yX8_digitAt, prog_10_method_4_code, 4, some .int, 8, 3, 8), im_81), ((yX9_init, prog_11_method_1_code, 3, none, 9, 3, 109), im_82), ((yX9_fewestGifts, prog_11_method_2_code, 6, some .int, 9, 4, 9), im_83), ((yX9_goOn, prog_11_method_3_code, 9, none, 9, 6, 9), im_84), ((yX10_init, prog_1_method_1_code, 2, none, 10, 1, 110), im_85), ((yX10_sign, prog_1_method_2_code, 2, some .int, 10, 2, 10), im_86), ((yX10_end, prog_1_method_3_code, 2, some .boolean, 10, 2, 10), im_87), ((yX10_courts, prog_1_method_4_code, 3, some .int, 10, 1, 10), im_88), ((yX10_gifts, prog_1_method_5_code, 2, some .int, 10, 1, 10), im_89), ((yX10_rule, prog_1_method_6_code, 3, some .int, 10, 1, 10), im_90), ((yX10_court, prog_1_method_7_code, 3, some .int, 10, 3, 10), im_91), ((yX10_between, prog_1_method_8_code, 5, some .int, 10, 4, 10), im_92), ((yX10_gift, prog_1_method_9_code, 3, some .int, 10, 3, 10), im_93), ((yX10_road, prog_1_method_10_code, 5, some .int, 10, 4, 10), im_94), ((yX10_sheet, prog_1_method_11_code, 8, some .int, 10, 5, 10), im_95)]
def pl_6 : List (pm_M × pd_I) := [((yX10_send, prog_1_method_12_code, 7, some .int, 10, 3, 10), im_96), ((yX10_months, prog_1_method_13_code, 4, some .int, 10, 2, 10), im_97), ((yX10_envoy, prog_1_method_14_code, 4, some .int, 10, 4, 10), im_98), ((yX10_forgive, prog_1_method_15_code, 5, some .int, 10, 3, 10), im_99), ((yX10_year, prog_1_method_16_code, 6, some .int, 10, 1, 10), im_100), ((yX10_undo, prog_1_method_17_code, 1, some .int, 10, 1, 10), im_101), ((yX10_value, prog_1_method_18_code, 3, some .int, 10, 3, 10), im_102), ((yX10_where, prog_1_method_19_code, 7, some .int, 10, 2, 10), im_103), ((yX10_answer, prog_1_method_20_code, 12, some .int, 10, 3, 10), im_104), ((yX10_wins, prog_1_method_21_code, 5, some .int, 10, 3, 10), im_105), ((yX10_unseen, prog_1_method_22_code, 6, some .int, 10, 2, 10), im_106), ((yX10_swaps, prog_1_method_23_code, 6, some .int, 10, 1, 10), im_107), ((yX10_way, prog_1_method_24_code, 4, some .int, 10, 3, 10), im_108), ((yX10_walks, prog_1_method_25_code, 6, some .int, 10, 5, 10), im_109), ((yX10_alive, prog_1_method_26_code, 5, some .int, 10, 4, 10), im_110), ((yX10_feeds, prog_1_method_27_code, 3, some .int, 10, 2, 10), im_111)]
def pl_7 : List (pm_M × pd_I) := [((yX10_starves, prog_1_method_28_code, 7, some .int, 10, 3, 10), im_112), ((yX10_net, prog_1_method_29_code, 4, some .int, 10, 2, 10), im_113), ((yX10_settle, prog_1_method_30_code, 2, some .int, 10, 1, 10), im_114), ((yX10_ring, prog_1_method_31_code, 3, some .int, 10, 1, 10), im_115), ((yX10_ranks, prog_1_method_32_code, 5, some .int, 10, 1, 10), im_116), ((yX10_league, prog_1_method_33_code, 3, some .int, 10, 1, 10), im_117), ((yX10_heard, prog_1_method_34_code, 3, some .int, 10, 3, 10), im_118), ((yX10_forget, prog_1_method_35_code, 2, some .int, 10, 1, 10), im_119), ((yX10_fits, prog_1_method_36_code, 4, some .int, 10, 1, 10), im_120), ((yX10_ask, prog_1_method_37_code, 7, some .int, 10, 1, 10), im_121), ((yX10_law, prog_1_method_38_code, 4, some .int, 10, 1, 10), im_122), ((yX10_rests, prog_1_method_39_code, 5, some .int, 10, 2, 10), im_123), ((yX10_years, prog_1_method_40_code, 8, some .int, 10, 3, 10), im_124), ((yX10_keep, prog_1_method_41_code, 2, some .boolean, 10, 2, 10), im_125), ((yX10_again, prog_1_method_42_code, 2, some .boolean, 10, 2, 10), im_126), ((yX10_count, prog_1_method_43_code, 2, some .int, 10, 2, 10), im_127)]
def pl_8 : List (pm_M × pd_I) := [((yX10_row, prog_1_method_44_code, 2, some .long, 10, 2, 10), im_128), ((yX10_readCourts, prog_1_method_45_code, 6, some .int, 10, 1, 10), im_129), ((yX10_readGifts, prog_1_method_46_code, 4, some .int, 10, 1, 10), im_130), ((yX10_readGift, prog_1_method_47_code, 9, some .int, 10, 3, 10), im_131), ((yX10_settleIn, prog_1_method_48_code, 3, none, 10, 2, 10), im_132), ((yX10_forgetStates, prog_1_method_49_code, 1, none, 10, 1, 10), im_133), ((yX10_yearFault, prog_1_method_50_code, 6, some .int, 10, 1, 10), im_134), ((yX10_actSigns, prog_1_method_51_code, 1, some .int, 10, 1, 10), im_135), ((yX10_sendRefusal, prog_1_method_52_code, 3, some .int, 10, 3, 10), im_136), ((yX10_isEnvoyRefused, prog_1_method_53_code, 4, some .boolean, 10, 4, 10), im_137), ((yX10_hearEnvoy, prog_1_method_54_code, 5, none, 10, 4, 10), im_138), ((yX10_forgiveRefusal, prog_1_method_55_code, 3, some .int, 10, 3, 10), im_139), ((yX10_passMonths, prog_1_method_56_code, 3, none, 10, 2, 10), im_140), ((yX10_doAct, prog_1_method_57_code, 5, some .boolean, 10, 2, 10), im_141), ((yX10_actSend, prog_1_method_58_code, 3, some .boolean, 10, 3, 10), im_142), ((yX10_actForgive, prog_1_method_59_code, 3, some .boolean, 10, 3, 10), im_143)]
def pl_9 : List (pm_M × pd_I) := [((yX10_actEnvoy, prog_1_method_60_code, 4, some .boolean, 10, 4, 10), im_144), ((yX10_tryDelivery, prog_1_method_61_code, 3, some .boolean, 10, 3, 10), im_145), ((yX10_swapGain, prog_1_method_62_code, 7, some .int, 10, 3, 10), im_146), ((yX10_mostEsteemedBut, prog_1_method_63_code, 6, some .int, 10, 2, 10), im_147), ((yX10_isLeague, prog_1_method_64_code, 4, some .boolean, 10, 2, 10), im_148), ((yX10_worthAtHome, prog_1_method_65_code, 4, some .int, 10, 2, 10), im_149), ((yX10_tellFraction, prog_1_method_66_code, 7, none, 10, 3, 10), im_150), ((yX10_greatestDivisor, prog_1_method_67_code, 11, some .long, 10, 2, 10), im_151), ((yX10_power, prog_1_method_68_code, 5, some .long, 10, 2, 10), im_152), ((yX10_isBestReply, prog_1_method_69_code, 4, some .boolean, 10, 3, 10), im_153), ((yX10_gainOf, prog_1_method_70_code, 5, some .int, 10, 3, 10), im_154), ((yX10_nextDraw, prog_1_method_71_code, 1, some .int, 10, 1, 10), im_155), ((yX10_drawOf, prog_1_method_72_code, 2, some .int, 10, 2, 10), im_156), ((yX10_sheetEntry, prog_1_method_73_code, 2, some .int, 10, 2, 10), im_157), ((yX10_firstOf, prog_1_method_74_code, 2, some .int, 10, 1, 10), im_158), ((yX10_clamped, prog_1_method_75_code, 2, some .int, 10, 2, 10), im_159)]
def pl_10 : List (pm_M × pd_I) := [((yX10_pairOf, prog_1_method_76_code, 2, some .int, 10, 2, 10), im_160), ((yX11_init, prog_13_method_1_code, 1, none, 11, 1, 111), im_161), ((yX11_refuse, prog_13_method_3_code, 1, some .int, 11, 1, 11), im_162), ((yX11_in, prog_13_method_4_code, 6, some .boolean, 11, 3, 11), im_163), ((yX11_has, prog_13_method_5_code, 2, some .boolean, 11, 2, 11), im_164), ((yX11_flag, prog_13_method_6_code, 1, some .int, 11, 1, 11), im_165), ((yX11_common, prog_13_method_7_code, 4, some .long, 11, 2, 11), im_166), ((yX11_enters, prog_13_method_8_code, 3, none, 11, 2, 11), im_167), ((yX11_isCourt, prog_13_method_9_code, 2, some .boolean, 11, 2, 11), im_168), ((yX11_isGift, prog_13_method_10_code, 2, some .boolean, 11, 2, 11), im_169), ((yX11_arePair, prog_13_method_11_code, 3, some .boolean, 11, 3, 11), im_170), ((yX11_likes, prog_13_method_12_code, 3, some .int, 11, 3, 11), im_171), ((yX11_owes, prog_13_method_13_code, 3, some .int, 11, 3, 11), im_172), ((yX11_isDead, prog_13_method_14_code, 2, some .boolean, 11, 2, 11), im_173), ((yX11_giftsOf, prog_13_method_15_code, 5, some .int, 11, 3, 11), im_174), ((yX11_areAllied, prog_13_method_16_code, 3, some .boolean, 11, 3, 11), im_175)]
def pl_11 : List (pm_M × pd_I) := [((yX11_areAtWar, prog_13_method_17_code, 3, some .boolean, 11, 3, 11), im_176), ((yX11_grainAll, prog_13_method_18_code, 4, some .int, 11, 2, 11), im_177), ((yX11_sign, prog_13_method_19_code, 3, some .int, 11, 2, 11), im_178), ((yX11_end, prog_13_method_20_code, 2, some .boolean, 11, 2, 11), im_179), ((yX11_begins, prog_13_method_21_code, 3, some .int, 11, 2, 11), im_180), ((yX11_takes, prog_13_method_22_code, 3, some .boolean, 11, 2, 11), im_181), ((yX11_isDigit, prog_13_method_23_code, 1, some .boolean, 11, 1, 11), im_182), ((yX11_takesOf, prog_13_method_24_code, 3, some .int, 11, 2, 11), im_183), ((yX11_number, prog_13_method_25_code, 4, some .int, 11, 2, 11), im_184), ((yX11_digitIn, prog_13_method_26_code, 3, some .int, 11, 3, 11), im_185), ((yX11_faultOf, prog_13_method_27_code, 5, some .int, 11, 4, 11), im_186), ((yX11_readsCourt, prog_13_method_28_code, 4, some .boolean, 11, 1, 11), im_187), ((yX11_courts, prog_13_method_29_code, 7, some .int, 11, 1, 11), im_188), ((yX11_comes, prog_13_method_30_code, 3, none, 11, 3, 11), im_189), ((yX11_isNew, prog_13_method_31_code, 1, none, 11, 1, 11), im_190), ((yX11_readsGift, prog_13_method_32_code, 2, some .boolean, 11, 1, 11), im_191)]
def pl_12 : List (pm_M × pd_I) := [((yX11_gifts, prog_13_method_33_code, 6, some .int, 11, 1, 11), im_192), ((yX11_codes, prog_13_method_34_code, 2, none, 11, 2, 11), im_193), ((yX11_readsThing, prog_13_method_35_code, 2, some .boolean, 11, 1, 11), im_194), ((yX11_readsRank, prog_13_method_36_code, 4, some .boolean, 11, 2, 11), im_195), ((yX11_readsRule, prog_13_method_37_code, 3, some .int, 11, 1, 11), im_196), ((yX11_laysCode, prog_13_method_38_code, 4, none, 11, 3, 11), im_197), ((yX11_rule, prog_13_method_39_code, 2, some .int, 11, 1, 11), im_198), ((yX11_worked, prog_13_method_40_code, 3, some .int, 11, 3, 11), im_199), ((yX11_ruled, prog_13_method_41_code, 4, some .int, 11, 1, 11), im_200), ((yX11_valueOf, prog_13_method_42_code, 4, some .int, 11, 4, 11), im_201), ((yX11_alliedTo, prog_13_method_43_code, 4, some .int, 11, 2, 11), im_202), ((yX11_atWarWith, prog_13_method_44_code, 4, some .int, 11, 2, 11), im_203), ((yX11_owesAll, prog_13_method_45_code, 4, some .int, 11, 2, 11), im_204), ((yX11_owedAll, prog_13_method_46_code, 4, some .int, 11, 2, 11), im_205), ((yX11_court, prog_13_method_47_code, 3, some .int, 11, 3, 11), im_206), ((yX11_between, prog_13_method_48_code, 5, some .int, 11, 4, 11), im_207)]
def pl_13 : List (pm_M × pd_I) := [((yX11_gift, prog_13_method_49_code, 3, some .int, 11, 3, 11), im_208), ((yX11_road, prog_13_method_50_code, 5, some .int, 11, 4, 11), im_209), ((yX11_sheet, prog_13_method_51_code, 8, some .int, 11, 5, 11), im_210), ((yX11_putsBy, prog_13_method_52_code, 2, none, 11, 1, 11), im_211), ((yX11_adds, prog_13_method_53_code, 3, some .int, 11, 2, 11), im_212), ((yX11_counts, prog_13_method_54_code, 2, some .int, 11, 2, 11), im_213), ((yX11_undo, prog_13_method_55_code, 2, some .int, 11, 1, 11), im_214), ((yX11_grows, prog_13_method_56_code, 5, some .int, 11, 4, 11), im_215), ((yX11_moved, prog_13_method_57_code, 2, some .int, 11, 2, 11), im_216), ((yX11_sends, prog_13_method_58_code, 9, some .int, 11, 4, 11), im_217), ((yX11_isHungry, prog_13_method_59_code, 3, some .boolean, 11, 3, 11), im_218), ((yX11_monthGoes, prog_13_method_60_code, 4, none, 11, 2, 11), im_219), ((yX11_envoys, prog_13_method_61_code, 4, some .int, 11, 4, 11), im_220), ((yX11_forgives, prog_13_method_62_code, 5, some .int, 11, 3, 11), im_221), ((yX11_send, prog_13_method_63_code, 4, some .int, 11, 3, 11), im_222), ((yX11_months, prog_13_method_64_code, 4, some .int, 11, 2, 11), im_223)]
def pl_14 : List (pm_M × pd_I) := [((yX11_envoy, prog_13_method_65_code, 4, some .int, 11, 4, 11), im_224), ((yX11_forgive, prog_13_method_66_code, 3, some .int, 11, 3, 11), im_225), ((yX11_readsAct, prog_13_method_67_code, 2, some .boolean, 11, 1, 11), im_226), ((yX11_does, prog_13_method_68_code, 5, some .boolean, 11, 2, 11), im_227), ((yX11_year, prog_13_method_69_code, 5, some .int, 11, 1, 11), im_228), ((yX11_copies, prog_13_method_70_code, 2, none, 11, 1, 11), im_229), ((yX11_value, prog_13_method_71_code, 3, some .int, 11, 3, 11), im_230), ((yX11_where, prog_13_method_72_code, 7, some .int, 11, 2, 11), im_231), ((yX11_answer, prog_13_method_73_code, 8, some .int, 11, 3, 11), im_232), ((yX11_winsBy, prog_13_method_74_code, 8, none, 11, 6, 11), im_233), ((yX11_wins, prog_13_method_75_code, 5, some .int, 11, 3, 11), im_234), ((yX11_unseen, prog_13_method_76_code, 6, some .int, 11, 2, 11), im_235), ((yX11_swaps, prog_13_method_77_code, 11, some .int, 11, 1, 11), im_236), ((yX11_laysFar, prog_13_method_78_code, 6, none, 11, 2, 11), im_237), ((yX11_way, prog_13_method_79_code, 7, some .int, 11, 3, 11), im_238), ((yX11_walks, prog_13_method_80_code, 11, some .int, 11, 5, 11), im_239)]
def pl_15 : List (pm_M × pd_I) := [((yX11_alive, prog_13_method_81_code, 10, some .int, 11, 4, 11), im_240), ((yX11_diesIn, prog_13_method_82_code, 4, some .int, 11, 2, 11), im_241), ((yX11_feeds, prog_13_method_83_code, 3, some .int, 11, 2, 11), im_242), ((yX11_starves, prog_13_method_84_code, 7, some .int, 11, 3, 11), im_243), ((yX11_net, prog_13_method_85_code, 2, some .int, 11, 2, 11), im_244), ((yX11_settle, prog_13_method_86_code, 4, some .int, 11, 1, 11), im_245), ((yX11_rings, prog_13_method_87_code, 5, none, 11, 3, 11), im_246), ((yX11_ring, prog_13_method_88_code, 3, some .int, 11, 1, 11), im_247), ((yX11_likedBy, prog_13_method_89_code, 4, some .int, 11, 2, 11), im_248), ((yX11_ranks, prog_13_method_90_code, 6, some .int, 11, 1, 11), im_249), ((yX11_league, prog_13_method_91_code, 5, some .int, 11, 1, 11), im_250), ((yX11_heard, prog_13_method_92_code, 4, some .int, 11, 3, 11), im_251), ((yX11_forget, prog_13_method_93_code, 2, some .int, 11, 1, 11), im_252), ((yX11_isSo, prog_13_method_94_code, 4, some .boolean, 11, 4, 11), im_253), ((yX11_fitting, prog_13_method_95_code, 5, some .int, 11, 1, 11), im_254), ((yX11_fits, prog_13_method_96_code, 4, some .int, 11, 1, 11), im_255)]
def pl_16 : List (pm_M × pd_I) := [((yX11_ask, prog_13_method_97_code, 7, some .int, 11, 1, 11), im_256), ((yX11_valueAll, prog_13_method_98_code, 3, some .int, 11, 1, 11), im_257), ((yX11_law, prog_13_method_99_code, 5, some .int, 11, 1, 11), im_258), ((yX11_earns, prog_13_method_100_code, 4, some .int, 11, 3, 11), im_259), ((yX11_isRest, prog_13_method_101_code, 5, some .boolean, 11, 3, 11), im_260), ((yX11_rests, prog_13_method_102_code, 5, some .int, 11, 2, 11), im_261), ((yX11_draws, prog_13_method_103_code, 2, some .int, 11, 2, 11), im_262), ((yX11_years, prog_13_method_104_code, 7, some .int, 11, 3, 11), im_263), ((yX11_keep, prog_13_method_105_code, 3, some .boolean, 11, 2, 11), im_264), ((yX11_again, prog_13_method_106_code, 3, some .boolean, 11, 2, 11), im_265), ((yX11_pairMany, prog_13_method_107_code, 5, some .int, 11, 2, 11), im_266), ((yX11_count, prog_13_method_108_code, 4, some .int, 11, 2, 11), im_267), ((yX11_row, prog_13_method_109_code, 2, some .long, 11, 2, 11), im_268), ((yJ6_numberOfTrailingZeros_0f7a4, prog_18_method_48_code, 2, some .int, 12, 1, 99), im_269), ((yJ6_bitCount_0f7a4, prog_18_method_49_code, 1, some .int, 12, 1, 99), im_270)]
def pd_L : List (List (pm_M × pd_I)) := [pl_0, pl_1, pl_2, pl_3, pl_4, pl_5, pl_6, pl_7, pl_8, pl_9, pl_10, pl_11, pl_12, pl_13, pl_14, pl_15, pl_16]
def pd_at (k : Nat) : Option (pm_M × pd_I) := match pm_nth pd_L (k / 16) with
  | some c => pm_nth c (k % 16)
  | none => none
def pd_lw : List (pm_M × pd_I) := [((x, code, 8, some .boolean, 13, 1, 99), imL_law), ((⟨"GiftsOfCourtsLaw", "court", "(LGiftsOfCourts;II[J)I"⟩, method_3_code, 5, some .int, 13, 4, 99), imL_court), ((⟨"GiftsOfCourtsLaw", "between", "(LGiftsOfCourts;III[J)I"⟩, method_4_code, 6, some .int, 13, 5, 99), imL_between), ((⟨"GiftsOfCourtsLaw", "gift", "(LGiftsOfCourts;II[J)I"⟩, method_5_code, 5, some .int, 13, 4, 99), imL_gift), ((⟨"GiftsOfCourtsLaw", "row", "(LGiftsOfCourts;I[J)I"⟩, method_6_code, 4, some .int, 13, 3, 99), imL_row)]
def pd_a2 (k : Nat) : Option (pm_M × pd_I) := cond (Nat.ble 1000 k) (pm_nth pd_lw (k - 1000)) (pd_at k)
def pd_m (k : Nat) : pm_M := match pd_a2 k with
  | some e => e.1
  | none => (yX0_init, cX0_init, 0, none, 0, 0, 0)
def pd_ins (k pc : Nat) : Option (Instr × Nat) := match pd_a2 k with
  | some e => pm_ch e.2 pc
  | none => none
def pd_oL : List String := ["GiftsOfCourts$Clues", "GiftsOfCourts$Debts", "GiftsOfCourts$Past", "GiftsOfCourts$Realm", "GiftsOfCourts$Roads", "GiftsOfCourts$Row", "GiftsOfCourts$Rule", "GiftsOfCourts$State", "GiftsOfCourts$Text", "GiftsOfCourts$Wooing", "GiftsOfCourts", "GiftsOfCourtsModel", "java/lang/Integer", "GiftsOfCourtsLaw"]
def pd_own (o : Nat) : String := match pm_nth pd_oL o with
  | some x => x
  | none => ""
def pd_dL : List (List Value) := [[.int 0, .null, .null, .null], [.null, .null, .null, .null], [.null, .int 0, .int 0], [.int 0, .int 0, .null, .null, .null, .null, .null, .null, .null], [.null, .null, .null], [.null, .int 0], [.null, .int 0, .null, .int 0, .null, .int 0], [.null, .null, .null, .null, .null, .int 0, .int 0], [.null, .int 0], [.null, .null, .null, .null, .null, .int 0, .int 0, .int 0], [.null, .null, .null, .null, .null, .null, .null, .int 0, .null, .null, .null, .null, .null, .null], [.int 0, .int 0, .null, .int 0, .int 0, .int 0, .null, .null, .null, .null, .null, .null, .null, .null, .null, .int 0, .int 0, .int 0, .int 0, .null, .int 0, .null, .null, .int 0, .int 0, .null, .null, .int 0, .null, .int 0, .int 0, .null, .null, .null, .null, .int 0, .null, .null, .int 0, .null, .null, .int 0, .null, .null, .null, .null, .int 0, .int 0, .null, .null, .null, .int 0, .null, .null, .null]]
def pd_df (c : Nat) : List Value := match pm_nth pd_dL c with
  | some x => x
  | none => []
def pd_ty : List FieldType := [.int, .char, .long, .boolean, .object "GiftsOfCourts$State"]
def pd_tyL : List (Nat → FieldType) := [tyX0, tyX1, tyX2, tyX3, tyX4, tyX5, tyX6, tyX7, tyX8, tyX9, tyX10, tyX11]
def pd_FL : List (List (Nat × (Nat × Nat × Nat) × Nat)) := [[(9, (0, 2, 12), 379), (15, (0, 3, 12), 380), (18, (0, 1, 12), 378), (22, (0, 0, 0), 376), (30, (3, 1, 0), 166), (43, (3, 5, 22), 175), (46, (3, 6, 22), 179)], [(9, (1, 0, 12), 324), (15, (1, 2, 12), 327), (18, (1, 3, 12), 328), (21, (1, 1, 12), 326), (25, (3, 0, 0), 162), (31, (7, 2, 22), 218)], [(11, (2, 0, 12), 258), (18, (2, 2, 0), 260), (30, (2, 1, 0), 259)], [(9, (3, 2, 12), 168), (15, (3, 3, 12), 170), (18, (3, 4, 12), 171), (21, (3, 5, 12), 174), (24, (3, 6, 12), 177), (27, (3, 7, 12), 181), (32, (3, 8, 12), 183), (35, (3, 0, 0), 160), (43, (3, 1, 0), 165), (46, (7, 3, 22), 223), (55, (7, 1, 22), 216), (75, (7, 0, 22), 212), (84, (7, 4, 22), 227), (97, (7, 2, 22), 221), (116, (7, 6, 0), 232), (123, (7, 5, 0), 230)], [(9, (4, 1, 12), 309), (15, (4, 2, 12), 310), (18, (4, 0, 12), 308), (22, (3, 0, 0), 161), (32, (3, 4, 22), 172)], [(9, (5, 0, 12), 144), (15, (5, 1, 0), 146)], [(9, (6, 0, 12), 283), (15, (6, 2, 12), 285), (18, (6, 4, 12), 287), (25, (8, 1, 0), 130), (31, (6, 5, 0), 288), (34, (6, 1, 0), 284), (73, (6, 3, 0), 286)], [(9, (7, 0, 12), 210), (15, (7, 1, 12), 213), (18, (7, 2, 12), 217), (21, (7, 3, 12), 222), (24, (7, 4, 12), 225), (33, (7, 5, 0), 228), (37, (7, 6, 0), 231)], [(9, (8, 0, 12), 128), (15, (8, 1, 0), 129)], [(9, (9, 0, 12), 344), (15, (9, 3, 12), 348), (18, (9, 4, 12), 349), (21, (9, 1, 12), 346), (25, (9, 2, 12), 347), (29, (9, 5, 0), 350), (39, (3, 1, 0), 164), (46, (9, 6, 0), 351), (49, (9, 7, 0), 352), (52, (7, 1, 22), 214), (61, (7, 2, 22), 219), (85, (3, 6, 22), 178)], [(12, (10, 0, 12), 390), (19, (10, 1, 12), 391), (26, (10, 2, 12), 392), (33, (10, 3, 12), 393), (37, (10, 4, 12), 394), (43, (10, 5, 12), 395), (47, (10, 6, 12), 396), (56, (10, 8, 2), 398), (60, (10, 9, 2), 399), (68, (10, 10, 12), 400), (75, (10, 11, 12), 401), (84, (10, 12, 12), 402), (91, (10, 13, 12), 403), (99, (8, 1, 0), 131), (107, (3, 0, 0), 163), (120, (3, 1, 0), 167), (136, (3, 2, 22), 169), (140, (7, 0, 22), 211), (163, (7, 1, 22), 215), (166, (7, 2, 22), 220), (169, (3, 4, 22), 173), (175, (3, 5, 22), 176), (178, (3, 6, 22), 180), (181, (3, 7, 22), 182), (184, (7, 3, 22), 224), (187, (7, 4, 22), 226), (225, (7, 5, 0), 229), (270, (2, 2, 0), 261), (289, (9, 0, 22), 345), (345, (1, 0, 22), 325), (363, (0, 0, 0), 377), (395, (10, 7, 0), 397), (399, (7, 6, 0), 233), (414, (5, 1, 0), 147), (415, (5, 0, 22), 145)], [(9, (11, 2, 12), 1151), (13, (11, 6, 12), 1155), (17, (11, 7, 12), 1156), (20, (11, 8, 12), 1157), (23, (11, 9, 12), 1158), (26, (11, 10, 12), 1159), (29, (11, 11, 12), 1160), (32, (11, 12, 12), 1161), (35, (11, 13, 12), 1162), (38, (11, 14, 12), 1163), (41, (11, 19, 12), 1168), (44, (11, 21, 12), 1170), (47, (11, 22, 12), 1171), (50, (11, 25, 12), 1174), (53, (11, 26, 12), 1175), (56, (11, 28, 12), 1177), (59, (11, 31, 12), 1180), (62, (11, 32, 12), 1181), (65, (11, 33, 12), 1182), (68, (11, 34, 12), 1183), (71, (11, 36, 12), 1185), (74, (11, 37, 12), 1186), (77, (11, 39, 12), 1188), (80, (11, 40, 12), 1189), (83, (11, 42, 12), 1191), (86, (11, 43, 12), 1192), (89, (11, 44, 12), 1193), (92, (11, 45, 12), 1194), (95, (11, 48, 12), 1197), (98, (11, 49, 12), 1198), (101, (11, 50, 12), 1199), (104, (11, 52, 12), 1201), (108, (11, 53, 12), 1202), (111, (11, 54, 12), 1203), (114, (11, 0, 0), 1149), (122, (11, 1, 0), 1150), (125, (11, 3, 0), 1152), (132, (11, 4, 0), 1153), (147, (11, 15, 0), 1164), (150, (11, 16, 0), 1165), (153, (11, 18, 0), 1167), (162, (11, 17, 0), 1166), (187, (11, 20, 0), 1169), (217, (11, 27, 0), 1176), (220, (11, 5, 0), 1154), (226, (11, 24, 0), 1173), (251, (11, 23, 0), 1172), (334, (11, 29, 0), 1178), (337, (11, 30, 0), 1179), (377, (11, 35, 0), 1184), (392, (11, 38, 0), 1187), (404, (11, 41, 0), 1190), (417, (11, 46, 0), 1195), (426, (11, 47, 0), 1196), (447, (11, 51, 0), 1200)], [], []]
def pd_fld (o j : Nat) : Option (Nat × Nat × Nat) := match pm_nth pd_FL o with
  | some l => (pm_fd l j).map (fun e => e.1)
  | none => none
def ml_0_0 : List (Nat × (Nat × Nat) × List Nat) := [(3, (6, 0), [375]), (26, (2, 2), [944, 945]), (35, (0, 4), [959, 961, 35]), (39, (0, 5), [963, 965, 36]), (49, (0, 75), [967, 636, 637]), (54, (0, 74), [968, 616, 617])]
def ml_0 : List (Nat × (Nat × Nat) × List Nat) := ml_0_0
def ml_1_0 : List (Nat × (Nat × Nat) × List Nat) := [(3, (6, 0), [323]), (40, (0, 7), [893, 881, 882]), (44, (0, 8), [892, 876, 877]), (47, (8, 0), [898]), (52, (0, 13), [907, 909, 32]), (56, (7, 0), [915]), (36, (3, 160), [879, 471])]
def ml_1 : List (Nat × (Nat × Nat) × List Nat) := ml_1_0
def ml_2_0 : List (Nat × (Nat × Nat) × List Nat) := [(3, (6, 0), [254]), (22, (0, 21), [586, 588, 13]), (26, (0, 73), [590, 591, 592]), (33, (0, 16), [582, 583, 584]), (36, (0, 17), [597, 598, 599]), (17, (5, 72), [257, 207])]
def ml_2 : List (Nat × (Nat × Nat) × List Nat) := ml_2_0
def ml_3_0 : List (Nat × (Nat × Nat) × List Nat) := [(3, (6, 0), [159]), (39, (0, 23), [545, 494, 495]), (51, (0, 75), [977, 636, 637]), (62, (0, 31), [1032, 787, 788]), (66, (2, 270), [609, 610]), (72, (0, 32), [1037, 1038, 1039]), (78, (0, 37), [1015, 925, 926]), (81, (0, 28), [605, 606, 607]), (87, (0, 74), [615, 616, 617]), (90, (0, 68), [619, 620, 621]), (100, (0, 77), [644, 645, 646]), (104, (0, 76), [650, 651, 652]), (107, (7, 0), [654]), (112, (0, 43), [679, 681, 17]), (119, (0, 41), [683, 684, 685]), (58, (3, 160), [643, 471]), (94, (3, 159), [634, 554])]
def ml_3 : List (Nat × (Nat × Nat) × List Nat) := ml_3_0
def ml_4_0 : List (Nat × (Nat × Nat) × List Nat) := [(3, (6, 0), [307]), (28, (0, 47), [810, 812, 28]), (39, (7, 0), [815]), (44, (0, 53), [820, 660, 661]), (49, (0, 54), [821, 664, 665]), (53, (0, 49), [822, 824, 29]), (57, (0, 51), [834, 836, 30]), (61, (8, 0), [838]), (35, (3, 160), [814, 471])]
def ml_4 : List (Nat × (Nat × Nat) × List Nat) := ml_4_0
def ml_5_0 : List (Nat × (Nat × Nat) × List Nat) := [(3, (6, 0), [143]), (19, (0, 53), [659, 660, 661]), (22, (0, 54), [663, 664, 665])]
def ml_5 : List (Nat × (Nat × Nat) × List Nat) := ml_5_0
def ml_6_0 : List (Nat × (Nat × Nat) × List Nat) := [(3, (6, 0), [274]), (22, (0, 59), [275, 277, 0]), (37, (0, 62), [509, 511, 7]), (41, (0, 60), [279, 281, 1]), (45, (0, 80), [521, 458, 459]), (49, (0, 64), [513, 515, 8]), (53, (0, 61), [517, 519, 9]), (57, (2, 63), [534, 535]), (61, (0, 65), [522, 524, 10]), (64, (0, 66), [526, 528, 11]), (67, (2, 67), [531, 532]), (70, (0, 81), [530, 454, 455]), (76, (0, 69), [623, 625, 14]), (79, (0, 70), [627, 629, 15]), (82, (2, 71), [631, 632])]
def ml_6 : List (Nat × (Nat × Nat) × List Nat) := ml_6_0
def ml_7_0 : List (Nat × (Nat × Nat) × List Nat) := [(3, (6, 0), [209]), (27, (9, 0), [594]), (40, (0, 75), [648, 636, 637]), (44, (0, 74), [649, 616, 617])]
def ml_7 : List (Nat × (Nat × Nat) × List Nat) := ml_7_0
def ml_8_0 : List (Nat × (Nat × Nat) × List Nat) := [(3, (6, 0), [127]), (19, (0, 80), [457, 458, 459])]
def ml_8 : List (Nat × (Nat × Nat) × List Nat) := ml_8_0
def ml_9_0 : List (Nat × (Nat × Nat) × List Nat) := [(3, (6, 0), [343]), (33, (0, 29), [766, 767, 768]), (42, (0, 39), [770, 602, 603]), (64, (0, 84), [772, 774, 26]), (68, (9, 0), [776]), (74, (0, 77), [777, 645, 646]), (81, (0, 76), [779, 651, 652]), (57, (3, 160), [771, 471]), (78, (3, 159), [778, 554])]
def ml_9 : List (Nat × (Nat × Nat) × List Nat) := ml_9_0
def ml_10_0 : List (Nat × (Nat × Nat) × List Nat) := [(3, (6, 0), [119]), (42, (4, 15), [251, 252]), (53, (4, 57), [271, 272]), (65, (4, 45), [304, 305]), (74, (4, 6), [320, 321]), (81, (4, 82), [340, 341]), (90, (4, 0), [372, 373]), (95, (0, 79), [437, 438, 439]), (103, (0, 129), [449, 451, 2]), (110, (0, 132), [466, 468, 3]), (114, (0, 133), [473, 475, 4]), (117, (0, 130), [485, 487, 5]), (123, (0, 58), [505, 506, 507]), (126, (0, 23), [493, 494, 495]), (132, (0, 28), [1118, 606, 607]), (143, (0, 29), [1119, 767, 768]), (147, (0, 31), [786, 787, 788]), (150, (0, 32), [1120, 1038, 1039]), (153, (0, 7), [880, 881, 882]), (156, (0, 24), [541, 542, 543])]
def ml_10_1 : List (Nat × (Nat × Nat) × List Nat) := [(160, (2, 160), [470, 471]), (172, (0, 25), [574, 575, 576]), (190, (0, 74), [1135, 616, 617]), (193, (2, 157), [550, 551]), (196, (2, 159), [553, 554]), (199, (0, 36), [562, 563, 564]), (203, (0, 136), [570, 572, 12]), (206, (0, 18), [578, 579, 580]), (210, (0, 39), [601, 602, 603]), (214, (0, 75), [635, 636, 637]), (217, (0, 40), [639, 640, 641]), (221, (0, 56), [655, 656, 657]), (228, (0, 140), [671, 673, 16]), (231, (2, 270), [687, 610]), (237, (0, 137), [692, 694, 18]), (241, (0, 138), [696, 698, 19]), (245, (0, 139), [704, 706, 20]), (248, (0, 134), [712, 714, 21]), (251, (0, 16), [719, 583, 584]), (254, (0, 141), [720, 722, 22])]
def ml_10_2 : List (Nat × (Nat × Nat) × List Nat) := [(257, (0, 80), [465, 458, 459]), (260, (2, 135), [716, 717]), (263, (0, 17), [736, 598, 599]), (266, (0, 19), [741, 742, 743]), (273, (7, 0), [556]), (278, (0, 77), [757, 645, 646]), (282, (0, 83), [762, 763, 764]), (286, (0, 53), [780, 660, 661]), (292, (0, 54), [781, 664, 665]), (296, (0, 55), [790, 791, 792]), (299, (0, 146), [798, 800, 27]), (302, (0, 46), [806, 807, 808]), (305, (0, 48), [816, 817, 818]), (309, (0, 50), [830, 831, 832]), (312, (2, 152), [843, 844]), (316, (0, 150), [846, 848, 31]), (319, (0, 73), [857, 591, 592]), (322, (0, 44), [858, 859, 860]), (325, (2, 158), [862, 863]), (328, (0, 41), [869, 684, 685])]
def ml_10_3 : List (Nat × (Nat × Nat) × List Nat) := [(333, (0, 8), [875, 876, 877]), (336, (0, 10), [888, 889, 890]), (339, (0, 11), [894, 895, 896]), (342, (0, 12), [903, 904, 905]), (348, (0, 14), [911, 912, 913]), (351, (0, 147), [920, 922, 33]), (354, (0, 37), [924, 925, 926]), (357, (0, 148), [932, 934, 34]), (360, (0, 1), [940, 941, 942]), (364, (0, 3), [955, 956, 957]), (367, (0, 30), [973, 974, 975]), (370, (8, 0), [559]), (373, (0, 149), [982, 984, 37]), (377, (2, 153), [990, 991]), (380, (2, 155), [1000, 1001]), (383, (2, 156), [1004, 1005]), (386, (0, 42), [675, 676, 677]), (389, (0, 145), [1007, 1009, 38]), (392, (0, 38), [1011, 1012, 1013]), (398, (0, 20), [477, 478, 479])]
def ml_10_4 : List (Nat × (Nat × Nat) × List Nat) := [(402, (0, 33), [1028, 1029, 1030]), (405, (0, 34), [1033, 1034, 1035]), (408, (0, 9), [1041, 1042, 1043]), (411, (0, 35), [1045, 1046, 1047]), (419, (0, 81), [453, 454, 455]), (422, (0, 26), [461, 462, 463]), (425, (0, 131), [489, 491, 6]), (428, (0, 27), [497, 498, 499]), (432, (0, 142), [724, 726, 23]), (435, (0, 143), [728, 730, 24]), (438, (0, 144), [732, 734, 25]), (441, (2, 151), [850, 851]), (445, (2, 154), [993, 994]), (11, (5, 78), [124, 125]), (18, (5, 52), [140, 141]), (25, (5, 22), [156, 157]), (32, (5, 72), [206, 207])]
def ml_10 : List (Nat × (Nat × Nat) × List Nat) := ml_10_0 ++ ml_10_1 ++ ml_10_2 ++ ml_10_3 ++ ml_10_4
def ml_11_0 : List (Nat × (Nat × Nat) × List Nat) := [(3, (6, 0), [1148]), (118, (2, 166), [1682, 1683]), (128, (2, 163), [1324, 1325]), (135, (0, 168), [1466, 1468, 56]), (139, (2, 164), [1525, 1526]), (143, (2, 171), [1488, 1489]), (156, (7, 0), [1335]), (165, (2, 165), [1358, 1359]), (173, (10, 0), [1406]), (179, (11, 0), [1416]), (183, (0, 182), [1348, 1350, 44]), (190, (0, 185), [1340, 1342, 42]), (193, (0, 184), [1344, 1346, 43]), (197, (0, 180), [1331, 1333, 40]), (200, (0, 187), [1336, 1338, 41]), (203, (0, 181), [1354, 1356, 45]), (206, (0, 186), [1361, 1363, 46]), (210, (0, 189), [1365, 1367, 47]), (214, (0, 190), [1369, 1371, 48]), (223, (0, 191), [1377, 1379, 49])]
def ml_11_1 : List (Nat × (Nat × Nat) × List Nat) := [(229, (0, 194), [1393, 1395, 52]), (232, (0, 193), [1397, 1399, 53]), (238, (0, 183), [1402, 1404, 54]), (242, (0, 195), [1389, 1391, 51]), (254, (0, 196), [1385, 1387, 50]), (257, (0, 197), [1457, 1459, 55]), (261, (2, 199), [1568, 1569]), (265, (2, 270), [1563, 610]), (270, (2, 173), [1522, 1523]), (274, (0, 200), [1564, 1566, 68]), (277, (8, 0), [1538]), (280, (2, 175), [1485, 1486]), (284, (2, 176), [1495, 1496]), (287, (2, 172), [1502, 1503]), (296, (0, 162), [1473, 1475, 57]), (299, (0, 174), [1477, 1479, 58]), (303, (0, 202), [1481, 1483, 59]), (306, (0, 203), [1491, 1493, 60]), (309, (0, 204), [1498, 1500, 61]), (312, (0, 170), [1509, 1511, 62])]
def ml_11_2 : List (Nat × (Nat × Nat) × List Nat) := [(317, (0, 169), [1518, 1520, 63]), (324, (0, 177), [1539, 1541, 64]), (328, (0, 212), [1581, 1583, 70]), (331, (0, 201), [1559, 1561, 67]), (340, (2, 216), [1571, 1572]), (343, (2, 215), [1574, 1575]), (347, (0, 218), [1598, 1600, 73]), (352, (0, 211), [1551, 1553, 65]), (355, (0, 217), [1555, 1557, 66]), (358, (0, 213), [1577, 1579, 69]), (361, (0, 167), [1585, 1587, 71]), (367, (0, 219), [1594, 1596, 72]), (371, (0, 220), [1606, 1608, 74]), (374, (0, 221), [1615, 1617, 75]), (382, (0, 226), [1623, 1625, 76]), (385, (0, 227), [1628, 1630, 77]), (389, (0, 229), [1645, 1647, 78]), (395, (0, 233), [1653, 1655, 79]), (399, (0, 237), [1669, 1671, 80]), (407, (0, 241), [1689, 1691, 81])]
def ml_11_3 : List (Nat × (Nat × Nat) × List Nat) := [(410, (2, 269), [1693, 1694]), (414, (0, 205), [1706, 1708, 82]), (420, (0, 246), [1718, 1720, 83]), (423, (0, 248), [1726, 1728, 84]), (429, (0, 253), [1750, 1752, 86]), (433, (0, 254), [1746, 1748, 85]), (436, (0, 257), [1762, 1764, 87]), (439, (2, 259), [1774, 1775]), (444, (2, 260), [1771, 1772]), (451, (0, 262), [1781, 1783, 88]), (454, (0, 266), [1798, 1800, 89])]
def ml_11 : List (Nat × (Nat × Nat) × List Nat) := ml_11_0 ++ ml_11_1 ++ ml_11_2 ++ ml_11_3
def ml_12 : List (Nat × (Nat × Nat) × List Nat) := []
def ml_13_0 : List (Nat × (Nat × Nat) × List Nat) := [(7, (0, 91), [1053, 1054, 1055]), (15, (0, 92), [1124, 1125, 1126]), (19, (0, 93), [1131, 1132, 1133]), (22, (0, 128), [1139, 1140, 1141]), (26, (4, 85), [116, 117]), (29, (4, 161), [1145, 1146]), (30, (0, 86), [433, 434, 435]), (34, (0, 178), [1316, 1317, 1318]), (35, (0, 87), [441, 442, 443]), (39, (0, 179), [1320, 1321, 1322]), (40, (0, 88), [445, 446, 447]), (44, (0, 188), [1327, 1328, 1329]), (45, (0, 89), [481, 482, 483]), (48, (0, 192), [1373, 1374, 1375]), (49, (0, 90), [501, 502, 503]), (52, (0, 198), [1381, 1382, 1383]), (58, (0, 206), [1462, 1463, 1464]), (62, (0, 207), [1505, 1506, 1507]), (65, (0, 208), [1514, 1515, 1516]), (66, (0, 94), [537, 538, 539])]
def ml_13_1 : List (Nat × (Nat × Nat) × List Nat) := [(69, (0, 209), [1528, 1529, 1530]), (70, (0, 95), [546, 547, 548]), (74, (0, 210), [1533, 1534, 1535]), (75, (0, 96), [566, 567, 568]), (78, (0, 222), [1547, 1548, 1549]), (79, (0, 97), [667, 668, 669]), (82, (0, 223), [1589, 1590, 1591]), (83, (0, 98), [688, 689, 690]), (86, (0, 224), [1602, 1603, 1604]), (87, (0, 99), [700, 701, 702]), (90, (0, 225), [1611, 1612, 1613]), (91, (0, 100), [708, 709, 710]), (94, (0, 228), [1619, 1620, 1621]), (95, (0, 101), [737, 738, 739]), (98, (0, 214), [1543, 1544, 1545]), (99, (0, 102), [745, 746, 747]), (102, (0, 230), [1632, 1633, 1634]), (103, (0, 103), [749, 750, 751]), (106, (0, 231), [1636, 1637, 1638]), (107, (0, 104), [753, 754, 755])]
def ml_13_2 : List (Nat × (Nat × Nat) × List Nat) := [(110, (0, 232), [1641, 1642, 1643]), (111, (0, 105), [758, 759, 760]), (114, (0, 234), [1649, 1650, 1651]), (115, (0, 106), [782, 783, 784]), (118, (0, 235), [1657, 1658, 1659]), (119, (0, 107), [794, 795, 796]), (122, (0, 236), [1661, 1662, 1663]), (123, (0, 108), [802, 803, 804]), (126, (0, 238), [1665, 1666, 1667]), (127, (0, 109), [826, 827, 828]), (130, (0, 239), [1673, 1674, 1675]), (131, (0, 110), [839, 840, 841]), (134, (0, 240), [1678, 1679, 1680]), (135, (0, 111), [853, 854, 855]), (138, (0, 242), [1685, 1686, 1687]), (139, (0, 112), [865, 866, 867]), (142, (0, 243), [1697, 1698, 1699]), (143, (0, 113), [870, 871, 872]), (146, (0, 244), [1701, 1702, 1703]), (147, (0, 114), [884, 885, 886])]
def ml_13_3 : List (Nat × (Nat × Nat) × List Nat) := [(150, (0, 245), [1710, 1711, 1712]), (151, (0, 115), [899, 900, 901]), (154, (0, 247), [1714, 1715, 1716]), (155, (0, 116), [916, 917, 918]), (158, (0, 249), [1722, 1723, 1724]), (159, (0, 117), [928, 929, 930]), (162, (0, 250), [1730, 1731, 1732]), (163, (0, 118), [936, 937, 938]), (166, (0, 251), [1734, 1735, 1736]), (167, (0, 119), [947, 948, 949]), (170, (0, 252), [1738, 1739, 1740]), (171, (0, 120), [951, 952, 953]), (174, (0, 255), [1742, 1743, 1744]), (175, (0, 121), [969, 970, 971]), (178, (0, 256), [1754, 1755, 1756]), (179, (0, 122), [978, 979, 980]), (182, (0, 258), [1758, 1759, 1760]), (183, (0, 123), [986, 987, 988]), (186, (0, 261), [1766, 1767, 1768]), (187, (0, 124), [996, 997, 998])]
def ml_13_4 : List (Nat × (Nat × Nat) × List Nat) := [(190, (0, 263), [1777, 1778, 1779]), (191, (0, 125), [1016, 1017, 1018]), (194, (0, 264), [1786, 1787, 1788]), (195, (0, 126), [1020, 1021, 1022]), (198, (0, 265), [1790, 1791, 1792]), (199, (0, 127), [1024, 1025, 1026]), (202, (0, 267), [1794, 1795, 1796]), (206, (0, 268), [1802, 1803, 1804])]
def ml_13 : List (Nat × (Nat × Nat) × List Nat) := ml_13_0 ++ ml_13_1 ++ ml_13_2 ++ ml_13_3 ++ ml_13_4
def pd_ML : List (List (Nat × (Nat × Nat) × List Nat)) := [ml_0, ml_1, ml_2, ml_3, ml_4, ml_5, ml_6, ml_7, ml_8, ml_9, ml_10, ml_11, ml_12, ml_13]
def pd_mlk (o j : Nat) : Option (Nat × Nat) := match pm_nth pd_ML o with
  | some l => (pm_fd l j).map (fun e => e.1)
  | none => none
def pd_CL : List (List (Nat × Nat × Nat)) := [[], [], [(9, 7, 255)], [], [], [], [], [], [], [], [(9, 8, 122), (16, 5, 138), (23, 3, 154), (30, 7, 204), (40, 2, 249), (51, 6, 269), (63, 4, 302), (72, 1, 318), (79, 9, 338), (88, 0, 370)], [], [], [(8, 10, 114), (27, 11, 1143)]]
def pd_AL : List (List (Nat × Nat × Nat)) := [[], [], [(9, 1004, 255)], [], [], [], [], [], [], [], [(30, 1004, 204)], [], [], []]
def pd_clk (o j : Nat) : Option Nat := match pm_nth (cond (Nat.ble 100 o) pd_AL pd_CL) (cond (Nat.ble 100 o) (o - 100) o) with
  | some l => (pm_fd l j).map (fun e => e.1)
  | none => none
def pd_KL : List (List (Nat × Int32 × Nat)) := [[], [], [], [], [], [], [], [], [], [], [(332, (-100000 : Int32), 874), (449, (1103515245 : Int32), 1003)], [(388, (1000000 : Int32), 1640), (413, (-100000 : Int32), 1705), (450, (1103515245 : Int32), 1785)], [(264, (65536 : Int32), 1696), (265, (1431655765 : Int32), 612), (266, (858993459 : Int32), 613), (267, (252645135 : Int32), 614)], []]
def pd_KK : List (List (Nat × Int64 × Nat)) := [[], [], [], [], [], [], [], [], [], [], [], [(169, (48 : Int64), 1352), (171, (57 : Int64), 1353), (290, (5 : Int64), 1470), (292, (10 : Int64), 1471), (294, (14 : Int64), 1472), (315, (2 : Int64), 1513), (320, (9 : Int64), 1532), (322, (3 : Int64), 1537), (350, (-9 : Int64), 1610), (365, (60 : Int64), 1593), (402, (99 : Int64), 1677), (442, (20 : Int64), 1770)], [], []]
def pd_con (o j : Nat) : Option Int32 := match pm_nth pd_KL o with
  | some l => (pm_fd l j).map (fun e => e.1)
  | none => none
def pd_conL (o j : Nat) : Option Int64 := match pm_nth pd_KK o with
  | some l => (pm_fd l j).map (fun e => e.1)
  | none => none
def PT : pm_Tab := (vwCl, pd_df, pd_ty, pd_own, pd_m, pd_ins, pd_fld, pd_mlk, pd_clk, pd_con, pd_conL)
def PG : List Cond := lw_tbl.filter goodWord
def pd_isN : Cond → Bool
  | .methodLinkNest _ _ _ _ => true
  | .arrayOver (.object _) => true
  | _ => false
def PN : List Cond := lw_tbl.filter pd_isN
end MG18runx1
