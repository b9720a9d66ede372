/-! a method of the class that throws: walked to its 'new', then thrown -/
section TXM
def tx_E : String := "java/util/NoSuchElementException"
def tx_n : List String := ["java/lang/RuntimeException", "java/lang/Exception"]
def tx_at : List Cond := vx_at0 "GiftsOfCourts" 131 tx_E tx_n
def tx_N : List Cond := tx_at.filter (fun w => !goodWord w)
def tx_isN : Cond → Bool
  | .declares _ => true
  | .castable _ _ => true
  | _ => false
theorem tx_N_is : tx_N.all tx_isN = true := by decide +kernel
theorem tx_in : ∀ w ∈ tx_at.filter goodWord, w ∈ lw_tbl := by decide +kernel
theorem tx_N_in : ∀ w ∈ tx_N, w ∈ lw_tbl := by decide +kernel
theorem tx_ot : ∀ w ∈ Cond.classLink "GiftsOfCourts" 129 tx_E :: Cond.initialized tx_E :: tx_at, vx_ot w = true := by decide +kernel
theorem tx_cl : Cond.classLink "GiftsOfCourts" 129 tx_E ∈ PG := List.mem_filter.mpr ⟨by decide +kernel, rfl⟩
theorem tx_ini : Cond.initialized tx_E ∈ PG := List.mem_filter.mpr ⟨by decide +kernel, rfl⟩
theorem tx_cast : Cond.castable tx_E tx_E ∈ tx_N := by decide +kernel
theorem tx_N_ok {w : Cond} (hw : w ∈ tx_N) : w.onTables = true ∧ ∀ (s U : State), s.WarmedH U.vm → va_Nw w s → va_Nw w U := by
  have h := List.all_eq_true.mp tx_N_is w hw
  unfold tx_isN at h
  split at h
  · exact ⟨rfl, fun s U hW h => va_Nw.warmD hW h⟩
  · exact ⟨rfl, fun s U hW h => va_Nw.warmC hW h⟩
  · cases h
/-- what a throw wants of the state, beside the words -/
def tx_K (b : Nat) (U : State) : Prop := (∀ w ∈ tx_N, va_Nw w U) ∧ vx_Zq Bundle.tN "UNASSIGNED_STACK" Bundle.steD (fun q => b ≤ q) U U.heap ∧ vx_Zq Bundle.tN "SUPPRESSED_SENTINEL" Bundle.listD (fun q => b ≤ q) U U.heap
theorem tx_K.to {b : Nat} {U V : State} (h : tx_K b U) (hW : U.WarmedH V.vm) (hq : ∀ a : Nat, a < U.heap.size → ¬ b ≤ a → V.heap[a]? = U.heap[a]?) : tx_K b V :=
  ⟨fun w hw => (tx_N_ok hw).2 U V hW (h.1 w hw), vx_Zq.moved hW.alike (h.2.1.kept hq), vx_Zq.moved hW.alike (h.2.2.kept hq)⟩
def tx_Pc (D : va_G) (aC : Nat → ClassId) (b g : Nat) (As : List Value) (h : pm_H) (sz : Nat) : Array Value → State → Prop := va_Pc (As.map (pm_tr aC b)) (fun U => U.heap.size = b + sz + g ∧ va_P D (pm_cl PT) (pm_w aC b h sz) U.heap ∧ pm_K PT PN D aC b U ∧ tx_K b U)
def tx_B (D : va_G) (aC : Nat → ClassId) (b sz : Nat) : String → pm_H → State → Prop := fun E h1 t => E = tx_E ∧ va_P D (pm_cl PT) (pm_w aC b h1 sz) t.heap
theorem tx_blind {D : va_G} {aC : Nat → ClassId} {b g sz : Nat} {As : List Value} {h : pm_H} : FrameBlind (tx_Pc D aC b g As h sz) := by
  intro a U g mk hp
  obtain ⟨q1, q2, q3, ⟨q4, q5, q9⟩, q6, q7, q8⟩ := hp
  exact ⟨q1, q2, q3, ⟨va_K.moved (u := U) (U := U.calling g mk a) (Vm.Alike.refl U.vm) q4, fun w hw => (PT_ok.2.2.1 w hw).1 U (U.calling g mk a) rfl (q5 w hw), q9.same rfl rfl⟩, fun w hw => va_Nw.same (u := U) (U := U.calling g mk a) (tx_N_ok hw).1 rfl (q6 w hw), vx_Zq.moved (U := U.calling g mk a) (Vm.Alike.refl U.vm) q7, vx_Zq.moved (U := U.calling g mk a) (Vm.Alike.refl U.vm) q8⟩
set_option maxHeartbeats 1000000 in
theorem tx_met {l : Launch} (htr : l.stackTraces = false) {D : va_G} {aC : Nat → ClassId} {b g fr lo t sz sl : Nat} {As : List Value} {h : pm_H} (hm : pm_okM PT PG t) (ho : pm_own PT (pm_o PT t) = "GiftsOfCourts") (hf : 6 ≤ fr) (hlo : 89 ≤ lo) (hlen : (pm_args As).length ≤ pm_max PT t) {XQ : pm_H → Prop} {Qc : Array Value → State → Outcome → State → Prop}
    (hrun : pw_X PT (tx_stop t) fr lo t (0, pm_l0 As (pm_max PT t), [], h, sz, sl) (fun _ => False) (fun st => pm_sum st.2.2.1 ≤ 8 ∧ st.2.2.2.2 = (sz, sl) ∧ XQ st.2.2.2.1)) :
    vx_Met l (pm_y PT t) (pm_ws PT PG t) (pm_rm fr lo 1 6) (tx_Pc D aC b g As h sz) Qc (vx_X XQ (tx_B D aC b sz) (fun q => b ≤ q)) 1 6 (fun q => b ≤ q) := by
  obtain ⟨m1, m2, m3, m4, m5, m6⟩ := hm
  obtain ⟨n, o, hr, ho2⟩ := hrun
  refine vx_ofW (cc := pm_code PT t) (maxL := pm_max PT t) (ret := pm_ret PT t) m1 rfl ?_
  intro p e s m args below meth c s₁ B hml htab hv
  obtain ⟨rfl, hsz, hP, hK, hX⟩ := hv
  have hts := atoms_spec (ws := pm_ws PT PG t) B.pre
  have hts' : ∀ w ∈ PG, w.before (As.map (pm_tr aC b)).toArray s = true := fun w hw => hts w (List.mem_cons_of_mem _ hw)
  have hown : s.vm.findClass (pm_y PT t).cls = some m.cls := findClass_of_methodNamed B.named
  have hC : pm_C PT PG PN D aC b t p s m (As.map (pm_tr aC b)).toArray meth c := ⟨B.exec, B.bytes, hml, by rw [m2]; exact hown, hts', hK, fun q => by rw [(name_of_methodNamed B.named B.method).1]; exact m6 q⟩
  cases o with
  | inl r => exact ho2.elim
  | inr st1 =>
    obtain ⟨hst, hsum, hsz1, hXQ⟩ := ho2
    have hxx : ∀ st2, (Sum.inr st1 : pm_Rs ⊕ pm_St) = .inr st2 → pm_V p l e (headSpec (pm_ws PT PG t) (pm_rm fr lo 1 6)).room s m (As.map (pm_tr aC b)).toArray below meth c (vx_MQ below Qc (vx_X XQ (tx_B D aC b sz) (fun q => b ≤ q)) (As.map (pm_tr aC b)).toArray s 1 6 (fun q => b ≤ q)) PT D aC b t sz sl st2 := by
      intro st2 e2
      cases e2
      obtain ⟨pc, L1, S1, h1, sz1, sl1⟩ := st1
      dsimp only at hsum hsz1 hXQ hst
      cases hsz1
      intro H locs ls hP1 hS1 hl1
      dsimp only at hP1 hl1 ⊢
      rw [Nat.sub_self, Nat.sub_self]
      unfold tx_stop at hst
      split at hst
      · rename_i e1 e2 e3 e4
        refine vx_throw0 (own := "GiftsOfCourts") (cls := tx_E) (names := tx_n) (ik := 129) (ic := 131) (A := fun q => b ≤ q) hC.1 hC.2.1 htr (by rw [← ho]; exact hC.2.2.2.1) (by decide) (by decide) (hts' _ tx_cl) (hts' _ tx_ini) (vx_hat (B := tx_N) (fun w hw => hts' w (List.mem_filter.mpr ⟨tx_in w hw, (List.mem_filter.mp hw).2⟩)) (fun w hw => hw) (fun w hw => va_Nw.use (tx_N_ok hw).1 (hX.1 w hw))) tx_ot hX.2.1 hX.2.2 hS1 (hl1.1.trans hml.symm) (PT_ok.1 _ _ _ _ e1) (PT_ok.1 _ _ _ _ e2) (PT_ok.1 _ _ _ _ e3) (PT_ok.1 _ _ _ _ e4) (fun x hx => (htab x hx).elim) ?_ ?_ ?_ ?_ B.notSynchronized ?_ hS1.2.2 (Nat.le_refl _) (Nat.le_refl _)
        · show 2 + 3 < fr
          omega
        · rw [pm_sum_tr]
          show pm_sum S1 + (13 * (2 + 1) + 42) ≤ lo
          omega
        · show 0 + 1 ≤ 1
          omega
        · show 0 + 6 ≤ 6
          omega
        · intro t' hal hsz' hq
          refine ⟨h1, hXQ, ⟨rfl, hP1.kept (fun k q hk => hq _ (vx_lt hP1 hk))⟩, Nat.le_trans hS1.1 hsz', fun q q1 q2 => ?_⟩
          rw [hq q (Nat.lt_of_lt_of_le q1 hS1.1)]
          exact hS1.2.1 q q1 q2
      · cases hst
    have key := px_V (stop := tx_stop t) (g := g) PT_ok hC rfl rfl hsz (o := .inr st1) hsz1 (fun r st2 q => by cases q) hxx n (0, pm_l0 As (pm_max PT t), [], h, sz, sl) (Nat.le_refl _) (Nat.le_refl _) hr
    have hW := key s.heap [] _ hP va_S.rf (pm_l0_loc aC b As hlen)
    rw [lg_entry_eq]
    dsimp only at hW
    rw [Nat.sub_self, Nat.sub_self] at hW
    exact hW
end TXM
