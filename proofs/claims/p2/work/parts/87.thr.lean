/-! the class's four that may throw: they end, or come to a 'new' -/
section THR
def tx_stop (t pc : Nat) : Bool := match pm_ins PT t pc, pm_ins PT t (pc + 3), pm_ins PT t (pc + 4), pm_ins PT t (pc + 7) with
  | some (.new 129, 3), some (.dup, 1), some (.invokespecial 131, 3), some (.athrow, 1) => true
  | _, _, _, _ => false
/-- nothing is joined in court, between, gift -/
def cxJt (k : Nat) (s t : ast) : Bool := cond (Nat.ble 91 k && Nat.ble k 93) false (cxJ k s t)
def sx_chk (Z : List ast) (K : kn) (ps : List sp) (n fr lo k : Nat) (as : List av) (ans : List (Option av)) : Bool := match sx_run (tx_stop k) Z K PT bB 198 cxF cxJt cxjo cxP2 n fr lo k (sp_all bB 198 ps [(0, aa_l0 as (pm_max PT k), [], [])]) [] with
  | some R => R.all (fun r => ans.any (fun a => ao_le r.1 a) && ah_le bB r.2 [])
  | none => false
theorem sx_con {Z : List ast} {K : kn} (hK : kn_ok K PT bB 198 cxF cxQ) {ps : List sp} {n fr lo k : Nat} {as : List av} {ans : List (Option av)} (hZ : ∀ z, z ∈ Z → z.2.2 = ([], [])) (e : sx_chk Z K ps n fr lo k as ans = true) {As : List Value} {h : pm_H} {sl : Nat} (hAs : as_ok As as) (hh : ah_ok bB 198 [] h) : pw_X PT (tx_stop k) fr lo k (0, pm_l0 As (pm_max PT k), [], h, 198, sl) (fun x => (∃ a, a ∈ ans ∧ ao_ok x.1 a) ∧ x.2.2 = (198, sl) ∧ fm cxF h x.2.1 ∧ ah_ok bB 198 [] x.2.1) (fun st => st.2.2.1 = [] ∧ st.2.2.2.2 = (198, sl) ∧ fm cxF h st.2.2.2.1 ∧ ah_ok bB 198 [] st.2.2.2.1) := by
  unfold sx_chk at e
  split at e
  · rename_i R eR
    obtain ⟨t, ht, htok⟩ := sp_all_ok (B := bB) (sz := 198) (sl := sl) (st := (0, pm_l0 As (pm_max PT k), [], h, 198, sl)) ps [(0, aa_l0 as (pm_max PT k), [], [])] ⟨_, List.mem_singleton_self _, rfl, al_l0 hAs _, trivial, hh, rfl, rfl⟩
    refine (sx_run_ok (sl := sl) (fun _ _ q => q) cxpp hK n fr lo k _ [] R eR).2 _ ⟨t, ht, htok⟩ trivial _ _ (fun x hx hf _ => ?_) (fun st' hz hf _ => ?_)
    · obtain ⟨r, hr, q1, q2, q3, q4⟩ := hx
      have er := List.all_eq_true.mp e r hr
      rw [Bool.and_eq_true] at er
      obtain ⟨a, ha, hle⟩ := List.any_eq_true.mp er.1
      obtain ⟨xv, xh, xs, xl⟩ := x
      dsimp only at q3 q4
      subst q3 q4
      exact ⟨⟨a, ha, ao_le_ok hle q1⟩, rfl, hf, ah_le_ok er.2 q2⟩
    · obtain ⟨z, hz1, hz2⟩ := hz
      have e2 := hZ z hz1
      obtain ⟨q1, q2, q3, q4, q5, q6⟩ := hz2
      obtain ⟨pc, L, S, h', s', l'⟩ := st'
      obtain ⟨zp, zL, zS, zo⟩ := z
      cases e2
      dsimp only at q3 q4 q5 q6
      subst q5 q6
      refine ⟨?_, rfl, hf, q4⟩
      cases S with
      | nil => rfl
      | cons v S => exact q3.elim
  · cases e
def zt (n pc : Nat) : ast := (pc, List.replicate n none, [], [])
def cxKt : kn := kl bB cxF [cxt139, cxt91, cxt144, cxt2]
theorem cxKt_ok : kn_ok cxKt PT bB 198 cxF cxQ := kl_ok (List.forall_mem_cons.mpr ⟨cxo139, List.forall_mem_cons.mpr ⟨cxo91, List.forall_mem_cons.mpr ⟨cxo144, List.forall_mem_cons.mpr ⟨cxo2, fun _ h => (by cases h)⟩⟩⟩⟩)
theorem zt_ok {n pc : Nat} : (zt n pc).2.2 = ([], []) := rfl
theorem th_court : sx_chk [zt 3 11, zt 3 156] cxKt [(0, 1, 0, 0, [-1, 5])] 1000 2046 83954 91 [(2, 0, 1), ai_top, ai_top] [some ai_top] = true := by decide +kernel
theorem th_between : sx_chk [zt 5 12, zt 5 106] cxKt [(0, 1, 0, 0, [-1, 5]), (0, 2, 0, 0, [-1, 5])] 1000 2046 83951 92 [(2, 0, 1), ai_top, ai_top, ai_top] [some ai_top] = true := by decide +kernel
theorem th_gift : sx_chk [zt 3 11, zt 3 127] cxKt [(0, 1, 0, 0, [-1, 7])] 1000 2046 83954 93 [(2, 0, 1), ai_top, ai_top] [some ai_top] = true := by decide +kernel
theorem th_row : sx_chk [zt 2 15] cxKt [] 1000 2046 83956 128 [(2, 0, 1), ai_top] [some al_top] = true := by decide +kernel
end THR
