section MG68segxx0
/-! the frames of courts() and gifts() -/
section SGX
theorem seg_cons {T : pm_Tab} {B : Nat → ac} {sz : Nat} {F : fr_F} {PP : pm_H → Prop} {c : con} {z : ast} {l : List ast} (h1 : seg_ok T B sz F PP c [z]) (h2 : seg_ok T B sz F PP c l) : seg_ok T B sz F PP c (z :: l) := by
  intro st fr lo sl hst hp hF hL
  obtain ⟨s, hs, hok⟩ := hst
  rcases List.mem_cons.mp hs with rfl | hs
  · exact h1 st fr lo sl ⟨s, List.mem_singleton_self _, hok⟩ hp hF hL
  · exact h2 st fr lo sl ⟨s, hs, hok⟩ hp hF hL
theorem seg_piece {T : pm_Tab} {B : Nat → ac} {sz : Nat} {F : fr_F} {PP : pm_H → Prop} {c : con} {l : List ast} {a n : Nat} (h1 : seg_ok T B sz F PP c ((l.drop a).take n)) (h2 : seg_ok T B sz F PP c (l.drop (a + n))) : seg_ok T B sz F PP c (l.drop a) := seg_split n h1 (by rw [List.drop_drop]; exact h2)
/-- without the number of courts and of gifts -/
def rxQ1 (h : pm_H) : Prop := codeOk h ∧ rowsOk h 178 1536 ∧ rowsOk h 196 288
def rxPc (ci f : Nat) : Bool := Nat.beq ci 11 && (Nat.beq f 4 || (Nat.beq f 23 || Nat.beq f 24))
def rxPg (ci f : Nat) : Bool := Nat.beq ci 11 && (Nat.beq f 3 || (Nat.beq f 23 || Nat.beq f 24))
def rxFc0 : fr_F := (fun i => rxC i || (Nat.beq i 178 || Nat.beq i 196), rxPc)
def rxFc : fr_F := (rxC, rxPc)
def rxFg0 : fr_F := (fun i => rxC i || (Nat.beq i 178 || Nat.beq i 196), rxPg)
def rxFg : fr_F := (rxC, rxPg)
theorem rxlec : ∀ h h', fm rxFc0 h h' → fm rxFc h h' := by
  intro h h' q
  refine ⟨fun i hi => q.1 i ?_, q.2⟩
  have hi : rxC i = true := hi
  show (rxC i || (Nat.beq i 178 || Nat.beq i 196)) = true
  rw [hi]
  rfl
theorem rxleg : ∀ h h', fm rxFg0 h h' → fm rxFg h h' := by
  intro h h' q
  refine ⟨fun i hi => q.1 i ?_, q.2⟩
  have hi : rxC i = true := hi
  show (rxC i || (Nat.beq i 178 || Nat.beq i 196)) = true
  rw [hi]
  rfl
theorem rxppc : pp_ok rxFc0 rxQ1 := by
  intro h h' q hp
  obtain ⟨⟨n, dn, f, c1, c2, c3, c4⟩, ⟨f1, r1, r2⟩, f2, r3, r4⟩ := hp
  exact ⟨⟨n, dn, f, fm_mF q rfl c1, (q.1 174 rfl).trans c2, c3, c4⟩, ⟨f1, (q.1 178 rfl).trans r1, r2⟩, f2, (q.1 196 rfl).trans r3, r4⟩
theorem rxppg : pp_ok rxFg0 rxQ1 := by
  intro h h' q hp
  obtain ⟨⟨n, dn, f, c1, c2, c3, c4⟩, ⟨f1, r1, r2⟩, f2, r3, r4⟩ := hp
  exact ⟨⟨n, dn, f, fm_mF q rfl c1, (q.1 174 rfl).trans c2, c3, c4⟩, ⟨f1, (q.1 178 rfl).trans r1, r2⟩, f2, (q.1 196 rfl).trans r3, r4⟩
theorem at_c : at_ok rxFc rxQ1 := fun _ _ _ m hp => ⟨fm_ms rfl rfl m, rxppc _ _ (fm_ms rfl rfl m) hp⟩
theorem at_g : at_ok rxFg rxQ1 := fun _ _ _ m hp => ⟨fm_ms rfl rfl m, rxppg _ _ (fm_ms rfl rfl m) hp⟩
end SGX
end MG68segxx0
section MG68segxx1
/-! contracts of faultOf (by hand) and valueAll -/
section VFO
def rxtFO : con := (186, [(2, 162, 1), (0, 0, 80), (0, 60, 60), (0, 0, 1)], [], [some (0, (-81), 0)], [], 60, 3000, true)
theorem av_nat {v : Value} {u : Nat} (q : av_ok v (0, 0, (u : Int))) : ∃ n : Nat, v = .int (nI n) ∧ n ≤ u := by
  obtain ⟨x, rfl, h1, h2⟩ := av_int rfl q
  have h1 : (0 : Int) ≤ x.toInt := h1
  have h2 : x.toInt ≤ (u : Int) := h2
  obtain ⟨n, rfl, -, e⟩ := hI_of h1
  exact ⟨n, rfl, by omega⟩
theorem rxoFO : con_ok PT bB 198 rxF rxQ rxtFO := by
  intro As h fr lo sl hAs hh hp hF hL
  match As, hAs with
  | [v0, v1, v2, v3], hAs =>
    obtain ⟨q0, q1, q2, q3, -⟩ := hAs
    cases rf162 q0
    obtain ⟨n, rfl, hn⟩ := av_nat (u := 80) q1
    obtain ⟨b, rfl, hb⟩ := av_nat (u := 1) q3
    obtain ⟨x, rfl, h1, h2⟩ := av_int rfl q2
    have h1 : (60 : Int) ≤ x.toInt := h1
    have h2 : x.toInt ≤ (60 : Int) := h2
    obtain ⟨m, rfl, -, e⟩ := hI_of (x := x) (by omega)
    obtain rfl : m = 60 := by omega
    obtain ⟨a, h16, ha⟩ := ty_nat hh (g := 16) (u := 63) rfl (by decide)
    obtain ⟨t, h17, ht⟩ := ty_nat hh (g := 17) (u := 60) rfl (by decide)
    have key : ∀ c : Bool, nI b = cond c 1 0 → pm_WP PT fr lo 186 (0, pm_l0 [.ref 162, .int (nI n), .int (nI 60), .int (nI b)] 5, [], h, 198, sl) (fun x => (∃ a, a ∈ rxtFO.2.2.2.1 ∧ ao_ok x.1 a) ∧ x.2.2 = (198, sl) ∧ (fm rxF h x.2.1 ∧ rxQ x.2.1) ∧ x.2.1 = h) := by
      intro c ec
      rw [ec]
      refine wp_mono (hd_faultOf (n := n) (m := 60) (b := c) h16 h17 hn (by decide) (by omega) (by omega)) ?_
      rintro _ rfl
      have hb := flt_bd (n := n) (m := 60) (a := a) (t := t) (b := c) (by decide) (by omega)
      exact ⟨⟨_, List.mem_singleton_self _, rfl, hb.1, hb.2.1⟩, rfl, ⟨fm_rf h, hp⟩, rfl⟩
    have : b = 0 ∨ b = 1 := by omega
    rcases this with rfl | rfl
    · exact key false rfl
    · exact key true rfl
def rxtVA : con := (257, [(2, 162, 1)], [], [some (0, (-2147483648), 2147483647)], [], 75, 4000, false)
theorem rxkVA : con_chk (kn_or (kl bB rxF [rxt6, rxt7]) rk) PT bB 198 rxF0 rxJ rxjo rxP 250 rxtVA = true := fq_chk2 (fq_jn_eq _) rfl (by decide +kernel)
theorem rxoVA : con_ok PT bB 198 rxF rxQ rxtVA := con_chk_ok rxle rxpp (kn_or_ok (kl_ok (List.forall_mem_cons.mpr ⟨rxo6, List.forall_mem_cons.mpr ⟨rxo7, fun _ h => (by cases h)⟩⟩)) rk_ok) nw_class (fun h => by cases h) rxkVA
end VFO
end MG68segxx1
