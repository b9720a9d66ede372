/-! the frames of courts() and gifts() -/
section SGX
theorem seg_cons {T : pm_Tab} {B : Nat → ac} {sz : Nat} {F : fr_F} {PP : pm_H → Prop} {c : con} {z : ast} {l : List ast} (h1 : seg_ok T B sz F PP c [z]) (h2 : seg_ok T B sz F PP c l) : seg_ok T B sz F PP c (z :: l) := by
  intro st fr lo sl hst hp hF hL
  obtain ⟨s, hs, hok⟩ := hst
  rcases List.mem_cons.mp hs with rfl | hs
  · exact h1 st fr lo sl ⟨s, List.mem_singleton_self _, hok⟩ hp hF hL
  · exact h2 st fr lo sl ⟨s, hs, hok⟩ hp hF hL
theorem seg_piece {T : pm_Tab} {B : Nat → ac} {sz : Nat} {F : fr_F} {PP : pm_H → Prop} {c : con} {l : List ast} {a n : Nat} (h1 : seg_ok T B sz F PP c ((l.drop a).take n)) (h2 : seg_ok T B sz F PP c (l.drop (a + n))) : seg_ok T B sz F PP c (l.drop a) := seg_split n h1 (by rw [List.drop_drop]; exact h2)
/-- without the number of courts and of gifts -/
def rxQ1 (h : pm_H) : Prop := codeOk h ∧ rowsOk h 178 1536 ∧ rowsOk h 196 288
def rxPc (ci f : Nat) : Bool := Nat.beq ci 11 && (Nat.beq f 4 || (Nat.beq f 23 || Nat.beq f 24))
def rxPg (ci f : Nat) : Bool := Nat.beq ci 11 && (Nat.beq f 3 || (Nat.beq f 23 || Nat.beq f 24))
def rxFc0 : fr_F := (fun i => rxC i || (Nat.beq i 178 || Nat.beq i 196), rxPc)
def rxFc : fr_F := (rxC, rxPc)
def rxFg0 : fr_F := (fun i => rxC i || (Nat.beq i 178 || Nat.beq i 196), rxPg)
def rxFg : fr_F := (rxC, rxPg)
theorem rxlec : ∀ h h', fm rxFc0 h h' → fm rxFc h h' := by
  intro h h' q
  refine ⟨fun i hi => q.1 i ?_, q.2⟩
  have hi : rxC i = true := hi
  show (rxC i || (Nat.beq i 178 || Nat.beq i 196)) = true
  rw [hi]
  rfl
theorem rxleg : ∀ h h', fm rxFg0 h h' → fm rxFg h h' := by
  intro h h' q
  refine ⟨fun i hi => q.1 i ?_, q.2⟩
  have hi : rxC i = true := hi
  show (rxC i || (Nat.beq i 178 || Nat.beq i 196)) = true
  rw [hi]
  rfl
theorem rxppc : pp_ok rxFc0 rxQ1 := by
  intro h h' q hp
  obtain ⟨⟨n, dn, f, c1, c2, c3, c4⟩, ⟨f1, r1, r2⟩, f2, r3, r4⟩ := hp
  exact ⟨⟨n, dn, f, fm_mF q rfl c1, (q.1 174 rfl).trans c2, c3, c4⟩, ⟨f1, (q.1 178 rfl).trans r1, r2⟩, f2, (q.1 196 rfl).trans r3, r4⟩
theorem rxppg : pp_ok rxFg0 rxQ1 := by
  intro h h' q hp
  obtain ⟨⟨n, dn, f, c1, c2, c3, c4⟩, ⟨f1, r1, r2⟩, f2, r3, r4⟩ := hp
  exact ⟨⟨n, dn, f, fm_mF q rfl c1, (q.1 174 rfl).trans c2, c3, c4⟩, ⟨f1, (q.1 178 rfl).trans r1, r2⟩, f2, (q.1 196 rfl).trans r3, r4⟩
theorem at_c : at_ok rxFc rxQ1 := fun _ _ _ m hp => ⟨fm_ms rfl rfl m, rxppc _ _ (fm_ms rfl rfl m) hp⟩
theorem at_g : at_ok rxFg rxQ1 := fun _ _ _ m hp => ⟨fm_ms rfl rfl m, rxppg _ _ (fm_ms rfl rfl m) hp⟩
end SGX
