/-! calls: what they ask and give -/
section PMR
variable {p : Program} {l : Launch} {e : Env} {R : Room} {s : State} {m : MethodId} {args : Array Value} {below : List Frame} {meth : Method} {c : Code} {H : Heap} {locs : List Loc} {cells slots : Nat} {Q : State → Prop}
variable {T : pm_Tab} {G Ns : List Cond} {D : va_G} {aC : Nat → ClassId} {b g k fr lo pc sz sl sz0 sl0 : Nat} {L : pm_L} {S : List Value} {h : pm_H} {st' : pm_St}
def pm_ws (T : pm_Tab) (G : List Cond) (t : Nat) : List Cond := Cond.code (pm_y T t) (pm_code T t) (pm_max T t) (pm_ret T t) :: G
def pm_Pc (T : pm_Tab) (Ns : List Cond) (D : va_G) (aC : Nat → ClassId) (b g : Nat) (As : List Value) (h : pm_H) (sz : Nat) : Array Value → State → Prop := va_Pc (As.map (pm_tr aC b)) (fun U => U.heap.size = b + sz + g ∧ va_P D (pm_cl T) (pm_w aC b h sz) U.heap ∧ pm_K T Ns D aC b U)
def pm_Qc (T : pm_Tab) (D : va_G) (aC : Nat → ClassId) (b : Nat) (rv : Option Value) (h : pm_H) (sz : Nat) : Array Value → State → Outcome → State → Prop := fun _ st o t => o = .returned (rv.map (pm_tr aC b)) ∧ va_P D (pm_cl T) (pm_w aC b h sz) t.heap ∧ va_F (fun q => b ≤ q) st t
abbrev pm_rm (fr lo mc ms : Nat) : Room := { frames := fr, cells := mc, slots := ms, locals := lo }
/-- what a method of the tables does, as the pure machine tells it -/
def pm_Met (T : pm_Tab) (G Ns : List Cond) (l : Launch) (D : va_G) (aC : Nat → ClassId) (b g fr lo t : Nat) (As : List Value) (h : pm_H) (sz sl : Nat) (r : pm_Rs) : Prop := Met l (pm_y T t) (pm_ws T G t) (pm_rm fr lo (r.2.2.1 - sz) (r.2.2.2 - sl)) (pm_Pc T Ns D aC b g As h sz) (pm_Qc T D aC b r.1 r.2.1 r.2.2.1) (r.2.2.1 - sz) (r.2.2.2 - sl) (fun q => b ≤ q)
theorem pm_blind (OK : pm_ok T G Ns) {As : List Value} : FrameBlind (pm_Pc T Ns D aC b g As h sz) := by
  intro a U g mk hp
  obtain ⟨q1, q2, q3, q4, q5, q6⟩ := hp
  exact ⟨q1, q2, q3, va_K.moved (u := U) (U := U.calling g mk a) (Vm.Alike.refl U.vm) q4, fun w hw => (OK.2.2.1 w hw).1 U (U.calling g mk a) rfl (q5 w hw), q6.same rfl rfl⟩
theorem pm_size {H0 : Heap} (hS : va_S (fun q => b ≤ q) H0 H locs) (hP : va_P D (pm_cl T) (pm_w aC b h sz) H) (hs0 : H0.size = b + sz0 + g) (hg : g = 0 ∨ sz = sz0) (h0 : sz0 ≤ sz) (hz : H.size ≤ H0.size + (sz - sz0)) : H.size = b + sz + g := by
  by_cases he : sz = sz0
  · have := hS.1
    omega
  · have h1 : sz - 1 < sz := by omega
    have h2 := (hP (sz - 1) _ (pm_w_get h1)).lt
    dsimp only at h2
    omega
theorem pm_good (OK : pm_ok T G Ns) {ws : List Cond} (hs : ∀ w ∈ ws, w ∈ G) : GoodIn G ws := fun w hw => ⟨hs w hw, good_of_word (OK.2.1 w (hs w hw))⟩
theorem pm_K.warm (OK : pm_ok T G Ns) {U : State} (hW : s.WarmedH U.vm) (hS : va_S (fun q => b ≤ q) s.heap U.heap locs) (hK : pm_K T Ns D aC b s) : pm_K T Ns D aC b U := ⟨va_K.moved hW.alike hK.1, fun w hw => (OK.2.2.1 w hw).2 s U hW (hK.2.1 w hw), hK.2.2.warm hW hS⟩
theorem pm_after {mc ms : Nat} {rest st0 : List Value} {ls : Array Slot} {rv : Option Value} {h1 : pm_H} {sz1 : Nat} {a : Array Value} (hr : va_Run p l e R s m args below meth c H locs cells slots mc ms (F0 m pc ls st0) rest (pm_Qc T D aC b rv h1 sz1 a) (fun q => b ≤ q)) (hS : va_S (fun q => b ≤ q) s.heap H locs)
    (kk : ∀ (H1 : Heap) (locs1 : List Loc), va_P D (pm_cl T) (pm_w aC b h1 sz1) H1 → va_S (fun q => b ≤ q) s.heap H1 locs1 → W p l e R s m args below meth c H1 locs1 (cells + mc) (slots + ms) Q (F0 m (pc + 3) ls ((rv.map (pm_tr aC b)).toList ++ rest))) : W p l e R s m args below meth c H locs cells slots Q (F0 m pc ls st0) := by
  intro T' hT X
  obtain ⟨v, st₀, t, T2, L2, h0, X', hL, e1, e2, ⟨hv, hP, hz, hk⟩, st⟩ := hr T' hT X
  cases hv
  rw [h0] at hz hk
  obtain ⟨t2, a1, b1⟩ := kk T2.heap (locs ++ L2) (by rw [e1]; exact hP)
    ⟨Nat.le_trans hS.1 (by rw [e1]; exact hz), fun q q1 q2 => by rw [e1, hk q (Nat.lt_of_lt_of_le q1 hS.1) q2]; exact hS.2.1 q q1 q2, fun q hq => by
      rcases List.mem_append.mp hq with h | h
      · exact hS.2.2 q h
      · exact hL q h⟩ T2 rfl X'
  exact ⟨t2, st t2 a1, b1⟩
theorem pm_take (S : List Value) (n : Nat) : S = ((S.take n).reverse).reverse ++ S.drop n := by rw [List.reverse_reverse, List.take_append_drop]
theorem pm_stackS (S : List Value) (n : Nat) : S.map (pm_tr aC b) = ((S.take n).reverse.map (pm_tr aC b)).reverse ++ (S.drop n).map (pm_tr aC b) := by
  rw [← List.map_reverse, ← List.map_append, ← pm_take]
theorem pm_stackV {S A1 : List Value} {n a : Nat} (hA : (S.take n).reverse = .ref a :: A1) : S.map (pm_tr aC b) = (A1.map (pm_tr aC b)).reverse ++ .ref (b + a) :: (S.drop n).map (pm_tr aC b) := by
  have e := pm_stackS (aC := aC) (b := b) S n
  rw [hA, List.map_cons, List.reverse_cons, List.append_assoc] at e
  exact e
end PMR
