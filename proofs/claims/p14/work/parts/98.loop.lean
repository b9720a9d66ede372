/-! the law's loop -/
section LPP
variable {p : Program} {l : Launch} {e : Env} {m : MethodId} {below : List Frame} {meth : Method} {c : Code} {D : va_G} {aC : Nat → ClassId} {b sl bS Ln : Nat} {xs : Nat → Int32}
/-- the one turn that compares -/
def rsTurn (sl bS Ln : Nat) (xs : Nat → Int32) : Prop := ∀ (P : pm_St → Prop) (i : Nat) (L : pm_L) (h : pm_H), lc_Cl 198 sl bS Ln xs P → lc_L bS i L → i + 5 ≤ Ln → LI8 h → (∀ h2, LI8 h2 → P (1443, L, [], h2, 198, sl)) → P (617, L, [], h, 198, sl)
theorem lw_fin {s : State} {R : Room} {g C S : Nat} {L : pm_L} {h : pm_H} (E : lw_Env D aC b bS Ln xs p s m meth c) (hret : meth.sig.returnType = ret) (hlk : meth.locks = false) (hs0 : s.heap.size = b + 198 + g) (hfr : R.frames = 2048) (hlo : R.locals = 84000) (hLn : Ln < 2 ^ 30) : pm_V p l e R s m #[Value.ref (aC (1000 + bS))] below meth c (lw_Zb b C S below s) PT D aC b 1000 198 sl (1449, L, [], h, 198, sl) := by
  refine lc_i (lw_cl E hs0 hfr hlo hLn) rfl rfl rfl rfl ?_
  intro H locs ls hP hS hl
  dsimp only
  rw [Nat.sub_self, Nat.sub_self]
  exact lw_retb E.1.1 E.1.2.1 hret hlk (pc := 1450) (PT_ok.1 1000 1450 _ _ rfl) hS.2.2 (Nat.zero_le _) (Nat.zero_le _)
theorem lw_loop (htr : l.stackTraces = false) (hret : meth.sig.returnType = ret) (hlk : meth.locks = false) (hLn : Ln < 2 ^ 29) (hrs : rsTurn sl bS Ln xs) : ∀ (k i : Nat) (s : State) (R : Room) (g C S : Nat) (L : pm_L) (h : pm_H), Ln < i + 5 * (k + 1) → i < 2 ^ 30 → lw_Env D aC b bS Ln xs p s m meth c → s.heap.size = b + 198 + g → R.frames = 2048 → R.locals = 84000 → k ≤ R.cells → 6 * k ≤ R.slots → k ≤ C → 6 * k ≤ S → lc_L bS i L → LI8 h → pm_V p l e R s m #[Value.ref (aC (1000 + bS))] below meth c (lw_Zb b C S below s) PT D aC b 1000 198 sl (23, L, [], h, 198, sl) := by
  intro k
  induction k with
  | zero =>
    intro i s R g C S L h hk hi E hs0 hfr hlo h1 h2 h3 h4 hL hI
    exact lc_head (lw_cl E hs0 hfr hlo (by omega)) hL hi (by omega) (fun q => by omega) (fun _ => lw_fin E hret hlk hs0 hfr hlo (by omega))
  | succ k ih =>
    intro i s R g C S L h hk hi E hs0 hfr hlo h1 h2 h3 h4 hL hI
    have H := lw_cl (l := l) (e := e) (below := below) (Q := lw_Zb b C S below s) (sl := sl) (R := R) E hs0 hfr hlo (by omega)
    have tl : ∀ h2, LI8 h2 → i + 5 ≤ Ln → pm_V p l e R s m #[Value.ref (aC (1000 + bS))] below meth c (lw_Zb b C S below s) PT D aC b 1000 198 sl (1443, L, [], h2, 198, sl) := fun h2 hI2 q => lc_tail H hL (fun L' hL' => ih (i + 5) s R g C S L' h2 (by omega) (by omega) E hs0 hfr hlo (by omega) (by omega) (by omega) (by omega) hL' hI2)
    have tw : i + 5 ≤ Ln → ∀ (s' : State) (g' : Nat) (h2 : pm_H) (L' : pm_L), lw_Env D aC b bS Ln xs p s' m meth c → s'.heap.size = b + 198 + g' → LI8 h2 → lc_L bS i L' → pm_V p l e { frames := R.frames, locals := R.locals, cells := R.cells - 1, slots := R.slots - 6 } s' m #[Value.ref (aC (1000 + bS))] below meth c (lw_Zb b (C - 1) (S - 6) below s') PT D aC b 1000 198 sl (1443, L', [], h2, 198, sl) := fun q s' g' h2 L' E' hs' hI2 hL' => lc_tail (lw_cl (R := { frames := R.frames, locals := R.locals, cells := R.cells - 1, slots := R.slots - 6 }) E' hs' hfr hlo (by omega)) hL' (fun L2 hL2 => ih (i + 5) s' _ g' (C - 1) (S - 6) L2 h2 (by omega) (by omega) E' hs' hfr hlo (by dsimp only; omega) (by dsimp only; omega) (by omega) (by omega) hL2 hI2)
    refine lc_head H hL hi (by omega) (fun q => lc_enter H hL q (fun o ho => ?_)) (fun _ => lw_fin E hret hlk hs0 hfr hlo (by omega))
    by_cases z : 43 ≤ o
    · exact lc_default H z (by omega) (tl h hI q)
    have hz : o = 0 ∨ o = 1 ∨ o = 2 ∨ o = 3 ∨ o = 4 ∨ o = 5 ∨ o = 6 ∨ o = 7 ∨ o = 8 ∨ o = 9 ∨ o = 10 ∨ o = 11 ∨ o = 12 ∨ o = 13 ∨ o = 14 ∨ o = 15 ∨ o = 16 ∨ o = 17 ∨ o = 18 ∨ o = 19 ∨ o = 20 ∨ o = 21 ∨ o = 22 ∨ o = 23 ∨ o = 24 ∨ o = 25 ∨ o = 26 ∨ o = 27 ∨ o = 28 ∨ o = 29 ∨ o = 30 ∨ o = 31 ∨ o = 32 ∨ o = 33 ∨ o = 34 ∨ o = 35 ∨ o = 36 ∨ o = 37 ∨ o = 38 ∨ o = 39 ∨ o = 40 ∨ o = 41 ∨ o = 42 := by omega
    rcases hz with rfl | rfl | rfl | rfl | rfl | rfl | rfl | rfl | rfl | rfl | rfl | rfl | rfl | rfl | rfl | rfl | rfl | rfl | rfl | rfl | rfl | rfl | rfl | rfl | rfl | rfl | rfl | rfl | rfl | rfl | rfl | rfl | rfl | rfl | rfl | rfl | rfl | rfl | rfl | rfl | rfl | rfl | rfl
    · exact lc_switch H (by decide) rfl (rd_sign H hL q hI (fun h2 hI2 => tl h2 hI2 q))
    · exact lc_switch H (by decide) rfl (rd_end H hL q hI (fun h2 hI2 => tl h2 hI2 q))
    · exact lc_switch H (by decide) rfl (rd_courts H hL q hI (fun h2 hI2 => tl h2 hI2 q))
    · exact lc_switch H (by decide) rfl (rd_gifts H hL q hI (fun h2 hI2 => tl h2 hI2 q))
    · exact lc_switch H (by decide) rfl (rd_rule H hL q hI (fun h2 hI2 => tl h2 hI2 q))
    · exact lc_switch H (by decide) rfl (wt_court htr E hs0 hfr hlo (by omega) (by omega) (by omega) (by omega) (by omega) q hL hI (tw q))
    · exact lc_switch H (by decide) rfl (wt_between htr E hs0 hfr hlo (by omega) (by omega) (by omega) (by omega) (by omega) q hL hI (tw q))
    · exact lc_switch H (by decide) rfl (wt_gift htr E hs0 hfr hlo (by omega) (by omega) (by omega) (by omega) (by omega) q hL hI (tw q))
    · exact lc_switch H (by decide) rfl (rd_road H hL q hI (fun h2 hI2 => tl h2 hI2 q))
    · exact lc_switch H (by decide) rfl (rd_sheet H hL q hI (fun h2 hI2 => tl h2 hI2 q))
    · exact lc_switch H (by decide) rfl (rd_send H hL q hI (fun h2 hI2 => tl h2 hI2 q))
    · exact lc_switch H (by decide) rfl (rd_months H hL q hI (fun h2 hI2 => tl h2 hI2 q))
    · exact lc_switch H (by decide) rfl (hrs _ i L h H hL q hI (fun h2 hI2 => tl h2 hI2 q))
    · exact lc_switch H (by decide) rfl (rd_forgive H hL q hI (fun h2 hI2 => tl h2 hI2 q))
    · exact lc_switch H (by decide) rfl (rd_year H hL q hI (fun h2 hI2 => tl h2 hI2 q))
    · exact lc_switch H (by decide) rfl (rd_undo H hL q hI (fun h2 hI2 => tl h2 hI2 q))
    · exact lc_switch H (by decide) rfl (rd_value H hL q hI (fun h2 hI2 => tl h2 hI2 q))
    · exact lc_switch H (by decide) rfl (rd_where H hL q hI (fun h2 hI2 => tl h2 hI2 q))
    · exact lc_switch H (by decide) rfl (rd_answer H hL q hI (fun h2 hI2 => tl h2 hI2 q))
    · exact lc_switch H (by decide) rfl (rd_wins H hL q hI (fun h2 hI2 => tl h2 hI2 q))
    · exact lc_switch H (by decide) rfl (rd_unseen H hL q hI (fun h2 hI2 => tl h2 hI2 q))
    · exact lc_switch H (by decide) rfl (rd_swaps H hL q hI (fun h2 hI2 => tl h2 hI2 q))
    · exact lc_switch H (by decide) rfl (rd_way H hL q hI (fun h2 hI2 => tl h2 hI2 q))
    · exact lc_switch H (by decide) rfl (rd_walks H hL q hI (fun h2 hI2 => tl h2 hI2 q))
    · exact lc_switch H (by decide) rfl (rd_alive H hL q hI (fun h2 hI2 => tl h2 hI2 q))
    · exact lc_switch H (by decide) rfl (rd_feeds H hL q hI (fun h2 hI2 => tl h2 hI2 q))
    · exact lc_switch H (by decide) rfl (rd_starves H hL q hI (fun h2 hI2 => tl h2 hI2 q))
    · exact lc_switch H (by decide) rfl (rd_net H hL q hI (fun h2 hI2 => tl h2 hI2 q))
    · exact lc_switch H (by decide) rfl (rd_settle H hL q hI (fun h2 hI2 => tl h2 hI2 q))
    · exact lc_switch H (by decide) rfl (rd_ring H hL q hI (fun h2 hI2 => tl h2 hI2 q))
    · exact lc_switch H (by decide) rfl (rd_ranks H hL q hI (fun h2 hI2 => tl h2 hI2 q))
    · exact lc_switch H (by decide) rfl (rd_league H hL q hI (fun h2 hI2 => tl h2 hI2 q))
    · exact lc_switch H (by decide) rfl (rd_heard H hL q hI (fun h2 hI2 => tl h2 hI2 q))
    · exact lc_switch H (by decide) rfl (rd_forget H hL q hI (fun h2 hI2 => tl h2 hI2 q))
    · exact lc_switch H (by decide) rfl (rd_fits H hL q hI (fun h2 hI2 => tl h2 hI2 q))
    · exact lc_switch H (by decide) rfl (rd_ask H hL q hI (fun h2 hI2 => tl h2 hI2 q))
    · exact lc_switch H (by decide) rfl (rd_law H hL q hI (fun h2 hI2 => tl h2 hI2 q))
    · exact lc_switch H (by decide) rfl (rd_rests H hL q hI (fun h2 hI2 => tl h2 hI2 q))
    · exact lc_switch H (by decide) rfl (rd_years H hL q hI (fun h2 hI2 => tl h2 hI2 q))
    · exact lc_switch H (by decide) rfl (rd_keep H hL q hI (fun h2 hI2 => tl h2 hI2 q))
    · exact lc_switch H (by decide) rfl (rd_again H hL q hI (fun h2 hI2 => tl h2 hI2 q))
    · exact lc_switch H (by decide) rfl (rd_count H hL q hI (fun h2 hI2 => tl h2 hI2 q))
    · exact lc_switch H (by decide) rfl (wt_row htr E hs0 hfr hlo (by omega) (by omega) (by omega) (by omega) (by omega) q hL hI (tw q))
end LPP
