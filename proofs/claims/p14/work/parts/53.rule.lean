section MG53rulex0
/-! rules: begun, read to the end, laid, worked off; by hand -/
section RUL
variable {fr lo sl : Nat} {h : pm_H}
theorem aset_same {a n : Nat} {f : Nat → Int32} (e : h a = .inl (0, n, .inl f)) : aset h a n f = h := by
  funext i
  by_cases q : i = a
  · subst q; rw [aset_self, e]
  · exact aset_nei q
theorem hI_min {n m : Nat} (hn : n < 2 ^ 31) (hm : m < 2 ^ 31) : (if nI m < nI n then nI m else nI n) = nI (min n m) := by
  by_cases q : m < n
  · rw [if_pos ((nI_ltI hm hn).mpr q), Nat.min_eq_right (by omega)]
  · rw [if_neg (fun z => q ((nI_ltI hm hn).mp z)), Nat.min_eq_left (by omega)]
/-- behind begins: the text's length, how far it is read -/
def hbeg (h : pm_H) (n m : Nat) : pm_H := mset (mset (mset (mset h 15 (.int 0)) 16 (.int 0)) 18 (.int 0)) 17 (.int (nI (min n m)))
theorem hd_begins {n m : Nat} {x16 x17 x18 : Value} (h15 : mF h 15 (.int (nI n))) (h16 : mF h 16 x16) (h17 : mF h 17 x17) (h18 : mF h 18 x18) (hn : n ≤ 80) (hm : m ≤ 80) (hf : 1 ≤ fr) (hl : 20 ≤ lo) : pm_WP PT fr lo 180 (0, pm_l0 [.ref 162, .int (nI m)] 3, [], h, 198, sl) (fun r => r = (some (.int (nI n)), hbeg h n m, 198, sl)) := by
  refine wp_i rfl rfl rfl rfl ?_
  show pm_WP PT fr lo 180 (1, [some (.ref 162), some (.int (nI m)), none], [.ref 162], h, 198, sl) _
  refine wp_gfm rfl rfl h15 ?_
  refine wp_i rfl rfl rfl rfl ?_
  refine wp_i rfl rfl rfl rfl ?_
  refine wp_i rfl rfl rfl rfl ?_
  show pm_WP PT fr lo 180 (7, [some (.ref 162), some (.int (nI m)), some (.int (nI n))], [.int 0, .ref 162], h, 198, sl) _
  refine wp_pfm rfl rfl rfl (by decide) h15 ?_
  refine wp_i rfl rfl rfl rfl ?_
  refine wp_i rfl rfl rfl rfl ?_
  show pm_WP PT fr lo 180 (12, [some (.ref 162), some (.int (nI m)), some (.int (nI n))], [.int 0, .ref 162], (mset h 15 (.int 0)), 198, sl) _
  refine wp_pfm rfl rfl rfl (by decide) (mF_ne (by decide) h16) ?_
  refine wp_i rfl rfl rfl rfl ?_
  refine wp_i rfl rfl rfl rfl ?_
  show pm_WP PT fr lo 180 (17, [some (.ref 162), some (.int (nI m)), some (.int (nI n))], [.int 0, .ref 162], (mset (mset h 15 (.int 0)) 16 (.int 0)), 198, sl) _
  refine wp_pfm rfl rfl rfl (by decide) (mF_ne (by decide) (mF_ne (by decide) h18)) ?_
  refine wp_i rfl rfl rfl rfl ?_
  refine wp_i rfl rfl rfl rfl ?_
  refine wp_i rfl rfl rfl rfl ?_
  show pm_WP PT fr lo 180 (23, [some (.ref 162), some (.int (nI m)), some (.int (nI n))], [.int (nI m), .int (nI n), .ref 162], (mset (mset (mset h 15 (.int 0)) 16 (.int 0)) 18 (.int 0)), 198, sl) _
  refine wp_min rfl rfl hf (by show pm_sum [Value.ref 162] + 13 ≤ lo; have : pm_sum [Value.ref 162] = 1 := rfl; omega) ?_
  rw [hI_min (by omega) (by omega)]
  show pm_WP PT fr lo 180 (26, [some (.ref 162), some (.int (nI m)), some (.int (nI n))], [.int (nI (min n m)), .ref 162], (mset (mset (mset h 15 (.int 0)) 16 (.int 0)) 18 (.int 0)), 198, sl) _
  refine wp_pfm rfl rfl rfl (by decide) (mF_ne (by decide) (mF_ne (by decide) (mF_ne (by decide) h17))) ?_
  refine wp_i rfl rfl rfl rfl ?_
  show pm_WP PT fr lo 180 (30, [some (.ref 162), some (.int (nI m)), some (.int (nI n))], [.int (nI n)], (mset (mset (mset (mset h 15 (.int 0)) 16 (.int 0)) 18 (.int 0)) 17 (.int (nI (min n m)))), 198, sl) _
  exact wp_iret rfl rfl rfl
/-- the fault of a text of n signs, read up to a of t -/
def flt (n m a t : Nat) (b : Bool) : Int32 := if m < n ∧ ((b = true ∧ a = t) ∨ m ≤ a) then -1 - nI m else if b = true ∧ a = t then 0 else -1 - nI a
theorem hd_faultOf {n m a t : Nat} {b : Bool} (h16 : mF h 16 (.int (nI a))) (h17 : mF h 17 (.int (nI t))) (hn : n ≤ 80) (hm : m ≤ 80) (ha : a ≤ 80) (ht : t ≤ 80) : pm_WP PT fr lo 186 (0, pm_l0 [.ref 162, .int (nI n), .int (nI m), .int (cond b 1 0)] 5, [], h, 198, sl) (fun r => r = (some (.int (flt n m a t b)), h, 198, sl)) := by
  have tail : ∀ c : Bool, (c = true ↔ (b = true ∧ a = t)) → pm_WP PT fr lo 186 (20, [some (.ref 162), some (.int (nI n)), some (.int (nI m)), some (.int (cond b 1 0)), none], [.int (cond c 1 0)], h, 198, sl) (fun r => r = (some (.int (flt n m a t b)), h, 198, sl)) := by
    intro c hc
    refine wp_i rfl rfl rfl rfl ?_
    refine wp_i rfl rfl rfl rfl ?_
    refine wp_i rfl rfl rfl rfl ?_
    show pm_WP PT fr lo 186 (24, [some (.ref 162), some (.int (nI n)), some (.int (nI m)), some (.int (cond b 1 0)), some (.int (cond c 1 0))], [.int (nI m), .int (nI n)], h, 198, sl) _
    refine wp_icmp (c := .le) (off := 20) (t := 44) rfl rfl (fun q => ?_) (fun q => ?_)
    · have q : n ≤ m := of_decide_eq_true ((hI_le (by omega) (by omega)).symm.trans q)
      have e : flt n m a t b = cond c 0 (-1 - nI a) := by
        unfold flt
        rw [if_neg (by omega)]
        cases c with
        | true => rw [if_pos (hc.mp rfl)]; rfl
        | false => rw [if_neg (fun z => by cases hc.mpr z)]; rfl
      rw [e]
      refine wp_i rfl rfl rfl rfl ?_
      cases c with
      | true =>
        refine wp_i rfl rfl rfl rfl ?_
        refine wp_i rfl rfl rfl rfl ?_
        refine wp_i rfl rfl rfl rfl ?_
        show pm_WP PT fr lo 186 (59, [some (.ref 162), some (.int (nI n)), some (.int (nI m)), some (.int (cond b 1 0)), some (.int 1)], [.int 0], h, 198, sl) _
        exact wp_iret rfl rfl rfl
      | false =>
        refine wp_i rfl rfl rfl rfl ?_
        refine wp_i rfl rfl rfl rfl ?_
        refine wp_i rfl rfl rfl rfl ?_
        show pm_WP PT fr lo 186 (55, [some (.ref 162), some (.int (nI n)), some (.int (nI m)), some (.int (cond b 1 0)), some (.int 0)], [.ref 162, .int (-1)], h, 198, sl) _
        refine wp_gfm rfl rfl h16 ?_
        refine wp_i rfl rfl rfl rfl ?_
        show pm_WP PT fr lo 186 (59, [some (.ref 162), some (.int (nI n)), some (.int (nI m)), some (.int (cond b 1 0)), some (.int 0)], [.int ((-1) - (nI a))], h, 198, sl) _
        exact wp_iret rfl rfl rfl
    · have q : ¬ n ≤ m := of_decide_eq_false ((hI_le (by omega) (by omega)).symm.trans q)
      refine wp_i rfl rfl rfl rfl ?_
      cases c with
      | true =>
        have e : flt n m a t b = -1 - nI m := by
          unfold flt
          rw [if_pos ⟨by omega, Or.inl (hc.mp rfl)⟩]
        rw [e]
        refine wp_i rfl rfl rfl rfl ?_
        refine wp_i rfl rfl rfl rfl ?_
        refine wp_i rfl rfl rfl rfl ?_
        refine wp_i rfl rfl rfl rfl ?_
        show pm_WP PT fr lo 186 (43, [some (.ref 162), some (.int (nI n)), some (.int (nI m)), some (.int (cond b 1 0)), some (.int 1)], [.int ((-1) - (nI m))], h, 198, sl) _
        exact wp_iret rfl rfl rfl
      | false =>
        have hc2 : ¬ (b = true ∧ a = t) := fun z => by cases hc.mpr z
        refine wp_i rfl rfl rfl rfl ?_
        refine wp_i rfl rfl rfl rfl ?_
        show pm_WP PT fr lo 186 (33, [some (.ref 162), some (.int (nI n)), some (.int (nI m)), some (.int (cond b 1 0)), some (.int 0)], [.ref 162], h, 198, sl) _
        refine wp_gfm rfl rfl h16 ?_
        refine wp_i rfl rfl rfl rfl ?_
        show pm_WP PT fr lo 186 (37, [some (.ref 162), some (.int (nI n)), some (.int (nI m)), some (.int (cond b 1 0)), some (.int 0)], [.int (nI m), .int (nI a)], h, 198, sl) _
        refine wp_icmp (c := .lt) (off := 7) (t := 44) rfl rfl (fun q => ?_) (fun q => ?_)
        · rename_i q0
          have q2 : a < m := of_decide_eq_true ((hI_lt (by omega) (by omega)).symm.trans q)
          have e : flt n m a t b = -1 - nI a := by
            unfold flt
            rw [if_neg (fun z => by rcases z.2 with z2 | z2; exact hc2 z2; omega), if_neg hc2]
          rw [e]
          refine wp_i rfl rfl rfl rfl ?_
          refine wp_i rfl rfl rfl rfl ?_
          refine wp_i rfl rfl rfl rfl ?_
          refine wp_i rfl rfl rfl rfl ?_
          show pm_WP PT fr lo 186 (55, [some (.ref 162), some (.int (nI n)), some (.int (nI m)), some (.int (cond b 1 0)), some (.int 0)], [.ref 162, .int (-1)], h, 198, sl) _
          refine wp_gfm rfl rfl h16 ?_
          refine wp_i rfl rfl rfl rfl ?_
          show pm_WP PT fr lo 186 (59, [some (.ref 162), some (.int (nI n)), some (.int (nI m)), some (.int (cond b 1 0)), some (.int 0)], [.int ((-1) - (nI a))], h, 198, sl) _
          exact wp_iret rfl rfl rfl
        · have q2 : ¬ a < m := of_decide_eq_false ((hI_lt (by omega) (by omega)).symm.trans q)
          have e : flt n m a t b = -1 - nI m := by
            unfold flt
            rw [if_pos ⟨by omega, Or.inr (by omega)⟩]
          rw [e]
          refine wp_i rfl rfl rfl rfl ?_
          refine wp_i rfl rfl rfl rfl ?_
          refine wp_i rfl rfl rfl rfl ?_
          show pm_WP PT fr lo 186 (43, [some (.ref 162), some (.int (nI n)), some (.int (nI m)), some (.int (cond b 1 0)), some (.int 0)], [.int ((-1) - (nI m))], h, 198, sl) _
          exact wp_iret rfl rfl rfl
  refine wp_i rfl rfl rfl rfl ?_
  cases b with
  | false =>
    refine wp_i rfl rfl rfl rfl ?_
    refine wp_i rfl rfl rfl rfl ?_
    show pm_WP PT fr lo 186 (20, [some (.ref 162), some (.int (nI n)), some (.int (nI m)), some (.int 0), none], [.int 0], h, 198, sl) _
    exact tail false ⟨fun z => (by cases z), fun z => (by cases z.1)⟩
  | true =>
    refine wp_i rfl rfl rfl rfl ?_
    refine wp_i rfl rfl rfl rfl ?_
    show pm_WP PT fr lo 186 (5, [some (.ref 162), some (.int (nI n)), some (.int (nI m)), some (.int 1), none], [.ref 162], h, 198, sl) _
    refine wp_gfm rfl rfl h16 ?_
    refine wp_i rfl rfl rfl rfl ?_
    show pm_WP PT fr lo 186 (9, [some (.ref 162), some (.int (nI n)), some (.int (nI m)), some (.int 1), none], [.ref 162, .int (nI a)], h, 198, sl) _
    refine wp_gfm rfl rfl h17 ?_
    show pm_WP PT fr lo 186 (12, [some (.ref 162), some (.int (nI n)), some (.int (nI m)), some (.int 1), none], [.int (nI t), .int (nI a)], h, 198, sl) _
    refine wp_icmp (c := .ne) (off := 7) (t := 19) rfl rfl (fun q => ?_) (fun q => ?_)
    · have q : ¬ a = t := of_decide_eq_true ((hI_ne (by omega) (by omega)).symm.trans q)
      refine wp_i rfl rfl rfl rfl ?_
      show pm_WP PT fr lo 186 (20, [some (.ref 162), some (.int (nI n)), some (.int (nI m)), some (.int 1), none], [.int 0], h, 198, sl) _
      exact tail false ⟨fun z => (by cases z), fun z => absurd z.2 q⟩
    · have q : a = t := Decidable.not_not.mp (of_decide_eq_false ((hI_ne (by omega) (by omega)).symm.trans q))
      refine wp_i rfl rfl rfl rfl ?_
      refine wp_i rfl rfl rfl rfl ?_
      show pm_WP PT fr lo 186 (20, [some (.ref 162), some (.int (nI n)), some (.int (nI m)), some (.int 1), none], [.int 1], h, 198, sl) _
      exact tail true ⟨fun _ => ⟨rfl, q⟩, fun _ => rfl⟩
def rDC (i : Nat) : Bool := Nat.beq i 175
def rDG (g : Nat) : Bool := Nat.beq g 15 || (Nat.beq g 16 || (Nat.beq g 17 || (Nat.beq g 18 || Nat.beq g 24)))
theorem rD_of {h h' : pm_H} (p : pD h h') : dD rDC rDG h h' := dD_mono p (fun i q => q) (fun g q => by
  unfold rDG at q
  unfold pDG
  simp only [Bool.or_eq_false_iff] at q ⊢
  exact ⟨q.2.1, q.2.2.2.1, q.2.2.2.2⟩)
theorem flt_bd {n m a t : Nat} {b : Bool} (hm : m ≤ 80) (ha : a ≤ 80) : -81 ≤ (flt n m a t b).toInt ∧ (flt n m a t b).toInt ≤ 0 ∧ ((flt n m a t b).toInt = 0 ↔ flt n m a t b = 0) ∧ (flt n m a t b = 0 → b = true ∧ a = t) := by
  have key : ∀ k : Nat, k ≤ 80 → (-1 - nI k).toInt = -1 - (k : Int) := by decide +kernel
  unfold flt
  split
  · have := key m hm
    refine ⟨by omega, by omega, ⟨fun z => by omega, fun z => ?_⟩, fun z => ?_⟩
    · rw [z] at this; have h0 : (0 : Int32).toInt = 0 := rfl; omega
    · rw [z] at this; have h0 : (0 : Int32).toInt = 0 := rfl; omega
  · split
    · rename_i q
      exact ⟨by decide, by decide, ⟨fun _ => rfl, fun _ => rfl⟩, fun _ => q⟩
    · have := key a ha
      refine ⟨by omega, by omega, ⟨fun z => by omega, fun z => ?_⟩, fun z => ?_⟩
      · rw [z] at this; have h0 : (0 : Int32).toInt = 0 := rfl; omega
      · rw [z] at this; have h0 : (0 : Int32).toInt = 0 := rfl; omega
/-- behind readsRule: a fault, or a row that can be worked off -/
def rrPost (h : pm_H) (sl : Nat) (r : pm_Rs) : Prop := ∃ (f : Int32) (h' : pm_H) (a t n c : Nat) (rc tp : Nat → Int32), r = (some (.int f), h', 198, sl) ∧ dD rDC rDG h h' ∧ pS h' a t n c rc tp ∧ mF h' 15 (.int 0) ∧ a ≤ 40 ∧ t ≤ 40 ∧ n ≤ 4 ∧ c ≤ 40 ∧ -81 ≤ f.toInt ∧ f.toInt ≤ 0 ∧ (f = 0 → c = 0 ∨ dep rc c = some 1)
theorem hd_readsRule {n : Nat} {x16 x17 x18 x24 : Value} {rc tp : Nat → Int32} (h15 : mF h 15 (.int (nI n))) (h16 : mF h 16 x16) (h17 : mF h 17 x17) (h18 : mF h 18 x18) (h24 : mF h 24 x24) (h14 : mF h 14 (.ref 172)) (hA : h 172 = .inl (0, 80, .inl tp)) (h22 : mF h 22 (.ref 175)) (hR : h 175 = .inl (0, 80, .inl rc)) (hn : n ≤ 80) (hf : 400 ≤ fr) (hl : 10000 ≤ lo) : pm_WP PT fr lo 196 (0, pm_l0 [.ref 162] 3, [], h, 198, sl) (rrPost h sl) := by
  refine wp_i rfl rfl rfl rfl ?_
  refine wp_i rfl rfl rfl rfl ?_
  show pm_WP PT fr lo 196 (3, [some (.ref 162), none, none], [.int 40, .ref 162], h, 198, sl) _
  refine wp_callM (t := 180) (As := [.int 40]) (rest := []) (mx := 3) rfl rfl rfl rfl (Nat.le_of_ble_eq_true rfl) (Nat.le_of_ble_eq_true rfl) (by omega) (by omega) rfl (mF_obj h15) (wp_mono (hd_begins (m := 40) h15 h16 h17 h18 hn (by decide) (by omega) (by omega)) ?_)
  rintro _ rfl
  unfold hbeg
  refine wp_i rfl rfl rfl rfl ?_
  refine wp_i rfl rfl rfl rfl ?_
  refine wp_i rfl rfl rfl rfl ?_
  show pm_WP PT fr lo 196 (9, [some (.ref 162), some (.int (nI n)), none], [.int 0, .ref 162], (mset (mset (mset (mset h 15 (.int 0)) 16 (.int 0)) 18 (.int 0)) 17 (.int (nI (min n 40)))), 198, sl) _
  refine wp_pfm rfl rfl rfl (by decide) (mF_ne (by decide) (mF_ne (by decide) (mF_ne (by decide) (mF_ne (by decide) h24)))) ?_
  refine wp_i rfl rfl rfl rfl ?_
  have f0 : dD rDC rDG h (mset (mset (mset (mset (mset h 15 (.int 0)) 16 (.int 0)) 18 (.int 0)) 17 (.int (nI (min n 40)))) 24 (.int 0)) := dD_tr (dD_tr (dD_tr (dD_tr (dD_set rfl) (dD_set rfl)) (dD_set rfl)) (dD_set rfl)) (dD_set rfl)
  have s0 : pS (mset (mset (mset (mset (mset h 15 (.int 0)) 16 (.int 0)) 18 (.int 0)) 17 (.int (nI (min n 40)))) 24 (.int 0)) 0 (min n 40) 0 0 rc tp := ⟨(mF_ne (by decide) (mF_ne (by decide) (mF_ne (by decide) (mF_self (mF_ne (by decide) h16))))), (mF_ne (by decide) (mF_self (mF_ne (by decide) (mF_ne (by decide) (mF_ne (by decide) h17))))), mF_ne (by decide) (mF_ne (by decide) (mF_ne (by decide) (mF_ne (by decide) (mF_ne (by decide) h14)))), mset_arr (by decide) (mset_arr (by decide) (mset_arr (by decide) (mset_arr (by decide) (mset_arr (by decide) hA)))), (mF_ne (by decide) (mF_ne (by decide) (mF_self (mF_ne (by decide) (mF_ne (by decide) h18))))), (mF_self (mF_ne (by decide) (mF_ne (by decide) (mF_ne (by decide) (mF_ne (by decide) h24))))), mF_ne (by decide) (mF_ne (by decide) (mF_ne (by decide) (mF_ne (by decide) (mF_ne (by decide) h22)))), mset_arr (by decide) (mset_arr (by decide) (mset_arr (by decide) (mset_arr (by decide) (mset_arr (by decide) hR))))⟩
  have m0 : mF (mset (mset (mset (mset (mset h 15 (.int 0)) 16 (.int 0)) 18 (.int 0)) 17 (.int (nI (min n 40)))) 24 (.int 0)) 15 (.int 0) := (mF_ne (by decide) (mF_ne (by decide) (mF_ne (by decide) (mF_ne (by decide) (mF_self h15)))))
  have ho : ∃ fs, (mset (mset (mset (mset (mset h 15 (.int 0)) 16 (.int 0)) 18 (.int 0)) 17 (.int (nI (min n 40)))) 24 (.int 0)) 162 = .inr (11, fs) := mF_obj m0
  generalize (mset (mset (mset (mset (mset h 15 (.int 0)) 16 (.int 0)) 18 (.int 0)) 17 (.int (nI (min n 40)))) 24 (.int 0)) = h1 at f0 s0 m0 ho ⊢
  have last : ∀ (b : Bool) (h2 : pm_H) (a t nn c : Nat) (rc2 : Nat → Int32), dD rDC rDG h h2 → pS h2 a t nn c rc2 tp → mF h2 15 (.int 0) → a ≤ 40 → t ≤ 40 → nn ≤ 4 → c ≤ 40 → (b = true → c = 0 ∨ dep rc2 c = some 1) → pm_WP PT fr lo 196 (29, [some (.ref 162), some (.int (nI n)), none], [.int (cond b 1 0)], h2, 198, sl) (rrPost h sl) := by
    intro b h2 a t nn c rc2 f2 s2 m2 ha ht hnn hc hb
    refine wp_i rfl rfl rfl rfl ?_
    refine wp_i rfl rfl rfl rfl ?_
    refine wp_i rfl rfl rfl rfl ?_
    refine wp_i rfl rfl rfl rfl ?_
    refine wp_i rfl rfl rfl rfl ?_
    show pm_WP PT fr lo 196 (35, [some (.ref 162), some (.int (nI n)), some (.int (cond b 1 0))], [.int (cond b 1 0), .int 40, .int (nI n), .ref 162], h2, 198, sl) _
    refine wp_callM (t := 186) (As := [.int (nI n), .int 40, .int (cond b 1 0)]) (rest := []) (mx := 5) rfl rfl rfl rfl (Nat.le_of_ble_eq_true rfl) (Nat.le_of_ble_eq_true rfl) (by omega) (by omega) rfl (mF_obj m2) (wp_mono (hd_faultOf (m := 40) (b := b) s2.1 s2.2.1 hn (by decide) (by omega) (by omega)) ?_)
    rintro _ rfl
    show pm_WP PT fr lo 196 (38, [some (.ref 162), some (.int (nI n)), some (.int (cond b 1 0))], [.int (flt n 40 a t b)], h2, 198, sl) _
    obtain ⟨e1, e2, -, e4⟩ := flt_bd (n := n) (m := 40) (a := a) (t := t) (b := b) (by decide) (by omega)
    exact wp_iret rfl rfl ⟨_, h2, a, t, nn, c, rc2, tp, rfl, f2, s2, m2, ha, ht, hnn, hc, e1, e2, fun z => hb (e4 z).1⟩
  show pm_WP PT fr lo 196 (13, [some (.ref 162), some (.int (nI n)), none], [.int (nI n)], h1, 198, sl) _
  refine wp_if (c := .eq) (off := 11) (t := 24) rfl rfl (fun q => ?_) (fun q => ?_)
  · refine wp_i rfl rfl rfl rfl ?_
    refine wp_i rfl rfl rfl rfl ?_
    show pm_WP PT fr lo 196 (29, [some (.ref 162), some (.int (nI n)), none], [.int 1], h1, 198, sl) _
    exact last true h1 0 (min n 40) 0 0 rc f0 s0 m0 (by omega) (by omega) (by omega) (by omega) (fun _ => Or.inl rfl)
  · refine wp_i rfl rfl rfl rfl ?_
    refine wp_i rfl rfl rfl rfl ?_
    show pm_WP PT fr lo 196 (18, [some (.ref 162), some (.int (nI n)), none], [.int 0, .ref 162], h1, 198, sl) _
    refine wp_callM (t := 195) (As := [.int 0]) (rest := []) (mx := 4) rfl rfl rfl rfl (Nat.le_of_ble_eq_true rfl) (Nat.le_of_ble_eq_true rfl) (by omega) (by omega) rfl (mF_obj m0) (wp_mono ((pr_all 40).2 _ _ _ h1 0 (min n 40) 0 0 0 rc tp s0 (by omega) (by omega) (by omega) (by omega) rfl (by omega) (by omega) (by omega)) ?_)
    rintro _ ⟨b, h2, a2, n2, c2, rc2, rfl, s2, f2, g1, g2, g3, g4, g5⟩
    have m2 : mF h2 15 (.int 0) := dD_mF f2 rfl m0
    have f2 := dD_tr f0 (rD_of f2)
    cases b with
    | true =>
      refine wp_i rfl rfl rfl rfl ?_
      refine wp_i rfl rfl rfl rfl ?_
      refine wp_i rfl rfl rfl rfl ?_
      show pm_WP PT fr lo 196 (29, [some (.ref 162), some (.int (nI n)), none], [.int 1], h2, 198, sl) _
      exact last true h2 a2 (min n 40) n2 c2 rc2 f2 s2 m2 (by omega) (by omega) g4 (by omega) (fun _ => Or.inr (g5 rfl).2.2)
    | false =>
      refine wp_i rfl rfl rfl rfl ?_
      refine wp_i rfl rfl rfl rfl ?_
      show pm_WP PT fr lo 196 (29, [some (.ref 162), some (.int (nI n)), none], [.int 0], h2, 198, sl) _
      exact last false h2 a2 (min n 40) n2 c2 rc2 f2 s2 m2 (by omega) (by omega) g4 (by omega) (fun z => by cases z)
def cpf (f g : Nat → Int32) (n : Nat) : Nat → Int32 := fun j => if j < n then f j else g j
theorem cpf_0 (f g : Nat → Int32) : cpf f g 0 = g := by funext j; simp [cpf]
theorem cpf_up (f g : Nat → Int32) (n : Nat) : upd (cpf f g n) n (f n) = cpf f g (n + 1) := by
  funext j
  unfold upd cpf
  by_cases e : j = n
  · subst e
    simp
  · simp only [if_neg e]
    by_cases q : j < n
    · rw [if_pos q, if_pos (by omega)]
    · rw [if_neg q, if_neg (by omega)]
theorem hd_laysL175 {f : Nat → Int32} {n : Nat} (hn : n ≤ 80) : ∀ (m k : Nat) (g : Nat → Int32) (h : pm_H), k + m = n → mF h 21 (.ref 174) → h 175 = .inl (0, 80, .inl f) → h 174 = .inl (0, 80, .inl g) → pm_WP PT fr lo 197 (7, [some (.ref 162), some (.ref 175), some (.int (nI n)), some (.int (nI k))], [], h, 198, sl) (fun r => ∃ g2 : Nat → Int32, r = (none, aset h 174 80 g2, 198, sl) ∧ (∀ j, j < k → g2 j = g j) ∧ ∀ j, k ≤ j → j < n → g2 j = f j) := by
  intro m
  induction m with
  | zero =>
    intro k g h hk h21 hS hC
    refine wp_i rfl rfl rfl rfl ?_
    refine wp_i rfl rfl rfl rfl ?_
    show pm_WP PT fr lo 197 (9, [some (.ref 162), some (.ref 175), some (.int (nI n)), some (.int (nI k))], [.int (nI n), .int (nI k)], h, 198, sl) _
    refine wp_icmp (c := .ge) (off := 18) (t := 27) rfl rfl (fun _ => ?_) (fun q => absurd (q.symm.trans ((hI_ge (by omega) (by omega)).trans (decide_eq_true (by omega)))) (by decide))
    show pm_WP PT fr lo 197 (27, [some (.ref 162), some (.ref 175), some (.int (nI n)), some (.int (nI k))], [], h, 198, sl) _
    refine wp_vret rfl rfl ⟨g, ?_, fun _ _ => rfl, fun j a b => by omega⟩
    rw [aset_same hC]
  | succ m ih =>
    intro k g h hk h21 hS hC
    refine wp_i rfl rfl rfl rfl ?_
    refine wp_i rfl rfl rfl rfl ?_
    show pm_WP PT fr lo 197 (9, [some (.ref 162), some (.ref 175), some (.int (nI n)), some (.int (nI k))], [.int (nI n), .int (nI k)], h, 198, sl) _
    refine wp_icmp (c := .ge) (off := 18) (t := 27) rfl rfl (fun q => absurd (q.symm.trans ((hI_ge (by omega) (by omega)).trans (decide_eq_false (by omega)))) (by decide)) (fun _ => ?_)
    refine wp_i rfl rfl rfl rfl ?_
    show pm_WP PT fr lo 197 (13, [some (.ref 162), some (.ref 175), some (.int (nI n)), some (.int (nI k))], [.ref 162], h, 198, sl) _
    refine wp_gfm rfl rfl h21 ?_
    refine wp_i rfl rfl rfl rfl ?_
    refine wp_i rfl rfl rfl rfl ?_
    refine wp_i rfl rfl rfl rfl ?_
    show pm_WP PT fr lo 197 (19, [some (.ref 162), some (.ref 175), some (.int (nI n)), some (.int (nI k))], [.int (nI k), .ref 175, .int (nI k), .ref 174], h, 198, sl) _
    refine wp_iam rfl hS (hI_in (by omega) (by omega)) (by decide) ?_
    rw [nI_clamp (by omega)]
    show pm_WP PT fr lo 197 (20, [some (.ref 162), some (.ref 175), some (.int (nI n)), some (.int (nI k))], [.int (f k), .int (nI k), .ref 174], h, 198, sl) _
    refine wp_ism rfl hC (hI_in (by omega) (by omega)) (by decide) ?_
    rw [upd_nI (by omega)]
    refine wp_i rfl rfl rfl rfl ?_
    refine wp_i rfl rfl rfl rfl ?_
    show pm_WP PT fr lo 197 (7, [some (.ref 162), some (.ref 175), some (.int (nI n)), some (.int (nI k + 1))], [], (aset h 174 80 (upd g k (f k))), 198, sl) _
    rw [nI_1 k]
    refine wp_mono (ih (k + 1) (upd g k (f k)) (aset h 174 80 (upd g k (f k))) (by omega) (mF_as (by decide) h21) (aset_ne (by decide) hS) (aset_self _ _ _ _)) ?_
    rintro _ ⟨g2, rfl, e1, e2⟩
    refine ⟨g2, by rw [aset_aset], fun j hj => ?_, fun j a b => ?_⟩
    · rw [e1 j (by omega)]; simp [upd, Nat.ne_of_lt hj]
    · by_cases q : j = k
      · subst q; rw [e1 j (by omega)]; simp [upd]
      · exact e2 j (by omega) b
theorem hd_lays175 {f g : Nat → Int32} {n : Nat} {x : Value} (hn : n ≤ 80) (h23 : mF h 23 x) (h21 : mF h 21 (.ref 174)) (hS : h 175 = .inl (0, 80, .inl f)) (hC : h 174 = .inl (0, 80, .inl g)) : pm_WP PT fr lo 197 (0, pm_l0 [.ref 162, .ref 175, .int (nI n)] 4, [], h, 198, sl) (fun r => ∃ g2 : Nat → Int32, r = (none, aset (mset h 23 (.int (nI n))) 174 80 g2, 198, sl) ∧ ∀ j, j < n → g2 j = f j) := by
  refine wp_i rfl rfl rfl rfl ?_
  refine wp_i rfl rfl rfl rfl ?_
  show pm_WP PT fr lo 197 (2, [some (.ref 162), some (.ref 175), some (.int (nI n)), none], [.int (nI n), .ref 162], h, 198, sl) _
  refine wp_pfm rfl rfl rfl (by decide) h23 ?_
  refine wp_i rfl rfl rfl rfl ?_
  refine wp_i rfl rfl rfl rfl ?_
  show pm_WP PT fr lo 197 (7, [some (.ref 162), some (.ref 175), some (.int (nI n)), some (.int 0)], [], (mset h 23 (.int (nI n))), 198, sl) _
  refine wp_mono (hd_laysL175 (f := f) hn n 0 g (mset h 23 (.int (nI n))) (by omega) (mF_ne (by decide) h21) (mset_arr (by decide) hS) (mset_arr (by decide) hC)) ?_
  rintro _ ⟨g2, rfl, e1, e2⟩
  exact ⟨g2, rfl, fun j hj => e2 j (by omega) hj⟩
theorem hd_laysL193 {f : Nat → Int32} {n : Nat} (hn : n ≤ 80) : ∀ (m k : Nat) (g : Nat → Int32) (h : pm_H), k + m = n → mF h 21 (.ref 174) → h 193 = .inl (0, 80, .inl f) → h 174 = .inl (0, 80, .inl g) → pm_WP PT fr lo 197 (7, [some (.ref 162), some (.ref 193), some (.int (nI n)), some (.int (nI k))], [], h, 198, sl) (fun r => ∃ g2 : Nat → Int32, r = (none, aset h 174 80 g2, 198, sl) ∧ (∀ j, j < k → g2 j = g j) ∧ ∀ j, k ≤ j → j < n → g2 j = f j) := by
  intro m
  induction m with
  | zero =>
    intro k g h hk h21 hS hC
    refine wp_i rfl rfl rfl rfl ?_
    refine wp_i rfl rfl rfl rfl ?_
    show pm_WP PT fr lo 197 (9, [some (.ref 162), some (.ref 193), some (.int (nI n)), some (.int (nI k))], [.int (nI n), .int (nI k)], h, 198, sl) _
    refine wp_icmp (c := .ge) (off := 18) (t := 27) rfl rfl (fun _ => ?_) (fun q => absurd (q.symm.trans ((hI_ge (by omega) (by omega)).trans (decide_eq_true (by omega)))) (by decide))
    show pm_WP PT fr lo 197 (27, [some (.ref 162), some (.ref 193), some (.int (nI n)), some (.int (nI k))], [], h, 198, sl) _
    refine wp_vret rfl rfl ⟨g, ?_, fun _ _ => rfl, fun j a b => by omega⟩
    rw [aset_same hC]
  | succ m ih =>
    intro k g h hk h21 hS hC
    refine wp_i rfl rfl rfl rfl ?_
    refine wp_i rfl rfl rfl rfl ?_
    show pm_WP PT fr lo 197 (9, [some (.ref 162), some (.ref 193), some (.int (nI n)), some (.int (nI k))], [.int (nI n), .int (nI k)], h, 198, sl) _
    refine wp_icmp (c := .ge) (off := 18) (t := 27) rfl rfl (fun q => absurd (q.symm.trans ((hI_ge (by omega) (by omega)).trans (decide_eq_false (by omega)))) (by decide)) (fun _ => ?_)
    refine wp_i rfl rfl rfl rfl ?_
    show pm_WP PT fr lo 197 (13, [some (.ref 162), some (.ref 193), some (.int (nI n)), some (.int (nI k))], [.ref 162], h, 198, sl) _
    refine wp_gfm rfl rfl h21 ?_
    refine wp_i rfl rfl rfl rfl ?_
    refine wp_i rfl rfl rfl rfl ?_
    refine wp_i rfl rfl rfl rfl ?_
    show pm_WP PT fr lo 197 (19, [some (.ref 162), some (.ref 193), some (.int (nI n)), some (.int (nI k))], [.int (nI k), .ref 193, .int (nI k), .ref 174], h, 198, sl) _
    refine wp_iam rfl hS (hI_in (by omega) (by omega)) (by decide) ?_
    rw [nI_clamp (by omega)]
    show pm_WP PT fr lo 197 (20, [some (.ref 162), some (.ref 193), some (.int (nI n)), some (.int (nI k))], [.int (f k), .int (nI k), .ref 174], h, 198, sl) _
    refine wp_ism rfl hC (hI_in (by omega) (by omega)) (by decide) ?_
    rw [upd_nI (by omega)]
    refine wp_i rfl rfl rfl rfl ?_
    refine wp_i rfl rfl rfl rfl ?_
    show pm_WP PT fr lo 197 (7, [some (.ref 162), some (.ref 193), some (.int (nI n)), some (.int (nI k + 1))], [], (aset h 174 80 (upd g k (f k))), 198, sl) _
    rw [nI_1 k]
    refine wp_mono (ih (k + 1) (upd g k (f k)) (aset h 174 80 (upd g k (f k))) (by omega) (mF_as (by decide) h21) (aset_ne (by decide) hS) (aset_self _ _ _ _)) ?_
    rintro _ ⟨g2, rfl, e1, e2⟩
    refine ⟨g2, by rw [aset_aset], fun j hj => ?_, fun j a b => ?_⟩
    · rw [e1 j (by omega)]; simp [upd, Nat.ne_of_lt hj]
    · by_cases q : j = k
      · subst q; rw [e1 j (by omega)]; simp [upd]
      · exact e2 j (by omega) b
theorem hd_lays193 {f g : Nat → Int32} {n : Nat} {x : Value} (hn : n ≤ 80) (h23 : mF h 23 x) (h21 : mF h 21 (.ref 174)) (hS : h 193 = .inl (0, 80, .inl f)) (hC : h 174 = .inl (0, 80, .inl g)) : pm_WP PT fr lo 197 (0, pm_l0 [.ref 162, .ref 193, .int (nI n)] 4, [], h, 198, sl) (fun r => ∃ g2 : Nat → Int32, r = (none, aset (mset h 23 (.int (nI n))) 174 80 g2, 198, sl) ∧ ∀ j, j < n → g2 j = f j) := by
  refine wp_i rfl rfl rfl rfl ?_
  refine wp_i rfl rfl rfl rfl ?_
  show pm_WP PT fr lo 197 (2, [some (.ref 162), some (.ref 193), some (.int (nI n)), none], [.int (nI n), .ref 162], h, 198, sl) _
  refine wp_pfm rfl rfl rfl (by decide) h23 ?_
  refine wp_i rfl rfl rfl rfl ?_
  refine wp_i rfl rfl rfl rfl ?_
  show pm_WP PT fr lo 197 (7, [some (.ref 162), some (.ref 193), some (.int (nI n)), some (.int 0)], [], (mset h 23 (.int (nI n))), 198, sl) _
  refine wp_mono (hd_laysL193 (f := f) hn n 0 g (mset h 23 (.int (nI n))) (by omega) (mF_ne (by decide) h21) (mset_arr (by decide) hS) (mset_arr (by decide) hC)) ?_
  rintro _ ⟨g2, rfl, e1, e2⟩
  exact ⟨g2, rfl, fun j hj => e2 j (by omega) hj⟩
theorem wp_idiv {k pc : Nat} {L : pm_L} {r : List Value} {x y : Int32} {Q : pm_Rs → Prop} (hi : pm_ins PT k pc = some (.idiv, 1)) (hy : ¬ y = 0) (kk : pm_WP PT fr lo k (pc + 1, L, .int (x / y) :: r, h, 198, sl) Q) : pm_WP PT fr lo k (pc, L, .int y :: .int x :: r, h, 198, sl) Q := by
  refine wp_i hi rfl rfl ?_ kk
  show pm_bd (fun x y => x / y) pc L (.int y :: .int x :: r) h 198 sl = _
  unfold pm_bd
  dsimp only
  rw [if_neg hy]
theorem hd_worked0 (hf : 1 ≤ fr) (hl : 40 ≤ lo) (x y : Int32) : pm_WP PT fr lo 199 (0, pm_l0 [.int (nI 0), .int x, .int y] 3, [], h, 198, sl) (fun r => ∃ v : Int32, r = (some (.int v), h, 198, sl)) := by
  refine wp_i rfl rfl rfl rfl ?_
  refine wp_i rfl rfl rfl rfl ?_
  refine wp_i rfl rfl rfl rfl ?_
  refine wp_i rfl rfl rfl rfl ?_
  show pm_WP PT fr lo 199 (42, [some (.int (nI 0)), some (.int x), some (.int y)], [.int y, .int x], h, 198, sl) _
  refine wp_icmp (c := .ge) (off := 7) (t := 49) rfl rfl (fun q => ?_) (fun q => ?_)
  · refine wp_i rfl rfl rfl rfl ?_
    show pm_WP PT fr lo 199 (50, [some (.int (nI 0)), some (.int x), some (.int y)], [.int 0], h, 198, sl) _
    refine wp_callS (t := 165) (As := [.int 0]) (rest := []) (mx := 1) rfl rfl rfl rfl (Nat.le_of_ble_eq_true rfl) (Nat.le_of_ble_eq_true rfl) (by omega) (by omega) (wp_mono (hd_flag false) ?_)
    rintro _ rfl
    show pm_WP PT fr lo 199 (53, [some (.int (nI 0)), some (.int x), some (.int y)], [.int (cond false 1 0)], h, 198, sl) _
    exact wp_iret rfl rfl ⟨_, rfl⟩
  · refine wp_i rfl rfl rfl rfl ?_
    refine wp_i rfl rfl rfl rfl ?_
    show pm_WP PT fr lo 199 (50, [some (.int (nI 0)), some (.int x), some (.int y)], [.int 1], h, 198, sl) _
    refine wp_callS (t := 165) (As := [.int 1]) (rest := []) (mx := 1) rfl rfl rfl rfl (Nat.le_of_ble_eq_true rfl) (Nat.le_of_ble_eq_true rfl) (by omega) (by omega) (wp_mono (hd_flag true) ?_)
    rintro _ rfl
    show pm_WP PT fr lo 199 (53, [some (.int (nI 0)), some (.int x), some (.int y)], [.int (cond true 1 0)], h, 198, sl) _
    exact wp_iret rfl rfl ⟨_, rfl⟩
theorem hd_worked1 (hf : 1 ≤ fr) (hl : 40 ≤ lo) (x y : Int32) : pm_WP PT fr lo 199 (0, pm_l0 [.int (nI 1), .int x, .int y] 3, [], h, 198, sl) (fun r => ∃ v : Int32, r = (some (.int v), h, 198, sl)) := by
  refine wp_i rfl rfl rfl rfl ?_
  refine wp_i rfl rfl rfl rfl ?_
  refine wp_i rfl rfl rfl rfl ?_
  refine wp_i rfl rfl rfl rfl ?_
  show pm_WP PT fr lo 199 (56, [some (.int (nI 1)), some (.int x), some (.int y)], [.int y, .int x], h, 198, sl) _
  refine wp_icmp (c := .le) (off := 7) (t := 63) rfl rfl (fun q => ?_) (fun q => ?_)
  · refine wp_i rfl rfl rfl rfl ?_
    show pm_WP PT fr lo 199 (64, [some (.int (nI 1)), some (.int x), some (.int y)], [.int 0], h, 198, sl) _
    refine wp_callS (t := 165) (As := [.int 0]) (rest := []) (mx := 1) rfl rfl rfl rfl (Nat.le_of_ble_eq_true rfl) (Nat.le_of_ble_eq_true rfl) (by omega) (by omega) (wp_mono (hd_flag false) ?_)
    rintro _ rfl
    show pm_WP PT fr lo 199 (67, [some (.int (nI 1)), some (.int x), some (.int y)], [.int (cond false 1 0)], h, 198, sl) _
    exact wp_iret rfl rfl ⟨_, rfl⟩
  · refine wp_i rfl rfl rfl rfl ?_
    refine wp_i rfl rfl rfl rfl ?_
    show pm_WP PT fr lo 199 (64, [some (.int (nI 1)), some (.int x), some (.int y)], [.int 1], h, 198, sl) _
    refine wp_callS (t := 165) (As := [.int 1]) (rest := []) (mx := 1) rfl rfl rfl rfl (Nat.le_of_ble_eq_true rfl) (Nat.le_of_ble_eq_true rfl) (by omega) (by omega) (wp_mono (hd_flag true) ?_)
    rintro _ rfl
    show pm_WP PT fr lo 199 (67, [some (.int (nI 1)), some (.int x), some (.int y)], [.int (cond true 1 0)], h, 198, sl) _
    exact wp_iret rfl rfl ⟨_, rfl⟩
theorem hd_worked2 (hf : 1 ≤ fr) (hl : 40 ≤ lo) (x y : Int32) : pm_WP PT fr lo 199 (0, pm_l0 [.int (nI 2), .int x, .int y] 3, [], h, 198, sl) (fun r => ∃ v : Int32, r = (some (.int v), h, 198, sl)) := by
  refine wp_i rfl rfl rfl rfl ?_
  refine wp_i rfl rfl rfl rfl ?_
  refine wp_i rfl rfl rfl rfl ?_
  refine wp_i rfl rfl rfl rfl ?_
  show pm_WP PT fr lo 199 (70, [some (.int (nI 2)), some (.int x), some (.int y)], [.int y, .int x], h, 198, sl) _
  refine wp_icmp (c := .ne) (off := 7) (t := 77) rfl rfl (fun q => ?_) (fun q => ?_)
  · refine wp_i rfl rfl rfl rfl ?_
    show pm_WP PT fr lo 199 (78, [some (.int (nI 2)), some (.int x), some (.int y)], [.int 0], h, 198, sl) _
    refine wp_callS (t := 165) (As := [.int 0]) (rest := []) (mx := 1) rfl rfl rfl rfl (Nat.le_of_ble_eq_true rfl) (Nat.le_of_ble_eq_true rfl) (by omega) (by omega) (wp_mono (hd_flag false) ?_)
    rintro _ rfl
    show pm_WP PT fr lo 199 (81, [some (.int (nI 2)), some (.int x), some (.int y)], [.int (cond false 1 0)], h, 198, sl) _
    exact wp_iret rfl rfl ⟨_, rfl⟩
  · refine wp_i rfl rfl rfl rfl ?_
    refine wp_i rfl rfl rfl rfl ?_
    show pm_WP PT fr lo 199 (78, [some (.int (nI 2)), some (.int x), some (.int y)], [.int 1], h, 198, sl) _
    refine wp_callS (t := 165) (As := [.int 1]) (rest := []) (mx := 1) rfl rfl rfl rfl (Nat.le_of_ble_eq_true rfl) (Nat.le_of_ble_eq_true rfl) (by omega) (by omega) (wp_mono (hd_flag true) ?_)
    rintro _ rfl
    show pm_WP PT fr lo 199 (81, [some (.int (nI 2)), some (.int x), some (.int y)], [.int (cond true 1 0)], h, 198, sl) _
    exact wp_iret rfl rfl ⟨_, rfl⟩
theorem hd_worked3 (hf : 1 ≤ fr) (hl : 40 ≤ lo) (x y : Int32) : pm_WP PT fr lo 199 (0, pm_l0 [.int (nI 3), .int x, .int y] 3, [], h, 198, sl) (fun r => ∃ v : Int32, r = (some (.int v), h, 198, sl)) := by
  refine wp_i rfl rfl rfl rfl ?_
  refine wp_i rfl rfl rfl rfl ?_
  refine wp_i rfl rfl rfl rfl ?_
  refine wp_i rfl rfl rfl rfl ?_
  refine wp_i rfl rfl rfl rfl ?_
  show pm_WP PT fr lo 199 (85, [some (.int (nI 3)), some (.int x), some (.int y)], [.int (x + y)], h, 198, sl) _
  exact wp_iret rfl rfl ⟨_, rfl⟩
theorem hd_worked4 (hf : 1 ≤ fr) (hl : 40 ≤ lo) (x y : Int32) : pm_WP PT fr lo 199 (0, pm_l0 [.int (nI 4), .int x, .int y] 3, [], h, 198, sl) (fun r => ∃ v : Int32, r = (some (.int v), h, 198, sl)) := by
  refine wp_i rfl rfl rfl rfl ?_
  refine wp_i rfl rfl rfl rfl ?_
  refine wp_i rfl rfl rfl rfl ?_
  refine wp_i rfl rfl rfl rfl ?_
  refine wp_i rfl rfl rfl rfl ?_
  show pm_WP PT fr lo 199 (89, [some (.int (nI 4)), some (.int x), some (.int y)], [.int (x - y)], h, 198, sl) _
  exact wp_iret rfl rfl ⟨_, rfl⟩
theorem hd_worked5 (hf : 1 ≤ fr) (hl : 40 ≤ lo) (x y : Int32) : pm_WP PT fr lo 199 (0, pm_l0 [.int (nI 5), .int x, .int y] 3, [], h, 198, sl) (fun r => ∃ v : Int32, r = (some (.int v), h, 198, sl)) := by
  refine wp_i rfl rfl rfl rfl ?_
  refine wp_i rfl rfl rfl rfl ?_
  refine wp_i rfl rfl rfl rfl ?_
  refine wp_i rfl rfl rfl rfl ?_
  refine wp_i rfl rfl rfl rfl ?_
  show pm_WP PT fr lo 199 (93, [some (.int (nI 5)), some (.int x), some (.int y)], [.int (x * y)], h, 198, sl) _
  exact wp_iret rfl rfl ⟨_, rfl⟩
theorem hd_worked6 (hf : 1 ≤ fr) (hl : 40 ≤ lo) (x y : Int32) : pm_WP PT fr lo 199 (0, pm_l0 [.int (nI 6), .int x, .int y] 3, [], h, 198, sl) (fun r => ∃ v : Int32, r = (some (.int v), h, 198, sl)) := by
  refine wp_i rfl rfl rfl rfl ?_
  refine wp_i rfl rfl rfl rfl ?_
  refine wp_i rfl rfl rfl rfl ?_
  show pm_WP PT fr lo 199 (95, [some (.int (nI 6)), some (.int x), some (.int y)], [.int y], h, 198, sl) _
  refine wp_if (c := .ne) (off := 7) (t := 102) rfl rfl (fun q => ?_) (fun q => ?_)
  · have q : ¬ y = 0 := (rs_t (P := ¬ y = 0) rfl).1 q
    refine wp_i rfl rfl rfl rfl ?_
    refine wp_i rfl rfl rfl rfl ?_
    show pm_WP PT fr lo 199 (104, [some (.int (nI 6)), some (.int x), some (.int y)], [.int y, .int x], h, 198, sl) _
    refine wp_idiv rfl q ?_
    show pm_WP PT fr lo 199 (105, [some (.int (nI 6)), some (.int x), some (.int y)], [.int (x / y)], h, 198, sl) _
    exact wp_iret rfl rfl ⟨_, rfl⟩
  · refine wp_i rfl rfl rfl rfl ?_
    refine wp_i rfl rfl rfl rfl ?_
    show pm_WP PT fr lo 199 (105, [some (.int (nI 6)), some (.int x), some (.int y)], [.int 0], h, 198, sl) _
    exact wp_iret rfl rfl ⟨_, rfl⟩
theorem hd_worked {c : Nat} (hc : c ≤ 6) (hf : 1 ≤ fr) (hl : 40 ≤ lo) (x y : Int32) : pm_WP PT fr lo 199 (0, pm_l0 [.int (nI c), .int x, .int y] 3, [], h, 198, sl) (fun r => ∃ v : Int32, r = (some (.int v), h, 198, sl)) := by
  match c, hc with
  | 0, _ => exact hd_worked0 hf hl x y
  | 1, _ => exact hd_worked1 hf hl x y
  | 2, _ => exact hd_worked2 hf hl x y
  | 3, _ => exact hd_worked3 hf hl x y
  | 4, _ => exact hd_worked4 hf hl x y
  | 5, _ => exact hd_worked5 hf hl x y
  | 6, _ => exact hd_worked6 hf hl x y
theorem dep_le {f : Nat → Int32} : ∀ {k d : Nat}, dep f k = some d → d ≤ k
  | 0, d, e => by cases (Option.some.inj e : 0 = d); exact Nat.le_refl _
  | k + 1, d, e => by
    unfold dep at e
    cases hd : dep f k with
    | none => rw [hd] at e; cases e
    | some d0 =>
      rw [hd] at e
      have ih := dep_le hd
      have e : dst d0 (f k) = some d := e
      unfold dst at e
      repeat' split at e
      all_goals (first | (cases e; done) | (cases e; omega))
theorem dep_step {f : Nat → Int32} {k d : Nat} (e : dep f (k + 1) = some d) : ∃ d0, dep f k = some d0 ∧ dst d0 (f k) = some d := by
  unfold dep at e
  cases hd : dep f k with
  | none => rw [hd] at e; cases e
  | some d0 => rw [hd] at e; exact ⟨d0, rfl, e⟩
theorem dep_pre {f : Nat → Int32} {k : Nat} : ∀ {m d : Nat}, dep f (k + m) = some d → ∃ d0, dep f k = some d0
  | 0, d, h => ⟨d, h⟩
  | m + 1, d, h => by
    obtain ⟨d0, h0, -⟩ := dep_step (k := k + m) h
    exact dep_pre h0
theorem dst_less {d e : Nat} (h : dst d 3000 = some e) : 1 ≤ d ∧ e = d := by
  unfold dst at h
  rw [if_pos rfl] at h
  split at h
  · cases h; omega
  · cases h
theorem dst_act {d e : Nat} {c : Int32} (h1 : ¬ c = 3000) (h2 : ¬ c < 2000) (h : dst d c = some e) : ∃ j, j ≤ 6 ∧ c - 2000 = nI j ∧ 2 ≤ d ∧ e = d - 1 := by
  unfold dst at h
  have h2' : (2000 : Int32) ≤ c := by rw [Int32.le_iff_toInt_le]; rw [Int32.lt_iff_toInt_lt] at h2; omega
  rw [if_neg h1, if_pos h2'] at h
  split at h
  · rename_i q
    cases h
    have n1 : (2000 : Int32).toInt = 2000 := rfl
    have n2 : (2006 : Int32).toInt = 2006 := rfl
    have a1 := Int32.le_iff_toInt_le.mp h2'
    have a2 := Int32.le_iff_toInt_le.mp q.1
    rw [n1] at a1
    rw [n2] at a2
    obtain ⟨j, rfl, hj, ej⟩ := hI_of (show 0 ≤ c.toInt by omega)
    refine ⟨j - 2000, by omega, ?_, q.2, rfl⟩
    rw [show j = (j - 2000) + 2000 by omega, ← nI_add]
    rw [show nI 2000 = 2000 from rfl, show j - 2000 + 2000 - 2000 = j - 2000 by omega]
    simp
  · cases h
theorem dst_push {d e : Nat} {c : Int32} (h1 : ¬ c = 3000) (h2 : c < 2000) (h : dst d c = some e) : e = d + 1 ∧ (¬ c < 1000 → ∃ j, j < 7 ∧ c - 1000 = nI j) := by
  unfold dst at h
  have h2' : ¬ (2000 : Int32) ≤ c := by rw [Int32.le_iff_toInt_le]; rw [Int32.lt_iff_toInt_lt] at h2; omega
  rw [if_neg h1, if_neg h2'] at h
  split at h
  · rename_i q
    split at h
    · rename_i q2
      cases h
      refine ⟨rfl, fun _ => ?_⟩
      have n1 : (1000 : Int32).toInt = 1000 := rfl
      have n2 : (1007 : Int32).toInt = 1007 := rfl
      have a1 := Int32.le_iff_toInt_le.mp q
      have a2 := Int32.lt_iff_toInt_lt.mp q2
      rw [n1] at a1
      rw [n2] at a2
      obtain ⟨j, rfl, hj, ej⟩ := hI_of (show 0 ≤ c.toInt by omega)
      refine ⟨j - 1000, by omega, ?_⟩
      rw [show j = (j - 1000) + 1000 by omega, ← nI_add]
      rw [show nI 1000 = 1000 from rfl, show j - 1000 + 1000 - 1000 = j - 1000 by omega]
      simp
    · cases h
  · rename_i q
    cases h
    refine ⟨rfl, fun z => absurd ?_ q⟩
    rw [Int32.le_iff_toInt_le]
    rw [Int32.lt_iff_toInt_lt] at z
    omega
theorem nI_dec (n : Nat) : nI (n + 1) + (-1) = nI n := by
  rw [← nI_pred n, Int32.sub_eq_add_neg]
def uDC (i : Nat) : Bool := Nat.beq i 176
def uDG (_ : Nat) : Bool := false
theorem hd_ruledL {f as : Nat → Int32} {n dn : Nat} (hn : n ≤ 80) (hdn : n = 0 ∨ (dep f n = some dn ∧ 1 ≤ dn)) (hf : 2 ≤ fr) (hl : 100 ≤ lo) : ∀ (m k d : Nat) (st : Nat → Int32) (h1 : pm_H) (x : Option Value), k + m = n → dep f k = some d → mF h1 23 (.int (nI n)) → mF h1 21 (.ref 174) → h1 174 = .inl (0, 80, .inl f) → mF h1 25 (.ref 176) → h1 176 = .inl (0, 80, .inl st) → mF h1 26 (.ref 177) → h1 177 = .inl (0, 7, .inl as) → pm_WP PT fr lo 200 (4, [some (.ref 162), some (.int (nI d)), some (.int (nI k)), x], [], h1, 198, sl) (fun r => ∃ (v : Int32) (st2 : Nat → Int32), r = (some (.int v), aset h1 176 80 st2, 198, sl)) := by
  intro m
  induction m with
  | zero =>
    intro k d st h1 x hk hd h23 h21 hC h25 hS h26 hAs
    refine wp_i rfl rfl rfl rfl ?_
    refine wp_i rfl rfl rfl rfl ?_
    show pm_WP PT fr lo 200 (6, [some (.ref 162), some (.int (nI d)), some (.int (nI k)), x], [.ref 162, .int (nI k)], h1, 198, sl) _
    refine wp_gfm rfl rfl h23 ?_
    show pm_WP PT fr lo 200 (9, [some (.ref 162), some (.int (nI d)), some (.int (nI k)), x], [.int (nI n), .int (nI k)], h1, 198, sl) _
    refine wp_icmp (c := .ge) (off := 116) (t := 125) rfl rfl (fun _ => ?_) (fun q => absurd (q.symm.trans ((hI_ge (by omega) (by omega)).trans (decide_eq_true (by omega)))) (by decide))
    refine wp_i rfl rfl rfl rfl ?_
    show pm_WP PT fr lo 200 (126, [some (.ref 162), some (.int (nI d)), some (.int (nI k)), x], [.ref 162], h1, 198, sl) _
    refine wp_gfm rfl rfl h23 ?_
    show pm_WP PT fr lo 200 (129, [some (.ref 162), some (.int (nI d)), some (.int (nI k)), x], [.int (nI n)], h1, 198, sl) _
    by_cases hn0 : n = 0
    · show pm_WP PT fr lo 200 (129, [some (.ref 162), some (.int (nI d)), some (.int (nI k)), x], [.int (nI n)], h1, 198, sl) _
      refine wp_if (c := .ne) (off := 21) (t := 150) rfl rfl (fun q => absurd (q.symm.trans ((hI_ne (b := 0) (by omega) (by omega)).trans (decide_eq_false (by omega)))) (by decide)) (fun _ => ?_)
      refine wp_i rfl rfl rfl rfl ?_
      show pm_WP PT fr lo 200 (133, [some (.ref 162), some (.int (nI d)), some (.int (nI k)), x], [.ref 162], h1, 198, sl) _
      refine wp_gfm rfl rfl h26 ?_
      refine wp_i rfl rfl rfl rfl ?_
      show pm_WP PT fr lo 200 (137, [some (.ref 162), some (.int (nI d)), some (.int (nI k)), x], [.int 0, .ref 177], h1, 198, sl) _
      refine wp_iam rfl hAs (by decide) (by decide) ?_
      refine wp_i rfl rfl rfl rfl ?_
      show pm_WP PT fr lo 200 (139, [some (.ref 162), some (.int (nI d)), some (.int (nI k)), x], [.ref 162, .int (as (0 : Int32).toNatClampNeg)], h1, 198, sl) _
      refine wp_gfm rfl rfl h26 ?_
      refine wp_i rfl rfl rfl rfl ?_
      show pm_WP PT fr lo 200 (143, [some (.ref 162), some (.int (nI d)), some (.int (nI k)), x], [.int 1, .ref 177, .int (as (0 : Int32).toNatClampNeg)], h1, 198, sl) _
      refine wp_iam rfl hAs (by decide) (by decide) ?_
      refine wp_i rfl rfl rfl rfl ?_
      refine wp_i rfl rfl rfl rfl ?_
      show pm_WP PT fr lo 200 (146, [some (.ref 162), some (.int (nI d)), some (.int (nI k)), x], [.int 5, .int ((as (0 : Int32).toNatClampNeg) * (as (1 : Int32).toNatClampNeg))], h1, 198, sl) _
      refine wp_idiv rfl (by decide) ?_
      refine wp_i rfl rfl rfl rfl ?_
      show pm_WP PT fr lo 200 (156, [some (.ref 162), some (.int (nI d)), some (.int (nI k)), x], [.int (((as (0 : Int32).toNatClampNeg) * (as (1 : Int32).toNatClampNeg)) / 5)], h1, 198, sl) _
      exact wp_iret rfl rfl ⟨_, st, by rw [aset_same hS]⟩
    · show pm_WP PT fr lo 200 (129, [some (.ref 162), some (.int (nI d)), some (.int (nI k)), x], [.int (nI n)], h1, 198, sl) _
      refine wp_if (c := .ne) (off := 21) (t := 150) rfl rfl (fun _ => ?_) (fun q => absurd (q.symm.trans ((hI_ne (b := 0) (by omega) (by omega)).trans (decide_eq_true (by omega)))) (by decide))
      refine wp_i rfl rfl rfl rfl ?_
      show pm_WP PT fr lo 200 (151, [some (.ref 162), some (.int (nI d)), some (.int (nI k)), x], [.ref 162], h1, 198, sl) _
      refine wp_gfm rfl rfl h25 ?_
      refine wp_i rfl rfl rfl rfl ?_
      show pm_WP PT fr lo 200 (155, [some (.ref 162), some (.int (nI d)), some (.int (nI k)), x], [.int 0, .ref 176], h1, 198, sl) _
      refine wp_iam rfl hS (by decide) (by decide) ?_
      show pm_WP PT fr lo 200 (156, [some (.ref 162), some (.int (nI d)), some (.int (nI k)), x], [.int (st (0 : Int32).toNatClampNeg)], h1, 198, sl) _
      exact wp_iret rfl rfl ⟨_, st, by rw [aset_same hS]⟩
  | succ m ih =>
    intro k d st h1 x hk hd h23 h21 hC h25 hS h26 hAs
    have hdn2 : dep f n = some dn := by
      rcases hdn with q | q
      · omega
      · exact q.1
    obtain ⟨d2, hd2⟩ := dep_pre (f := f) (k := k + 1) (m := m) (d := dn) (by rw [show k + 1 + m = n by omega]; exact hdn2)
    obtain ⟨d1, hd1, hst⟩ := dep_step hd2
    rw [hd] at hd1
    cases hd1
    have hdk := dep_le hd
    refine wp_i rfl rfl rfl rfl ?_
    refine wp_i rfl rfl rfl rfl ?_
    show pm_WP PT fr lo 200 (6, [some (.ref 162), some (.int (nI d)), some (.int (nI k)), x], [.ref 162, .int (nI k)], h1, 198, sl) _
    refine wp_gfm rfl rfl h23 ?_
    show pm_WP PT fr lo 200 (9, [some (.ref 162), some (.int (nI d)), some (.int (nI k)), x], [.int (nI n), .int (nI k)], h1, 198, sl) _
    refine wp_icmp (c := .ge) (off := 116) (t := 125) rfl rfl (fun q => absurd (q.symm.trans ((hI_ge (by omega) (by omega)).trans (decide_eq_false (by omega)))) (by decide)) (fun _ => ?_)
    refine wp_i rfl rfl rfl rfl ?_
    show pm_WP PT fr lo 200 (13, [some (.ref 162), some (.int (nI d)), some (.int (nI k)), x], [.ref 162], h1, 198, sl) _
    refine wp_gfm rfl rfl h21 ?_
    refine wp_i rfl rfl rfl rfl ?_
    show pm_WP PT fr lo 200 (17, [some (.ref 162), some (.int (nI d)), some (.int (nI k)), x], [.int (nI k), .ref 174], h1, 198, sl) _
    refine wp_iam rfl hC (hI_in (by omega) (by omega)) (by decide) ?_
    rw [nI_clamp (by omega)]
    refine wp_i rfl rfl rfl rfl ?_
    refine wp_i rfl rfl rfl rfl ?_
    refine wp_i rfl rfl rfl rfl ?_
    show pm_WP PT fr lo 200 (23, [some (.ref 162), some (.int (nI d)), some (.int (nI k)), some (.int (f k))], [.int 3000, .int (f k)], h1, 198, sl) _
    refine wp_icmp (c := .ne) (off := 23) (t := 46) rfl rfl (fun q => ?_) (fun q => ?_)
    · have q1 : ¬ f k = 3000 := (rs_t (P := ¬ f k = 3000) rfl).1 q
      refine wp_i rfl rfl rfl rfl ?_
      refine wp_i rfl rfl rfl rfl ?_
      show pm_WP PT fr lo 200 (50, [some (.ref 162), some (.int (nI d)), some (.int (nI k)), some (.int (f k))], [.int 2000, .int (f k)], h1, 198, sl) _
      refine wp_icmp (c := .lt) (off := 39) (t := 89) rfl rfl (fun q => ?_) (fun q => ?_)
      · have q2 : f k < 2000 := (rs_t (P := f k < 2000) rfl).1 q
        obtain ⟨rfl, hthing⟩ := dst_push q1 q2 hst
        refine wp_i rfl rfl rfl rfl ?_
        show pm_WP PT fr lo 200 (90, [some (.ref 162), some (.int (nI d)), some (.int (nI k)), some (.int (f k))], [.ref 162], h1, 198, sl) _
        refine wp_gfm rfl rfl h25 ?_
        refine wp_i rfl rfl rfl rfl ?_
        refine wp_i rfl rfl rfl rfl ?_
        refine wp_i rfl rfl rfl rfl ?_
        show pm_WP PT fr lo 200 (98, [some (.ref 162), some (.int (nI d)), some (.int (nI k)), some (.int (f k))], [.int 1000, .int (f k), .int (nI d), .ref 176], h1, 198, sl) _
        refine wp_icmp (c := .lt) (off := 16) (t := 114) rfl rfl (fun q => ?_) (fun q => ?_)
        · refine wp_i rfl rfl rfl rfl ?_
          show pm_WP PT fr lo 200 (115, [some (.ref 162), some (.int (nI d)), some (.int (nI k)), some (.int (f k))], [.int (f k), .int (nI d), .ref 176], h1, 198, sl) _
          refine wp_ism rfl hS (hI_in (by omega) (by omega)) (by decide) ?_
          rw [upd_nI (by omega)]
          refine wp_i rfl rfl rfl rfl ?_
          show pm_WP PT fr lo 200 (119, [some (.ref 162), some (.int (nI d + 1)), some (.int (nI k)), some (.int (f k))], [], (aset h1 176 80 (upd st d (f k))), 198, sl) _
          rw [nI_1 d]
          refine wp_i rfl rfl rfl rfl ?_
          refine wp_i rfl rfl rfl rfl ?_
          show pm_WP PT fr lo 200 (4, [some (.ref 162), some (.int (nI (d + 1))), some (.int (nI k + 1)), some (.int (f k))], [], (aset h1 176 80 (upd st d (f k))), 198, sl) _
          rw [nI_1 k]
          refine wp_mono (ih (k + 1) (d + 1) (upd st d (f k)) (aset h1 176 80 (upd st d (f k))) _ (by omega) (hd2.trans (congrArg some (by omega))) (mF_as (by decide) h23) (mF_as (by decide) h21) (aset_ne (by decide) hC) (mF_as (by decide) h25) (aset_self _ _ _ _) (mF_as (by decide) h26) (aset_ne (by decide) hAs)) ?_
          rintro _ ⟨v, st2, rfl⟩
          exact ⟨v, st2, by rw [aset_aset]⟩
        · have q3 : ¬ f k < 1000 := (rs_t (P := f k < 1000) rfl).2 q
          obtain ⟨j, hj, ej⟩ := hthing q3
          refine wp_i rfl rfl rfl rfl ?_
          show pm_WP PT fr lo 200 (102, [some (.ref 162), some (.int (nI d)), some (.int (nI k)), some (.int (f k))], [.ref 162, .int (nI d), .ref 176], h1, 198, sl) _
          refine wp_gfm rfl rfl h26 ?_
          refine wp_i rfl rfl rfl rfl ?_
          refine wp_i rfl rfl rfl rfl ?_
          refine wp_i rfl rfl rfl rfl ?_
          show pm_WP PT fr lo 200 (110, [some (.ref 162), some (.int (nI d)), some (.int (nI k)), some (.int (f k))], [.int ((f k) - 1000), .ref 177, .int (nI d), .ref 176], h1, 198, sl) _
          rw [ej]
          show pm_WP PT fr lo 200 (110, [some (.ref 162), some (.int (nI d)), some (.int (nI k)), some (.int (f k))], [.int (nI j), .ref 177, .int (nI d), .ref 176], h1, 198, sl) _
          refine wp_iam rfl hAs (hI_in hj (by decide)) (by decide) ?_
          rw [nI_clamp (by omega)]
          refine wp_i rfl rfl rfl rfl ?_
          show pm_WP PT fr lo 200 (115, [some (.ref 162), some (.int (nI d)), some (.int (nI k)), some (.int (f k))], [.int (as j), .int (nI d), .ref 176], h1, 198, sl) _
          refine wp_ism rfl hS (hI_in (by omega) (by omega)) (by decide) ?_
          rw [upd_nI (by omega)]
          refine wp_i rfl rfl rfl rfl ?_
          show pm_WP PT fr lo 200 (119, [some (.ref 162), some (.int (nI d + 1)), some (.int (nI k)), some (.int (f k))], [], (aset h1 176 80 (upd st d (as j))), 198, sl) _
          rw [nI_1 d]
          refine wp_i rfl rfl rfl rfl ?_
          refine wp_i rfl rfl rfl rfl ?_
          show pm_WP PT fr lo 200 (4, [some (.ref 162), some (.int (nI (d + 1))), some (.int (nI k + 1)), some (.int (f k))], [], (aset h1 176 80 (upd st d (as j))), 198, sl) _
          rw [nI_1 k]
          refine wp_mono (ih (k + 1) (d + 1) (upd st d (as j)) (aset h1 176 80 (upd st d (as j))) _ (by omega) (hd2.trans (congrArg some (by omega))) (mF_as (by decide) h23) (mF_as (by decide) h21) (aset_ne (by decide) hC) (mF_as (by decide) h25) (aset_self _ _ _ _) (mF_as (by decide) h26) (aset_ne (by decide) hAs)) ?_
          rintro _ ⟨v, st2, rfl⟩
          exact ⟨v, st2, by rw [aset_aset]⟩
      · have q2 : ¬ f k < 2000 := (rs_t (P := f k < 2000) rfl).2 q
        obtain ⟨j, hj, ej, hd2', rfl⟩ := dst_act q1 q2 hst
        obtain ⟨e, rfl⟩ : ∃ e, d = e + 1 + 1 := ⟨d - 2, by omega⟩
        refine wp_i rfl rfl rfl rfl ?_
        show pm_WP PT fr lo 200 (56, [some (.ref 162), some (.int (nI (e + 1 + 1) + (-1))), some (.int (nI k)), some (.int (f k))], [], h1, 198, sl) _
        rw [nI_dec (e + 1)]
        refine wp_i rfl rfl rfl rfl ?_
        show pm_WP PT fr lo 200 (57, [some (.ref 162), some (.int (nI (e + 1))), some (.int (nI k)), some (.int (f k))], [.ref 162], h1, 198, sl) _
        refine wp_gfm rfl rfl h25 ?_
        refine wp_i rfl rfl rfl rfl ?_
        refine wp_i rfl rfl rfl rfl ?_
        refine wp_i rfl rfl rfl rfl ?_
        refine wp_i rfl rfl rfl rfl ?_
        refine wp_i rfl rfl rfl rfl ?_
        refine wp_i rfl rfl rfl rfl ?_
        refine wp_i rfl rfl rfl rfl ?_
        show pm_WP PT fr lo 200 (69, [some (.ref 162), some (.int (nI (e + 1))), some (.int (nI k)), some (.int (f k))], [.ref 162, .int ((f k) - 2000), .int ((nI (e + 1)) - 1), .ref 176], h1, 198, sl) _
        refine wp_gfm rfl rfl h25 ?_
        refine wp_i rfl rfl rfl rfl ?_
        refine wp_i rfl rfl rfl rfl ?_
        refine wp_i rfl rfl rfl rfl ?_
        show pm_WP PT fr lo 200 (75, [some (.ref 162), some (.int (nI (e + 1))), some (.int (nI k)), some (.int (f k))], [.int ((nI (e + 1)) - 1), .ref 176, .int ((f k) - 2000), .int ((nI (e + 1)) - 1), .ref 176], h1, 198, sl) _
        rw [nI_pred e, ej]
        show pm_WP PT fr lo 200 (75, [some (.ref 162), some (.int (nI (e + 1))), some (.int (nI k)), some (.int (f k))], [.int (nI e), .ref 176, .int (nI j), .int (nI e), .ref 176], h1, 198, sl) _
        show pm_WP PT fr lo 200 (75, [some (.ref 162), some (.int (nI (e + 1))), some (.int (nI k)), some (.int (f k))], [.int (nI e), .ref 176, .int (nI j), .int (nI e), .ref 176], h1, 198, sl) _
        refine wp_iam rfl hS (hI_in (by omega) (by omega)) (by decide) ?_
        rw [nI_clamp (by omega)]
        refine wp_i rfl rfl rfl rfl ?_
        show pm_WP PT fr lo 200 (77, [some (.ref 162), some (.int (nI (e + 1))), some (.int (nI k)), some (.int (f k))], [.ref 162, .int (st e), .int (nI j), .int (nI e), .ref 176], h1, 198, sl) _
        refine wp_gfm rfl rfl h25 ?_
        refine wp_i rfl rfl rfl rfl ?_
        show pm_WP PT fr lo 200 (81, [some (.ref 162), some (.int (nI (e + 1))), some (.int (nI k)), some (.int (f k))], [.int (nI (e + 1)), .ref 176, .int (st e), .int (nI j), .int (nI e), .ref 176], h1, 198, sl) _
        refine wp_iam rfl hS (hI_in (by omega) (by omega)) (by decide) ?_
        rw [nI_clamp (by omega)]
        show pm_WP PT fr lo 200 (82, [some (.ref 162), some (.int (nI (e + 1))), some (.int (nI k)), some (.int (f k))], [.int (st (e + 1)), .int (st e), .int (nI j), .int (nI e), .ref 176], h1, 198, sl) _
        refine wp_callS (t := 199) (As := [.int (nI j), .int (st e), .int (st (e + 1))]) (rest := [.int (nI e), .ref 176]) (mx := 3) rfl rfl rfl rfl (Nat.le_of_ble_eq_true rfl) (Nat.le_of_ble_eq_true rfl) (by omega) (by omega) (wp_mono (hd_worked hj (by omega) (by omega) (st e) (st (e + 1))) ?_)
        rintro _ ⟨wv, rfl⟩
        show pm_WP PT fr lo 200 (85, [some (.ref 162), some (.int (nI (e + 1))), some (.int (nI k)), some (.int (f k))], [.int wv, .int (nI e), .ref 176], h1, 198, sl) _
        refine wp_ism rfl hS (hI_in (by omega) (by omega)) (by decide) ?_
        rw [upd_nI (by omega)]
        refine wp_i rfl rfl rfl rfl ?_
        show pm_WP PT fr lo 200 (119, [some (.ref 162), some (.int (nI (e + 1))), some (.int (nI k)), some (.int (f k))], [], (aset h1 176 80 (upd st e wv)), 198, sl) _
        refine wp_i rfl rfl rfl rfl ?_
        refine wp_i rfl rfl rfl rfl ?_
        show pm_WP PT fr lo 200 (4, [some (.ref 162), some (.int (nI (e + 1))), some (.int (nI k + 1)), some (.int (f k))], [], (aset h1 176 80 (upd st e wv)), 198, sl) _
        rw [nI_1 k]
        refine wp_mono (ih (k + 1) (e + 1) (upd st e wv) (aset h1 176 80 (upd st e wv)) _ (by omega) (hd2.trans (congrArg some (by omega))) (mF_as (by decide) h23) (mF_as (by decide) h21) (aset_ne (by decide) hC) (mF_as (by decide) h25) (aset_self _ _ _ _) (mF_as (by decide) h26) (aset_ne (by decide) hAs)) ?_
        rintro _ ⟨v, st2, rfl⟩
        exact ⟨v, st2, by rw [aset_aset]⟩
    · have q1 : f k = 3000 := Decidable.not_not.mp ((rs_t (P := ¬ f k = 3000) rfl).2 q)
      rw [q1] at hst
      obtain ⟨hd1, rfl⟩ := dst_less hst
      obtain ⟨e, rfl⟩ : ∃ e, d2 = e + 1 := ⟨d2 - 1, by omega⟩
      refine wp_i rfl rfl rfl rfl ?_
      show pm_WP PT fr lo 200 (27, [some (.ref 162), some (.int (nI (e + 1))), some (.int (nI k)), some (.int (f k))], [.ref 162], h1, 198, sl) _
      refine wp_gfm rfl rfl h25 ?_
      refine wp_i rfl rfl rfl rfl ?_
      refine wp_i rfl rfl rfl rfl ?_
      refine wp_i rfl rfl rfl rfl ?_
      refine wp_i rfl rfl rfl rfl ?_
      show pm_WP PT fr lo 200 (34, [some (.ref 162), some (.int (nI (e + 1))), some (.int (nI k)), some (.int (f k))], [.ref 162, .int ((nI (e + 1)) - 1), .ref 176], h1, 198, sl) _
      refine wp_gfm rfl rfl h25 ?_
      refine wp_i rfl rfl rfl rfl ?_
      refine wp_i rfl rfl rfl rfl ?_
      refine wp_i rfl rfl rfl rfl ?_
      show pm_WP PT fr lo 200 (40, [some (.ref 162), some (.int (nI (e + 1))), some (.int (nI k)), some (.int (f k))], [.int ((nI (e + 1)) - 1), .ref 176, .int ((nI (e + 1)) - 1), .ref 176], h1, 198, sl) _
      rw [nI_pred e]
      show pm_WP PT fr lo 200 (40, [some (.ref 162), some (.int (nI (e + 1))), some (.int (nI k)), some (.int (f k))], [.int (nI e), .ref 176, .int (nI e), .ref 176], h1, 198, sl) _
      show pm_WP PT fr lo 200 (40, [some (.ref 162), some (.int (nI (e + 1))), some (.int (nI k)), some (.int (f k))], [.int (nI e), .ref 176, .int (nI e), .ref 176], h1, 198, sl) _
      refine wp_iam rfl hS (hI_in (by omega) (by omega)) (by decide) ?_
      rw [nI_clamp (by omega)]
      refine wp_i rfl rfl rfl rfl ?_
      show pm_WP PT fr lo 200 (42, [some (.ref 162), some (.int (nI (e + 1))), some (.int (nI k)), some (.int (f k))], [.int (-(st e)), .int (nI e), .ref 176], h1, 198, sl) _
      refine wp_ism rfl hS (hI_in (by omega) (by omega)) (by decide) ?_
      rw [upd_nI (by omega)]
      refine wp_i rfl rfl rfl rfl ?_
      show pm_WP PT fr lo 200 (119, [some (.ref 162), some (.int (nI (e + 1))), some (.int (nI k)), some (.int (f k))], [], (aset h1 176 80 (upd st e (-st e))), 198, sl) _
      refine wp_i rfl rfl rfl rfl ?_
      refine wp_i rfl rfl rfl rfl ?_
      show pm_WP PT fr lo 200 (4, [some (.ref 162), some (.int (nI (e + 1))), some (.int (nI k + 1)), some (.int (f k))], [], (aset h1 176 80 (upd st e (-st e))), 198, sl) _
      rw [nI_1 k]
      refine wp_mono (ih (k + 1) (e + 1) (upd st e (-st e)) (aset h1 176 80 (upd st e (-st e))) _ (by omega) (hd2.trans (congrArg some (by omega))) (mF_as (by decide) h23) (mF_as (by decide) h21) (aset_ne (by decide) hC) (mF_as (by decide) h25) (aset_self _ _ _ _) (mF_as (by decide) h26) (aset_ne (by decide) hAs)) ?_
      rintro _ ⟨v, st2, rfl⟩
      exact ⟨v, st2, by rw [aset_aset]⟩
theorem hd_ruled {f as st : Nat → Int32} {n dn : Nat} (hn : n ≤ 80) (hdn : n = 0 ∨ (dep f n = some dn ∧ 1 ≤ dn)) (hf : 2 ≤ fr) (hl : 100 ≤ lo) (h23 : mF h 23 (.int (nI n))) (h21 : mF h 21 (.ref 174)) (hC : h 174 = .inl (0, 80, .inl f)) (h25 : mF h 25 (.ref 176)) (hS : h 176 = .inl (0, 80, .inl st)) (h26 : mF h 26 (.ref 177)) (hAs : h 177 = .inl (0, 7, .inl as)) : pm_WP PT fr lo 200 (0, pm_l0 [.ref 162] 4, [], h, 198, sl) (fun r => ∃ (v : Int32) (st2 : Nat → Int32), r = (some (.int v), aset h 176 80 st2, 198, sl)) := by
  refine wp_i rfl rfl rfl rfl ?_
  refine wp_i rfl rfl rfl rfl ?_
  refine wp_i rfl rfl rfl rfl ?_
  refine wp_i rfl rfl rfl rfl ?_
  show pm_WP PT fr lo 200 (4, [some (.ref 162), some (.int 0), some (.int 0), none], [], h, 198, sl) _
  exact hd_ruledL hn hdn hf hl n 0 0 st h none (by omega) rfl h23 h21 hC h25 hS h26 hAs
end RUL
end MG53rulex0
section MG53rulex1
/-! rows that are copied, by hand -/
section CPY
variable {fr lo sl : Nat} {h : pm_H} {Q : pm_Rs → Prop}
theorem mset_aset {f a n : Nat} {v : Value} {g : Nat → Int32} : mset (aset h a n g) f v = (if a = 162 then mset (aset h a n g) f v else aset (mset h f v) a n g) := by
  by_cases e : a = 162
  · rw [if_pos e]
  · rw [if_neg e]
    have e1 : aset h a n g 162 = h 162 := aset_nei (fun q => e q.symm)
    unfold mset
    rw [e1]
    cases h 162 with
    | inl x => rfl
    | inr x =>
      obtain ⟨ci, fs⟩ := x
      dsimp only
      unfold aset
      funext i
      by_cases q : i = 162
      · subst q
        have : ¬ 162 = a := fun z => e z.symm
        simp [va_up, this]
      · by_cases q2 : i = a
        · subst q2; simp [va_up, q]
        · simp [va_up, q, q2]
theorem ix96 (u k : Nat) : (96 : Int32) * nI u + nI k = nI (96 * u + k) := by rw [show (96 : Int32) = nI 96 from rfl, hI_mul, nI_add]
theorem ixp (k : Nat) : nI k + 96 = nI (k + 96) := nI_add k 96
/-- n places from q on are those of f from p on, so far k of them -/
def cpk (f g gk : Nat → Int32) (p q k : Nat) : Prop := (∀ j, j < k → gk (q + j) = f (p + j)) ∧ ∀ j, (j < q ∨ q + k ≤ j) → gk j = g j
theorem cpk_0 (f g : Nat → Int32) (p q : Nat) : cpk f g g p q 0 := ⟨fun j hj => by omega, fun j _ => rfl⟩
theorem cpk_up {f g gk : Nat → Int32} {p q k : Nat} (h : cpk f g gk p q k) : cpk f g (upd gk (q + k) (f (p + k))) p q (k + 1) := by
  refine ⟨fun j hj => ?_, fun j hj => ?_⟩
  · by_cases e : j = k
    · subst e; simp [upd]
    · have : ¬ q + j = q + k := by omega
      simp only [upd, if_neg this]
      exact h.1 j (by omega)
  · have : ¬ j = q + k := by omega
    simp only [upd, if_neg this]
    exact h.2 j (by omega)

theorem cp_copies {f g : Nat → Int32} (h13 : mF h 13 (.ref 171)) (h12 : mF h 12 (.ref 170)) (hN : h 170 = .inl (0, 96, .inl f)) (kk : ∀ gk : Nat → Int32, cpk f g gk (0) (0) 96 → pm_WP PT fr lo 229 (26, [some (.ref 162), some (.int (nI 96))], [], aset h 171 96 gk, 198, sl) Q) : ∀ (m k : Nat) (gk : Nat → Int32), k + m = 96 → cpk f g gk (0) (0) k → pm_WP PT fr lo 229 (2, [some (.ref 162), some (.int (nI k))], [], aset h 171 96 gk, 198, sl) Q := by
  intro m
  induction m with
  | zero =>
    intro k gk hk hc
    obtain rfl : k = 96 := by omega
    refine wp_i rfl rfl rfl rfl ?_
    refine wp_i rfl rfl rfl rfl ?_
    show pm_WP PT fr lo 229 (5, [some (.ref 162), some (.int (nI 96))], [.int 96, .int (nI 96)], (aset h 171 96 gk), 198, sl) _
    refine wp_icmp (c := .ge) (off := 21) (t := 26) rfl rfl (fun _ => ?_) (fun q => absurd (q.symm.trans ((hI_ge (b := 96) (by omega) (by omega)).trans (decide_eq_true (by omega)))) (by decide))
    show pm_WP PT fr lo 229 (26, [some (.ref 162), some (.int (nI 96))], [], (aset h 171 96 gk), 198, sl) _
    exact kk gk hc
  | succ m ih =>
    intro k gk hk hc
    refine wp_i rfl rfl rfl rfl ?_
    refine wp_i rfl rfl rfl rfl ?_
    show pm_WP PT fr lo 229 (5, [some (.ref 162), some (.int (nI k))], [.int 96, .int (nI k)], (aset h 171 96 gk), 198, sl) _
    refine wp_icmp (c := .ge) (off := 21) (t := 26) rfl rfl (fun q => absurd (q.symm.trans ((hI_ge (b := 96) (by omega) (by omega)).trans (decide_eq_false (by omega)))) (by decide)) (fun _ => ?_)
    refine wp_i rfl rfl rfl rfl ?_
    show pm_WP PT fr lo 229 (9, [some (.ref 162), some (.int (nI k))], [.ref 162], (aset h 171 96 gk), 198, sl) _
    refine wp_gfm rfl rfl (mF_as (by decide) h13) ?_
    refine wp_i rfl rfl rfl rfl ?_
    refine wp_i rfl rfl rfl rfl ?_
    show pm_WP PT fr lo 229 (14, [some (.ref 162), some (.int (nI k))], [.ref 162, .int (nI k), .ref 171], (aset h 171 96 gk), 198, sl) _
    refine wp_gfm rfl rfl (mF_as (by decide) h12) ?_
    refine wp_i rfl rfl rfl rfl ?_
    show pm_WP PT fr lo 229 (18, [some (.ref 162), some (.int (nI k))], [.int (nI k), .ref 170, .int (nI k), .ref 171], (aset h 171 96 gk), 198, sl) _
    refine wp_iam rfl (aset_ne (by decide) hN) (hI_in (by omega) (by omega)) (by decide) ?_
    rw [nI_clamp (by omega)]
    show pm_WP PT fr lo 229 (19, [some (.ref 162), some (.int (nI k))], [.int (f k), .int (nI k), .ref 171], (aset h 171 96 gk), 198, sl) _
    refine wp_ism rfl (aset_self _ _ _ _) (hI_in (by omega) (by omega)) (by decide) ?_
    rw [nI_clamp (by omega)]
    have e0 : upd gk k (f k) = upd gk (0 + k) (f (0 + k)) := by rw [Nat.zero_add]
    rw [e0]
    refine wp_i rfl rfl rfl rfl ?_
    refine wp_i rfl rfl rfl rfl ?_
    show pm_WP PT fr lo 229 (2, [some (.ref 162), some (.int (nI k + 1))], [], (aset (aset h 171 96 gk) 171 96 (upd gk (0 + k) (f (0 + k)))), 198, sl) _
    rw [nI_1 k, aset_aset]
    exact ih (k + 1) _ (by omega) (cpk_up hc)
theorem hd_copies {f g : Nat → Int32} (h13 : mF h 13 (.ref 171)) (h12 : mF h 12 (.ref 170)) (hN : h 170 = .inl (0, 96, .inl f)) (hT : h 171 = .inl (0, 96, .inl g)) : pm_WP PT fr lo 229 (0, pm_l0 [.ref 162] 2, [], h, 198, sl) (fun r => ∃ g2 : Nat → Int32, r = (none, aset h 171 96 g2, 198, sl) ∧ ∀ j, j < 96 → g2 j = f j) := by
  refine wp_i rfl rfl rfl rfl ?_
  refine wp_i rfl rfl rfl rfl ?_
  show pm_WP PT fr lo 229 (2, [some (.ref 162), some (.int 0)], [], h, 198, sl) _
  have key := cp_copies (fr := fr) (lo := lo) (sl := sl) (h := h) (g := g) (Q := fun r => ∃ g2 : Nat → Int32, r = (none, aset h 171 96 g2, 198, sl) ∧ ∀ j, j < 96 → g2 j = f j) h13 h12 hN (fun gk hc => wp_vret rfl rfl ⟨gk, rfl, fun j hj => by have := hc.1 j hj; rwa [Nat.zero_add] at this⟩) 96 0 g (by omega) (cpk_0 f g 0 0)
  rw [aset_same hT] at key
  exact key
theorem cp_putsBy {f g : Nat → Int32} {u : Nat} (h28 : mF h 28 (.ref 178)) (h12 : mF h 12 (.ref 170)) (h27 : mF h 27 (.int (nI u))) (hu : u ≤ 15) (hN : h 170 = .inl (0, 96, .inl f)) (kk : ∀ gk : Nat → Int32, cpk f g gk (0) (96 * u) 96 → pm_WP PT fr lo 211 (34, [some (.ref 162), some (.int (nI 96))], [], aset h 178 1536 gk, 198, sl) Q) : ∀ (m k : Nat) (gk : Nat → Int32), k + m = 96 → cpk f g gk (0) (96 * u) k → pm_WP PT fr lo 211 (2, [some (.ref 162), some (.int (nI k))], [], aset h 178 1536 gk, 198, sl) Q := by
  intro m
  induction m with
  | zero =>
    intro k gk hk hc
    obtain rfl : k = 96 := by omega
    refine wp_i rfl rfl rfl rfl ?_
    refine wp_i rfl rfl rfl rfl ?_
    show pm_WP PT fr lo 211 (5, [some (.ref 162), some (.int (nI 96))], [.int 96, .int (nI 96)], (aset h 178 1536 gk), 198, sl) _
    refine wp_icmp (c := .ge) (off := 29) (t := 34) rfl rfl (fun _ => ?_) (fun q => absurd (q.symm.trans ((hI_ge (b := 96) (by omega) (by omega)).trans (decide_eq_true (by omega)))) (by decide))
    show pm_WP PT fr lo 211 (34, [some (.ref 162), some (.int (nI 96))], [], (aset h 178 1536 gk), 198, sl) _
    exact kk gk hc
  | succ m ih =>
    intro k gk hk hc
    refine wp_i rfl rfl rfl rfl ?_
    refine wp_i rfl rfl rfl rfl ?_
    show pm_WP PT fr lo 211 (5, [some (.ref 162), some (.int (nI k))], [.int 96, .int (nI k)], (aset h 178 1536 gk), 198, sl) _
    refine wp_icmp (c := .ge) (off := 29) (t := 34) rfl rfl (fun q => absurd (q.symm.trans ((hI_ge (b := 96) (by omega) (by omega)).trans (decide_eq_false (by omega)))) (by decide)) (fun _ => ?_)
    refine wp_i rfl rfl rfl rfl ?_
    show pm_WP PT fr lo 211 (9, [some (.ref 162), some (.int (nI k))], [.ref 162], (aset h 178 1536 gk), 198, sl) _
    refine wp_gfm rfl rfl (mF_as (by decide) h28) ?_
    refine wp_i rfl rfl rfl rfl ?_
    refine wp_i rfl rfl rfl rfl ?_
    show pm_WP PT fr lo 211 (15, [some (.ref 162), some (.int (nI k))], [.ref 162, .int 96, .ref 178], (aset h 178 1536 gk), 198, sl) _
    refine wp_gfm rfl rfl (mF_as (by decide) h27) ?_
    refine wp_i rfl rfl rfl rfl ?_
    refine wp_i rfl rfl rfl rfl ?_
    refine wp_i rfl rfl rfl rfl ?_
    refine wp_i rfl rfl rfl rfl ?_
    show pm_WP PT fr lo 211 (22, [some (.ref 162), some (.int (nI k))], [.ref 162, .int ((96 * (nI u)) + (nI k)), .ref 178], (aset h 178 1536 gk), 198, sl) _
    refine wp_gfm rfl rfl (mF_as (by decide) h12) ?_
    refine wp_i rfl rfl rfl rfl ?_
    show pm_WP PT fr lo 211 (26, [some (.ref 162), some (.int (nI k))], [.int (nI k), .ref 170, .int ((96 * (nI u)) + (nI k)), .ref 178], (aset h 178 1536 gk), 198, sl) _
    refine wp_iam rfl (aset_ne (by decide) hN) (hI_in (by omega) (by omega)) (by decide) ?_
    rw [nI_clamp (by omega), ix96 u k]
    show pm_WP PT fr lo 211 (27, [some (.ref 162), some (.int (nI k))], [.int (f k), .int (nI (96 * u + k)), .ref 178], (aset h 178 1536 gk), 198, sl) _
    refine wp_ism rfl (aset_self _ _ _ _) (hI_in (by omega) (by omega)) (by decide) ?_
    rw [nI_clamp (by omega)]
    have e0 : upd gk (96 * u + k) (f k) = upd gk (96 * u + k) (f (0 + k)) := by rw [Nat.zero_add]
    rw [e0]
    refine wp_i rfl rfl rfl rfl ?_
    refine wp_i rfl rfl rfl rfl ?_
    show pm_WP PT fr lo 211 (2, [some (.ref 162), some (.int (nI k + 1))], [], (aset (aset h 178 1536 gk) 178 1536 (upd gk (96 * u + k) (f (0 + k)))), 198, sl) _
    rw [nI_1 k, aset_aset]
    exact ih (k + 1) _ (by omega) (cpk_up hc)
theorem hd_putsBy {f g : Nat → Int32} {u : Nat} (h28 : mF h 28 (.ref 178)) (h12 : mF h 12 (.ref 170)) (h27 : mF h 27 (.int (nI u))) (hu : u ≤ 15) (hN : h 170 = .inl (0, 96, .inl f)) (hU : h 178 = .inl (0, 1536, .inl g)) : pm_WP PT fr lo 211 (0, pm_l0 [.ref 162] 2, [], h, 198, sl) (fun r => ∃ g2 : Nat → Int32, r = (none, aset h 178 1536 g2, 198, sl) ∧ cpk f g g2 0 (96 * u) 96) := by
  refine wp_i rfl rfl rfl rfl ?_
  refine wp_i rfl rfl rfl rfl ?_
  show pm_WP PT fr lo 211 (2, [some (.ref 162), some (.int 0)], [], h, 198, sl) _
  have key := cp_putsBy (fr := fr) (lo := lo) (sl := sl) (h := h) (g := g) (Q := fun r => ∃ g2 : Nat → Int32, r = (none, aset h 178 1536 g2, 198, sl) ∧ cpk f g g2 0 (96 * u) 96) h28 h12 h27 hu hN (fun gk hc => wp_vret rfl rfl ⟨gk, rfl, hc⟩) 96 0 g (by omega) (cpk_0 f g 0 (96 * u))
  rw [aset_same hU] at key
  exact key
theorem cp_adds {g : Nat → Int32} {x : Int32} (h28 : mF h 28 (.ref 178)) (kk : ∀ gk : Nat → Int32, cpk g g gk (96) (0) 1440 → pm_WP PT fr lo 212 (49, [some (.ref 162), some (.int x), some (.int (nI 1440))], [], aset h 178 1536 gk, 198, sl) Q) : ∀ (m k : Nat) (gk : Nat → Int32), k + m = 1440 → cpk g g gk (96) (0) k → pm_WP PT fr lo 212 (21, [some (.ref 162), some (.int x), some (.int (nI k))], [], aset h 178 1536 gk, 198, sl) Q := by
  intro m
  induction m with
  | zero =>
    intro k gk hk hc
    obtain rfl : k = 1440 := by omega
    refine wp_i rfl rfl rfl rfl ?_
    refine wp_i rfl rfl rfl rfl ?_
    show pm_WP PT fr lo 212 (25, [some (.ref 162), some (.int x), some (.int (nI 1440))], [.int 1440, .int (nI 1440)], (aset h 178 1536 gk), 198, sl) _
    refine wp_icmp (c := .ge) (off := 24) (t := 49) rfl rfl (fun _ => ?_) (fun q => absurd (q.symm.trans ((hI_ge (b := 1440) (by omega) (by omega)).trans (decide_eq_true (by omega)))) (by decide))
    show pm_WP PT fr lo 212 (49, [some (.ref 162), some (.int x), some (.int (nI 1440))], [], (aset h 178 1536 gk), 198, sl) _
    exact kk gk hc
  | succ m ih =>
    intro k gk hk hc
    refine wp_i rfl rfl rfl rfl ?_
    refine wp_i rfl rfl rfl rfl ?_
    show pm_WP PT fr lo 212 (25, [some (.ref 162), some (.int x), some (.int (nI k))], [.int 1440, .int (nI k)], (aset h 178 1536 gk), 198, sl) _
    refine wp_icmp (c := .ge) (off := 24) (t := 49) rfl rfl (fun q => absurd (q.symm.trans ((hI_ge (b := 1440) (by omega) (by omega)).trans (decide_eq_false (by omega)))) (by decide)) (fun _ => ?_)
    refine wp_i rfl rfl rfl rfl ?_
    show pm_WP PT fr lo 212 (29, [some (.ref 162), some (.int x), some (.int (nI k))], [.ref 162], (aset h 178 1536 gk), 198, sl) _
    refine wp_gfm rfl rfl (mF_as (by decide) h28) ?_
    refine wp_i rfl rfl rfl rfl ?_
    refine wp_i rfl rfl rfl rfl ?_
    show pm_WP PT fr lo 212 (34, [some (.ref 162), some (.int x), some (.int (nI k))], [.ref 162, .int (nI k), .ref 178], (aset h 178 1536 gk), 198, sl) _
    refine wp_gfm rfl rfl (mF_as (by decide) h28) ?_
    refine wp_i rfl rfl rfl rfl ?_
    refine wp_i rfl rfl rfl rfl ?_
    refine wp_i rfl rfl rfl rfl ?_
    show pm_WP PT fr lo 212 (41, [some (.ref 162), some (.int x), some (.int (nI k))], [.int ((nI k) + 96), .ref 178, .int (nI k), .ref 178], (aset h 178 1536 gk), 198, sl) _
    rw [ixp k]
    show pm_WP PT fr lo 212 (41, [some (.ref 162), some (.int x), some (.int (nI k))], [.int (nI (k + 96)), .ref 178, .int (nI k), .ref 178], (aset h 178 1536 gk), 198, sl) _
    refine wp_iam rfl (aset_self _ _ _ _) (hI_in (by omega) (by omega)) (by decide) ?_
    rw [nI_clamp (by omega), hc.2 (k + 96) (by omega)]
    show pm_WP PT fr lo 212 (42, [some (.ref 162), some (.int x), some (.int (nI k))], [.int (g (k + 96)), .int (nI k), .ref 178], (aset h 178 1536 gk), 198, sl) _
    refine wp_ism rfl (aset_self _ _ _ _) (hI_in (by omega) (by omega)) (by decide) ?_
    rw [nI_clamp (by omega)]
    have e0 : upd gk k (g (k + 96)) = upd gk (0 + k) (g (96 + k)) := by rw [Nat.zero_add, Nat.add_comm]
    rw [e0]
    refine wp_i rfl rfl rfl rfl ?_
    refine wp_i rfl rfl rfl rfl ?_
    show pm_WP PT fr lo 212 (21, [some (.ref 162), some (.int x), some (.int (nI k + 1))], [], (aset (aset h 178 1536 gk) 178 1536 (upd gk (0 + k) (g (96 + k)))), 198, sl) _
    rw [nI_1 k, aset_aset]
    exact ih (k + 1) _ (by omega) (cpk_up hc)
theorem hd_adds {g : Nat → Int32} {u : Nat} (x : Int32) (h28 : mF h 28 (.ref 178)) (h27 : mF h 27 (.int (nI u))) (hu : u ≤ 15) (hU : h 178 = .inl (0, 1536, .inl g)) : pm_WP PT fr lo 212 (0, pm_l0 [.ref 162, .int x] 3, [], h, 198, sl) (fun r => ∃ (g2 : Nat → Int32) (u2 : Nat), r = (some (.int x), aset (mset h 27 (.int (nI u2))) 178 1536 g2, 198, sl) ∧ 1 ≤ u2 ∧ u2 ≤ 15 ∧ ((u < 15 ∧ u2 = u + 1 ∧ g2 = g) ∨ (u = 15 ∧ u2 = 15 ∧ cpk g g g2 96 0 1440))) := by
  refine wp_i rfl rfl rfl rfl ?_
  refine wp_i rfl rfl rfl rfl ?_
  show pm_WP PT fr lo 212 (2, [some (.ref 162), some (.int x), none], [.ref 162, .ref 162], h, 198, sl) _
  refine wp_gfm rfl rfl h27 ?_
  refine wp_i rfl rfl rfl rfl ?_
  refine wp_i rfl rfl rfl rfl ?_
  show pm_WP PT fr lo 212 (7, [some (.ref 162), some (.int x), none], [.int (nI u + 1), .ref 162], h, 198, sl) _
  rw [nI_1 u]
  show pm_WP PT fr lo 212 (7, [some (.ref 162), some (.int x), none], [.int (nI (u + 1)), .ref 162], h, 198, sl) _
  refine wp_pfm rfl rfl rfl (by decide) h27 ?_
  refine wp_i rfl rfl rfl rfl ?_
  show pm_WP PT fr lo 212 (11, [some (.ref 162), some (.int x), none], [.ref 162], (mset h 27 (.int (nI (u + 1)))), 198, sl) _
  refine wp_gfm rfl rfl (mF_self h27) ?_
  refine wp_i rfl rfl rfl rfl ?_
  show pm_WP PT fr lo 212 (16, [some (.ref 162), some (.int x), none], [.int 15, .int (nI (u + 1))], (mset h 27 (.int (nI (u + 1)))), 198, sl) _
  refine wp_icmp (c := .le) (off := 43) (t := 59) rfl rfl (fun q => ?_) (fun q => ?_)
  · have q : u + 1 ≤ 15 := of_decide_eq_true ((hI_le (b := 15) (by omega) (by omega)).symm.trans q)
    refine wp_i rfl rfl rfl rfl ?_
    show pm_WP PT fr lo 212 (60, [some (.ref 162), some (.int x), none], [.int x], (mset h 27 (.int (nI (u + 1)))), 198, sl) _
    refine wp_iret rfl rfl ⟨g, u + 1, ?_, by omega, by omega, Or.inl ⟨by omega, rfl, rfl⟩⟩
    rw [aset_same (mset_arr (by decide) hU)]
  · have q : ¬ u + 1 ≤ 15 := of_decide_eq_false ((hI_le (b := 15) (by omega) (by omega)).symm.trans q)
    refine wp_i rfl rfl rfl rfl ?_
    refine wp_i rfl rfl rfl rfl ?_
    show pm_WP PT fr lo 212 (21, [some (.ref 162), some (.int x), some (.int 0)], [], (mset h 27 (.int (nI (u + 1)))), 198, sl) _
    have e9 := aset_same (mset_arr (f := 27) (v := .int (nI (u + 1))) (by decide) hU)
    rw [← e9]
    refine cp_adds (g := g) (x := x) (mF_ne (by decide) h28) (fun gk hc => ?_) 1440 0 g (by omega) (cpk_0 g g 96 0)
    refine wp_i rfl rfl rfl rfl ?_
    refine wp_i rfl rfl rfl rfl ?_
    show pm_WP PT fr lo 212 (51, [some (.ref 162), some (.int x), some (.int (nI 1440))], [.ref 162, .ref 162], (aset (mset h 27 (.int (nI (u + 1)))) 178 1536 gk), 198, sl) _
    refine wp_gfm rfl rfl (mF_as (by decide) (mF_self h27)) ?_
    refine wp_i rfl rfl rfl rfl ?_
    refine wp_i rfl rfl rfl rfl ?_
    show pm_WP PT fr lo 212 (56, [some (.ref 162), some (.int x), some (.int (nI 1440))], [.int (nI (u + 1) - 1), .ref 162], (aset (mset h 27 (.int (nI (u + 1)))) 178 1536 gk), 198, sl) _
    rw [nI_pred u]
    show pm_WP PT fr lo 212 (56, [some (.ref 162), some (.int x), some (.int (nI 1440))], [.int (nI u), .ref 162], (aset (mset h 27 (.int (nI (u + 1)))) 178 1536 gk), 198, sl) _
    refine wp_pfm rfl rfl rfl (by decide) (mF_as (by decide) (mF_self h27)) ?_
    refine wp_i rfl rfl rfl rfl ?_
    show pm_WP PT fr lo 212 (60, [some (.ref 162), some (.int x), some (.int (nI 1440))], [.int x], (mset (aset (mset h 27 (.int (nI (u + 1)))) 178 1536 gk) 27 (.int (nI u))), 198, sl) _
    refine wp_iret rfl rfl ⟨gk, u, ?_, by omega, by omega, Or.inr ⟨by omega, by omega, hc⟩⟩
    rw [mset_aset, if_neg (by decide), mset_mset]
theorem cp_undo {f g : Nat → Int32} {u : Nat} (h12 : mF h 12 (.ref 170)) (h28 : mF h 28 (.ref 178)) (h27 : mF h 27 (.int (nI u))) (hu : u ≤ 15) (hU : h 178 = .inl (0, 1536, .inl f)) (kk : ∀ gk : Nat → Int32, cpk f g gk (96 * u) (0) 96 → pm_WP PT fr lo 214 (58, [some (.ref 162), some (.int (nI 96))], [], aset h 170 96 gk, 198, sl) Q) : ∀ (m k : Nat) (gk : Nat → Int32), k + m = 96 → cpk f g gk (96 * u) (0) k → pm_WP PT fr lo 214 (26, [some (.ref 162), some (.int (nI k))], [], aset h 170 96 gk, 198, sl) Q := by
  intro m
  induction m with
  | zero =>
    intro k gk hk hc
    obtain rfl : k = 96 := by omega
    refine wp_i rfl rfl rfl rfl ?_
    refine wp_i rfl rfl rfl rfl ?_
    show pm_WP PT fr lo 214 (29, [some (.ref 162), some (.int (nI 96))], [.int 96, .int (nI 96)], (aset h 170 96 gk), 198, sl) _
    refine wp_icmp (c := .ge) (off := 29) (t := 58) rfl rfl (fun _ => ?_) (fun q => absurd (q.symm.trans ((hI_ge (b := 96) (by omega) (by omega)).trans (decide_eq_true (by omega)))) (by decide))
    show pm_WP PT fr lo 214 (58, [some (.ref 162), some (.int (nI 96))], [], (aset h 170 96 gk), 198, sl) _
    exact kk gk hc
  | succ m ih =>
    intro k gk hk hc
    refine wp_i rfl rfl rfl rfl ?_
    refine wp_i rfl rfl rfl rfl ?_
    show pm_WP PT fr lo 214 (29, [some (.ref 162), some (.int (nI k))], [.int 96, .int (nI k)], (aset h 170 96 gk), 198, sl) _
    refine wp_icmp (c := .ge) (off := 29) (t := 58) rfl rfl (fun q => absurd (q.symm.trans ((hI_ge (b := 96) (by omega) (by omega)).trans (decide_eq_false (by omega)))) (by decide)) (fun _ => ?_)
    refine wp_i rfl rfl rfl rfl ?_
    show pm_WP PT fr lo 214 (33, [some (.ref 162), some (.int (nI k))], [.ref 162], (aset h 170 96 gk), 198, sl) _
    refine wp_gfm rfl rfl (mF_as (by decide) h12) ?_
    refine wp_i rfl rfl rfl rfl ?_
    refine wp_i rfl rfl rfl rfl ?_
    show pm_WP PT fr lo 214 (38, [some (.ref 162), some (.int (nI k))], [.ref 162, .int (nI k), .ref 170], (aset h 170 96 gk), 198, sl) _
    refine wp_gfm rfl rfl (mF_as (by decide) h28) ?_
    refine wp_i rfl rfl rfl rfl ?_
    refine wp_i rfl rfl rfl rfl ?_
    show pm_WP PT fr lo 214 (44, [some (.ref 162), some (.int (nI k))], [.ref 162, .int 96, .ref 178, .int (nI k), .ref 170], (aset h 170 96 gk), 198, sl) _
    refine wp_gfm rfl rfl (mF_as (by decide) h27) ?_
    refine wp_i rfl rfl rfl rfl ?_
    refine wp_i rfl rfl rfl rfl ?_
    refine wp_i rfl rfl rfl rfl ?_
    show pm_WP PT fr lo 214 (50, [some (.ref 162), some (.int (nI k))], [.int ((96 * (nI u)) + (nI k)), .ref 178, .int (nI k), .ref 170], (aset h 170 96 gk), 198, sl) _
    rw [ix96 u k]
    show pm_WP PT fr lo 214 (50, [some (.ref 162), some (.int (nI k))], [.int (nI (96 * u + k)), .ref 178, .int (nI k), .ref 170], (aset h 170 96 gk), 198, sl) _
    refine wp_iam rfl (aset_ne (by decide) hU) (hI_in (by omega) (by omega)) (by decide) ?_
    rw [nI_clamp (by omega)]
    show pm_WP PT fr lo 214 (51, [some (.ref 162), some (.int (nI k))], [.int (f (96 * u + k)), .int (nI k), .ref 170], (aset h 170 96 gk), 198, sl) _
    refine wp_ism rfl (aset_self _ _ _ _) (hI_in (by omega) (by omega)) (by decide) ?_
    rw [nI_clamp (by omega)]
    have e0 : upd gk k (f (96 * u + k)) = upd gk (0 + k) (f (96 * u + k)) := by rw [Nat.zero_add]
    rw [e0]
    refine wp_i rfl rfl rfl rfl ?_
    refine wp_i rfl rfl rfl rfl ?_
    show pm_WP PT fr lo 214 (26, [some (.ref 162), some (.int (nI k + 1))], [], (aset (aset h 170 96 gk) 170 96 (upd gk (0 + k) (f (96 * u + k)))), 198, sl) _
    rw [nI_1 k, aset_aset]
    exact ih (k + 1) _ (by omega) (cpk_up hc)
theorem hd_undo {f g : Nat → Int32} {u : Nat} {x0 : Value} (h0 : mF h 0 x0) (h12 : mF h 12 (.ref 170)) (h28 : mF h 28 (.ref 178)) (h27 : mF h 27 (.int (nI u))) (hu : u ≤ 15) (hU : h 178 = .inl (0, 1536, .inl f)) (hN : h 170 = .inl (0, 96, .inl g)) : pm_WP PT fr lo 214 (0, pm_l0 [.ref 162] 2, [], h, 198, sl) (fun r => (u = 0 ∧ r = (some (.int (-1)), mset h 0 (.int 0), 198, sl)) ∨ ∃ (v : Nat) (g2 : Nat → Int32), u = v + 1 ∧ r = (some (.int (nI v)), aset (mset (mset h 0 (.int 0)) 27 (.int (nI v))) 170 96 g2, 198, sl) ∧ ∀ j, j < 96 → g2 j = f (96 * v + j)) := by
  refine wp_i rfl rfl rfl rfl ?_
  refine wp_i rfl rfl rfl rfl ?_
  show pm_WP PT fr lo 214 (2, [some (.ref 162), none], [.int 0, .ref 162], h, 198, sl) _
  refine wp_pfm rfl rfl rfl (by decide) h0 ?_
  refine wp_i rfl rfl rfl rfl ?_
  show pm_WP PT fr lo 214 (6, [some (.ref 162), none], [.ref 162], (mset h 0 (.int 0)), 198, sl) _
  refine wp_gfm rfl rfl (mF_ne (by decide) h27) ?_
  show pm_WP PT fr lo 214 (9, [some (.ref 162), none], [.int (nI u)], (mset h 0 (.int 0)), 198, sl) _
  refine wp_if (c := .ne) (off := 5) (t := 14) rfl rfl (fun q => ?_) (fun q => ?_)
  · have q : ¬ u = 0 := of_decide_eq_true ((hI_ne (b := 0) (by omega) (by omega)).symm.trans q)
    obtain ⟨v, rfl⟩ : ∃ v, u = v + 1 := ⟨u - 1, by omega⟩
    refine wp_i rfl rfl rfl rfl ?_
    refine wp_i rfl rfl rfl rfl ?_
    show pm_WP PT fr lo 214 (16, [some (.ref 162), none], [.ref 162, .ref 162], (mset h 0 (.int 0)), 198, sl) _
    refine wp_gfm rfl rfl (mF_ne (by decide) h27) ?_
    refine wp_i rfl rfl rfl rfl ?_
    refine wp_i rfl rfl rfl rfl ?_
    show pm_WP PT fr lo 214 (21, [some (.ref 162), none], [.int (nI (v + 1) - 1), .ref 162], (mset h 0 (.int 0)), 198, sl) _
    rw [nI_pred v]
    show pm_WP PT fr lo 214 (21, [some (.ref 162), none], [.int (nI v), .ref 162], (mset h 0 (.int 0)), 198, sl) _
    refine wp_pfm rfl rfl rfl (by decide) (mF_ne (by decide) h27) ?_
    refine wp_i rfl rfl rfl rfl ?_
    refine wp_i rfl rfl rfl rfl ?_
    show pm_WP PT fr lo 214 (26, [some (.ref 162), some (.int 0)], [], (mset (mset h 0 (.int 0)) 27 (.int (nI v))), 198, sl) _
    have e9 := aset_same (mset_arr (f := 27) (v := .int (nI v)) (by decide) (mset_arr (f := 0) (v := .int 0) (by decide) hN))
    rw [← e9]
    refine cp_undo (f := f) (g := g) (u := v) (mF_ne (by decide) (mF_ne (by decide) h12)) (mF_ne (by decide) (mF_ne (by decide) h28)) (mF_self (mF_ne (by decide) h27)) (by omega) (mset_arr (by decide) (mset_arr (by decide) hU)) (fun gk hc => ?_) 96 0 g (by omega) (cpk_0 f g (96 * v) 0)
    refine wp_i rfl rfl rfl rfl ?_
    show pm_WP PT fr lo 214 (59, [some (.ref 162), some (.int (nI 96))], [.ref 162], (aset (mset (mset h 0 (.int 0)) 27 (.int (nI v))) 170 96 gk), 198, sl) _
    refine wp_gfm rfl rfl (mF_as (by decide) (mF_self (mF_ne (by decide) h27))) ?_
    show pm_WP PT fr lo 214 (62, [some (.ref 162), some (.int (nI 96))], [.int (nI v)], (aset (mset (mset h 0 (.int 0)) 27 (.int (nI v))) 170 96 gk), 198, sl) _
    exact wp_iret rfl rfl (Or.inr ⟨v, gk, rfl, rfl, fun j hj => by have := hc.1 j hj; rwa [Nat.zero_add] at this⟩)
  · have q : u = 0 := Decidable.not_not.mp (of_decide_eq_false ((hI_ne (b := 0) (by omega) (by omega)).symm.trans q))
    refine wp_i rfl rfl rfl rfl ?_
    show pm_WP PT fr lo 214 (13, [some (.ref 162), none], [.int (-1)], (mset h 0 (.int 0)), 198, sl) _
    exact wp_iret rfl rfl (Or.inl ⟨q, rfl⟩)
end CPY
end MG53rulex1
