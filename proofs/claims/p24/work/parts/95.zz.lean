/-! the shortest ways once more: 1000 for what is out of reach -/
section WYE
def IN3 : Nat := 1000
/-- the roads w, n courts, the end t: lengths with up to k roads -/
def lE (w : Nat → Nat → Nat) (n t : Nat) : Nat → Nat → Nat
  | 0, a => if a = t then 0 else IN3
  | k + 1, a => lmn (fun b => decide (0 < w a b)) (fun b => lE w n t k b + w a b) (lE w n t k a) n
variable {w : Nat → Nat → Nat} {n t : Nat}
theorem lE_dec1 (k a : Nat) : lE w n t (k + 1) a ≤ lE w n t k a := lmn_x n
theorem lE_dec {i k : Nat} (a : Nat) (h : i ≤ k) : lE w n t k a ≤ lE w n t i a := by
  induction k with
  | zero => rw [show i = 0 by omega]; exact Nat.le_refl _
  | succ k ih =>
    by_cases q : i = k + 1
    · subst q; exact Nat.le_refl _
    · exact Nat.le_trans (lE_dec1 k a) (ih (by omega))
theorem lE_step {k a b : Nat} (hb : b < n) (hw : 0 < w a b) : lE w n t (k + 1) a ≤ lE w n t k b + w a b := lmn_f (f := fun b => lE w n t k b + w a b) n hb (decide_eq_true hw)
theorem lE_or (k a : Nat) : lE w n t (k + 1) a = lE w n t k a ∨ ∃ b, b < n ∧ 0 < w a b ∧ lE w n t (k + 1) a = lE w n t k b + w a b := by
  rcases lmn_or (p := fun b => decide (0 < w a b)) (f := fun b => lE w n t k b + w a b) (x := lE w n t k a) n with q | ⟨b, h1, h2, h3⟩
  · exact Or.inl q
  · exact Or.inr ⟨b, h1, of_decide_eq_true h2, h3⟩
theorem lE_chain : ∀ (k a : Nat), a < n → (k = 0 ∧ a = t ∨ ∃ j, k = j + 1 ∧ lE w n t (j + 1) a < lE w n t j a) → ∃ l : List Nat, l.length = k + 1 ∧ l.Nodup ∧ ∀ x, x ∈ l → x < n ∧ ∃ i, i ≤ k ∧ lE w n t i x ≤ lE w n t k a
  | 0, a, ha, h => ⟨[a], rfl, by simp, fun x hx => by
      have : x = a := by simpa using hx
      subst this
      exact ⟨ha, 0, Nat.le_refl _, Nat.le_refl _⟩⟩
  | k + 1, a, ha, h => by
    have h1 : lE w n t (k + 1) a < lE w n t k a := by
      rcases h with ⟨q, -⟩ | ⟨j, q, e⟩
      · omega
      · rw [show k = j by omega]; exact e
    rcases lE_or (w := w) (n := n) (t := t) k a with q | ⟨b, hb, hw, e⟩
    · omega
    · have h2 : k = 0 ∧ b = t ∨ ∃ j, k = j + 1 ∧ lE w n t (j + 1) b < lE w n t j b := by
        cases k with
        | zero =>
          refine Or.inl ⟨rfl, ?_⟩
          by_cases z : b = t
          · exact z
          · have e0 : lE w n t 0 b = IN3 := if_neg z
            have e1 : lE w n t 0 a ≤ IN3 := by
              show (if a = t then 0 else IN3) ≤ IN3
              split
              · exact Nat.zero_le _
              · exact Nat.le_refl _
            omega
        | succ j =>
          refine Or.inr ⟨j, rfl, ?_⟩
          have h3 := lE_dec1 (w := w) (n := n) (t := t) j b
          have h4 := lE_step (w := w) (n := n) (t := t) (k := j) (a := a) hb hw
          omega
      obtain ⟨l, l1, l2, l3⟩ := lE_chain k b hb h2
      refine ⟨a :: l, by simp [l1], List.nodup_cons.mpr ⟨fun m => ?_, l2⟩, fun x hx => ?_⟩
      · obtain ⟨-, i, hi, hv⟩ := l3 a m
        have := lE_dec (w := w) (n := n) (t := t) a hi
        omega
      · rcases List.mem_cons.mp hx with rfl | hx
        · exact ⟨ha, k + 1, Nat.le_refl _, Nat.le_refl _⟩
        · obtain ⟨h5, i, hi, hv⟩ := l3 x hx
          exact ⟨h5, i, by omega, by omega⟩
theorem lE_fix {a : Nat} (ha : a < n) : lE w n t (n + 1) a = lE w n t n a := by
  have h1 := lE_dec1 (w := w) (n := n) (t := t) n a
  by_cases q : lE w n t (n + 1) a < lE w n t n a
  · obtain ⟨l, l1, l2, l3⟩ := lE_chain (w := w) (n := n) (t := t) (n + 1) a ha (Or.inr ⟨n, rfl, q⟩)
    have := nd_len n l l2 (fun x hx => (l3 x hx).1)
    omega
  · omega
theorem lE_le {a b : Nat} (ha : a < n) (hb : b < n) (hw : 0 < w a b) : lE w n t n a ≤ lE w n t n b + w a b := by
  rw [← lE_fix ha]
  exact lE_step hb hw
theorem fst1_loE {f : Nat → Nat} {a b : Nat} (ha : a < n) (hb : b < n) (h : ∀ j, j < n → lE w n t n j ≤ f j) : ∀ j, j < n → lE w n t n j ≤ fst1 w f a b j := by
  intro j hj
  unfold fst1
  split
  · rename_i e
    subst e
    split
    · rename_i hw
      have h1 := h j hj
      have h2 := h b hb
      have h3 := lE_le (w := w) (n := n) (t := t) ha hb hw
      omega
    · exact h j hj
  · exact h j hj
/-- in place, in round r at row a, column b: what is known -/
def fEk (w : Nat → Nat → Nat) (n t r a b : Nat) (f : Nat → Nat) : Prop := (∀ j, j < n → lE w n t n j ≤ f j) ∧ (∀ j, j < n → f j ≤ lE w n t r j) ∧ (∀ j, j < n → j < a → f j ≤ lE w n t (r + 1) j) ∧ (∀ c, c < b → c < n → 0 < w a c → f a ≤ lE w n t r c + w a c)
theorem fEk_0 : fEk w n t 0 0 0 (fun j => if j = t then 0 else IN3) := ⟨fun j _ => lE_dec j (Nat.zero_le _), fun j _ => Nat.le_refl _, fun j _ h => by omega, fun c h => by omega⟩
theorem fEk_b {r a b : Nat} {f : Nat → Nat} (ha : a < n) (hb : b < n) (h : fEk w n t r a b f) : fEk w n t r a (b + 1) (fst1 w f a b) := by
  obtain ⟨h1, h2, h3, h4⟩ := h
  refine ⟨fst1_loE ha hb h1, fun j hj => Nat.le_trans (fst1_le _ _ _ _) (h2 j hj), fun j hj q => Nat.le_trans (fst1_le _ _ _ _) (h3 j hj q), fun c hc hcn hw => ?_⟩
  by_cases q : c = b
  · subst q
    have e : fst1 w f a c a = min (f a) (f c + w a c) := by
      unfold fst1
      rw [if_pos rfl, if_pos hw]
    have := h2 c hcn
    omega
  · exact Nat.le_trans (fst1_le _ _ _ _) (h4 c (by omega) hcn hw)
theorem fEk_a {r a : Nat} {f : Nat → Nat} (ha : a < n) (h : fEk w n t r a n f) : fEk w n t r (a + 1) 0 f := by
  obtain ⟨h1, h2, h3, h4⟩ := h
  refine ⟨h1, h2, fun j hj q => ?_, fun c hc => by omega⟩
  by_cases z : j = a
  · subst z
    rcases lE_or (w := w) (n := n) (t := t) r j with e | ⟨b, hb, hw, e⟩
    · rw [e]; exact h2 j hj
    · rw [e]; exact h4 b hb hb hw
  · exact h3 j hj (by omega)
theorem fEk_r {r : Nat} {f : Nat → Nat} (h : fEk w n t r n 0 f) : fEk w n t (r + 1) 0 0 f := ⟨h.1, fun j hj => h.2.2.1 j hj hj, fun j _ q => by omega, fun c hc => by omega⟩
theorem fEk_end {f : Nat → Nat} (h : fEk w n t n 0 0 f) : ∀ j, j < n → f j = lE w n t n j := fun j hj => Nat.le_antisymm (h.2.1 j hj) (h.1 j hj)
theorem lE_fix1 {m a : Nat} (ha : a < m + 1) : lE w (m + 1) t (m + 1) a = lE w (m + 1) t m a := by
  have h1 := lE_dec1 (w := w) (n := m + 1) (t := t) m a
  by_cases q : lE w (m + 1) t (m + 1) a < lE w (m + 1) t m a
  · obtain ⟨l, l1, l2, l3⟩ := lE_chain (w := w) (n := m + 1) (t := t) (m + 1) a ha (Or.inr ⟨m, rfl, q⟩)
    have := nd_len (m + 1) l l2 (fun x hx => (l3 x hx).1)
    omega
  · omega
theorem fEk_end1 {m : Nat} {f : Nat → Nat} (h : fEk w (m + 1) t m 0 0 f) : ∀ j, j < m + 1 → f j = lE w (m + 1) t (m + 1) j := fun j hj => Nat.le_antisymm (by rw [lE_fix1 hj]; exact h.2.1 j hj) (h.1 j hj)
def phi (x : Nat) : Nat := if x = INF then 1000 else x
theorem phi_or (x : Nat) : (x = INF ∧ phi x = 1000) ∨ (x ≠ INF ∧ phi x = x) := by
  unfold phi
  by_cases z : x = INF
  · exact Or.inl ⟨z, if_pos z⟩
  · exact Or.inr ⟨z, if_neg z⟩
theorem lD_top (k a : Nat) : lD w n t k a ≤ INF := by
  have h1 := lD_dec (w := w) (n := n) (t := t) a (Nat.zero_le k)
  have h2 : lD w n t 0 a ≤ INF := by
    show (if a = t then 0 else INF) ≤ INF
    split
    · exact Nat.zero_le _
    · exact Nat.le_refl _
  omega
theorem lE_lD (h9 : ∀ a b, a < n → b < n → w a b ≤ 9) : ∀ k a, a < n → k ≤ 100 → lE w n t k a = phi (lD w n t k a)
  | 0, a, _, _ => by
    show (if a = t then 0 else IN3) = phi (if a = t then 0 else INF)
    by_cases q : a = t
    · rw [if_pos q, if_pos q]
      rfl
    · rw [if_neg q, if_neg q]
      rfl
  | k + 1, a, ha, hk => by
    have hI := INF_lt
    have ea := lE_lD h9 k a ha (by omega)
    have pa := phi_or (lD w n t k a)
    have pd := phi_or (lD w n t (k + 1) a)
    have b1 := lD_bd (w := w) (n := n) (t := t) h9 (k + 1) a ha
    have b0 := lD_bd (w := w) (n := n) (t := t) h9 k a ha
    have t1 := lD_top (w := w) (n := n) (t := t) (k + 1) a
    have d1 := lD_dec1 (w := w) (n := n) (t := t) k a
    have d2 := lE_dec1 (w := w) (n := n) (t := t) k a
    apply Nat.le_antisymm
    · rcases lD_or (w := w) (n := n) (t := t) k a with q | ⟨b, hb, hw, q⟩
      · rw [q, ← ea]
        exact d2
      · have eb := lE_lD h9 k b hb (by omega)
        have pb := phi_or (lD w n t k b)
        have s1 := lE_step (w := w) (n := n) (t := t) (k := k) (a := a) hb hw
        have c0 := lD_bd (w := w) (n := n) (t := t) h9 k b hb
        have := h9 a b ha hb
        omega
    · rcases lE_or (w := w) (n := n) (t := t) k a with q | ⟨b, hb, hw, q⟩
      · omega
      · have eb := lE_lD h9 k b hb (by omega)
        have pb := phi_or (lD w n t k b)
        have s1 := lD_step (w := w) (n := n) (t := t) (k := k) (a := a) hb hw
        have c0 := lD_bd (w := w) (n := n) (t := t) h9 k b hb
        have := h9 a b ha hb
        omega
end WYE
/-! way of the class -/
section WYX
variable {n fr lo sl k pc j v c t : Nat} {h : pm_H} {R : pm_Rs} {L : pm_L} {S : List Value} {x y : Int32} {rd : Nat → Int32} {w : Nat → Nat → Nat}
theorem rn_min (hi : pm_ins PT k pc = some (.invokestatic j, 3)) (hc : pm_callee PT k (.invokestatic j) = none) (hm : pm_mlk PT (pm_o PT k) j = some (7, v)) (hh : pm_run PT n fr lo k (pc, L, .int y :: .int x :: S, h, 198, sl) = some R) : ∃ q, pm_run PT q fr lo k (pc + 3, L, .int (if y < x then y else x) :: S, h, 198, sl) = some R := by
  obtain ⟨st, q, e, hh⟩ := rn_ex hi hc (fun q => by cases q) (fun q => by cases q) (fun q => by cases q) hh
  have e : pm_libW PT false fr lo k j pc L (.int y :: .int x :: S) h 198 sl = some st := e
  unfold pm_libW at e
  rw [hm] at e
  have e : (if 1 ≤ fr ∧ pm_sum S + 13 ≤ lo then some (pc + 3, L, Value.int (if y < x then y else x) :: S, h, 198, sl) else none) = some st := e
  split at e
  · cases e
    exact ⟨q, hh⟩
  · cases e
def wyB (h : pm_H) (rd : Nat → Int32) (c : Nat) : Prop := (∃ fs, h 148 = .inr (4, fs) ∧ fs[0]? = some (.ref 5) ∧ fs[1]? = some (.ref 149)) ∧ (∃ rs, h 5 = .inr (3, rs) ∧ rs[0]? = some (.int (nI c)) ∧ rs[4]? = some (.ref 8)) ∧ h 8 = .inl (0, 36, .inl rd)
def frE (c : Nat) (f : Nat → Int32) (F : Nat → Nat) : Prop := ∀ j, j < c → f j = nI (F j) ∧ F j ≤ 1000
theorem frE_up {f : Nat → Int32} {F : Nat → Nat} {a b : Nat} {v : Int32} (ha : a < c) (q : frE c f F) (hv : v = nI (fst1 w F a b a)) : frE c (upd f a v) (fst1 w F a b) := by
  intro j hj
  have hle := fst1_le (w := w) F a b j
  have hq := q j hj
  refine ⟨?_, by omega⟩
  by_cases z : j = a
  · subst z
    unfold upd
    rw [if_pos rfl]
    exact hv
  · unfold upd
    rw [if_neg z, hq.1]
    unfold fst1
    rw [if_neg z]
theorem frE_no {f : Nat → Int32} {F : Nat → Nat} {a b : Nat} (q : frE c f F) (hw : ¬ 0 < w a b) : frE c f (fst1 w F a b) := by
  intro j hj
  have hq := q j hj
  by_cases z : j = a
  · subst z
    rw [fst1_no hw]
    exact hq
  · have : fst1 w F a b j = F j := by
      unfold fst1
      rw [if_neg z]
    rw [this]
    exact hq
theorem nI_minb {a b : Nat} (ha : a < 2 ^ 31) (hb : b < 2 ^ 31) : (if nI b < nI a then nI b else nI a) = nI (min a b) := by
  by_cases z : b < a
  · rw [if_pos ((nI_ltI hb ha).mpr z), Nat.min_eq_right (by omega)]
  · rw [if_neg (fun q => z ((nI_ltI hb ha).mp q)), Nat.min_eq_left (by omega)]
theorem wy_sh {r a : Nat} (hc : c ≤ 6) (ha : a < c) (hw : rdOk rd w) (hB : wyB h rd c) : ∀ (d b n : Nat) (f : Nat → Int32) (F : Nat → Nat) (x3 : Option Value), b + d = c → frE c f F → fEk w c t r a b F → pm_run PT n fr lo 47 (2, [some (.ref 148), some (.int (nI a)), some (.int (nI b)), x3], [], aset h 149 6 f, 198, sl) = some R → ∃ f' F', R = (none, aset h 149 6 f', 198, sl) ∧ frE c f' F' ∧ fEk w c t r a c F' := by
  obtain ⟨⟨fs, k1, k2, k3⟩, ⟨rs, r1, r2, r3⟩, k8⟩ := id hB
  intro d
  induction d with
  | zero =>
    intro b n f F x3 hb q1 q2 hh
    have e148 : aset h 149 6 f 148 = .inr (4, fs) := (asR_ne (by decide)).trans k1
    have e5 : aset h 149 6 f 5 = .inr (3, rs) := (asR_ne (by decide)).trans r1
    obtain ⟨n, hh⟩ := rn_i rfl rfl rfl rfl hh
    obtain ⟨n, hh⟩ := rn_i rfl rfl rfl rfl hh
    obtain ⟨n, hh⟩ := rn_gfo (g := 0) rfl rfl (by decide) e148 k2 hh
    obtain ⟨n, hh⟩ := rn_gfo (g := 0) rfl rfl (by decide) e5 r2 hh
    obtain ⟨n, hh⟩ := rn_icmp (cc := .ge) (off := 50) (t := 60) rfl rfl hh
    rw [hI_ge (by omega) (by omega), decide_eq_true (by omega)] at hh
    have hb : b = c := by omega
    rw [hb] at q2
    exact ⟨f, F, rn_vret rfl rfl hh, q1, q2⟩
  | succ d ih =>
    intro b n f F x3 hb q1 q2 hh
    have fin : ∀ (n : Nat) (f2 : Nat → Int32) (y3 : Option Value), frE c f2 (fst1 w F a b) → pm_run PT n fr lo 47 (54, [some (.ref 148), some (.int (nI a)), some (.int (nI b)), y3], [], aset h 149 6 f2, 198, sl) = some R → ∃ f' F', R = (none, aset h 149 6 f', 198, sl) ∧ frE c f' F' ∧ fEk w c t r a c F' := by
      intro n f2 y3 q3 hh
      obtain ⟨n, hh⟩ := rn_i rfl rfl rfl rfl hh
      obtain ⟨n, hh⟩ := rn_i rfl rfl rfl rfl hh
      have hh : pm_run PT n fr lo 47 (2, [some (.ref 148), some (.int (nI a)), some (.int ((nI b) + Int32.ofInt 1)), y3], [], (aset h 149 6 f2), 198, sl) = some R := hh
      rw [show nI b + Int32.ofInt 1 = nI (b + 1) from (Int32.ofNat_add b 1).symm] at hh
      exact ih (b + 1) n f2 _ _ (by omega) q3 (fEk_b ha (by omega) q2) hh
    have e148 : aset h 149 6 f 148 = .inr (4, fs) := (asR_ne (by decide)).trans k1
    have e5 : aset h 149 6 f 5 = .inr (3, rs) := (asR_ne (by decide)).trans r1
    have e8 : aset h 149 6 f 8 = .inl (0, 36, .inl rd) := (asR_ne (by decide)).trans k8
    have eA : aset h 149 6 f 149 = .inl (0, 6, .inl f) := asR_self
    obtain ⟨ew, w9⟩ := hw a b (by omega) (by omega)
    obtain ⟨fa, la⟩ := q1 a ha
    obtain ⟨fb, lb⟩ := q1 b (by omega)
    obtain ⟨n, hh⟩ := rn_i rfl rfl rfl rfl hh
    obtain ⟨n, hh⟩ := rn_i rfl rfl rfl rfl hh
    obtain ⟨n, hh⟩ := rn_gfo (g := 0) rfl rfl (by decide) e148 k2 hh
    obtain ⟨n, hh⟩ := rn_gfo (g := 0) rfl rfl (by decide) e5 r2 hh
    obtain ⟨n, hh⟩ := rn_icmp (cc := .ge) (off := 50) (t := 60) rfl rfl hh
    rw [hI_ge (by omega) (by omega), decide_eq_false (by omega)] at hh
    have hh : pm_run PT n fr lo 47 (13, [some (.ref 148), some (.int (nI a)), some (.int (nI b)), x3], [], (aset h 149 6 f), 198, sl) = some R := hh
    obtain ⟨n, hh⟩ := rn_i rfl rfl rfl rfl hh
    obtain ⟨n, hh⟩ := rn_gfo (g := 0) rfl rfl (by decide) e148 k2 hh
    obtain ⟨n, hh⟩ := rn_gfo (g := 4) rfl rfl (by decide) e5 r3 hh
    obtain ⟨n, hh⟩ := rn_i rfl rfl rfl rfl hh
    obtain ⟨n, hh⟩ := rn_i rfl rfl rfl rfl hh
    obtain ⟨n, fr', lo', r1, hr1, hh⟩ := rn_call (w := 3) (t := 160) rfl rfl hh
    have er := po_run hr1
    subst er
    rw [ix6b] at hh
    have hh : pm_run PT n fr lo 47 (25, [some (.ref 148), some (.int (nI a)), some (.int (nI b)), x3], [.int (nI (6 * a + b)), .ref 8], (aset h 149 6 f), 198, sl) = some R := hh
    obtain ⟨n, hh⟩ := rn_iam rfl e8 (hI_in (by omega) (by omega)) (by decide) hh
    rw [nI_clamp (by omega)] at hh
    rw [ew] at hh
    obtain ⟨n, hh⟩ := rn_i rfl rfl rfl rfl hh
    have hh : pm_run PT n fr lo 47 (27, [some (.ref 148), some (.int (nI a)), some (.int (nI b)), some (.int (nI (w a b)))], [], (aset h 149 6 f), 198, sl) = some R := hh
    obtain ⟨n, hh⟩ := rn_i rfl rfl rfl rfl hh
    obtain ⟨n, hh⟩ := rn_if (cc := .le) (off := 26) (t := 54) rfl rfl hh
    have e0 : pm_cmp .le (nI (w a b)) 0 = decide (w a b ≤ 0) := hI_le (a := w a b) (b := 0) (by omega) (by omega)
    rw [e0] at hh
    by_cases z : w a b ≤ 0
    · rw [decide_eq_true z] at hh
      exact fin n f _ (frE_no q1 (by omega)) hh
    · rw [decide_eq_false z] at hh
      have hh : pm_run PT n fr lo 47 (31, [some (.ref 148), some (.int (nI a)), some (.int (nI b)), some (.int (nI (w a b)))], [], (aset h 149 6 f), 198, sl) = some R := hh
      obtain ⟨n, hh⟩ := rn_i rfl rfl rfl rfl hh
      obtain ⟨n, hh⟩ := rn_gfo (g := 1) rfl rfl (by decide) e148 k3 hh
      obtain ⟨n, hh⟩ := rn_i rfl rfl rfl rfl hh
      obtain ⟨n, hh⟩ := rn_i rfl rfl rfl rfl hh
      obtain ⟨n, hh⟩ := rn_gfo (g := 1) rfl rfl (by decide) e148 k3 hh
      obtain ⟨n, hh⟩ := rn_i rfl rfl rfl rfl hh
      have hh : pm_run PT n fr lo 47 (41, [some (.ref 148), some (.int (nI a)), some (.int (nI b)), some (.int (nI (w a b)))], [.int (nI a), .ref 149, .int (nI a), .ref 149], (aset h 149 6 f), 198, sl) = some R := hh
      obtain ⟨n, hh⟩ := rn_iam rfl eA (hI_in (by omega) (by omega)) (by decide) hh
      rw [nI_clamp (by omega)] at hh
      rw [fa] at hh
      have hh : pm_run PT n fr lo 47 (42, [some (.ref 148), some (.int (nI a)), some (.int (nI b)), some (.int (nI (w a b)))], [.int (nI (F a)), .int (nI a), .ref 149], (aset h 149 6 f), 198, sl) = some R := hh
      obtain ⟨n, hh⟩ := rn_i rfl rfl rfl rfl hh
      obtain ⟨n, hh⟩ := rn_i rfl rfl rfl rfl hh
      obtain ⟨n, hh⟩ := rn_gfo (g := 1) rfl rfl (by decide) e148 k3 hh
      obtain ⟨n, hh⟩ := rn_i rfl rfl rfl rfl hh
      have hh : pm_run PT n fr lo 47 (48, [some (.ref 148), some (.int (nI a)), some (.int (nI b)), some (.int (nI (w a b)))], [.int (nI b), .ref 149, .int (nI (w a b)), .int (nI (F a)), .int (nI a), .ref 149], (aset h 149 6 f), 198, sl) = some R := hh
      obtain ⟨n, hh⟩ := rn_iam rfl eA (hI_in (by omega) (by omega)) (by decide) hh
      rw [nI_clamp (by omega)] at hh
      rw [fb] at hh
      have hh : pm_run PT n fr lo 47 (49, [some (.ref 148), some (.int (nI a)), some (.int (nI b)), some (.int (nI (w a b)))], [.int (nI (F b)), .int (nI (w a b)), .int (nI (F a)), .int (nI a), .ref 149], (aset h 149 6 f), 198, sl) = some R := hh
      obtain ⟨n, hh⟩ := rn_i rfl rfl rfl rfl hh
      have hh : pm_run PT n fr lo 47 (50, [some (.ref 148), some (.int (nI a)), some (.int (nI b)), some (.int (nI (w a b)))], [.int ((nI (w a b)) + (nI (F b))), .int (nI (F a)), .int (nI a), .ref 149], (aset h 149 6 f), 198, sl) = some R := hh
      rw [nI_add] at hh
      have hh : pm_run PT n fr lo 47 (50, [some (.ref 148), some (.int (nI a)), some (.int (nI b)), some (.int (nI (w a b)))], [.int (nI (w a b + F b)), .int (nI (F a)), .int (nI a), .ref 149], (aset h 149 6 f), 198, sl) = some R := hh
      obtain ⟨n, hh⟩ := rn_min (v := 0) rfl rfl rfl hh
      rw [nI_minb (by omega) (by omega)] at hh
      have hh : pm_run PT n fr lo 47 (53, [some (.ref 148), some (.int (nI a)), some (.int (nI b)), some (.int (nI (w a b)))], [.int (nI (min (F a) (w a b + F b))), .int (nI a), .ref 149], (aset h 149 6 f), 198, sl) = some R := hh
      obtain ⟨n, hh⟩ := rn_ism rfl eA (hI_in (by omega) (by omega)) (by decide) hh
      rw [nI_clamp (by omega), aset_aset] at hh
      exact fin n _ _ (frE_up ha q1 (by rw [fst1_yes (by omega), Nat.add_comm (F b)])) hh
theorem wy_shr {r a : Nat} {f : Nat → Int32} {F : Nat → Nat} (hc : c ≤ 6) (ha : a < c) (hw : rdOk rd w) (hB : wyB h rd c) (q1 : frE c f F) (q2 : fEk w c t r a 0 F) (hh : pm_run PT n fr lo 47 (0, pm_l0 [.ref 148, .int (nI a)] 4, [], aset h 149 6 f, 198, sl) = some R) : ∃ f' F', R = (none, aset h 149 6 f', 198, sl) ∧ frE c f' F' ∧ fEk w c t r (a + 1) 0 F' := by
  obtain ⟨n, hh⟩ := rn_i rfl rfl rfl rfl hh
  obtain ⟨n, hh⟩ := rn_i rfl rfl rfl rfl hh
  have hh : pm_run PT n fr lo 47 (2, [some (.ref 148), some (.int (nI a)), some (.int 0), none], [], (aset h 149 6 f), 198, sl) = some R := hh
  obtain ⟨f', F', e1, e2, e3⟩ := wy_sh hc ha hw hB c 0 n f F _ (by omega) q1 q2 hh
  exact ⟨f', F', e1, e2, fEk_a ha e3⟩
theorem wy_cts {r : Nat} {s : Int32} (hc : c ≤ 6) (hw : rdOk rd w) (hB : wyB h rd c) {x3 : Int32} : ∀ (d a n : Nat) (f : Nat → Int32) (F : Nat → Nat), a + d = c → frE c f F → fEk w c t r a 0 F → pm_run PT n fr lo 46 (53, [some (.ref 148), some (.int s), some (.int (nI t)), some (.int x3), some (.int (nI a))], [], aset h 149 6 f, 198, sl) = some R → ∃ q f' F', pm_run PT q fr lo 46 (77, [some (.ref 148), some (.int s), some (.int (nI t)), some (.int x3), some (.int (nI c))], [], aset h 149 6 f', 198, sl) = some R ∧ frE c f' F' ∧ fEk w c t r c 0 F' := by
  obtain ⟨⟨fs, k1, k2, k3⟩, ⟨rs, r1, r2, r3⟩, k8⟩ := id hB
  intro d
  induction d with
  | zero =>
    intro a n f F ha q1 q2 hh
    have e148 : aset h 149 6 f 148 = .inr (4, fs) := (asR_ne (by decide)).trans k1
    have e5 : aset h 149 6 f 5 = .inr (3, rs) := (asR_ne (by decide)).trans r1
    obtain ⟨n, hh⟩ := rn_i rfl rfl rfl rfl hh
    obtain ⟨n, hh⟩ := rn_i rfl rfl rfl rfl hh
    obtain ⟨n, hh⟩ := rn_gfo (g := 0) rfl rfl (by decide) e148 k2 hh
    obtain ⟨n, hh⟩ := rn_gfo (g := 0) rfl rfl (by decide) e5 r2 hh
    obtain ⟨n, hh⟩ := rn_icmp (cc := .ge) (off := 15) (t := 77) rfl rfl hh
    rw [hI_ge (by omega) (by omega), decide_eq_true (by omega)] at hh
    have ha : a = c := by omega
    rw [ha] at hh q2
    exact ⟨n, f, F, hh, q1, q2⟩
  | succ d ih =>
    intro a n f F ha q1 q2 hh
    have e148 : aset h 149 6 f 148 = .inr (4, fs) := (asR_ne (by decide)).trans k1
    have e5 : aset h 149 6 f 5 = .inr (3, rs) := (asR_ne (by decide)).trans r1
    obtain ⟨n, hh⟩ := rn_i rfl rfl rfl rfl hh
    obtain ⟨n, hh⟩ := rn_i rfl rfl rfl rfl hh
    obtain ⟨n, hh⟩ := rn_gfo (g := 0) rfl rfl (by decide) e148 k2 hh
    obtain ⟨n, hh⟩ := rn_gfo (g := 0) rfl rfl (by decide) e5 r2 hh
    obtain ⟨n, hh⟩ := rn_icmp (cc := .ge) (off := 15) (t := 77) rfl rfl hh
    rw [hI_ge (by omega) (by omega), decide_eq_false (by omega)] at hh
    have hh : pm_run PT n fr lo 46 (65, [some (.ref 148), some (.int s), some (.int (nI t)), some (.int x3), some (.int (nI a))], [], (aset h 149 6 f), 198, sl) = some R := hh
    obtain ⟨n, hh⟩ := rn_i rfl rfl rfl rfl hh
    obtain ⟨n, hh⟩ := rn_i rfl rfl rfl rfl hh
    obtain ⟨n, fr', lo', r1, hr1, hh⟩ := rn_call (w := 0) (t := 47) rfl rfl hh
    obtain ⟨f', F', er, q3, q4⟩ := wy_shr hc (by omega) hw hB q1 q2 hr1
    subst er
    have hh : pm_run PT n fr lo 46 (71, [some (.ref 148), some (.int s), some (.int (nI t)), some (.int x3), some (.int (nI a))], [], (aset h 149 6 f'), 198, sl) = some R := hh
    obtain ⟨n, hh⟩ := rn_i rfl rfl rfl rfl hh
    obtain ⟨n, hh⟩ := rn_i rfl rfl rfl rfl hh
    have hh : pm_run PT n fr lo 46 (53, [some (.ref 148), some (.int s), some (.int (nI t)), some (.int x3), some (.int ((nI a) + Int32.ofInt 1))], [], (aset h 149 6 f'), 198, sl) = some R := hh
    rw [show nI a + Int32.ofInt 1 = nI (a + 1) from (Int32.ofNat_add a 1).symm] at hh
    exact ih (a + 1) n _ _ (by omega) q3 q4 hh
def wyE (x : Nat) : Int32 := if x < 1000 then nI x else Int32.ofInt (-1)
theorem wy_rds {s : Nat} (hc : c ≤ 6) (hs : s < c) (hw : rdOk rd w) (hB : wyB h rd c) : ∀ (d r n : Nat) (f : Nat → Int32) (F : Nat → Nat) (x4 : Option Value), r + 1 + d = c → frE c f F → fEk w c t r 0 0 F → pm_run PT n fr lo 46 (39, [some (.ref 148), some (.int (nI s)), some (.int (nI t)), some (.int (nI (r + 1))), x4], [], aset h 149 6 f, 198, sl) = some R → R.1 = some (.int (wyE (lE w c t c s))) := by
  obtain ⟨⟨fs, k1, k2, k3⟩, ⟨rs, r1, r2, r3⟩, k8⟩ := id hB
  intro d
  induction d with
  | zero =>
    intro r n f F x4 hr q1 q2 hh
    have e148 : aset h 149 6 f 148 = .inr (4, fs) := (asR_ne (by decide)).trans k1
    have e5 : aset h 149 6 f 5 = .inr (3, rs) := (asR_ne (by decide)).trans r1
    have e8 : aset h 149 6 f 8 = .inl (0, 36, .inl rd) := (asR_ne (by decide)).trans k8
    have eA : aset h 149 6 f 149 = .inl (0, 6, .inl f) := asR_self
    have hr : c = r + 1 := by omega
    obtain ⟨fs1, ls⟩ := q1 s hs
    have eF : F s = lE w c t c s := by
      rw [hr] at q2 hs ⊢
      exact fEk_end1 q2 s hs
    rw [← eF]
    obtain ⟨n, hh⟩ := rn_i rfl rfl rfl rfl hh
    obtain ⟨n, hh⟩ := rn_i rfl rfl rfl rfl hh
    obtain ⟨n, hh⟩ := rn_gfo (g := 0) rfl rfl (by decide) e148 k2 hh
    obtain ⟨n, hh⟩ := rn_gfo (g := 0) rfl rfl (by decide) e5 r2 hh
    obtain ⟨n, hh⟩ := rn_icmp (cc := .ge) (off := 36) (t := 83) rfl rfl hh
    rw [hI_ge (by omega) (by omega), decide_eq_true (by omega)] at hh
    have hh : pm_run PT n fr lo 46 (83, [some (.ref 148), some (.int (nI s)), some (.int (nI t)), some (.int (nI (r + 1))), x4], [], (aset h 149 6 f), 198, sl) = some R := hh
    obtain ⟨n, hh⟩ := rn_i rfl rfl rfl rfl hh
    obtain ⟨n, hh⟩ := rn_gfo (g := 1) rfl rfl (by decide) e148 k3 hh
    obtain ⟨n, hh⟩ := rn_i rfl rfl rfl rfl hh
    have hh : pm_run PT n fr lo 46 (88, [some (.ref 148), some (.int (nI s)), some (.int (nI t)), some (.int (nI (r + 1))), x4], [.int (nI s), .ref 149], (aset h 149 6 f), 198, sl) = some R := hh
    obtain ⟨n, hh⟩ := rn_iam rfl eA (hI_in (by omega) (by omega)) (by decide) hh
    rw [nI_clamp (by omega)] at hh
    rw [fs1] at hh
    obtain ⟨n, hh⟩ := rn_i rfl rfl rfl rfl hh
    have hh : pm_run PT n fr lo 46 (92, [some (.ref 148), some (.int (nI s)), some (.int (nI t)), some (.int (nI (r + 1))), x4], [.int (nI 1000), .int (nI (F s))], (aset h 149 6 f), 198, sl) = some R := hh
    obtain ⟨n, hh⟩ := rn_icmp (cc := .ge) (off := 12) (t := 104) rfl rfl hh
    rw [hI_ge (by omega) (by omega)] at hh
    by_cases z : 1000 ≤ F s
    · rw [decide_eq_true z] at hh
      obtain ⟨n, hh⟩ := rn_i rfl rfl rfl rfl hh
      have q := (rn_ret rfl (Or.inl rfl) hh).2
      rw [q]
      unfold wyE
      rw [if_neg (by omega)]
    · rw [decide_eq_false z] at hh
      have hh : pm_run PT n fr lo 46 (95, [some (.ref 148), some (.int (nI s)), some (.int (nI t)), some (.int (nI (r + 1))), x4], [], (aset h 149 6 f), 198, sl) = some R := hh
      obtain ⟨n, hh⟩ := rn_i rfl rfl rfl rfl hh
      obtain ⟨n, hh⟩ := rn_gfo (g := 1) rfl rfl (by decide) e148 k3 hh
      obtain ⟨n, hh⟩ := rn_i rfl rfl rfl rfl hh
      have hh : pm_run PT n fr lo 46 (100, [some (.ref 148), some (.int (nI s)), some (.int (nI t)), some (.int (nI (r + 1))), x4], [.int (nI s), .ref 149], (aset h 149 6 f), 198, sl) = some R := hh
      obtain ⟨n, hh⟩ := rn_iam rfl eA (hI_in (by omega) (by omega)) (by decide) hh
      rw [nI_clamp (by omega)] at hh
      rw [fs1] at hh
      obtain ⟨n, hh⟩ := rn_i rfl rfl rfl rfl hh
      have q := (rn_ret rfl (Or.inl rfl) hh).2
      rw [q]
      unfold wyE
      rw [if_pos (by omega)]
  | succ d ih =>
    intro r n f F x4 hr q1 q2 hh
    have e148 : aset h 149 6 f 148 = .inr (4, fs) := (asR_ne (by decide)).trans k1
    have e5 : aset h 149 6 f 5 = .inr (3, rs) := (asR_ne (by decide)).trans r1
    obtain ⟨n, hh⟩ := rn_i rfl rfl rfl rfl hh
    obtain ⟨n, hh⟩ := rn_i rfl rfl rfl rfl hh
    obtain ⟨n, hh⟩ := rn_gfo (g := 0) rfl rfl (by decide) e148 k2 hh
    obtain ⟨n, hh⟩ := rn_gfo (g := 0) rfl rfl (by decide) e5 r2 hh
    obtain ⟨n, hh⟩ := rn_icmp (cc := .ge) (off := 36) (t := 83) rfl rfl hh
    rw [hI_ge (by omega) (by omega), decide_eq_false (by omega)] at hh
    have hh : pm_run PT n fr lo 46 (50, [some (.ref 148), some (.int (nI s)), some (.int (nI t)), some (.int (nI (r + 1))), x4], [], (aset h 149 6 f), 198, sl) = some R := hh
    obtain ⟨n, hh⟩ := rn_i rfl rfl rfl rfl hh
    obtain ⟨n, hh⟩ := rn_i rfl rfl rfl rfl hh
    have hh : pm_run PT n fr lo 46 (53, [some (.ref 148), some (.int (nI s)), some (.int (nI t)), some (.int (nI (r + 1))), some (.int 0)], [], (aset h 149 6 f), 198, sl) = some R := hh
    obtain ⟨n, f', F', hh, q3, q4⟩ := wy_cts hc hw hB c 0 n f F (by omega) q1 q2 hh
    obtain ⟨n, hh⟩ := rn_i rfl rfl rfl rfl hh
    obtain ⟨n, hh⟩ := rn_i rfl rfl rfl rfl hh
    have hh : pm_run PT n fr lo 46 (39, [some (.ref 148), some (.int (nI s)), some (.int (nI t)), some (.int ((nI (r + 1)) + Int32.ofInt 1)), some (.int (nI c))], [], (aset h 149 6 f'), 198, sl) = some R := hh
    rw [show nI (r + 1) + Int32.ofInt 1 = nI (r + 1 + 1) from (Int32.ofNat_add (r + 1) 1).symm] at hh
    exact ih (r + 1) n _ _ _ (by omega) q3 (fEk_r q4) hh
theorem wy_ini {s : Nat} (hc : c ≤ 6) (ht : t < 6) (hB : wyB h rd c) : ∀ (d i n : Nat) (f : Nat → Int32), i + d = c → (∀ j, j < i → f j = nI (if j = t then 0 else IN3)) → pm_run PT n fr lo 46 (2, [some (.ref 148), some (.int (nI s)), some (.int (nI t)), some (.int (nI i)), none], [], aset h 149 6 f, 198, sl) = some R → ∃ q f', pm_run PT q fr lo 46 (37, [some (.ref 148), some (.int (nI s)), some (.int (nI t)), some (.int (nI c)), none], [], aset h 149 6 f', 198, sl) = some R ∧ frE c f' (fun j => if j = t then 0 else IN3) := by
  obtain ⟨⟨fs, k1, k2, k3⟩, ⟨rs, r1, r2, r3⟩, k8⟩ := id hB
  intro d
  induction d with
  | zero =>
    intro i n f hi q1 hh
    have e148 : aset h 149 6 f 148 = .inr (4, fs) := (asR_ne (by decide)).trans k1
    have e5 : aset h 149 6 f 5 = .inr (3, rs) := (asR_ne (by decide)).trans r1
    obtain ⟨n, hh⟩ := rn_i rfl rfl rfl rfl hh
    obtain ⟨n, hh⟩ := rn_i rfl rfl rfl rfl hh
    obtain ⟨n, hh⟩ := rn_gfo (g := 0) rfl rfl (by decide) e148 k2 hh
    obtain ⟨n, hh⟩ := rn_gfo (g := 0) rfl rfl (by decide) e5 r2 hh
    obtain ⟨n, hh⟩ := rn_icmp (cc := .ge) (off := 27) (t := 37) rfl rfl hh
    rw [hI_ge (by omega) (by omega), decide_eq_true (by omega)] at hh
    have hi : i = c := by omega
    rw [hi] at hh q1
    refine ⟨n, f, hh, fun j hj => ⟨q1 j hj, ?_⟩⟩
    show (if j = t then 0 else IN3) ≤ 1000
    split
    · exact Nat.zero_le _
    · exact Nat.le_refl _
  | succ d ih =>
    intro i n f hi q1 hh
    have fin : ∀ (n : Nat) (v : Nat), v = (if i = t then 0 else IN3) → pm_run PT n fr lo 46 (30, [some (.ref 148), some (.int (nI s)), some (.int (nI t)), some (.int (nI i)), none], [.int (nI v), .int (nI i), .ref 149], aset h 149 6 f, 198, sl) = some R → ∃ q f', pm_run PT q fr lo 46 (37, [some (.ref 148), some (.int (nI s)), some (.int (nI t)), some (.int (nI c)), none], [], aset h 149 6 f', 198, sl) = some R ∧ frE c f' (fun j => if j = t then 0 else IN3) := by
      intro n v ev hh
      have eA : aset h 149 6 f 149 = .inl (0, 6, .inl f) := asR_self
      obtain ⟨n, hh⟩ := rn_ism rfl eA (hI_in (by omega) (by omega)) (by decide) hh
      rw [nI_clamp (by omega), aset_aset] at hh
      have hh : pm_run PT n fr lo 46 (31, [some (.ref 148), some (.int (nI s)), some (.int (nI t)), some (.int (nI i)), none], [], (aset h 149 6 (upd f i (nI v))), 198, sl) = some R := hh
      obtain ⟨n, hh⟩ := rn_i rfl rfl rfl rfl hh
      obtain ⟨n, hh⟩ := rn_i rfl rfl rfl rfl hh
      have hh : pm_run PT n fr lo 46 (2, [some (.ref 148), some (.int (nI s)), some (.int (nI t)), some (.int ((nI i) + Int32.ofInt 1)), none], [], (aset h 149 6 (upd f i (nI v))), 198, sl) = some R := hh
      rw [show nI i + Int32.ofInt 1 = nI (i + 1) from (Int32.ofNat_add i 1).symm] at hh
      refine ih (i + 1) n _ (by omega) (fun j hj => ?_) hh
      unfold upd
      by_cases z : j = i
      · rw [if_pos z, ev, z]
      · rw [if_neg z]
        exact q1 j (by omega)
    have e148 : aset h 149 6 f 148 = .inr (4, fs) := (asR_ne (by decide)).trans k1
    have e5 : aset h 149 6 f 5 = .inr (3, rs) := (asR_ne (by decide)).trans r1
    obtain ⟨n, hh⟩ := rn_i rfl rfl rfl rfl hh
    obtain ⟨n, hh⟩ := rn_i rfl rfl rfl rfl hh
    obtain ⟨n, hh⟩ := rn_gfo (g := 0) rfl rfl (by decide) e148 k2 hh
    obtain ⟨n, hh⟩ := rn_gfo (g := 0) rfl rfl (by decide) e5 r2 hh
    obtain ⟨n, hh⟩ := rn_icmp (cc := .ge) (off := 27) (t := 37) rfl rfl hh
    rw [hI_ge (by omega) (by omega), decide_eq_false (by omega)] at hh
    have hh : pm_run PT n fr lo 46 (13, [some (.ref 148), some (.int (nI s)), some (.int (nI t)), some (.int (nI i)), none], [], (aset h 149 6 f), 198, sl) = some R := hh
    obtain ⟨n, hh⟩ := rn_i rfl rfl rfl rfl hh
    obtain ⟨n, hh⟩ := rn_gfo (g := 1) rfl rfl (by decide) e148 k3 hh
    obtain ⟨n, hh⟩ := rn_i rfl rfl rfl rfl hh
    obtain ⟨n, hh⟩ := rn_i rfl rfl rfl rfl hh
    obtain ⟨n, hh⟩ := rn_i rfl rfl rfl rfl hh
    have hh : pm_run PT n fr lo 46 (20, [some (.ref 148), some (.int (nI s)), some (.int (nI t)), some (.int (nI i)), none], [.int (nI t), .int (nI i), .int (nI i), .ref 149], (aset h 149 6 f), 198, sl) = some R := hh
    obtain ⟨n, hh⟩ := rn_icmp (cc := .ne) (off := 7) (t := 27) rfl rfl hh
    rw [hI_ne (by omega) (by omega)] at hh
    by_cases z : i = t
    · rw [decide_eq_false (fun q => q z)] at hh
      have hh : pm_run PT n fr lo 46 (23, [some (.ref 148), some (.int (nI s)), some (.int (nI t)), some (.int (nI i)), none], [.int (nI i), .ref 149], (aset h 149 6 f), 198, sl) = some R := hh
      obtain ⟨n, hh⟩ := rn_i rfl rfl rfl rfl hh
      obtain ⟨n, hh⟩ := rn_i rfl rfl rfl rfl hh
      have hh : pm_run PT n fr lo 46 (30, [some (.ref 148), some (.int (nI s)), some (.int (nI t)), some (.int (nI i)), none], [.int (nI 0), .int (nI i), .ref 149], (aset h 149 6 f), 198, sl) = some R := hh
      exact fin n 0 (by rw [if_pos z]) hh
    · rw [decide_eq_true z] at hh
      have hh : pm_run PT n fr lo 46 (27, [some (.ref 148), some (.int (nI s)), some (.int (nI t)), some (.int (nI i)), none], [.int (nI i), .ref 149], (aset h 149 6 f), 198, sl) = some R := hh
      obtain ⟨n, hh⟩ := rn_i rfl rfl rfl rfl hh
      have hh : pm_run PT n fr lo 46 (30, [some (.ref 148), some (.int (nI s)), some (.int (nI t)), some (.int (nI i)), none], [.int (nI 1000), .int (nI i), .ref 149], (aset h 149 6 f), 198, sl) = some R := hh
      exact fin n 1000 (by rw [if_neg z]; rfl) hh
theorem wy_few {s : Nat} {f : Nat → Int32} (hc : c ≤ 6) (hs : s < c) (ht : t < c) (hw : rdOk rd w) (hB : wyB h rd c) (kA : h 149 = .inl (0, 6, .inl f)) (hh : pm_run PT n fr lo 46 (0, pm_l0 [.ref 148, .int (nI s), .int (nI t)] 5, [], h, 198, sl) = some R) : R.1 = some (.int (wyE (lE w c t c s))) := by
  obtain ⟨n, hh⟩ := rn_i rfl rfl rfl rfl hh
  obtain ⟨n, hh⟩ := rn_i rfl rfl rfl rfl hh
  have hh : pm_run PT n fr lo 46 (2, [some (.ref 148), some (.int (nI s)), some (.int (nI t)), some (.int 0), none], [], h, 198, sl) = some R := hh
  rw [← aset_same kA] at hh
  obtain ⟨n, f', hh, q1⟩ := wy_ini hc (by omega) hB c 0 n f (by omega) (fun j hj => by omega) hh
  obtain ⟨n, hh⟩ := rn_i rfl rfl rfl rfl hh
  obtain ⟨n, hh⟩ := rn_i rfl rfl rfl rfl hh
  have hh : pm_run PT n fr lo 46 (39, [some (.ref 148), some (.int (nI s)), some (.int (nI t)), some (.int (nI (0 + 1))), none], [], (aset h 149 6 f'), 198, sl) = some R := hh
  exact wy_rds hc hs hw hB (c - 1) 0 n _ _ _ (by omega) q1 fEk_0 hh
def wyS (c : Nat) (w : Nat → Nat → Nat) (x y v : Int32) : Prop := ((cB c x && cB c y) = false ∧ v = Int32.ofInt (-1)) ∨ ((cB c x && cB c y) = true ∧ ∃ a t, a < c ∧ t < c ∧ x = nI a ∧ y = nI t ∧ ((lD w c t c a < INF ∧ v = nI (lD w c t c a)) ∨ (¬ lD w c t c a < INF ∧ v = Int32.ofInt (-2))))
theorem wy_run {f : Nat → Int32} {fs : List Value} (hc : c ≤ 6) (k0 : h 0 = .inr (10, fs)) (k02 : fs[2]? = some (.ref 5)) (k010 : fs[10]? = some (.ref 148)) (k01 : fs[1]? = some (.ref 3)) (hw : rdOk rd w) (hB : wyB h rd c) (kA : h 149 = .inl (0, 6, .inl f)) (hh : pm_run PT n fr lo 108 (0, pm_l0 [.ref 0, .int x, .int y] 4, [], h, 198, sl) = some R) : ∃ v, R.1 = some (.int v) ∧ wyS c w x y v := by
  obtain ⟨-, ⟨rs, r1, r2, r3⟩, -⟩ := id hB
  have rc : rC h (.int (nI c)) := ⟨rs, r1, r2⟩
  have no : ∀ n : Nat, (cB c x && cB c y) = false → pm_run PT n fr lo 108 (22, [some (.ref 0), some (.int x), some (.int y), none], [], h, 198, sl) = some R → ∃ v, R.1 = some (.int v) ∧ wyS c w x y v := by
    intro n z hh
    obtain ⟨n, hh⟩ := rn_i rfl rfl rfl rfl hh
    have q := (rn_ret rfl (Or.inl rfl) hh).2
    rw [q]
    exact ⟨_, rfl, Or.inl ⟨z, rfl⟩⟩
  obtain ⟨n, hh⟩ := rn_i rfl rfl rfl rfl hh
  obtain ⟨n, hh⟩ := rn_gfo (g := 2) rfl rfl (by decide) k0 k02 hh
  obtain ⟨n, hh⟩ := rn_i rfl rfl rfl rfl hh
  obtain ⟨n, fr', lo', r1, hr1, hh⟩ := rn_call (w := 0) (t := 23) rfl rfl hh
  have er := xi_run hc rc hr1
  subst er
  have hh : pm_run PT n fr lo 108 (8, [some (.ref 0), some (.int x), some (.int y), none], [.int (cond (cB c x) 1 0)], h, 198, sl) = some R := hh
  obtain ⟨n, hh⟩ := rn_if (cc := .eq) (off := 14) (t := 22) rfl rfl hh
  cases zx : cB c x with
  | false =>
    rw [zx] at hh
    exact no n (by rw [zx]; rfl) hh
  | true =>
    rw [zx] at hh
    have hh : pm_run PT n fr lo 108 (11, [some (.ref 0), some (.int x), some (.int y), none], [], h, 198, sl) = some R := hh
    obtain ⟨n, hh⟩ := rn_i rfl rfl rfl rfl hh
    obtain ⟨n, hh⟩ := rn_gfo (g := 2) rfl rfl (by decide) k0 k02 hh
    obtain ⟨n, hh⟩ := rn_i rfl rfl rfl rfl hh
    obtain ⟨n, fr', lo', r1, hr1, hh⟩ := rn_call (w := 0) (t := 23) rfl rfl hh
    have er := xi_run hc rc hr1
    subst er
    have hh : pm_run PT n fr lo 108 (19, [some (.ref 0), some (.int x), some (.int y), none], [.int (cond (cB c y) 1 0)], h, 198, sl) = some R := hh
    obtain ⟨n, hh⟩ := rn_if (cc := .ne) (off := 5) (t := 24) rfl rfl hh
    cases zy : cB c y with
    | false =>
      rw [zy] at hh
      exact no n (by rw [zy, Bool.and_false]) hh
    | true =>
      rw [zy] at hh
      have hh : pm_run PT n fr lo 108 (24, [some (.ref 0), some (.int x), some (.int y), none], [], h, 198, sl) = some R := hh
      have ec : (cB c x && cB c y) = true := by rw [zx, zy]; rfl
      obtain ⟨s, hs, rfl⟩ := cB_iv zx
      obtain ⟨t, ht, rfl⟩ := cB_iv zy
      have hh : pm_run PT n fr lo 108 (24, [some (.ref 0), some (.int (nI s)), some (.int (nI t)), none], [], h, 198, sl) = some R := hh
      have hb := lD_bd (w := w) (n := c) (t := t) (fun i j hi hj => (hw i j (by omega) (by omega)).2) c s hs
      have ee := lE_lD (w := w) (n := c) (t := t) (fun i j hi hj => (hw i j (by omega) (by omega)).2) c s hs (by omega)
      have hI0 := INF_lt
      obtain ⟨n, hh⟩ := rn_i rfl rfl rfl rfl hh
      obtain ⟨n, hh⟩ := rn_gfo (g := 10) rfl rfl (by decide) k0 k010 hh
      obtain ⟨n, hh⟩ := rn_i rfl rfl rfl rfl hh
      obtain ⟨n, hh⟩ := rn_i rfl rfl rfl rfl hh
      obtain ⟨n, fr', lo', r1, hr1, hh⟩ := rn_call (w := 0) (t := 46) rfl rfl hh
      have er := wy_few hc hs ht hw hB kA hr1
      obtain ⟨rv, hv, sv⟩ := r1
      dsimp only at er
      subst er
      have hz := sz_run k133_ok _ _ _ 46 _ _ rfl hr1
      dsimp only at hz
      subst hz
      have kk := (sf_run k10_ok _ _ _ 46 _ _ rfl hr1).2 0 10 fs k0
      dsimp only at kk
      obtain ⟨fs', g0, -, g1⟩ := kk
      have g10 := (g1 10 rfl).trans k010
      have g01 := (g1 1 rfl).trans k01
      rw [ee] at hh
      obtain ⟨n, hh⟩ := rn_i rfl rfl rfl rfl hh
      have hh : pm_run PT n fr lo 108 (34, [some (.ref 0), some (.int (nI s)), some (.int (nI t)), some (.int (wyE (phi (lD w c t c s))))], [], hv, 198, sl) = some R := hh
      obtain ⟨n, hh⟩ := rn_i rfl rfl rfl rfl hh
      obtain ⟨n, hh⟩ := rn_if (cc := .ge) (off := 6) (t := 41) rfl rfl hh
      rcases hb with hb | hb
      · have e1 : wyE (phi (lD w c t c s)) = Int32.ofInt (-1) := by
          unfold phi wyE
          rw [if_pos hb, if_neg (by omega)]
        rw [e1] at hh
        have hh : pm_run PT n fr lo 108 (38, [some (.ref 0), some (.int (nI s)), some (.int (nI t)), some (.int (Int32.ofInt (-1)))], [], hv, 198, sl) = some R := hh
        obtain ⟨n, hh⟩ := rn_i rfl rfl rfl rfl hh
        have q := (rn_ret rfl (Or.inl rfl) hh).2
        rw [q]
        exact ⟨_, rfl, Or.inr ⟨ec, s, t, hs, ht, rfl, rfl, Or.inr ⟨by omega, rfl⟩⟩⟩
      · have e1 : wyE (phi (lD w c t c s)) = nI (lD w c t c s) := by
          have ep : phi (lD w c t c s) = lD w c t c s := by
            unfold phi
            rw [if_neg (by omega)]
          rw [ep]
          unfold wyE
          rw [if_pos (by omega)]
        rw [e1] at hh
        have e2 : pm_cmp .ge (nI (lD w c t c s)) 0 = true := (hI_ge (a := lD w c t c s) (b := 0) (by omega) (by omega)).trans (decide_eq_true (by omega))
        rw [e2] at hh
        have hh : pm_run PT n fr lo 108 (41, [some (.ref 0), some (.int (nI s)), some (.int (nI t)), some (.int (nI (lD w c t c s)))], [], hv, 198, sl) = some R := hh
        obtain ⟨n, hh⟩ := rn_i rfl rfl rfl rfl hh
        obtain ⟨n, hh⟩ := rn_gfo (g := 10) rfl rfl (by decide) g0 g10 hh
        obtain ⟨n, hh⟩ := rn_i rfl rfl rfl rfl hh
        obtain ⟨n, hh⟩ := rn_i rfl rfl rfl rfl hh
        obtain ⟨n, hh⟩ := rn_gfo (g := 1) rfl rfl (by decide) g0 g01 hh
        obtain ⟨n, fr', lo', r1, hr1, hh⟩ := rn_call (w := 0) (t := 48) rfl rfl hh
        have hz := sz_run k133_ok _ _ _ 48 _ r1 rfl hr1
        have hv2 := vd_run rfl hr1
        obtain ⟨rv, hv3, sv⟩ := r1
        dsimp only at hz hv2
        subst hz
        subst hv2
        have hh : pm_run PT n fr lo 108 (53, [some (.ref 0), some (.int (nI s)), some (.int (nI t)), some (.int (nI (lD w c t c s)))], [], hv3, 198, sl) = some R := hh
        obtain ⟨n, hh⟩ := rn_i rfl rfl rfl rfl hh
        have q := (rn_ret rfl (Or.inl rfl) hh).2
        rw [q]
        exact ⟨_, rfl, Or.inr ⟨ec, s, t, hs, ht, rfl, rfl, Or.inl ⟨by omega, rfl⟩⟩⟩
end WYX
/-! way of the reference: what it answers -/
section WYM
variable {fr lo sl : Nat} {h : pm_H}
theorem hd_wayx {c : Nat} {rd : Nat → Int32} {w : Nat → Nat → Nat} (hI : mInv h) (x y : Int32) (h3 : mF h 3 (.int (nI c))) (hc : c ≤ 6) (hR : h 169 = .inl (0, 36, .inl rd)) (hw : rdOk rd w) (hf : 100 ≤ fr) (hl : 4000 ≤ lo) : pm_WP PT fr lo 238 (0, pm_l0 [.ref 162, .int x, .int y] 7, [], h, 198, sl) (fun r => ∃ v, r.1 = some (.int v) ∧ wyS c w x y v) := by
  obtain ⟨hh, hq⟩ := id hI
  obtain ⟨x0, h0, -⟩ := ty_fld hh (g := 0) rfl
  obtain ⟨x1, h1, -⟩ := ty_fld hh (g := 1) rfl
  have h2 := ty_ref hh (g := 2) (p := 163) rfl
  have h39 := ty_ref hh (g := 39) (p := 185) rfl
  have h11 := ty_ref hh (g := 11) (p := 169) rfl
  obtain ⟨f0, hF, tF⟩ := ty_far hh
  obtain ⟨R, hL⟩ := ty_lar hh
  refine wp_i rfl rfl rfl rfl ?_
  refine wp_i rfl rfl rfl rfl ?_
  show pm_WP PT fr lo 238 (2, [some (.ref 162), some (.int x), some (.int y), none, none, none, none], [.int 0, .ref 162], h, 198, sl) _
  refine wp_pfm rfl rfl rfl (by decide) h0 ?_
  refine wp_i rfl rfl rfl rfl ?_
  refine wp_i rfl rfl rfl rfl ?_
  show pm_WP PT fr lo 238 (7, [some (.ref 162), some (.int x), some (.int y), none, none, none, none], [.int x, .ref 162], (mset h 0 (.int 0)), 198, sl) _
  refine wp_callM (t := 168) (As := [.int x]) (rest := []) (mx := 2) rfl rfl rfl rfl (Nat.le_of_ble_eq_true rfl) (Nat.le_of_ble_eq_true rfl) (by omega) (by omega) rfl (mF_obj (mF_self h0)) (wp_mono (hd_isCourt (c := c) x (mF_ne (by decide) h3) (by omega) (by omega)) ?_)
  rintro _ rfl
  have eb1 := inb_cB (x := x) hc
  have eb2 := inb_cB (x := y) hc
  cases b1 : in_b x.toInt64 0 (nI c - 1).toInt64 with
  | false =>
    show pm_WP PT fr lo 238 (10, [some (.ref 162), some (.int x), some (.int y), none, none, none, none], [.int 0], (mset h 0 (.int 0)), 198, sl) _
    refine wp_i rfl rfl rfl rfl ?_
    refine wp_i rfl rfl rfl rfl ?_
    show pm_WP PT fr lo 238 (22, [some (.ref 162), some (.int x), some (.int y), none, none, none, none], [.int (-1)], (mset h 0 (.int 0)), 198, sl) _
    exact wp_iret rfl rfl ⟨_, rfl, Or.inl ⟨by rw [← eb1, b1]; rfl, rfl⟩⟩
  | true =>
    show pm_WP PT fr lo 238 (10, [some (.ref 162), some (.int x), some (.int y), none, none, none, none], [.int 1], (mset h 0 (.int 0)), 198, sl) _
    refine wp_i rfl rfl rfl rfl ?_
    refine wp_i rfl rfl rfl rfl ?_
    refine wp_i rfl rfl rfl rfl ?_
    show pm_WP PT fr lo 238 (15, [some (.ref 162), some (.int x), some (.int y), none, none, none, none], [.int y, .ref 162], (mset h 0 (.int 0)), 198, sl) _
    refine wp_callM (t := 168) (As := [.int y]) (rest := []) (mx := 2) rfl rfl rfl rfl (Nat.le_of_ble_eq_true rfl) (Nat.le_of_ble_eq_true rfl) (by omega) (by omega) rfl (mF_obj (mF_self h0)) (wp_mono (hd_isCourt (c := c) y (mF_ne (by decide) h3) (by omega) (by omega)) ?_)
    rintro _ rfl
    cases b2 : in_b y.toInt64 0 (nI c - 1).toInt64 with
    | false =>
      show pm_WP PT fr lo 238 (18, [some (.ref 162), some (.int x), some (.int y), none, none, none, none], [.int 0], (mset h 0 (.int 0)), 198, sl) _
      refine wp_i rfl rfl rfl rfl ?_
      refine wp_i rfl rfl rfl rfl ?_
      show pm_WP PT fr lo 238 (22, [some (.ref 162), some (.int x), some (.int y), none, none, none, none], [.int (-1)], (mset h 0 (.int 0)), 198, sl) _
      exact wp_iret rfl rfl ⟨_, rfl, Or.inl ⟨by rw [← eb2, b2, Bool.and_false], rfl⟩⟩
    | true =>
      show pm_WP PT fr lo 238 (18, [some (.ref 162), some (.int x), some (.int y), none, none, none, none], [.int 1], (mset h 0 (.int 0)), 198, sl) _
      refine wp_i rfl rfl rfl rfl ?_
      obtain ⟨a, rfl, ha⟩ := isC_iv hc b1
      obtain ⟨t, rfl, ht⟩ := isC_iv hc b2
      show pm_WP PT fr lo 238 (23, [some (.ref 162), some (.int (nI a)), some (.int (nI t)), none, none, none, none], [], (mset h 0 (.int 0)), 198, sl) _
      refine wp_i rfl rfl rfl rfl ?_
      refine wp_i rfl rfl rfl rfl ?_
      show pm_WP PT fr lo 238 (25, [some (.ref 162), some (.int (nI a)), some (.int (nI t)), none, none, none, none], [.int (nI t), .ref 162], (mset h 0 (.int 0)), 198, sl) _
      refine wp_callM (t := 237) (As := [.int (nI t)]) (rest := []) (mx := 6) rfl rfl rfl rfl (Nat.le_of_ble_eq_true rfl) (Nat.le_of_ble_eq_true rfl) (by omega) (by omega) rfl (mF_obj (mF_self h0)) (wp_mono (hd_laysFar (w := w) (mF_ne (by decide) h3) hc (mF_ne (by decide) h39) (mF_ne (by decide) h11) (mset_arr (by decide) hR) hw (mset_arr (by decide) hF) (by omega) (by omega) (by omega)) ?_)
      rintro _ ⟨f, rfl, hf2⟩
      have tf := far_ty tF hf2
      obtain ⟨ea, la⟩ := hf2.1 a ha
      have hI0 := INF_lt
      refine wp_i rfl rfl rfl rfl ?_
      show pm_WP PT fr lo 238 (29, [some (.ref 162), some (.int (nI a)), some (.int (nI t)), none, none, none, none], [.ref 162], (aset (mset h 0 (.int 0)) 185 6 f), 198, sl) _
      refine wp_gfm rfl rfl (mF_as (by decide) (mF_ne (by decide) h39)) ?_
      refine wp_i rfl rfl rfl rfl ?_
      show pm_WP PT fr lo 238 (33, [some (.ref 162), some (.int (nI a)), some (.int (nI t)), none, none, none, none], [.int (nI a), .ref 185], (aset (mset h 0 (.int 0)) 185 6 f), 198, sl) _
      refine wp_iam rfl (aset_self _ _ _ _) (hI_in (by omega) (by omega)) (by decide) ?_
      rw [nI_clamp (by omega), ea]
      show pm_WP PT fr lo 238 (34, [some (.ref 162), some (.int (nI a)), some (.int (nI t)), none, none, none, none], [.int (nI (lD w c t c a))], (aset (mset h 0 (.int 0)) 185 6 f), 198, sl) _
      refine wp_i rfl rfl rfl rfl ?_
      show pm_WP PT fr lo 238 (37, [some (.ref 162), some (.int (nI a)), some (.int (nI t)), none, none, none, none], [.int 1000000, .int (nI (lD w c t c a))], (aset (mset h 0 (.int 0)) 185 6 f), 198, sl) _
      refine wp_icmp (c := .lt) (off := 6) (t := 43) rfl rfl (fun q => ?_) (fun q => ?_)
      · have q : lD w c t c a < INF := of_decide_eq_true ((hI_lt (b := 1000000) (by omega) (by omega)).symm.trans q)
        refine wp_i rfl rfl rfl rfl ?_
        refine wp_i rfl rfl rfl rfl ?_
        show pm_WP PT fr lo 238 (45, [some (.ref 162), some (.int (nI a)), some (.int (nI t)), none, none, none, none], [.int 0, .ref 162], (aset (mset h 0 (.int 0)) 185 6 f), 198, sl) _
        refine wp_pfm rfl rfl rfl (by decide) (mF_as (by decide) (mF_ne (by decide) h1)) ?_
        refine wp_i rfl rfl rfl rfl ?_
        refine wp_i rfl rfl rfl rfl ?_
        refine wp_i rfl rfl rfl rfl ?_
        refine wp_i rfl rfl rfl rfl ?_
        refine wp_i rfl rfl rfl rfl ?_
        have w0 : wyI h (mset (aset (mset h 0 (.int 0)) 185 6 f) 1 (.int 0)) f 0 := ⟨dD_tr (dD_tr (dD_set rfl) (dD_arr rfl (by decide))) (dD_set rfl), mF_ne (by decide) (mF_as (by decide) (mF_self h0)), mF_self (mF_as (by decide) (mF_ne (by decide) h1)), ⟨R, by rw [mset_ne (by decide), aset_nei (by decide), mset_ne (by decide)]; exact hL⟩, mset_arr (by decide) (aset_self _ _ _ _)⟩
        generalize (mset (aset (mset h 0 (.int 0)) 185 6 f) 1 (.int 0)) = hg at w0 ⊢
        obtain ⟨R2, m3⟩ := id w0.2.2.2.1
        show pm_WP PT fr lo 238 (53, [some (.ref 162), some (.int (nI a)), some (.int (nI t)), some (.int (nI a)), none, none, none], [.long ((nI a)).toInt64, .ref 162], hg, 198, sl) _
        refine wp_callM (t := 167) (As := [.long ((nI a)).toInt64]) (rest := []) (mx := 3) rfl rfl rfl rfl (Nat.le_of_ble_eq_true rfl) (Nat.le_of_ble_eq_true rfl) (by omega) (by omega) rfl (mF_obj w0.2.2.1) (wp_mono (hd_enters (nI a).toInt64 w0.2.2.1 (by omega) (dD_mF w0.1 rfl h2) m3) ?_)
        rintro _ rfl
        show pm_WP PT fr lo 238 (56, [some (.ref 162), some (.int (nI a)), some (.int (nI t)), some (.int (nI a)), none, none, none], [], (mset (lset hg 163 128 (vp_updL R2 0 (nI a).toInt64)) 1 (.int (nI (0 + 1)))), 198, sl) _
        have hb := lD_bd (w := w) (n := c) (t := t) (fun i j hi hj => (hw i j (by omega) (by omega)).2) c a ha
        exact wy_L h3 hc h39 h11 h2 hR hw hf2 ht ha (by omega) (by omega) (fun h2 k q1 q2 => ⟨_, rfl, Or.inr ⟨by rw [← eb1, ← eb2, b1, b2]; rfl, a, t, ha, ht, rfl, rfl, Or.inl ⟨q, ea⟩⟩⟩) 54 a (0 + 1) _ none none none (by omega) ha q (by omega) (wyI_en (R := R2) w0)
      · refine wp_i rfl rfl rfl rfl ?_
        show pm_WP PT fr lo 238 (42, [some (.ref 162), some (.int (nI a)), some (.int (nI t)), none, none, none, none], [.int (-2)], (aset (mset h 0 (.int 0)) 185 6 f), 198, sl) _
        have q : ¬ lD w c t c a < INF := fun q2 => by
          have := (hI_lt (b := 1000000) (by omega) (by omega)).symm.trans q
          exact of_decide_eq_false this q2
        exact wp_iret rfl rfl ⟨_, rfl, Or.inr ⟨by rw [← eb1, ← eb2, b1, b2]; rfl, a, t, ha, ht, rfl, rfl, Or.inr ⟨q, rfl⟩⟩⟩
end WYM
/-! both ways answer alike -/
section WYZ
variable {sl : Nat} {h h1 h2 : pm_H} {v w x y : Int32}
def asR148 : List av := match bB 148 with
  | .inr (_, as) => as
  | _ => []
theorem wyS_u {c : Nat} {W : Nat → Nat → Nat} (hc : c ≤ 6) (q1 : wyS c W x y v) (q2 : wyS c W x y w) : v = w := by
  rcases q1 with ⟨b1, e1⟩ | ⟨b1, a, t, ha, ht, ea, et, q1⟩
  · rcases q2 with ⟨b2, e2⟩ | ⟨b2, -⟩
    · exact e1.trans e2.symm
    · rw [b1] at b2
      cases b2
  · rcases q2 with ⟨b2, -⟩ | ⟨b2, a', t', ha', ht', ea', et', q2⟩
    · rw [b1] at b2
      cases b2
    · have e1 : a' = a := nI_ij (by omega) (by omega) (ea'.symm.trans ea)
      have e2 : t' = t := nI_ij (by omega) (by omega) (et'.symm.trans et)
      subst e1
      subst e2
      rcases q1 with ⟨z1, e1⟩ | ⟨z1, e1⟩
      · rcases q2 with ⟨-, e2⟩ | ⟨z2, -⟩
        · exact e1.trans e2.symm
        · exact absurd z1 z2
      · rcases q2 with ⟨z2, -⟩ | ⟨-, e2⟩
        · exact absurd z2 z1
        · exact e1.trans e2.symm
theorem way_both (pr : prun sl 108 238 [x, y] h h1 h2 v w) (hI : LI5 h) (r : RO h) : v = w := by
  obtain ⟨F, F', cc, hc, m3, e8, e9, hj, -⟩ := r
  obtain ⟨⟨m, r1⟩, ⟨f1, i1⟩, ⟨m2, r2⟩, -, -⟩ := pr
  obtain ⟨hI0, ⟨n0, cc0, f0, g0, hn, hc0, ⟨x1, ⟨rs, d5, d50⟩⟩, ⟨y1, y2, y3⟩, hjj⟩, -⟩ := hI
  have ecc := mF_ij (by omega) (by omega) y3 m3
  subst ecc
  obtain ⟨fs, a1, -, a3⟩ := ty_x2 hI0.1
  have d54 : rs[4]? = some (.ref 8) := ty_or hI0.1 (a := 5) (g := 4) (p := 8) (by decide) rfl (by decide) rfl rfl d5
  have a10 : fs[10]? = some (.ref 148) := ty_or hI0.1 (a := 0) (g := 10) (p := 148) (by decide) rfl (by decide) rfl rfl a1
  have a01 : fs[1]? = some (.ref 3) := ty_or hI0.1 (a := 0) (g := 1) (p := 3) (by decide) rfl (by decide) rfl rfl a1
  obtain ⟨fo, b1⟩ : ∃ fo, h 148 = .inr (4, fo) := by
    obtain ⟨fo, b1, -⟩ := aE_obj (ci := 4) (as := asR148) (hI0.1 148 (by decide)) (by decide)
    exact ⟨fo, b1⟩
  have b2 : fo[0]? = some (.ref 5) := ty_or hI0.1 (a := 148) (g := 0) (p := 5) (by decide) rfl (by decide) rfl rfl b1
  have b3 : fo[1]? = some (.ref 149) := ty_or hI0.1 (a := 148) (g := 1) (p := 149) (by decide) rfl (by decide) rfl rfl b1
  obtain ⟨A, kA, -⟩ := ty_arr hI0.1 (i := 149) (by decide) rfl rfl (by decide)
  have g9 := (f1.1 169 rfl).trans e9
  obtain ⟨rd, W, hR, hw⟩ := ty_rd i1.1
  rw [g9] at hR
  cases hR
  have hw1 : rdOk F W := fun a b ha hb => by
    rw [hj (6 * a + b) (by omega)]
    exact hw a b ha hb
  obtain ⟨v1, c1, s1⟩ := wy_run hc a1 a3 a10 a01 hw1 ⟨⟨fo, b1, b2, b3⟩, ⟨rs, d5, d50, d54⟩, e8⟩ kA r1
  obtain ⟨v2, c2, s2⟩ := rn_dt (F := 100) (Lo := 4000) (hd_wayx (fr := 100) (lo := 4000) (sl := sl) i1 x y (mF_hi f1 m3) hc g9 hw (by omega) (by omega)) r2
  dsimp only at c1 c2
  rw [Value.int.inj (Option.some.inj c1), Value.int.inj (Option.some.inj c2)]
  exact wyS_u hc s1 s2
end WYZ
