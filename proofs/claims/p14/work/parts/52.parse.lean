/-! rules are read, by hand: what is written is a row that can be worked off -/
section PRS
/-- how many numbers lie on the stack behind a code -/
def dst (d : Nat) (c : Int32) : Option Nat := if c = 3000 then (if 1 ≤ d then some d else none) else if 2000 ≤ c then (if c ≤ 2006 ∧ 2 ≤ d then some (d - 1) else none) else if 1000 ≤ c then (if c < 1007 then some (d + 1) else none) else some (d + 1)
theorem dst_i (d j : Nat) (hj : j < 100000) : dst d (nI j) = if j = 3000 then (if 1 ≤ d then some d else none) else if 2000 ≤ j then (if j ≤ 2006 ∧ 2 ≤ d then some (d - 1) else none) else if 1000 ≤ j then (if j < 1007 then some (d + 1) else none) else some (d + 1) := by
  unfold dst
  have e1 : (nI j = 3000) = (j = 3000) := propext (nI_eq (b := 3000) (by omega) (by omega))
  have e2 : ((2000 : Int32) ≤ nI j) = (2000 ≤ j) := propext (nI_leI (a := 2000) (by omega) (by omega))
  have e3 : (nI j ≤ 2006) = (j ≤ 2006) := propext (nI_leI (b := 2006) (by omega) (by omega))
  have e4 : ((1000 : Int32) ≤ nI j) = (1000 ≤ j) := propext (nI_leI (a := 1000) (by omega) (by omega))
  have e5 : (nI j < 1007) = (j < 1007) := propext (nI_ltI (b := 1007) (by omega) (by omega))
  simp only [e1, e2, e3, e4, e5]
theorem pr_dst {d j e : Nat} (h : j + e < 7) : dst (d + 1 + 1) (2000 + nI j + nI e) = some (d + 1) := by
  rw [show (2000 : Int32) = nI 2000 from rfl, nI_add, nI_add, dst_i _ _ (by omega), if_neg (by omega), if_pos (by omega), if_pos (by omega)]
  rfl
theorem pr_thing {d j : Nat} (h : j < 7) : dst d (1000 + nI j) = some (d + 1) := by
  rw [show (1000 : Int32) = nI 1000 from rfl, nI_add, dst_i _ _ (by omega), if_neg (by omega), if_neg (by omega), if_pos (by omega), if_pos (by omega)]
theorem pr_small {d : Nat} {v : Int32} (h : 0 ≤ v.toInt) (h2 : v.toInt ≤ 999) : dst d v = some (d + 1) := by
  obtain ⟨j, rfl, hj, ej⟩ := hI_of h
  rw [dst_i _ _ (by omega), if_neg (by omega), if_neg (by omega), if_neg (by omega)]
def dep (f : Nat → Int32) : Nat → Option Nat
  | 0 => some 0
  | k + 1 => match dep f k with
    | some d => dst d (f k)
    | none => none
theorem dep_cong {f g : Nat → Int32} : ∀ {k : Nat}, (∀ j, j < k → f j = g j) → dep f k = dep g k
  | 0, _ => rfl
  | k + 1, h => by
    unfold dep
    rw [dep_cong (fun j hj => h j (by omega)), h k (by omega)]
theorem dep_put {f : Nat → Int32} {k d e : Nat} {v : Int32} (h : dep f k = some d) (hv : dst d v = some e) : dep (upd f k v) (k + 1) = some e := by
  unfold dep
  rw [dep_cong (g := f) (fun j hj => by simp [upd, Nat.ne_of_lt hj]), h]
  simp [upd, hv]
def pS (h : pm_H) (a t n c : Nat) (rc tp : Nat → Int32) : Prop := mF h 16 (.int (nI a)) ∧ mF h 17 (.int (nI t)) ∧ mF h 14 (.ref 172) ∧ h 172 = .inl (0, 80, .inl tp) ∧ mF h 18 (.int (nI n)) ∧ mF h 24 (.int (nI c)) ∧ mF h 22 (.ref 175) ∧ h 175 = .inl (0, 80, .inl rc)
def pDC (i : Nat) : Bool := Nat.beq i 175
def pDG (g : Nat) : Bool := Nat.beq g 16 || (Nat.beq g 18 || Nat.beq g 24)
def pD (h h' : pm_H) : Prop := dD pDC pDG h h'
variable {h h' h'' : pm_H} {a t n c : Nat} {rc tp : Nat → Int32}
theorem pD_rf (h : pm_H) : pD h h := dD_rf h
theorem pD_tr (p : pD h h') (q : pD h' h'') : pD h h'' := dD_tr p q
theorem pD_set {f : Nat} {v : Value} (hf : f = 16 ∨ f = 18 ∨ f = 24) : pD h (mset h f v) := dD_set (by rcases hf with rfl | rfl | rfl <;> rfl)
theorem pD_arr {g : Nat → Int32} : pD h (aset h 175 80 g) := dD_arr rfl (by decide)
theorem pS_at {b : Nat} (p : pS h a t n c rc tp) : pS (mset h 16 (.int (nI b))) b t n c rc tp := by
  obtain ⟨p1, p2, p3, p4, p5, p6, p7, p8⟩ := p
  exact ⟨mF_self p1, mF_ne (by decide) p2, mF_ne (by decide) p3, mset_arr (by decide) p4, mF_ne (by decide) p5, mF_ne (by decide) p6, mF_ne (by decide) p7, mset_arr (by decide) p8⟩
theorem pS_nest {b : Nat} (p : pS h a t n c rc tp) : pS (mset h 18 (.int (nI b))) a t b c rc tp := by
  obtain ⟨p1, p2, p3, p4, p5, p6, p7, p8⟩ := p
  exact ⟨mF_ne (by decide) p1, mF_ne (by decide) p2, mF_ne (by decide) p3, mset_arr (by decide) p4, mF_self p5, mF_ne (by decide) p6, mF_ne (by decide) p7, mset_arr (by decide) p8⟩
def hcod (h : pm_H) (rc : Nat → Int32) (c : Nat) (v : Int32) : pm_H := mset (aset h 175 80 (upd rc c v)) 24 (.int (nI (c + 1)))
theorem pS_cod {v : Int32} (p : pS h a t n c rc tp) : pS (hcod h rc c v) a t n (c + 1) (upd rc c v) tp := by
  obtain ⟨p1, p2, p3, p4, p5, p6, p7, p8⟩ := p
  unfold hcod
  exact ⟨mF_ne (by decide) (mF_as (by decide) p1), mF_ne (by decide) (mF_as (by decide) p2), mF_ne (by decide) (mF_as (by decide) p3), mset_arr (by decide) (aset_ne (by decide) p4), mF_ne (by decide) (mF_as (by decide) p5), mF_self (mF_as (by decide) p6), mF_ne (by decide) (mF_as (by decide) p7), mset_arr (by decide) (aset_self _ _ _ _)⟩
theorem pD_cod {v : Int32} : pD h (hcod h rc c v) := pD_tr pD_arr (pD_set (Or.inr (Or.inr rfl)))
theorem tko_some {i : Nat} : ∀ {n k j : Nat}, tko i tp a t n k = some j → a < t ∧ k ≤ j ∧ j < k + n
  | 0, k, j, e => by cases e
  | n + 1, k, j, e => by
    unfold tko at e
    cases hb : (decide (a < t) && decide ((st_tx i).getD k 0 = tp a)) with
    | true =>
      rw [hb] at e
      cases e
      rw [Bool.and_eq_true] at hb
      exact ⟨of_decide_eq_true hb.1, Nat.le_refl _, by omega⟩
    | false =>
      rw [hb] at e
      have := tko_some (n := n) (k := k + 1) (j := j) e
      omega
theorem dg_iv (q : dg tp a t = true) : a < t ∧ 48 ≤ (tp a).toInt ∧ (tp a).toInt ≤ 57 := by
  have h1 := dg_lt q
  unfold dg at q
  rw [Bool.and_eq_true] at q
  have h2 := q.2
  unfold in_b at h2
  rw [Bool.and_eq_true] at h2
  have e1 : ¬ (tp a).toInt64 < 48 := by simpa using h2.1
  have e2 : ¬ (57 : Int64) < (tp a).toInt64 := by simpa using h2.2
  rw [Int64.lt_iff_toInt_lt, Int32.toInt_toInt64] at e1 e2
  have n1 : (48 : Int64).toInt = 48 := by decide
  have n2 : (57 : Int64).toInt = 57 := by decide
  rw [n1] at e1
  rw [n2] at e2
  omega
theorem nbr_step {x v : Int32} {m : Int} (hv : 0 ≤ v.toInt ∧ v.toInt ≤ m) (hm : m ≤ 10000) (hx : 48 ≤ x.toInt ∧ x.toInt ≤ 57) : 0 ≤ (10 * v + x - 48).toInt ∧ (10 * v + x - 48).toInt ≤ 10 * m + 9 := by
  obtain ⟨p, rfl, hp, ep⟩ := hI_of hv.1
  obtain ⟨q, rfl, hq, eq⟩ := hI_of (show 0 ≤ x.toInt by omega)
  have e : (10 : Int32) * nI p + nI q - 48 = nI (10 * p + (q - 48)) := by
    rw [show (10 : Int32) = nI 10 from rfl, hI_mul, nI_add, show (48 : Int32) = nI 48 from rfl]
    rw [show 10 * p + q = (10 * p + (q - 48)) + 48 by omega, ← nI_add]
    simp
  rw [e, nI_toInt (by omega)]
  omega
theorem nbr_bd (t : Nat) : ∀ (n a : Nat) (v : Int32) (m : Int), 0 ≤ v.toInt → v.toInt ≤ m → 0 ≤ m → 10 ^ n * (m + 1) ≤ 10000 → a ≤ (nbr tp t n a v).1 ∧ (nbr tp t n a v).1 ≤ a + n ∧ (a ≤ t → (nbr tp t n a v).1 ≤ t) ∧ 0 ≤ (nbr tp t n a v).2.toInt ∧ (nbr tp t n a v).2.toInt ≤ 10 ^ n * (m + 1) - 1
  | 0, a, v, m, h1, h2, h3, _ => by
    unfold nbr
    dsimp only
    omega
  | n + 1, a, v, m, h1, h2, h3, h4 => by
    unfold nbr
    have hp : (1 : Int) ≤ 10 ^ n := by
      have : (0 : Int) < 10 ^ n := Int.pow_pos (by decide)
      omega
    have e10 : (10 : Int) ^ (n + 1) * (m + 1) = 10 ^ n * (10 * m + 9 + 1) := by
      rw [Int.pow_succ, Int.mul_assoc, show (10 : Int) * (m + 1) = 10 * m + 9 + 1 by omega]
    have hge : m + 1 ≤ 10 ^ n * (m + 1) := by
      have := Int.mul_le_mul_of_nonneg_right hp (show 0 ≤ m + 1 by omega)
      omega
    have hge2 : 10 * m + 10 ≤ 10 ^ n * (10 * m + 9 + 1) := by
      have := Int.mul_le_mul_of_nonneg_right hp (show 0 ≤ 10 * m + 10 by omega)
      rw [show 10 * m + 9 + 1 = 10 * m + 10 by omega]
      omega
    cases hd : dg tp a t with
    | false => dsimp only [cond]; omega
    | true =>
      dsimp only [cond]
      obtain ⟨d1, d2, d3⟩ := dg_iv hd
      obtain ⟨s1, s2⟩ := nbr_step (v := v) (x := tp a) (m := m) ⟨h1, h2⟩ (by omega) ⟨d2, d3⟩
      have ih := nbr_bd t n (a + 1) (10 * v + tp a - 48) (10 * m + 9) s1 s2 (by omega) (by omega)
      rw [e10]
      omega
theorem nbr_gt (t : Nat) {n : Nat} {v : Int32} (q : dg tp a t = true) : nbr tp t (n + 1) a v = nbr tp t n (a + 1) (10 * v + tp a - 48) := by
  conv => lhs; unfold nbr
  rw [q]
  rfl
theorem upd_nI {f : Nat → Int32} {v : Int32} (hc : c < 2 ^ 31) : upd f (nI c).toNatClampNeg v = upd f c v := by rw [nI_clamp hc]
section
variable {fr lo sl : Nat}
theorem hd_codes (p : pS h a t n c rc tp) (hc : c < 80) (v : Int32) : pm_WP PT fr lo 193 (0, pm_l0 [.ref 162, .int v] 2, [], h, 198, sl) (fun r => r = (none, hcod h rc c v, 198, sl)) := by
  obtain ⟨p1, p2, p3, p4, p5, p6, p7, p8⟩ := p
  refine wp_i rfl rfl rfl rfl ?_
  show pm_WP PT fr lo 193 (1, [some (.ref 162), some (.int v)], [.ref 162], h, 198, sl) _
  refine wp_gfm rfl rfl p7 ?_
  refine wp_i rfl rfl rfl rfl ?_
  show pm_WP PT fr lo 193 (5, [some (.ref 162), some (.int v)], [.ref 162, .ref 175], h, 198, sl) _
  refine wp_gfm rfl rfl p6 ?_
  refine wp_i rfl rfl rfl rfl ?_
  show pm_WP PT fr lo 193 (9, [some (.ref 162), some (.int v)], [.int v, .int (nI c), .ref 175], h, 198, sl) _
  refine wp_ism rfl p8 (hI_in hc (by decide)) (by decide) ?_
  rw [upd_nI (by omega)]
  refine wp_i rfl rfl rfl rfl ?_
  refine wp_i rfl rfl rfl rfl ?_
  show pm_WP PT fr lo 193 (12, [some (.ref 162), some (.int v)], [.ref 162, .ref 162], (aset h 175 80 (upd rc c v)), 198, sl) _
  refine wp_gfm rfl rfl (mF_as (by decide) p6) ?_
  refine wp_i rfl rfl rfl rfl ?_
  refine wp_i rfl rfl rfl rfl ?_
  show pm_WP PT fr lo 193 (17, [some (.ref 162), some (.int v)], [.int (nI c + 1), .ref 162], (aset h 175 80 (upd rc c v)), 198, sl) _
  rw [nI_1 c]
  show pm_WP PT fr lo 193 (17, [some (.ref 162), some (.int v)], [.int (nI (c + 1)), .ref 162], (aset h 175 80 (upd rc c v)), 198, sl) _
  refine wp_pfm rfl rfl rfl (by decide) (mF_as (by decide) p6) ?_
  show pm_WP PT fr lo 193 (20, [some (.ref 162), some (.int v)], [], (mset (aset h 175 80 (upd rc c v)) 24 (.int (nI (c + 1)))), 198, sl) _
  exact wp_vret rfl rfl rfl
end
def pPost (h : pm_H) (sl a t n c d : Nat) (tp : Nat → Int32) (r : pm_Rs) : Prop := ∃ (b : Bool) (h' : pm_H) (a' n' c' : Nat) (rc' : Nat → Int32), r = (some (.int (cond b 1 0)), h', 198, sl) ∧ pS h' a' t n' c' rc' tp ∧ pD h h' ∧ a ≤ a' ∧ a' ≤ t ∧ c' + a ≤ a' + c ∧ n' ≤ 4 ∧ (b = true → n' = n ∧ a < a' ∧ dep rc' c' = some (d + 1))
def sT (m : Nat) : Prop := ∀ (fr lo sl : Nat) (h : pm_H) (a t n c d : Nat) (rc tp : Nat → Int32), pS h a t n c rc tp → t ≤ 40 → a ≤ t → c ≤ a → n ≤ 4 → dep rc c = some d → t - a ≤ m → 8 * m + 8 ≤ fr → 200 * m + 400 ≤ lo → pm_WP PT fr lo 194 (0, pm_l0 [.ref 162] 2, [], h, 198, sl) (pPost h sl a t n c d tp)
def sR (o m : Nat) : Prop := ∀ (fr lo sl : Nat) (h : pm_H) (a t n c d : Nat) (rc tp : Nat → Int32), pS h a t n c rc tp → t ≤ 40 → a ≤ t → c ≤ a → n ≤ 4 → dep rc c = some d → t - a ≤ m → 8 * m + 8 + (4 - o) ≤ fr → 200 * m + 400 + 30 * (4 - o) ≤ lo → pm_WP PT fr lo 195 (0, pm_l0 [.ref 162, .int (nI o)] 4, [], h, 198, sl) (pPost h sl a t n c d tp)
theorem pr_R3 {m : Nat} (hT : sT m) : sR 3 m := by
  intro fr lo sl h a t n c d rc tp p ht ha hc hn hd hm hf hl
  have p0 := p
  obtain ⟨p1, p2, p3, p4, p5, p6, p7, p8⟩ := p
  refine wp_i rfl rfl rfl rfl ?_
  refine wp_i rfl rfl rfl rfl ?_
  refine wp_i rfl rfl rfl rfl ?_
  refine wp_i rfl rfl rfl rfl ?_
  show pm_WP PT fr lo 195 (6, [some (.ref 162), some (.int (nI 3)), none, none], [.ref 162], h, 198, sl) _
  refine wp_callM (t := 194) (As := []) (rest := []) (mx := 2) rfl rfl rfl rfl (Nat.le_of_ble_eq_true rfl) (Nat.le_of_ble_eq_true rfl) (by omega) (by omega) rfl (mF_obj p3) (wp_mono (hT _ _ _ h a t n c d rc tp p0 ht ha hc hn hd hm (by omega) (by omega)) ?_)
  rintro _ ⟨b, h1, a1, n1, c1, rc1, rfl, s1, f1, g11, g21, g31, g41, g51⟩
  show pm_WP PT fr lo 195 (9, [some (.ref 162), some (.int (nI 3)), none, none], [.int (cond b 1 0)], h1, 198, sl) _
  exact wp_zret rfl rfl (by cases b; exact Or.inl rfl; exact Or.inr rfl) ⟨b, h1, a1, n1, c1, rc1, rfl, s1, f1, g11, g21, g31, g41, g51⟩
theorem pr_L2 {m : Nat} (hR : sR 3 m) {fr lo sl : Nat} {h : pm_H} {a t n c d : Nat} {tp : Nat → Int32} (ht : t ≤ 40) (hc : c ≤ a) (hn : n ≤ 4) (hm : t - a ≤ m) (hf : 8 * m + 8 + (4 - 2) ≤ fr) (hl : 200 * m + 400 + 30 * (4 - 2) ≤ lo) : ∀ (k : Nat) (h1 : pm_H) (a1 c1 : Nat) (rc1 : Nat → Int32) (x : Option Value), t - a1 ≤ k → pS h1 a1 t n c1 rc1 tp → pD h h1 → a < a1 → a1 ≤ t → c1 + a ≤ a1 + c → dep rc1 c1 = some (d + 1) → pm_WP PT fr lo 195 (24, [some (.ref 162), some (.int (nI 2)), some (.int 1), x], [], h1, 198, sl) (pPost h sl a t n c d tp) := by
  intro k
  induction k with
  | zero =>
    intro h1 a1 c1 rc1 x hk k1 f1 g1 g2 g3 hd1
    have s1 := k1
    obtain ⟨p11, p21, p31, p41, p51, p61, p71, p81⟩ := k1
    refine wp_i rfl rfl rfl rfl ?_
    refine wp_i rfl rfl rfl rfl ?_
    refine wp_i rfl rfl rfl rfl ?_
    refine wp_i rfl rfl rfl rfl ?_
    refine wp_i rfl rfl rfl rfl ?_
    refine wp_i rfl rfl rfl rfl ?_
    refine wp_i rfl rfl rfl rfl ?_
    refine wp_i rfl rfl rfl rfl ?_
    refine wp_i rfl rfl rfl rfl ?_
    show pm_WP PT fr lo 195 (50, [some (.ref 162), some (.int (nI 2)), some (.int 1), x], [.retAddr 3, .ref 162], h1, 198, sl) _
    refine wp_callM (t := 183) (As := [.retAddr 3]) (rest := []) (mx := 3) rfl rfl rfl rfl (Nat.le_of_ble_eq_true rfl) (Nat.le_of_ble_eq_true rfl) (by omega) (by omega) rfl (mF_obj p31) (wp_mono (hd_takesOf p11 p21 p31 p41 (by omega) (by omega) (by omega) (by omega) (show 3 < 5 by decide)) ?_)
    rintro _ rfl
    cases hk2 : tko 3 tp a1 t (st_tx 3).length 0 with
    | none =>
      show pm_WP PT fr lo 195 (53, [some (.ref 162), some (.int (nI 2)), some (.int 1), x], [.int (-1)], h1, 198, sl) _
      refine wp_i rfl rfl rfl rfl ?_
      refine wp_i rfl rfl rfl rfl ?_
      refine wp_i rfl rfl rfl rfl ?_
      refine wp_i rfl rfl rfl rfl ?_
      show pm_WP PT fr lo 195 (59, [some (.ref 162), some (.int (nI 2)), some (.int 1), some (.int (-1))], [.int 1], h1, 198, sl) _
      exact wp_zret rfl rfl (by decide) ⟨true, h1, a1, n, c1, rc1, rfl, s1, f1, by omega, g2, g3, hn, fun _ => ⟨rfl, g1, hd1⟩⟩
    | some j =>
      obtain ⟨j1, j2, j3⟩ := tko_some hk2
      have j4 : (st_tx 3).length = 2 := rfl
      exact absurd j1 (by omega)
  | succ k ih =>
    intro h1 a1 c1 rc1 x hk k1 f1 g1 g2 g3 hd1
    have s1 := k1
    obtain ⟨p11, p21, p31, p41, p51, p61, p71, p81⟩ := k1
    refine wp_i rfl rfl rfl rfl ?_
    refine wp_i rfl rfl rfl rfl ?_
    refine wp_i rfl rfl rfl rfl ?_
    refine wp_i rfl rfl rfl rfl ?_
    refine wp_i rfl rfl rfl rfl ?_
    refine wp_i rfl rfl rfl rfl ?_
    refine wp_i rfl rfl rfl rfl ?_
    refine wp_i rfl rfl rfl rfl ?_
    refine wp_i rfl rfl rfl rfl ?_
    show pm_WP PT fr lo 195 (50, [some (.ref 162), some (.int (nI 2)), some (.int 1), x], [.retAddr 3, .ref 162], h1, 198, sl) _
    refine wp_callM (t := 183) (As := [.retAddr 3]) (rest := []) (mx := 3) rfl rfl rfl rfl (Nat.le_of_ble_eq_true rfl) (Nat.le_of_ble_eq_true rfl) (by omega) (by omega) rfl (mF_obj p31) (wp_mono (hd_takesOf p11 p21 p31 p41 (by omega) (by omega) (by omega) (by omega) (show 3 < 5 by decide)) ?_)
    rintro _ rfl
    cases hk2 : tko 3 tp a1 t (st_tx 3).length 0 with
    | none =>
      show pm_WP PT fr lo 195 (53, [some (.ref 162), some (.int (nI 2)), some (.int 1), x], [.int (-1)], h1, 198, sl) _
      refine wp_i rfl rfl rfl rfl ?_
      refine wp_i rfl rfl rfl rfl ?_
      refine wp_i rfl rfl rfl rfl ?_
      refine wp_i rfl rfl rfl rfl ?_
      show pm_WP PT fr lo 195 (59, [some (.ref 162), some (.int (nI 2)), some (.int 1), some (.int (-1))], [.int 1], h1, 198, sl) _
      exact wp_zret rfl rfl (by decide) ⟨true, h1, a1, n, c1, rc1, rfl, s1, f1, by omega, g2, g3, hn, fun _ => ⟨rfl, g1, hd1⟩⟩
    | some j =>
      obtain ⟨j1, j2, j3⟩ := tko_some hk2
      have j4 : (st_tx 3).length = 2 := rfl
      show pm_WP PT fr lo 195 (53, [some (.ref 162), some (.int (nI 2)), some (.int 1), x], [.int (nI j)], (mset h1 16 (.int (nI (a1 + 1)))), 198, sl) _
      refine wp_i rfl rfl rfl rfl ?_
      refine wp_i rfl rfl rfl rfl ?_
      show pm_WP PT fr lo 195 (55, [some (.ref 162), some (.int (nI 2)), some (.int 1), some (.int (nI j))], [.int (nI j)], (mset h1 16 (.int (nI (a1 + 1)))), 198, sl) _
      refine wp_if (c := .ge) (off := 5) (t := 60) rfl rfl (fun _ => ?_) (fun q => absurd (q.symm.trans ((hI_ge (b := 0) (by omega) (by omega)).trans (decide_eq_true (by omega)))) (by decide))
      refine wp_i rfl rfl rfl rfl ?_
      refine wp_i rfl rfl rfl rfl ?_
      refine wp_i rfl rfl rfl rfl ?_
      refine wp_i rfl rfl rfl rfl ?_
      show pm_WP PT fr lo 195 (64, [some (.ref 162), some (.int (nI 2)), some (.int 1), some (.int (nI j))], [.int (nI 3), .ref 162], (mset h1 16 (.int (nI (a1 + 1)))), 198, sl) _
      refine wp_callM (t := 195) (As := [.int (nI 3)]) (rest := []) (mx := 4) rfl rfl rfl rfl (Nat.le_of_ble_eq_true rfl) (Nat.le_of_ble_eq_true rfl) (by omega) (by omega) rfl (mF_obj (mF_ne (by decide) p31)) (wp_mono (hR _ _ _ (mset h1 16 (.int (nI (a1 + 1)))) (a1 + 1) t n c1 (d + 1) rc1 tp (pS_at s1) ht (by omega) (by omega) hn hd1 (by omega) (by omega) (by omega)) ?_)
      rintro _ ⟨b2, h2, a2, n2, c2, rc2, rfl, s2, f2, g12, g22, g32, g42, g52⟩
      have f2 := pD_tr (pD_tr f1 (pD_set (Or.inl rfl))) f2
      cases b2 with
      | false =>
        refine wp_i rfl rfl rfl rfl ?_
        refine wp_i rfl rfl rfl rfl ?_
        show pm_WP PT fr lo 195 (71, [some (.ref 162), some (.int (nI 2)), some (.int 1), some (.int (nI j))], [.int 0], h2, 198, sl) _
        exact wp_zret rfl rfl (by decide) ⟨false, h2, a2, n2, c2, rc2, rfl, s2, f2, by omega, g22, by omega, g42, fun q => by cases q⟩
      | true =>
        obtain ⟨q1, q2, q3⟩ := g52 rfl
        subst q1
        have k2 := s2
        obtain ⟨p12, p22, p32, p42, p52, p62, p72, p82⟩ := s2
        refine wp_i rfl rfl rfl rfl ?_
        refine wp_i rfl rfl rfl rfl ?_
        refine wp_i rfl rfl rfl rfl ?_
        refine wp_i rfl rfl rfl rfl ?_
        refine wp_i rfl rfl rfl rfl ?_
        refine wp_i rfl rfl rfl rfl ?_
        refine wp_i rfl rfl rfl rfl ?_
        refine wp_i rfl rfl rfl rfl ?_
        refine wp_i rfl rfl rfl rfl ?_
        refine wp_i rfl rfl rfl rfl ?_
        refine wp_i rfl rfl rfl rfl ?_
        refine wp_i rfl rfl rfl rfl ?_
        have ev : dst (d + 1 + 1) (2000 + nI j + 5) = some (d + 1) := pr_dst (j := j) (e := 5) (by omega)
        show pm_WP PT fr lo 195 (97, [some (.ref 162), some (.int (nI 2)), some (.int 1), some (.int (nI j))], [.int (2000 + nI j + 5), .ref 162], h2, 198, sl) _
        refine wp_callM (t := 193) (As := [.int (2000 + nI j + 5)]) (rest := []) (mx := 2) rfl rfl rfl rfl (Nat.le_of_ble_eq_true rfl) (Nat.le_of_ble_eq_true rfl) (by omega) (by omega) rfl (mF_obj p32) (wp_mono (hd_codes k2 (by omega) (2000 + nI j + 5)) ?_)
        rintro _ rfl
        refine wp_i rfl rfl rfl rfl ?_
        refine wp_i rfl rfl rfl rfl ?_
        refine wp_i rfl rfl rfl rfl ?_
        refine wp_i rfl rfl rfl rfl ?_
        refine wp_i rfl rfl rfl rfl ?_
        refine wp_i rfl rfl rfl rfl ?_
        show pm_WP PT fr lo 195 (24, [some (.ref 162), some (.int (nI 2)), some (.int 1), some (.int (nI j))], [], (hcod h2 rc2 c2 (2000 + nI j + 5)), 198, sl) _
        exact ih _ a2 (c2 + 1) _ _ (by omega) (pS_cod k2) (pD_tr f2 pD_cod) (by omega) g22 (by omega) (dep_put q3 ev)
theorem pr_R2 {m : Nat} (hR : sR 3 m) : sR 2 m := by
  intro fr lo sl h a t n c d rc tp p ht ha hc hn hd hm hf hl
  have p0 := p
  obtain ⟨p1, p2, p3, p4, p5, p6, p7, p8⟩ := p
  refine wp_i rfl rfl rfl rfl ?_
  refine wp_i rfl rfl rfl rfl ?_
  refine wp_i rfl rfl rfl rfl ?_
  refine wp_i rfl rfl rfl rfl ?_
  refine wp_i rfl rfl rfl rfl ?_
  refine wp_i rfl rfl rfl rfl ?_
  refine wp_i rfl rfl rfl rfl ?_
  show pm_WP PT fr lo 195 (14, [some (.ref 162), some (.int (nI 2)), none, none], [.int (nI 3), .ref 162], h, 198, sl) _
  refine wp_callM (t := 195) (As := [.int (nI 3)]) (rest := []) (mx := 4) rfl rfl rfl rfl (Nat.le_of_ble_eq_true rfl) (Nat.le_of_ble_eq_true rfl) (by omega) (by omega) rfl (mF_obj p3) (wp_mono (hR _ _ _ h a t n c d rc tp p0 ht ha hc hn hd hm (by omega) (by omega)) ?_)
  rintro _ ⟨b, h1, a1, n1, c1, rc1, rfl, s1, f1, g11, g21, g31, g41, g51⟩
  cases b with
  | false =>
    refine wp_i rfl rfl rfl rfl ?_
    refine wp_i rfl rfl rfl rfl ?_
    show pm_WP PT fr lo 195 (21, [some (.ref 162), some (.int (nI 2)), none, none], [.int 0], h1, 198, sl) _
    exact wp_zret rfl rfl (by decide) ⟨false, h1, a1, n1, c1, rc1, rfl, s1, f1, g11, g21, g31, g41, fun q => by cases q⟩
  | true =>
    obtain ⟨q1, q2, q3⟩ := g51 rfl
    subst q1
    refine wp_i rfl rfl rfl rfl ?_
    refine wp_i rfl rfl rfl rfl ?_
    refine wp_i rfl rfl rfl rfl ?_
    show pm_WP PT fr lo 195 (24, [some (.ref 162), some (.int (nI 2)), some (.int 1), none], [], h1, 198, sl) _
    exact pr_L2 hR ht hc hn hm hf hl _ h1 a1 c1 rc1 none (Nat.le_refl _) s1 f1 q2 g21 g31 q3
theorem pr_L1 {m : Nat} (hR : sR 2 m) {fr lo sl : Nat} {h : pm_H} {a t n c d : Nat} {tp : Nat → Int32} (ht : t ≤ 40) (hc : c ≤ a) (hn : n ≤ 4) (hm : t - a ≤ m) (hf : 8 * m + 8 + (4 - 1) ≤ fr) (hl : 200 * m + 400 + 30 * (4 - 1) ≤ lo) : ∀ (k : Nat) (h1 : pm_H) (a1 c1 : Nat) (rc1 : Nat → Int32) (x : Option Value), t - a1 ≤ k → pS h1 a1 t n c1 rc1 tp → pD h h1 → a < a1 → a1 ≤ t → c1 + a ≤ a1 + c → dep rc1 c1 = some (d + 1) → pm_WP PT fr lo 195 (24, [some (.ref 162), some (.int (nI 1)), some (.int 1), x], [], h1, 198, sl) (pPost h sl a t n c d tp) := by
  intro k
  induction k with
  | zero =>
    intro h1 a1 c1 rc1 x hk k1 f1 g1 g2 g3 hd1
    have s1 := k1
    obtain ⟨p11, p21, p31, p41, p51, p61, p71, p81⟩ := k1
    refine wp_i rfl rfl rfl rfl ?_
    refine wp_i rfl rfl rfl rfl ?_
    refine wp_i rfl rfl rfl rfl ?_
    refine wp_i rfl rfl rfl rfl ?_
    refine wp_i rfl rfl rfl rfl ?_
    refine wp_i rfl rfl rfl rfl ?_
    refine wp_i rfl rfl rfl rfl ?_
    refine wp_i rfl rfl rfl rfl ?_
    refine wp_i rfl rfl rfl rfl ?_
    refine wp_i rfl rfl rfl rfl ?_
    show pm_WP PT fr lo 195 (50, [some (.ref 162), some (.int (nI 1)), some (.int 1), x], [.retAddr 2, .ref 162], h1, 198, sl) _
    refine wp_callM (t := 183) (As := [.retAddr 2]) (rest := []) (mx := 3) rfl rfl rfl rfl (Nat.le_of_ble_eq_true rfl) (Nat.le_of_ble_eq_true rfl) (by omega) (by omega) rfl (mF_obj p31) (wp_mono (hd_takesOf p11 p21 p31 p41 (by omega) (by omega) (by omega) (by omega) (show 2 < 5 by decide)) ?_)
    rintro _ rfl
    cases hk2 : tko 2 tp a1 t (st_tx 2).length 0 with
    | none =>
      show pm_WP PT fr lo 195 (53, [some (.ref 162), some (.int (nI 1)), some (.int 1), x], [.int (-1)], h1, 198, sl) _
      refine wp_i rfl rfl rfl rfl ?_
      refine wp_i rfl rfl rfl rfl ?_
      refine wp_i rfl rfl rfl rfl ?_
      refine wp_i rfl rfl rfl rfl ?_
      show pm_WP PT fr lo 195 (59, [some (.ref 162), some (.int (nI 1)), some (.int 1), some (.int (-1))], [.int 1], h1, 198, sl) _
      exact wp_zret rfl rfl (by decide) ⟨true, h1, a1, n, c1, rc1, rfl, s1, f1, by omega, g2, g3, hn, fun _ => ⟨rfl, g1, hd1⟩⟩
    | some j =>
      obtain ⟨j1, j2, j3⟩ := tko_some hk2
      have j4 : (st_tx 2).length = 2 := rfl
      exact absurd j1 (by omega)
  | succ k ih =>
    intro h1 a1 c1 rc1 x hk k1 f1 g1 g2 g3 hd1
    have s1 := k1
    obtain ⟨p11, p21, p31, p41, p51, p61, p71, p81⟩ := k1
    refine wp_i rfl rfl rfl rfl ?_
    refine wp_i rfl rfl rfl rfl ?_
    refine wp_i rfl rfl rfl rfl ?_
    refine wp_i rfl rfl rfl rfl ?_
    refine wp_i rfl rfl rfl rfl ?_
    refine wp_i rfl rfl rfl rfl ?_
    refine wp_i rfl rfl rfl rfl ?_
    refine wp_i rfl rfl rfl rfl ?_
    refine wp_i rfl rfl rfl rfl ?_
    refine wp_i rfl rfl rfl rfl ?_
    show pm_WP PT fr lo 195 (50, [some (.ref 162), some (.int (nI 1)), some (.int 1), x], [.retAddr 2, .ref 162], h1, 198, sl) _
    refine wp_callM (t := 183) (As := [.retAddr 2]) (rest := []) (mx := 3) rfl rfl rfl rfl (Nat.le_of_ble_eq_true rfl) (Nat.le_of_ble_eq_true rfl) (by omega) (by omega) rfl (mF_obj p31) (wp_mono (hd_takesOf p11 p21 p31 p41 (by omega) (by omega) (by omega) (by omega) (show 2 < 5 by decide)) ?_)
    rintro _ rfl
    cases hk2 : tko 2 tp a1 t (st_tx 2).length 0 with
    | none =>
      show pm_WP PT fr lo 195 (53, [some (.ref 162), some (.int (nI 1)), some (.int 1), x], [.int (-1)], h1, 198, sl) _
      refine wp_i rfl rfl rfl rfl ?_
      refine wp_i rfl rfl rfl rfl ?_
      refine wp_i rfl rfl rfl rfl ?_
      refine wp_i rfl rfl rfl rfl ?_
      show pm_WP PT fr lo 195 (59, [some (.ref 162), some (.int (nI 1)), some (.int 1), some (.int (-1))], [.int 1], h1, 198, sl) _
      exact wp_zret rfl rfl (by decide) ⟨true, h1, a1, n, c1, rc1, rfl, s1, f1, by omega, g2, g3, hn, fun _ => ⟨rfl, g1, hd1⟩⟩
    | some j =>
      obtain ⟨j1, j2, j3⟩ := tko_some hk2
      have j4 : (st_tx 2).length = 2 := rfl
      show pm_WP PT fr lo 195 (53, [some (.ref 162), some (.int (nI 1)), some (.int 1), x], [.int (nI j)], (mset h1 16 (.int (nI (a1 + 1)))), 198, sl) _
      refine wp_i rfl rfl rfl rfl ?_
      refine wp_i rfl rfl rfl rfl ?_
      show pm_WP PT fr lo 195 (55, [some (.ref 162), some (.int (nI 1)), some (.int 1), some (.int (nI j))], [.int (nI j)], (mset h1 16 (.int (nI (a1 + 1)))), 198, sl) _
      refine wp_if (c := .ge) (off := 5) (t := 60) rfl rfl (fun _ => ?_) (fun q => absurd (q.symm.trans ((hI_ge (b := 0) (by omega) (by omega)).trans (decide_eq_true (by omega)))) (by decide))
      refine wp_i rfl rfl rfl rfl ?_
      refine wp_i rfl rfl rfl rfl ?_
      refine wp_i rfl rfl rfl rfl ?_
      refine wp_i rfl rfl rfl rfl ?_
      show pm_WP PT fr lo 195 (64, [some (.ref 162), some (.int (nI 1)), some (.int 1), some (.int (nI j))], [.int (nI 2), .ref 162], (mset h1 16 (.int (nI (a1 + 1)))), 198, sl) _
      refine wp_callM (t := 195) (As := [.int (nI 2)]) (rest := []) (mx := 4) rfl rfl rfl rfl (Nat.le_of_ble_eq_true rfl) (Nat.le_of_ble_eq_true rfl) (by omega) (by omega) rfl (mF_obj (mF_ne (by decide) p31)) (wp_mono (hR _ _ _ (mset h1 16 (.int (nI (a1 + 1)))) (a1 + 1) t n c1 (d + 1) rc1 tp (pS_at s1) ht (by omega) (by omega) hn hd1 (by omega) (by omega) (by omega)) ?_)
      rintro _ ⟨b2, h2, a2, n2, c2, rc2, rfl, s2, f2, g12, g22, g32, g42, g52⟩
      have f2 := pD_tr (pD_tr f1 (pD_set (Or.inl rfl))) f2
      cases b2 with
      | false =>
        refine wp_i rfl rfl rfl rfl ?_
        refine wp_i rfl rfl rfl rfl ?_
        show pm_WP PT fr lo 195 (71, [some (.ref 162), some (.int (nI 1)), some (.int 1), some (.int (nI j))], [.int 0], h2, 198, sl) _
        exact wp_zret rfl rfl (by decide) ⟨false, h2, a2, n2, c2, rc2, rfl, s2, f2, by omega, g22, by omega, g42, fun q => by cases q⟩
      | true =>
        obtain ⟨q1, q2, q3⟩ := g52 rfl
        subst q1
        have k2 := s2
        obtain ⟨p12, p22, p32, p42, p52, p62, p72, p82⟩ := s2
        refine wp_i rfl rfl rfl rfl ?_
        refine wp_i rfl rfl rfl rfl ?_
        refine wp_i rfl rfl rfl rfl ?_
        refine wp_i rfl rfl rfl rfl ?_
        refine wp_i rfl rfl rfl rfl ?_
        refine wp_i rfl rfl rfl rfl ?_
        refine wp_i rfl rfl rfl rfl ?_
        refine wp_i rfl rfl rfl rfl ?_
        refine wp_i rfl rfl rfl rfl ?_
        refine wp_i rfl rfl rfl rfl ?_
        refine wp_i rfl rfl rfl rfl ?_
        refine wp_i rfl rfl rfl rfl ?_
        refine wp_i rfl rfl rfl rfl ?_
        have ev : dst (d + 1 + 1) (2000 + nI j + 3) = some (d + 1) := pr_dst (j := j) (e := 3) (by omega)
        show pm_WP PT fr lo 195 (97, [some (.ref 162), some (.int (nI 1)), some (.int 1), some (.int (nI j))], [.int (2000 + nI j + 3), .ref 162], h2, 198, sl) _
        refine wp_callM (t := 193) (As := [.int (2000 + nI j + 3)]) (rest := []) (mx := 2) rfl rfl rfl rfl (Nat.le_of_ble_eq_true rfl) (Nat.le_of_ble_eq_true rfl) (by omega) (by omega) rfl (mF_obj p32) (wp_mono (hd_codes k2 (by omega) (2000 + nI j + 3)) ?_)
        rintro _ rfl
        refine wp_i rfl rfl rfl rfl ?_
        refine wp_i rfl rfl rfl rfl ?_
        refine wp_i rfl rfl rfl rfl ?_
        refine wp_i rfl rfl rfl rfl ?_
        refine wp_i rfl rfl rfl rfl ?_
        refine wp_i rfl rfl rfl rfl ?_
        show pm_WP PT fr lo 195 (24, [some (.ref 162), some (.int (nI 1)), some (.int 1), some (.int (nI j))], [], (hcod h2 rc2 c2 (2000 + nI j + 3)), 198, sl) _
        exact ih _ a2 (c2 + 1) _ _ (by omega) (pS_cod k2) (pD_tr f2 pD_cod) (by omega) g22 (by omega) (dep_put q3 ev)
theorem pr_R1 {m : Nat} (hR : sR 2 m) : sR 1 m := by
  intro fr lo sl h a t n c d rc tp p ht ha hc hn hd hm hf hl
  have p0 := p
  obtain ⟨p1, p2, p3, p4, p5, p6, p7, p8⟩ := p
  refine wp_i rfl rfl rfl rfl ?_
  refine wp_i rfl rfl rfl rfl ?_
  refine wp_i rfl rfl rfl rfl ?_
  refine wp_i rfl rfl rfl rfl ?_
  refine wp_i rfl rfl rfl rfl ?_
  refine wp_i rfl rfl rfl rfl ?_
  refine wp_i rfl rfl rfl rfl ?_
  show pm_WP PT fr lo 195 (14, [some (.ref 162), some (.int (nI 1)), none, none], [.int (nI 2), .ref 162], h, 198, sl) _
  refine wp_callM (t := 195) (As := [.int (nI 2)]) (rest := []) (mx := 4) rfl rfl rfl rfl (Nat.le_of_ble_eq_true rfl) (Nat.le_of_ble_eq_true rfl) (by omega) (by omega) rfl (mF_obj p3) (wp_mono (hR _ _ _ h a t n c d rc tp p0 ht ha hc hn hd hm (by omega) (by omega)) ?_)
  rintro _ ⟨b, h1, a1, n1, c1, rc1, rfl, s1, f1, g11, g21, g31, g41, g51⟩
  cases b with
  | false =>
    refine wp_i rfl rfl rfl rfl ?_
    refine wp_i rfl rfl rfl rfl ?_
    show pm_WP PT fr lo 195 (21, [some (.ref 162), some (.int (nI 1)), none, none], [.int 0], h1, 198, sl) _
    exact wp_zret rfl rfl (by decide) ⟨false, h1, a1, n1, c1, rc1, rfl, s1, f1, g11, g21, g31, g41, fun q => by cases q⟩
  | true =>
    obtain ⟨q1, q2, q3⟩ := g51 rfl
    subst q1
    refine wp_i rfl rfl rfl rfl ?_
    refine wp_i rfl rfl rfl rfl ?_
    refine wp_i rfl rfl rfl rfl ?_
    show pm_WP PT fr lo 195 (24, [some (.ref 162), some (.int (nI 1)), some (.int 1), none], [], h1, 198, sl) _
    exact pr_L1 hR ht hc hn hm hf hl _ h1 a1 c1 rc1 none (Nat.le_refl _) s1 f1 q2 g21 g31 q3
theorem pr_L0 {m : Nat} (hR : sR 1 m) {fr lo sl : Nat} {h : pm_H} {a t n c d : Nat} {tp : Nat → Int32} (ht : t ≤ 40) (hc : c ≤ a) (hn : n ≤ 4) (hm : t - a ≤ m) (hf : 8 * m + 8 + (4 - 0) ≤ fr) (hl : 200 * m + 400 + 30 * (4 - 0) ≤ lo) : ∀ (k : Nat) (h1 : pm_H) (a1 c1 : Nat) (rc1 : Nat → Int32) (x : Option Value), t - a1 ≤ k → pS h1 a1 t n c1 rc1 tp → pD h h1 → a < a1 → a1 ≤ t → c1 + a ≤ a1 + c → dep rc1 c1 = some (d + 1) → pm_WP PT fr lo 195 (24, [some (.ref 162), some (.int (nI 0)), some (.int 1), x], [], h1, 198, sl) (pPost h sl a t n c d tp) := by
  intro k
  induction k with
  | zero =>
    intro h1 a1 c1 rc1 x hk k1 f1 g1 g2 g3 hd1
    have s1 := k1
    obtain ⟨p11, p21, p31, p41, p51, p61, p71, p81⟩ := k1
    refine wp_i rfl rfl rfl rfl ?_
    refine wp_i rfl rfl rfl rfl ?_
    refine wp_i rfl rfl rfl rfl ?_
    refine wp_i rfl rfl rfl rfl ?_
    refine wp_i rfl rfl rfl rfl ?_
    refine wp_i rfl rfl rfl rfl ?_
    refine wp_i rfl rfl rfl rfl ?_
    show pm_WP PT fr lo 195 (50, [some (.ref 162), some (.int (nI 0)), some (.int 1), x], [.retAddr 1, .ref 162], h1, 198, sl) _
    refine wp_callM (t := 183) (As := [.retAddr 1]) (rest := []) (mx := 3) rfl rfl rfl rfl (Nat.le_of_ble_eq_true rfl) (Nat.le_of_ble_eq_true rfl) (by omega) (by omega) rfl (mF_obj p31) (wp_mono (hd_takesOf p11 p21 p31 p41 (by omega) (by omega) (by omega) (by omega) (show 1 < 5 by decide)) ?_)
    rintro _ rfl
    cases hk2 : tko 1 tp a1 t (st_tx 1).length 0 with
    | none =>
      show pm_WP PT fr lo 195 (53, [some (.ref 162), some (.int (nI 0)), some (.int 1), x], [.int (-1)], h1, 198, sl) _
      refine wp_i rfl rfl rfl rfl ?_
      refine wp_i rfl rfl rfl rfl ?_
      refine wp_i rfl rfl rfl rfl ?_
      refine wp_i rfl rfl rfl rfl ?_
      show pm_WP PT fr lo 195 (59, [some (.ref 162), some (.int (nI 0)), some (.int 1), some (.int (-1))], [.int 1], h1, 198, sl) _
      exact wp_zret rfl rfl (by decide) ⟨true, h1, a1, n, c1, rc1, rfl, s1, f1, by omega, g2, g3, hn, fun _ => ⟨rfl, g1, hd1⟩⟩
    | some j =>
      obtain ⟨j1, j2, j3⟩ := tko_some hk2
      have j4 : (st_tx 1).length = 3 := rfl
      exact absurd j1 (by omega)
  | succ k ih =>
    intro h1 a1 c1 rc1 x hk k1 f1 g1 g2 g3 hd1
    have s1 := k1
    obtain ⟨p11, p21, p31, p41, p51, p61, p71, p81⟩ := k1
    refine wp_i rfl rfl rfl rfl ?_
    refine wp_i rfl rfl rfl rfl ?_
    refine wp_i rfl rfl rfl rfl ?_
    refine wp_i rfl rfl rfl rfl ?_
    refine wp_i rfl rfl rfl rfl ?_
    refine wp_i rfl rfl rfl rfl ?_
    refine wp_i rfl rfl rfl rfl ?_
    show pm_WP PT fr lo 195 (50, [some (.ref 162), some (.int (nI 0)), some (.int 1), x], [.retAddr 1, .ref 162], h1, 198, sl) _
    refine wp_callM (t := 183) (As := [.retAddr 1]) (rest := []) (mx := 3) rfl rfl rfl rfl (Nat.le_of_ble_eq_true rfl) (Nat.le_of_ble_eq_true rfl) (by omega) (by omega) rfl (mF_obj p31) (wp_mono (hd_takesOf p11 p21 p31 p41 (by omega) (by omega) (by omega) (by omega) (show 1 < 5 by decide)) ?_)
    rintro _ rfl
    cases hk2 : tko 1 tp a1 t (st_tx 1).length 0 with
    | none =>
      show pm_WP PT fr lo 195 (53, [some (.ref 162), some (.int (nI 0)), some (.int 1), x], [.int (-1)], h1, 198, sl) _
      refine wp_i rfl rfl rfl rfl ?_
      refine wp_i rfl rfl rfl rfl ?_
      refine wp_i rfl rfl rfl rfl ?_
      refine wp_i rfl rfl rfl rfl ?_
      show pm_WP PT fr lo 195 (59, [some (.ref 162), some (.int (nI 0)), some (.int 1), some (.int (-1))], [.int 1], h1, 198, sl) _
      exact wp_zret rfl rfl (by decide) ⟨true, h1, a1, n, c1, rc1, rfl, s1, f1, by omega, g2, g3, hn, fun _ => ⟨rfl, g1, hd1⟩⟩
    | some j =>
      obtain ⟨j1, j2, j3⟩ := tko_some hk2
      have j4 : (st_tx 1).length = 3 := rfl
      show pm_WP PT fr lo 195 (53, [some (.ref 162), some (.int (nI 0)), some (.int 1), x], [.int (nI j)], (mset h1 16 (.int (nI (a1 + 1)))), 198, sl) _
      refine wp_i rfl rfl rfl rfl ?_
      refine wp_i rfl rfl rfl rfl ?_
      show pm_WP PT fr lo 195 (55, [some (.ref 162), some (.int (nI 0)), some (.int 1), some (.int (nI j))], [.int (nI j)], (mset h1 16 (.int (nI (a1 + 1)))), 198, sl) _
      refine wp_if (c := .ge) (off := 5) (t := 60) rfl rfl (fun _ => ?_) (fun q => absurd (q.symm.trans ((hI_ge (b := 0) (by omega) (by omega)).trans (decide_eq_true (by omega)))) (by decide))
      refine wp_i rfl rfl rfl rfl ?_
      refine wp_i rfl rfl rfl rfl ?_
      refine wp_i rfl rfl rfl rfl ?_
      refine wp_i rfl rfl rfl rfl ?_
      show pm_WP PT fr lo 195 (64, [some (.ref 162), some (.int (nI 0)), some (.int 1), some (.int (nI j))], [.int (nI 1), .ref 162], (mset h1 16 (.int (nI (a1 + 1)))), 198, sl) _
      refine wp_callM (t := 195) (As := [.int (nI 1)]) (rest := []) (mx := 4) rfl rfl rfl rfl (Nat.le_of_ble_eq_true rfl) (Nat.le_of_ble_eq_true rfl) (by omega) (by omega) rfl (mF_obj (mF_ne (by decide) p31)) (wp_mono (hR _ _ _ (mset h1 16 (.int (nI (a1 + 1)))) (a1 + 1) t n c1 (d + 1) rc1 tp (pS_at s1) ht (by omega) (by omega) hn hd1 (by omega) (by omega) (by omega)) ?_)
      rintro _ ⟨b2, h2, a2, n2, c2, rc2, rfl, s2, f2, g12, g22, g32, g42, g52⟩
      have f2 := pD_tr (pD_tr f1 (pD_set (Or.inl rfl))) f2
      cases b2 with
      | false =>
        refine wp_i rfl rfl rfl rfl ?_
        refine wp_i rfl rfl rfl rfl ?_
        show pm_WP PT fr lo 195 (71, [some (.ref 162), some (.int (nI 0)), some (.int 1), some (.int (nI j))], [.int 0], h2, 198, sl) _
        exact wp_zret rfl rfl (by decide) ⟨false, h2, a2, n2, c2, rc2, rfl, s2, f2, by omega, g22, by omega, g42, fun q => by cases q⟩
      | true =>
        obtain ⟨q1, q2, q3⟩ := g52 rfl
        subst q1
        have k2 := s2
        obtain ⟨p12, p22, p32, p42, p52, p62, p72, p82⟩ := s2
        refine wp_i rfl rfl rfl rfl ?_
        refine wp_i rfl rfl rfl rfl ?_
        refine wp_i rfl rfl rfl rfl ?_
        refine wp_i rfl rfl rfl rfl ?_
        refine wp_i rfl rfl rfl rfl ?_
        refine wp_i rfl rfl rfl rfl ?_
        refine wp_i rfl rfl rfl rfl ?_
        refine wp_i rfl rfl rfl rfl ?_
        refine wp_i rfl rfl rfl rfl ?_
        refine wp_i rfl rfl rfl rfl ?_
        have ev : dst (d + 1 + 1) (2000 + nI j + 0) = some (d + 1) := pr_dst (j := j) (e := 0) (by omega)
        show pm_WP PT fr lo 195 (97, [some (.ref 162), some (.int (nI 0)), some (.int 1), some (.int (nI j))], [.int (2000 + nI j + 0), .ref 162], h2, 198, sl) _
        refine wp_callM (t := 193) (As := [.int (2000 + nI j + 0)]) (rest := []) (mx := 2) rfl rfl rfl rfl (Nat.le_of_ble_eq_true rfl) (Nat.le_of_ble_eq_true rfl) (by omega) (by omega) rfl (mF_obj p32) (wp_mono (hd_codes k2 (by omega) (2000 + nI j + 0)) ?_)
        rintro _ rfl
        refine wp_i rfl rfl rfl rfl ?_
        refine wp_i rfl rfl rfl rfl ?_
        refine wp_i rfl rfl rfl rfl ?_
        refine wp_i rfl rfl rfl rfl ?_
        refine wp_i rfl rfl rfl rfl ?_
        refine wp_i rfl rfl rfl rfl ?_
        refine wp_i rfl rfl rfl rfl ?_
        refine wp_i rfl rfl rfl rfl ?_
        show pm_WP PT fr lo 195 (114, [some (.ref 162), some (.int (nI 0)), some (.int 0), some (.int (nI j))], [.int 1], (hcod h2 rc2 c2 (2000 + nI j + 0)), 198, sl) _
        exact wp_zret rfl rfl (by decide) ⟨true, _, a2, n2, c2 + 1, _, rfl, pS_cod k2, pD_tr f2 pD_cod, by omega, g22, by omega, g42, fun _ => ⟨rfl, by omega, dep_put q3 ev⟩⟩
theorem pr_R0 {m : Nat} (hR : sR 1 m) : sR 0 m := by
  intro fr lo sl h a t n c d rc tp p ht ha hc hn hd hm hf hl
  have p0 := p
  obtain ⟨p1, p2, p3, p4, p5, p6, p7, p8⟩ := p
  refine wp_i rfl rfl rfl rfl ?_
  refine wp_i rfl rfl rfl rfl ?_
  refine wp_i rfl rfl rfl rfl ?_
  refine wp_i rfl rfl rfl rfl ?_
  refine wp_i rfl rfl rfl rfl ?_
  refine wp_i rfl rfl rfl rfl ?_
  refine wp_i rfl rfl rfl rfl ?_
  show pm_WP PT fr lo 195 (14, [some (.ref 162), some (.int (nI 0)), none, none], [.int (nI 1), .ref 162], h, 198, sl) _
  refine wp_callM (t := 195) (As := [.int (nI 1)]) (rest := []) (mx := 4) rfl rfl rfl rfl (Nat.le_of_ble_eq_true rfl) (Nat.le_of_ble_eq_true rfl) (by omega) (by omega) rfl (mF_obj p3) (wp_mono (hR _ _ _ h a t n c d rc tp p0 ht ha hc hn hd hm (by omega) (by omega)) ?_)
  rintro _ ⟨b, h1, a1, n1, c1, rc1, rfl, s1, f1, g11, g21, g31, g41, g51⟩
  cases b with
  | false =>
    refine wp_i rfl rfl rfl rfl ?_
    refine wp_i rfl rfl rfl rfl ?_
    show pm_WP PT fr lo 195 (21, [some (.ref 162), some (.int (nI 0)), none, none], [.int 0], h1, 198, sl) _
    exact wp_zret rfl rfl (by decide) ⟨false, h1, a1, n1, c1, rc1, rfl, s1, f1, g11, g21, g31, g41, fun q => by cases q⟩
  | true =>
    obtain ⟨q1, q2, q3⟩ := g51 rfl
    subst q1
    refine wp_i rfl rfl rfl rfl ?_
    refine wp_i rfl rfl rfl rfl ?_
    refine wp_i rfl rfl rfl rfl ?_
    show pm_WP PT fr lo 195 (24, [some (.ref 162), some (.int (nI 0)), some (.int 1), none], [], h1, 198, sl) _
    exact pr_L0 hR ht hc hn hm hf hl _ h1 a1 c1 rc1 none (Nat.le_refl _) s1 f1 q2 g21 g31 q3
theorem pr_T {m : Nat} (hT : ∀ m', m' < m → sT m') (hR : ∀ m', m' < m → sR 0 m') : sT m := by
  intro fr lo sl h a t n c d rc tp p ht ha hc hn hd hm hf hl
  have p0 := p
  obtain ⟨p1, p2, p3, p4, p5, p6, p7, p8⟩ := p
  refine wp_i rfl rfl rfl rfl ?_
  refine wp_i rfl rfl rfl rfl ?_
  show pm_WP PT fr lo 194 (3, [some (.ref 162), none], [.int 45, .ref 162], h, 198, sl) _
  refine wp_callM (t := 181) (As := [.int 45]) (rest := []) (mx := 3) rfl rfl rfl rfl (Nat.le_of_ble_eq_true rfl) (Nat.le_of_ble_eq_true rfl) (by omega) (by omega) rfl (mF_obj p3) (wp_mono (hd_takes p1 p2 p3 p4 (by omega) (by omega) (by omega) (by omega) 45) ?_)
  rintro _ rfl
  show pm_WP PT fr lo 194 (6, [some (.ref 162), none], [.int (cond (decide (a < t ∧ tp a = 45)) 1 0)], (mset h 16 (.int (nI (a + cond (decide (a < t ∧ tp a = 45)) 1 0)))), 198, sl) _
  by_cases hq : a < t ∧ tp a = 45
  · rw [decide_eq_true hq]
    show pm_WP PT fr lo 194 (6, [some (.ref 162), none], [.int 1], (mset h 16 (.int (nI (a + 1)))), 198, sl) _
    refine wp_i rfl rfl rfl rfl ?_
    refine wp_i rfl rfl rfl rfl ?_
    show pm_WP PT fr lo 194 (10, [some (.ref 162), none], [.ref 162], (mset h 16 (.int (nI (a + 1)))), 198, sl) _
    refine wp_callM (t := 194) (As := []) (rest := []) (mx := 2) rfl rfl rfl rfl (Nat.le_of_ble_eq_true rfl) (Nat.le_of_ble_eq_true rfl) (by omega) (by omega) rfl (mF_obj (mF_ne (by decide) p3)) (wp_mono (hT (m - 1) (by omega) _ _ _ (mset h 16 (.int (nI (a + 1)))) (a + 1) t n c d rc tp (pS_at p0) ht (by omega) (by omega) hn hd (by omega) (by omega) (by omega)) ?_)
    rintro _ ⟨b, h1, a1, n1, c1, rc1, rfl, s1, f1, g11, g21, g31, g41, g51⟩
    have f1 := pD_tr (pD_set (Or.inl rfl)) f1
    have k1 := s1
    obtain ⟨p11, p21, p31, p41, p51, p61, p71, p81⟩ := s1
    refine wp_i rfl rfl rfl rfl ?_
    refine wp_i rfl rfl rfl rfl ?_
    refine wp_i rfl rfl rfl rfl ?_
    show pm_WP PT fr lo 194 (18, [some (.ref 162), some (.int (cond b 1 0))], [.int 3000, .ref 162], h1, 198, sl) _
    refine wp_callM (t := 193) (As := [.int 3000]) (rest := []) (mx := 2) rfl rfl rfl rfl (Nat.le_of_ble_eq_true rfl) (Nat.le_of_ble_eq_true rfl) (by omega) (by omega) rfl (mF_obj p31) (wp_mono (hd_codes k1 (by omega) 3000) ?_)
    rintro _ rfl
    refine wp_i rfl rfl rfl rfl ?_
    show pm_WP PT fr lo 194 (22, [some (.ref 162), some (.int (cond b 1 0))], [.int (cond b 1 0)], (hcod h1 rc1 c1 3000), 198, sl) _
    refine wp_zret rfl rfl (by cases b; exact Or.inl rfl; exact Or.inr rfl) ⟨b, _, a1, n1, c1 + 1, _, rfl, pS_cod k1, pD_tr f1 pD_cod, by omega, g21, by omega, g41, fun q => ?_⟩
    obtain ⟨q1, q2, q3⟩ := g51 q
    exact ⟨q1, by omega, dep_put q3 (by unfold dst; rw [if_pos rfl, if_pos (by omega)])⟩
  · rw [decide_eq_false hq]
    show pm_WP PT fr lo 194 (6, [some (.ref 162), none], [.int 0], mset h 16 (.int (nI a)), 198, sl) _
    rw [mset_same p1]
    show pm_WP PT fr lo 194 (6, [some (.ref 162), none], [.int 0], h, 198, sl) _
    refine wp_i rfl rfl rfl rfl ?_
    refine wp_i rfl rfl rfl rfl ?_
    show pm_WP PT fr lo 194 (24, [some (.ref 162), none], [.ref 162], h, 198, sl) _
    refine wp_callM (t := 182) (As := []) (rest := []) (mx := 1) rfl rfl rfl rfl (Nat.le_of_ble_eq_true rfl) (Nat.le_of_ble_eq_true rfl) (by omega) (by omega) rfl (mF_obj p3) (wp_mono (hd_isDigit p1 p2 p3 p4 (by omega) (by omega) (by omega) (by omega)) ?_)
    rintro _ rfl
    cases hdg : dg tp a t with
    | true =>
      refine wp_i rfl rfl rfl rfl ?_
      refine wp_i rfl rfl rfl rfl ?_
      refine wp_i rfl rfl rfl rfl ?_
      refine wp_i rfl rfl rfl rfl ?_
      show pm_WP PT fr lo 194 (33, [some (.ref 162), none], [.int 3, .ref 162, .ref 162], h, 198, sl) _
      refine wp_callM (t := 184) (As := [.int 3]) (rest := [.ref 162]) (mx := 4) rfl rfl rfl rfl (Nat.le_of_ble_eq_true rfl) (Nat.le_of_ble_eq_true rfl) (by omega) (by omega) rfl (mF_obj p3) (wp_mono (hd_number (d := 3) p1 p2 p3 p4 (by omega) (by omega) (by omega) (by omega) (by decide)) ?_)
      rintro _ rfl
      rw [hdg]
      have hb := nbr_bd (tp := tp) t 2 (a + 1) (10 * 0 + tp a - 48) 9 ?_ ?_ (by decide) (by decide)
      rotate_left
      · exact (nbr_step (v := 0) (x := tp a) (m := 0) ⟨by decide, by decide⟩ (by decide) (dg_iv hdg).2).1
      · have := (nbr_step (v := 0) (x := tp a) (m := 0) ⟨by decide, by decide⟩ (by decide) (dg_iv hdg).2).2; omega
      rw [← nbr_gt t hdg] at hb
      generalize nbr tp t (2 + 1) a 0 = av at hb
      obtain ⟨a1, v1⟩ := av
      dsimp only at hb
      have hlt := (dg_iv hdg).1
      show pm_WP PT fr lo 194 (36, [some (.ref 162), none], [.int v1, .ref 162], (mset h 16 (.int (nI a1))), 198, sl) _
      have ev : dst d v1 = some (d + 1) := pr_small (by omega) (by omega)
      show pm_WP PT fr lo 194 (36, [some (.ref 162), none], [.int v1, .ref 162], (mset h 16 (.int (nI a1))), 198, sl) _
      refine wp_callM (t := 193) (As := [.int v1]) (rest := []) (mx := 2) rfl rfl rfl rfl (Nat.le_of_ble_eq_true rfl) (Nat.le_of_ble_eq_true rfl) (by omega) (by omega) rfl (mF_obj (mF_ne (by decide) p3)) (wp_mono (hd_codes (pS_at (b := a1) p0) (by omega) v1) ?_)
      rintro _ rfl
      refine wp_i rfl rfl rfl rfl ?_
      show pm_WP PT fr lo 194 (40, [some (.ref 162), none], [.int 1], (hcod (mset h 16 (.int (nI a1))) rc c v1), 198, sl) _
      exact wp_zret rfl rfl (by decide) ⟨true, _, a1, n, c + 1, _, rfl, pS_cod (pS_at p0), pD_tr (pD_set (Or.inl rfl)) pD_cod, by omega, by omega, by omega, hn, fun _ => ⟨rfl, by omega, dep_put hd ev⟩⟩
    | false =>
      refine wp_i rfl rfl rfl rfl ?_
      refine wp_i rfl rfl rfl rfl ?_
      refine wp_i rfl rfl rfl rfl ?_
      show pm_WP PT fr lo 194 (44, [some (.ref 162), none], [.retAddr 0, .ref 162], h, 198, sl) _
      refine wp_callM (t := 183) (As := [.retAddr 0]) (rest := []) (mx := 3) rfl rfl rfl rfl (Nat.le_of_ble_eq_true rfl) (Nat.le_of_ble_eq_true rfl) (by omega) (by omega) rfl (mF_obj p3) (wp_mono (hd_takesOf p1 p2 p3 p4 (by omega) (by omega) (by omega) (by omega) (show 0 < 5 by decide)) ?_)
      rintro _ rfl
      cases hk2 : tko 0 tp a t (st_tx 0).length 0 with
      | some j =>
        obtain ⟨j1, j2, j3⟩ := tko_some hk2
        have j4 : (st_tx 0).length = 7 := rfl
        show pm_WP PT fr lo 194 (47, [some (.ref 162), none], [.int (nI j)], (mset h 16 (.int (nI (a + 1)))), 198, sl) _
        refine wp_i rfl rfl rfl rfl ?_
        refine wp_i rfl rfl rfl rfl ?_
        show pm_WP PT fr lo 194 (49, [some (.ref 162), some (.int (nI j))], [.int (nI j)], (mset h 16 (.int (nI (a + 1)))), 198, sl) _
        refine wp_if (c := .lt) (off := 14) (t := 63) rfl rfl (fun q => absurd (q.symm.trans ((hI_lt (b := 0) (by omega) (by omega)).trans (decide_eq_false (by omega)))) (by decide)) (fun _ => ?_)
        refine wp_i rfl rfl rfl rfl ?_
        refine wp_i rfl rfl rfl rfl ?_
        refine wp_i rfl rfl rfl rfl ?_
        refine wp_i rfl rfl rfl rfl ?_
        have ev : dst d (1000 + nI j) = some (d + 1) := pr_thing (by omega)
        show pm_WP PT fr lo 194 (58, [some (.ref 162), some (.int (nI j))], [.int (1000 + (nI j)), .ref 162], (mset h 16 (.int (nI (a + 1)))), 198, sl) _
        refine wp_callM (t := 193) (As := [.int (1000 + (nI j))]) (rest := []) (mx := 2) rfl rfl rfl rfl (Nat.le_of_ble_eq_true rfl) (Nat.le_of_ble_eq_true rfl) (by omega) (by omega) rfl (mF_obj (mF_ne (by decide) p3)) (wp_mono (hd_codes (pS_at (b := a + 1) p0) (by omega) (1000 + nI j)) ?_)
        rintro _ rfl
        refine wp_i rfl rfl rfl rfl ?_
        show pm_WP PT fr lo 194 (62, [some (.ref 162), some (.int (nI j))], [.int 1], (hcod (mset h 16 (.int (nI (a + 1)))) rc c (1000 + nI j)), 198, sl) _
        exact wp_zret rfl rfl (by decide) ⟨true, _, a + 1, n, c + 1, _, rfl, pS_cod (pS_at p0), pD_tr (pD_set (Or.inl rfl)) pD_cod, by omega, by omega, by omega, hn, fun _ => ⟨rfl, by omega, dep_put hd ev⟩⟩
      | none =>
        show pm_WP PT fr lo 194 (47, [some (.ref 162), none], [.int (-1)], h, 198, sl) _
        refine wp_i rfl rfl rfl rfl ?_
        refine wp_i rfl rfl rfl rfl ?_
        refine wp_i rfl rfl rfl rfl ?_
        refine wp_i rfl rfl rfl rfl ?_
        show pm_WP PT fr lo 194 (64, [some (.ref 162), some (.int (-1))], [.ref 162], h, 198, sl) _
        refine wp_gfm rfl rfl p5 ?_
        refine wp_i rfl rfl rfl rfl ?_
        show pm_WP PT fr lo 194 (68, [some (.ref 162), some (.int (-1))], [.int 4, .int (nI n)], h, 198, sl) _
        refine wp_icmp (c := .eq) (off := 12) (t := 80) rfl rfl (fun q => ?_) (fun q => ?_)
        · refine wp_i rfl rfl rfl rfl ?_
          show pm_WP PT fr lo 194 (81, [some (.ref 162), some (.int (-1))], [.int 0], h, 198, sl) _
          exact wp_zret rfl rfl (by decide) ⟨false, h, a, n, c, rc, rfl, p0, pD_rf h, by omega, by omega, by omega, by omega, fun q => by cases q⟩
        · have hn4 : ¬ n = 4 := of_decide_eq_false ((hI_eq (b := 4) (by omega) (by omega)).symm.trans q)
          refine wp_i rfl rfl rfl rfl ?_
          refine wp_i rfl rfl rfl rfl ?_
          show pm_WP PT fr lo 194 (74, [some (.ref 162), some (.int (-1))], [.int 40, .ref 162], h, 198, sl) _
          refine wp_callM (t := 181) (As := [.int 40]) (rest := []) (mx := 3) rfl rfl rfl rfl (Nat.le_of_ble_eq_true rfl) (Nat.le_of_ble_eq_true rfl) (by omega) (by omega) rfl (mF_obj p3) (wp_mono (hd_takes p1 p2 p3 p4 (by omega) (by omega) (by omega) (by omega) 40) ?_)
          rintro _ rfl
          show pm_WP PT fr lo 194 (77, [some (.ref 162), some (.int (-1))], [.int (cond (decide (a < t ∧ tp a = 40)) 1 0)], (mset h 16 (.int (nI (a + cond (decide (a < t ∧ tp a = 40)) 1 0)))), 198, sl) _
          by_cases hq4 : a < t ∧ tp a = 40
          · rw [decide_eq_true hq4]
            show pm_WP PT fr lo 194 (77, [some (.ref 162), some (.int (-1))], [.int 1], (mset h 16 (.int (nI (a + 1)))), 198, sl) _
            refine wp_i rfl rfl rfl rfl ?_
            refine wp_i rfl rfl rfl rfl ?_
            refine wp_i rfl rfl rfl rfl ?_
            show pm_WP PT fr lo 194 (84, [some (.ref 162), some (.int (-1))], [.ref 162, .ref 162], (mset h 16 (.int (nI (a + 1)))), 198, sl) _
            refine wp_gfm rfl rfl (mF_ne (by decide) p5) ?_
            refine wp_i rfl rfl rfl rfl ?_
            refine wp_i rfl rfl rfl rfl ?_
            show pm_WP PT fr lo 194 (89, [some (.ref 162), some (.int (-1))], [.int (nI n + 1), .ref 162], (mset h 16 (.int (nI (a + 1)))), 198, sl) _
            rw [nI_1 n]
            show pm_WP PT fr lo 194 (89, [some (.ref 162), some (.int (-1))], [.int (nI (n + 1)), .ref 162], (mset h 16 (.int (nI (a + 1)))), 198, sl) _
            refine wp_pfm rfl rfl rfl (by decide) (mF_ne (by decide) p5) ?_
            refine wp_i rfl rfl rfl rfl ?_
            refine wp_i rfl rfl rfl rfl ?_
            show pm_WP PT fr lo 194 (94, [some (.ref 162), some (.int (-1))], [.int 0, .ref 162], (mset (mset h 16 (.int (nI (a + 1)))) 18 (.int (nI (n + 1)))), 198, sl) _
            refine wp_callM (t := 195) (As := [.int 0]) (rest := []) (mx := 4) rfl rfl rfl rfl (Nat.le_of_ble_eq_true rfl) (Nat.le_of_ble_eq_true rfl) (by omega) (by omega) rfl (mF_obj (mF_ne (by decide) (mF_ne (by decide) p3))) (wp_mono (hR (m - 1) (by omega) _ _ _ (mset (mset h 16 (.int (nI (a + 1)))) 18 (.int (nI (n + 1)))) (a + 1) t (n + 1) c d rc tp (pS_nest (pS_at p0)) ht (by omega) (by omega) (by omega) hd (by omega) (by omega) (by omega)) ?_)
            rintro _ ⟨b, h1, a1, n1, c1, rc1, rfl, s1, f1, g11, g21, g31, g41, g51⟩
            have f1 := pD_tr (pD_tr (pD_set (Or.inl rfl)) (pD_set (Or.inr (Or.inl rfl)))) f1
            cases b with
            | false =>
              refine wp_i rfl rfl rfl rfl ?_
              refine wp_i rfl rfl rfl rfl ?_
              show pm_WP PT fr lo 194 (110, [some (.ref 162), some (.int (-1))], [.int 0], h1, 198, sl) _
              exact wp_zret rfl rfl (by decide) ⟨false, h1, a1, n1, c1, rc1, rfl, s1, f1, by omega, by omega, by omega, by omega, fun q => by cases q⟩
            | true =>
              obtain ⟨q1, q2, q3⟩ := g51 rfl
              subst q1
              have k1 := s1
              obtain ⟨p11, p21, p31, p41, p51, p61, p71, p81⟩ := s1
              refine wp_i rfl rfl rfl rfl ?_
              refine wp_i rfl rfl rfl rfl ?_
              refine wp_i rfl rfl rfl rfl ?_
              show pm_WP PT fr lo 194 (103, [some (.ref 162), some (.int (-1))], [.int 41, .ref 162], h1, 198, sl) _
              refine wp_callM (t := 181) (As := [.int 41]) (rest := []) (mx := 3) rfl rfl rfl rfl (Nat.le_of_ble_eq_true rfl) (Nat.le_of_ble_eq_true rfl) (by omega) (by omega) rfl (mF_obj p31) (wp_mono (hd_takes p11 p21 p31 p41 (by omega) (by omega) (by omega) (by omega) 41) ?_)
              rintro _ rfl
              show pm_WP PT fr lo 194 (106, [some (.ref 162), some (.int (-1))], [.int (cond (decide (a1 < t ∧ tp a1 = 41)) 1 0)], (mset h1 16 (.int (nI (a1 + cond (decide (a1 < t ∧ tp a1 = 41)) 1 0)))), 198, sl) _
              by_cases hq5 : a1 < t ∧ tp a1 = 41
              · rw [decide_eq_true hq5]
                show pm_WP PT fr lo 194 (106, [some (.ref 162), some (.int (-1))], [.int 1], (mset h1 16 (.int (nI (a1 + 1)))), 198, sl) _
                refine wp_i rfl rfl rfl rfl ?_
                refine wp_i rfl rfl rfl rfl ?_
                refine wp_i rfl rfl rfl rfl ?_
                show pm_WP PT fr lo 194 (113, [some (.ref 162), some (.int (-1))], [.ref 162, .ref 162], (mset h1 16 (.int (nI (a1 + 1)))), 198, sl) _
                refine wp_gfm rfl rfl (mF_ne (by decide) p51) ?_
                refine wp_i rfl rfl rfl rfl ?_
                refine wp_i rfl rfl rfl rfl ?_
                show pm_WP PT fr lo 194 (118, [some (.ref 162), some (.int (-1))], [.int (nI (n + 1) - 1), .ref 162], (mset h1 16 (.int (nI (a1 + 1)))), 198, sl) _
                rw [nI_pred n]
                show pm_WP PT fr lo 194 (118, [some (.ref 162), some (.int (-1))], [.int (nI n), .ref 162], (mset h1 16 (.int (nI (a1 + 1)))), 198, sl) _
                refine wp_pfm rfl rfl rfl (by decide) (mF_ne (by decide) p51) ?_
                refine wp_i rfl rfl rfl rfl ?_
                show pm_WP PT fr lo 194 (122, [some (.ref 162), some (.int (-1))], [.int 1], (mset (mset h1 16 (.int (nI (a1 + 1)))) 18 (.int (nI n))), 198, sl) _
                exact wp_zret rfl rfl (by decide) ⟨true, _, a1 + 1, n, c1, rc1, rfl, pS_nest (pS_at k1), pD_tr f1 (pD_tr (pD_set (Or.inl rfl)) (pD_set (Or.inr (Or.inl rfl)))), by omega, by omega, by omega, hn, fun _ => ⟨rfl, by omega, q3⟩⟩
              · rw [decide_eq_false hq5]
                show pm_WP PT fr lo 194 (106, [some (.ref 162), some (.int (-1))], [.int 0], mset h1 16 (.int (nI a1)), 198, sl) _
                rw [mset_same p11]
                show pm_WP PT fr lo 194 (106, [some (.ref 162), some (.int (-1))], [.int 0], h1, 198, sl) _
                refine wp_i rfl rfl rfl rfl ?_
                refine wp_i rfl rfl rfl rfl ?_
                show pm_WP PT fr lo 194 (110, [some (.ref 162), some (.int (-1))], [.int 0], h1, 198, sl) _
                exact wp_zret rfl rfl (by decide) ⟨false, h1, a1, (n + 1), c1, rc1, rfl, k1, f1, by omega, by omega, by omega, by omega, fun q => by cases q⟩
          · rw [decide_eq_false hq4]
            show pm_WP PT fr lo 194 (77, [some (.ref 162), some (.int (-1))], [.int 0], mset h 16 (.int (nI a)), 198, sl) _
            rw [mset_same p1]
            show pm_WP PT fr lo 194 (77, [some (.ref 162), some (.int (-1))], [.int 0], h, 198, sl) _
            refine wp_i rfl rfl rfl rfl ?_
            refine wp_i rfl rfl rfl rfl ?_
            show pm_WP PT fr lo 194 (81, [some (.ref 162), some (.int (-1))], [.int 0], h, 198, sl) _
            exact wp_zret rfl rfl (by decide) ⟨false, h, a, n, c, rc, rfl, p0, pD_rf h, by omega, by omega, by omega, by omega, fun q => by cases q⟩
theorem pr_all : ∀ m, sT m ∧ sR 0 m := by
  intro m
  induction m using Nat.strongRecOn with
  | _ m ih =>
    have hT := pr_T (m := m) (fun m' h => (ih m' h).1) (fun m' h => (ih m' h).2)
    exact ⟨hT, pr_R0 (pr_R1 (pr_R2 (pr_R3 hT)))⟩
end PRS
