/-! readsCourt of the reference: what it reads -/
section VAM
variable {n fr lo sl t cc rm p : Nat} {h g0 : pm_H} {R : pm_Rs} {tp Rd : Nat → Int32}
def dgt (x : Int32) : Prop := ∃ d, d < 10 ∧ x = nI d
/-- a digit of THE TEXT's first t signs -/
def dgV (tp : Nat → Int32) (t a : Nat) : Prop := dgt (tp a - nI 48) ∧ a < t
theorem dgi_lt {tp : Nat → Int32} {t a : Nat} {l u : Int32} (z : dgi tp a t l u = true) : a < t := by
  unfold dgi at z
  rw [Bool.and_eq_true] at z
  exact of_decide_eq_true z.1
theorem dgt_of {x : Int32} (h : 0 ≤ x.toInt ∧ x.toInt ≤ 9) : dgt x := by
  obtain ⟨d, hd, e, hx⟩ := ab_nn h.1 (Int.le_refl 0)
  have h2 := h.2
  exact ⟨d, by omega, e⟩
def pV (g0 h : pm_H) (tp : Nat → Int32) (t cc p rm : Nat) (Rd : Nat → Int32) : Prop := (mF h 16 (.int (nI p)) ∧ mF h 17 (.int (nI t)) ∧ mF h 14 (.ref 172) ∧ h 172 = .inl (0, 80, .inl tp)) ∧ mF h 20 (.int (nI rm)) ∧ (mF h 3 (.int (nI cc)) ∧ WT h ∧ (∀ i, i ≠ 162 → i ≠ 173 → h i = g0 i) ∧ ∀ g, g ≠ 16 → g ≠ 20 → Fi h 162 g = Fi g0 162 g) ∧ mF h 19 (.ref 173) ∧ h 173 = .inl (0, 36, .inl Rd)
theorem mset_fs {g : Nat} {x v : Value} (q : mF h g x) : mset h g v = fset h 162 g v := by
  obtain ⟨fs, e, -⟩ := q
  rw [mset_of e]
  unfold fset
  rw [e]
theorem pV_16 {q : Nat} (x : pV g0 h tp t cc p rm Rd) : pV g0 (mset h 16 (.int (nI q))) tp t cc q rm Rd := by
  obtain ⟨⟨a1, a2, a3, a4⟩, a5, a6, a7, a8⟩ := x
  exact ⟨⟨mF_self a1, mF_ne (by decide) a2, mF_ne (by decide) a3, mset_arr (by decide) a4⟩, mF_ne (by decide) a5, ⟨mF_ne (by decide) a6.1, by rw [mset_fs a1]; exact wt_fs rfl (by decide) rfl a6.2.1, fun i h1 h2 => (mset_ne h1).trans (a6.2.2.1 i h1 h2), fun g h1 h2 => by rw [mset_fs a1]; exact (Fi_n (Or.inr h1)).trans (a6.2.2.2 g h1 h2)⟩, mF_ne (by decide) a7, mset_arr (by decide) a8⟩
theorem pV_20 {q : Nat} (x : pV g0 h tp t cc p rm Rd) : pV g0 (mset h 20 (.int (nI q))) tp t cc p q Rd := by
  obtain ⟨⟨a1, a2, a3, a4⟩, a5, a6, a7, a8⟩ := x
  exact ⟨⟨mF_ne (by decide) a1, mF_ne (by decide) a2, mF_ne (by decide) a3, mset_arr (by decide) a4⟩, mF_self a5, ⟨mF_ne (by decide) a6.1, by rw [mset_fs a5]; exact wt_fs rfl (by decide) rfl a6.2.1, fun i h1 h2 => (mset_ne h1).trans (a6.2.2.1 i h1 h2), fun g h1 h2 => by rw [mset_fs a5]; exact (Fi_n (Or.inr h2)).trans (a6.2.2.2 g h1 h2)⟩, mF_ne (by decide) a7, mset_arr (by decide) a8⟩
theorem pV_rd {Rd' : Nat → Int32} (x : pV g0 h tp t cc p rm Rd) : pV g0 (aset h 173 36 Rd') tp t cc p rm Rd' := by
  obtain ⟨⟨a1, a2, a3, a4⟩, a5, a6, a7, a8⟩ := x
  exact ⟨⟨aset_mF (by decide) a1, aset_mF (by decide) a2, aset_mF (by decide) a3, (asR_ne (by decide)).trans a4⟩, aset_mF (by decide) a5, ⟨aset_mF (by decide) a6.1, wt_as rfl a6.2.1, fun i h1 h2 => (asR_ne h2).trans (a6.2.2.1 i h1 h2), fun g h1 h2 => (Fi_a (by decide)).trans (a6.2.2.2 g h1 h2)⟩, aset_mF (by decide) a7, asR_self⟩
/-- number(1): one digit -/
theorem n1_run (ht : t ≤ 80) (hp : p < 900) (x : pV g0 h tp t cc p rm Rd) (hh : pm_run PT n fr lo 184 (0, pm_l0 [.ref 162, .int (nI 1)] 4, [], h, 198, sl) = some R) : R = cond (dg tp p t) (some (.int (tp p - nI 48)), mset h 16 (.int (nI (p + 1))), 198, sl) (some (.int (-1)), h, 198, sl) := by
  have e := rn_dt (F := 10) (Lo := 1000) (hd_number (fr := 10) (lo := 1000) (sl := sl) x.1.1 x.1.2.1 x.1.2.2.1 x.1.2.2.2 ht (by omega) (by omega) (by omega) (d := 1) (by omega)) hh
  cases z : dg tp p t with
  | false =>
    rw [z] at e
    exact e
  | true =>
    rw [z] at e
    have e : R = (some (.int (nbr tp t 1 p 0).2), mset h 16 (.int (nI (nbr tp t 1 p 0).1)), 198, sl) := e
    have e1 : nbr tp t 1 p 0 = (p + 1, 10 * 0 + tp p - 48) := by
      show cond (dg tp p t) (p + 1, 10 * 0 + tp p - 48) (p, 0) = _
      rw [z]
      rfl
    have e2 : (10 : Int32) * 0 + tp p - 48 = tp p - nI 48 := by
      rw [show (10 : Int32) * 0 = 0 by decide, Int32.zero_add]
      rfl
    rw [e1] at e
    dsimp only at e
    rw [e2] at e
    exact e
/-- what is read when it ends -/
def vR (g0 : pm_H) (R : pm_Rs) (tp : Nat → Int32) (t cc rm : Nat) (Rd : Nat → Int32) (sl : Nat) : Prop := ∃ (b : Bool) (p' : Nat) (Rd' : Nat → Int32), R.1 = some (.int (cond b 1 0)) ∧ pV g0 R.2.1 tp t cc p' (rm + 1) Rd' ∧ R.2.2 = (198, sl) ∧ p' < 80 ∧ (∀ j, j < 6 * rm → Rd' j = Rd j) ∧ (b = true → p' = 7 * rm + 6 ∧ ∀ j, j < 6 → Rd' (6 * rm + j) = tp (7 * rm + j) - nI 48 ∧ dgV tp t (7 * rm + j))
theorem vm_end {i : Nat} {b : Bool} {Rd' : Nat → Int32} (hp : p < 80) (hr : rm < 6) (x : pV g0 h tp t cc p rm Rd') (hb : ∀ j, j < 6 * rm → Rd' j = Rd j) (hv : b = true → p = 7 * rm + 6 ∧ ∀ j, j < 6 → Rd' (6 * rm + j) = tp (7 * rm + j) - nI 48 ∧ dgV tp t (7 * rm + j)) (hh : pm_run PT n fr lo 187 (103, [some (.ref 162), some (.int (nI (6 * rm))), some (.int (cond b 1 0)), some (.int (nI i))], [], h, 198, sl) = some R) : vR g0 R tp t cc rm Rd sl := by
  have a5 := x.2.1
  obtain ⟨n, hh⟩ := rn_i rfl rfl rfl rfl hh
  obtain ⟨n, hh⟩ := rn_i rfl rfl rfl rfl hh
  obtain ⟨n, hh⟩ := rn_gfm rfl rfl a5 hh
  obtain ⟨n, hh⟩ := rn_i rfl rfl rfl rfl hh
  obtain ⟨n, hh⟩ := rn_i rfl rfl rfl rfl hh
  have hh : pm_run PT n fr lo 187 (110, [some (.ref 162), some (.int (nI (6 * rm))), some (.int (cond b 1 0)), some (.int (nI i))], [.int ((nI rm) + 1), .ref 162], h, 198, sl) = some R := hh
  rw [show nI rm + 1 = nI (rm + 1) from (Int32.ofNat_add rm 1).symm] at hh
  obtain ⟨n, hh⟩ := rn_pfm (w := .int (nI rm)) rfl rfl rfl (by decide) a5 hh
  have hh : pm_run PT n fr lo 187 (113, [some (.ref 162), some (.int (nI (6 * rm))), some (.int (cond b 1 0)), some (.int (nI i))], [], (mset h 20 (.int (nI (rm + 1)))), 198, sl) = some R := hh
  obtain ⟨n, hh⟩ := rn_i rfl rfl rfl rfl hh
  have e := (rn_ret rfl (Or.inr rfl) hh).2
  rw [e]
  exact ⟨b, p, Rd', rfl, pV_20 x, rfl, hp, hb, hv⟩
theorem vm_no {i : Nat} {Rd' : Nat → Int32} (hp : p < 80) (hi : i < 1000) (hr : rm < 6) (x : pV g0 h tp t cc p rm Rd') (hb : ∀ j, j < 6 * rm → Rd' j = Rd j) (hh : pm_run PT n fr lo 187 (54, [some (.ref 162), some (.int (nI (6 * rm))), some (.int 0), some (.int (nI i))], [], h, 198, sl) = some R) : vR g0 R tp t cc rm Rd sl := by
  have go : ∀ n : Nat, pm_run PT n fr lo 187 (103, [some (.ref 162), some (.int (nI (6 * rm))), some (.int 0), some (.int (nI i))], [], h, 198, sl) = some R → vR g0 R tp t cc rm Rd sl := fun n hh => vm_end (b := false) hp hr x hb (fun e => by cases e) hh
  obtain ⟨n, hh⟩ := rn_i rfl rfl rfl rfl hh
  obtain ⟨n, hh⟩ := rn_i rfl rfl rfl rfl hh
  have hh : pm_run PT n fr lo 187 (56, [some (.ref 162), some (.int (nI (6 * rm))), some (.int 0), some (.int (nI i))], [.int (nI 5), .int (nI i)], h, 198, sl) = some R := hh
  obtain ⟨n, hh⟩ := rn_icmp (cc := .ge) (off := 47) (t := 103) rfl rfl hh
  rw [hI_ge (by omega) (by omega)] at hh
  by_cases z : 5 ≤ i
  · rw [decide_eq_true z] at hh
    exact go n hh
  · rw [decide_eq_false z] at hh
    have hh : pm_run PT n fr lo 187 (59, [some (.ref 162), some (.int (nI (6 * rm))), some (.int 0), some (.int (nI i))], [], h, 198, sl) = some R := hh
    obtain ⟨n, hh⟩ := rn_i rfl rfl rfl rfl hh
    obtain ⟨n, hh⟩ := rn_if (cc := .eq) (off := 43) (t := 103) rfl rfl hh
    exact go n hh
theorem vm_loop (ht : t ≤ 80) (hr : rm < 6) : ∀ (k i n : Nat) (h : pm_H) (Rd' : Nat → Int32), i + k = 5 → pV g0 h tp t cc (7 * rm + 1 + i) rm Rd' → (∀ j, j < 6 * rm → Rd' j = Rd j) → (∀ j, j < i + 1 → Rd' (6 * rm + j) = tp (7 * rm + j) - nI 48 ∧ dgV tp t (7 * rm + j)) → pm_run PT n fr lo 187 (54, [some (.ref 162), some (.int (nI (6 * rm))), some (.int 1), some (.int (nI i))], [], h, 198, sl) = some R → vR g0 R tp t cc rm Rd sl := by
  intro k
  induction k with
  | zero =>
    intro i n h Rd' hi x hb hv hh
    obtain ⟨n, hh⟩ := rn_i rfl rfl rfl rfl hh
    obtain ⟨n, hh⟩ := rn_i rfl rfl rfl rfl hh
    have hh : pm_run PT n fr lo 187 (56, [some (.ref 162), some (.int (nI (6 * rm))), some (.int 1), some (.int (nI i))], [.int (nI 5), .int (nI i)], h, 198, sl) = some R := hh
    obtain ⟨n, hh⟩ := rn_icmp (cc := .ge) (off := 47) (t := 103) rfl rfl hh
    rw [hI_ge (by omega) (by omega), decide_eq_true (by omega)] at hh
    exact vm_end (b := true) (by omega) hr x hb (fun _ => ⟨by omega, fun j hj => hv j (by omega)⟩) hh
  | succ k ih =>
    intro i n h Rd' hi x hb hv hh
    obtain ⟨-, -, -, a7, a8⟩ := id x
    obtain ⟨n, hh⟩ := rn_i rfl rfl rfl rfl hh
    obtain ⟨n, hh⟩ := rn_i rfl rfl rfl rfl hh
    have hh : pm_run PT n fr lo 187 (56, [some (.ref 162), some (.int (nI (6 * rm))), some (.int 1), some (.int (nI i))], [.int (nI 5), .int (nI i)], h, 198, sl) = some R := hh
    obtain ⟨n, hh⟩ := rn_icmp (cc := .ge) (off := 47) (t := 103) rfl rfl hh
    rw [hI_ge (by omega) (by omega), decide_eq_false (by omega)] at hh
    have hh : pm_run PT n fr lo 187 (59, [some (.ref 162), some (.int (nI (6 * rm))), some (.int 1), some (.int (nI i))], [], h, 198, sl) = some R := hh
    obtain ⟨n, hh⟩ := rn_i rfl rfl rfl rfl hh
    obtain ⟨n, hh⟩ := rn_if (cc := .eq) (off := 43) (t := 103) rfl rfl hh
    have hh : pm_run PT n fr lo 187 (63, [some (.ref 162), some (.int (nI (6 * rm))), some (.int 1), some (.int (nI i))], [], h, 198, sl) = some R := hh
    obtain ⟨n, hh⟩ := rn_i rfl rfl rfl rfl hh
    obtain ⟨n, hh⟩ := rn_gfm rfl rfl a7 hh
    obtain ⟨n, hh⟩ := rn_i rfl rfl rfl rfl hh
    obtain ⟨n, hh⟩ := rn_i rfl rfl rfl rfl hh
    obtain ⟨n, hh⟩ := rn_i rfl rfl rfl rfl hh
    obtain ⟨n, hh⟩ := rn_i rfl rfl rfl rfl hh
    obtain ⟨n, hh⟩ := rn_i rfl rfl rfl rfl hh
    have hh : pm_run PT n fr lo 187 (72, [some (.ref 162), some (.int (nI (6 * rm))), some (.int 1), some (.int (nI i))], [.int (((nI (6 * rm)) + 1) + (nI i)), .ref 173], h, 198, sl) = some R := hh
    have ei : nI (6 * rm) + 1 + nI i = nI (6 * rm + 1 + i) := by
      rw [show nI (6 * rm) + 1 = nI (6 * rm + 1) from (Int32.ofNat_add (6 * rm) 1).symm, nI_add]
    rw [ei] at hh
    have hh : pm_run PT n fr lo 187 (72, [some (.ref 162), some (.int (nI (6 * rm))), some (.int 1), some (.int (nI i))], [.int (nI (6 * rm + 1 + i)), .ref 173], h, 198, sl) = some R := hh
    obtain ⟨n, hh⟩ := rn_i rfl rfl rfl rfl hh
    obtain ⟨n, hh⟩ := rn_i rfl rfl rfl rfl hh
    have hh : pm_run PT n fr lo 187 (74, [some (.ref 162), some (.int (nI (6 * rm))), some (.int 1), some (.int (nI i))], [.int (nI 1), .ref 162, .int (nI (6 * rm + 1 + i)), .ref 173], h, 198, sl) = some R := hh
    obtain ⟨n, fr', lo', r1, hr1, hh⟩ := rn_call (w := 0) (t := 184) rfl rfl hh
    have er := n1_run ht (by omega) x hr1
    cases z : dg tp (7 * rm + 1 + i) t with
    | false =>
      rw [z] at er
      have er : r1 = (some (.int (-1)), h, 198, sl) := er
      subst er
      have hh : pm_run PT n fr lo 187 (77, [some (.ref 162), some (.int (nI (6 * rm))), some (.int 1), some (.int (nI i))], [.int (-1), .int (nI (6 * rm + 1 + i)), .ref 173], h, 198, sl) = some R := hh
      obtain ⟨n, hh⟩ := rn_ism rfl a8 (hI_in (by omega) (by omega)) (by decide) hh
      rw [nI_clamp (by omega)] at hh
      have hh : pm_run PT n fr lo 187 (78, [some (.ref 162), some (.int (nI (6 * rm))), some (.int 1), some (.int (nI i))], [], (aset h 173 36 (upd Rd' (6 * rm + 1 + i) (-1))), 198, sl) = some R := hh
      have x2 := pV_rd (Rd' := upd Rd' (6 * rm + 1 + i) (-1)) x
      obtain ⟨-, -, -, c7, c8⟩ := id x2
      obtain ⟨n, hh⟩ := rn_i rfl rfl rfl rfl hh
      obtain ⟨n, hh⟩ := rn_gfm rfl rfl c7 hh
      obtain ⟨n, hh⟩ := rn_i rfl rfl rfl rfl hh
      obtain ⟨n, hh⟩ := rn_i rfl rfl rfl rfl hh
      obtain ⟨n, hh⟩ := rn_i rfl rfl rfl rfl hh
      obtain ⟨n, hh⟩ := rn_i rfl rfl rfl rfl hh
      obtain ⟨n, hh⟩ := rn_i rfl rfl rfl rfl hh
      have hh : pm_run PT n fr lo 187 (87, [some (.ref 162), some (.int (nI (6 * rm))), some (.int 1), some (.int (nI i))], [.int (((nI (6 * rm)) + 1) + (nI i)), .ref 173], (aset h 173 36 (upd Rd' (6 * rm + 1 + i) (-1))), 198, sl) = some R := hh
      rw [ei] at hh
      obtain ⟨n, hh⟩ := rn_iam rfl c8 (hI_in (by omega) (by omega)) (by decide) hh
      rw [nI_clamp (by omega)] at hh
      rw [show upd Rd' (6 * rm + 1 + i) (-1) (6 * rm + 1 + i) = -1 by unfold upd; rw [if_pos rfl]] at hh
      have hh : pm_run PT n fr lo 187 (88, [some (.ref 162), some (.int (nI (6 * rm))), some (.int 1), some (.int (nI i))], [.int (-1)], (aset h 173 36 (upd Rd' (6 * rm + 1 + i) (-1))), 198, sl) = some R := hh
      obtain ⟨n, hh⟩ := rn_if (cc := .lt) (off := 7) (t := 95) rfl rfl hh
      have hh : pm_run PT n fr lo 187 (95, [some (.ref 162), some (.int (nI (6 * rm))), some (.int 1), some (.int (nI i))], [], (aset h 173 36 (upd Rd' (6 * rm + 1 + i) (-1))), 198, sl) = some R := hh
      obtain ⟨n, hh⟩ := rn_i rfl rfl rfl rfl hh
      obtain ⟨n, hh⟩ := rn_i rfl rfl rfl rfl hh
      obtain ⟨n, hh⟩ := rn_i rfl rfl rfl rfl hh
      obtain ⟨n, hh⟩ := rn_i rfl rfl rfl rfl hh
      have hh : pm_run PT n fr lo 187 (54, [some (.ref 162), some (.int (nI (6 * rm))), some (.int 0), some (.int ((nI i) + Int32.ofInt 1))], [], (aset h 173 36 (upd Rd' (6 * rm + 1 + i) (-1))), 198, sl) = some R := hh
      rw [show nI i + Int32.ofInt 1 = nI (i + 1) from (Int32.ofNat_add i 1).symm] at hh
      exact vm_no (by omega) (by omega) hr x2 (fun j hj => by unfold upd; rw [if_neg (by omega)]; exact hb j hj) hh
    | true =>
      rw [z] at er
      have er : r1 = (some (.int (tp (7 * rm + 1 + i) - nI 48)), mset h 16 (.int (nI (7 * rm + 1 + i + 1))), 198, sl) := er
      subst er
      have x1 := pV_16 (q := 7 * rm + 1 + i + 1) x
      have hh : pm_run PT n fr lo 187 (77, [some (.ref 162), some (.int (nI (6 * rm))), some (.int 1), some (.int (nI i))], [.int (tp (7 * rm + 1 + i) - nI 48), .int (nI (6 * rm + 1 + i)), .ref 173], (mset h 16 (.int (nI (7 * rm + 1 + i + 1)))), 198, sl) = some R := hh
      generalize mset h 16 (.int (nI (7 * rm + 1 + i + 1))) = h1 at hh x1
      have hh : pm_run PT n fr lo 187 (77, [some (.ref 162), some (.int (nI (6 * rm))), some (.int 1), some (.int (nI i))], [.int (tp (7 * rm + 1 + i) - nI 48), .int (nI (6 * rm + 1 + i)), .ref 173], h1, 198, sl) = some R := hh
      obtain ⟨-, -, -, b7, b8⟩ := id x1
      obtain ⟨n, hh⟩ := rn_ism rfl b8 (hI_in (by omega) (by omega)) (by decide) hh
      rw [nI_clamp (by omega)] at hh
      have hh : pm_run PT n fr lo 187 (78, [some (.ref 162), some (.int (nI (6 * rm))), some (.int 1), some (.int (nI i))], [], (aset h1 173 36 (upd Rd' (6 * rm + 1 + i) (tp (7 * rm + 1 + i) - nI 48))), 198, sl) = some R := hh
      have x2 := pV_rd (Rd' := upd Rd' (6 * rm + 1 + i) (tp (7 * rm + 1 + i) - nI 48)) x1
      obtain ⟨-, -, -, c7, c8⟩ := id x2
      obtain ⟨n, hh⟩ := rn_i rfl rfl rfl rfl hh
      obtain ⟨n, hh⟩ := rn_gfm rfl rfl c7 hh
      obtain ⟨n, hh⟩ := rn_i rfl rfl rfl rfl hh
      obtain ⟨n, hh⟩ := rn_i rfl rfl rfl rfl hh
      obtain ⟨n, hh⟩ := rn_i rfl rfl rfl rfl hh
      obtain ⟨n, hh⟩ := rn_i rfl rfl rfl rfl hh
      obtain ⟨n, hh⟩ := rn_i rfl rfl rfl rfl hh
      have hh : pm_run PT n fr lo 187 (87, [some (.ref 162), some (.int (nI (6 * rm))), some (.int 1), some (.int (nI i))], [.int (((nI (6 * rm)) + 1) + (nI i)), .ref 173], (aset h1 173 36 (upd Rd' (6 * rm + 1 + i) (tp (7 * rm + 1 + i) - nI 48))), 198, sl) = some R := hh
      rw [ei] at hh
      obtain ⟨n, hh⟩ := rn_iam rfl c8 (hI_in (by omega) (by omega)) (by decide) hh
      rw [nI_clamp (by omega)] at hh
      rw [show upd Rd' (6 * rm + 1 + i) (tp (7 * rm + 1 + i) - nI 48) (6 * rm + 1 + i) = tp (7 * rm + 1 + i) - nI 48 by unfold upd; rw [if_pos rfl]] at hh
      have hh : pm_run PT n fr lo 187 (88, [some (.ref 162), some (.int (nI (6 * rm))), some (.int 1), some (.int (nI i))], [.int (tp (7 * rm + 1 + i) - nI 48)], (aset h1 173 36 (upd Rd' (6 * rm + 1 + i) (tp (7 * rm + 1 + i) - nI 48))), 198, sl) = some R := hh
      obtain ⟨n, hh⟩ := rn_if (cc := .lt) (off := 7) (t := 95) rfl rfl hh
      rw [show pm_cmp .lt (tp (7 * rm + 1 + i) - nI 48) 0 = false from lt0_val (dg_val z).1] at hh
      have hh : pm_run PT n fr lo 187 (91, [some (.ref 162), some (.int (nI (6 * rm))), some (.int 1), some (.int (nI i))], [], (aset h1 173 36 (upd Rd' (6 * rm + 1 + i) (tp (7 * rm + 1 + i) - nI 48))), 198, sl) = some R := hh
      obtain ⟨n, hh⟩ := rn_i rfl rfl rfl rfl hh
      obtain ⟨n, hh⟩ := rn_i rfl rfl rfl rfl hh
      obtain ⟨n, hh⟩ := rn_i rfl rfl rfl rfl hh
      obtain ⟨n, hh⟩ := rn_i rfl rfl rfl rfl hh
      obtain ⟨n, hh⟩ := rn_i rfl rfl rfl rfl hh
      have hh : pm_run PT n fr lo 187 (54, [some (.ref 162), some (.int (nI (6 * rm))), some (.int 1), some (.int ((nI i) + Int32.ofInt 1))], [], (aset h1 173 36 (upd Rd' (6 * rm + 1 + i) (tp (7 * rm + 1 + i) - nI 48))), 198, sl) = some R := hh
      rw [show nI i + Int32.ofInt 1 = nI (i + 1) from (Int32.ofNat_add i 1).symm] at hh
      refine ih (i + 1) n _ _ (by omega) x2 (fun j hj => by unfold upd; rw [if_neg (by omega)]; exact hb j hj) (fun j hj => ?_) hh
      unfold upd
      by_cases y : 6 * rm + j = 6 * rm + 1 + i
      · rw [if_pos y, show 7 * rm + j = 7 * rm + 1 + i by omega]
        exact ⟨rfl, dgt_of (dg_val z), dg_lt z⟩
      · rw [if_neg y]
        exact hv j (by omega)
theorem dgi_19 {a : Nat} (z : dgi tp a t 1 9 = true) : dgt (tp a - nI 48) := by
  have h0 := (dgi_val z).2
  unfold dgi in_b at z
  rw [Bool.and_eq_true, Bool.and_eq_true] at z
  have e1 : ¬ (9 : Int32).toInt64 < (tp a - 48).toInt64 := by simpa using z.2.2
  rw [Int64.lt_iff_toInt_lt, Int32.toInt_toInt64, Int32.toInt_toInt64, show (9 : Int32).toInt = 9 by decide] at e1
  have e1 : ¬ 9 < (tp a - nI 48).toInt := e1
  exact dgt_of ⟨h0, by omega⟩
theorem vm_reads (ht : t ≤ 80) (hl : cc + rm < 6) (x : pV g0 h tp t cc (7 * rm) rm Rd) (hh : pm_run PT n fr lo 187 (0, pm_l0 [.ref 162] 4, [], h, 198, sl) = some R) : vR g0 R tp t cc rm Rd sl := by
  obtain ⟨⟨q1, q2, q3, q4⟩, q5, q6, q7, q8⟩ := id x
  have q6 := q6.1
  obtain ⟨n, hh⟩ := rn_i rfl rfl rfl rfl hh
  obtain ⟨n, hh⟩ := rn_gfm rfl rfl q6 hh
  obtain ⟨n, hh⟩ := rn_i rfl rfl rfl rfl hh
  obtain ⟨n, hh⟩ := rn_gfm rfl rfl q5 hh
  obtain ⟨n, hh⟩ := rn_i rfl rfl rfl rfl hh
  obtain ⟨n, hh⟩ := rn_i rfl rfl rfl rfl hh
  obtain ⟨n, hh⟩ := rn_icmp (cc := .ne) (off := 5) (t := 16) rfl rfl hh
  have ec : pm_cmp .ne ((fun x y => x + y) (nI cc) (nI rm)) (Int8.ofInt 6).toInt32 = decide (¬ (cc + rm = 6)) := by
    show pm_cmp .ne (nI cc + nI rm) (nI 6) = _
    rw [nI_add]
    exact hI_ne (by omega) (by omega)
  rw [ec, decide_eq_true (by omega)] at hh
  have hh : pm_run PT n fr lo 187 (16, [some (.ref 162), none, none, none], [], h, 198, sl) = some R := hh
  obtain ⟨n, hh⟩ := rn_i rfl rfl rfl rfl hh
  obtain ⟨n, hh⟩ := rn_i rfl rfl rfl rfl hh
  obtain ⟨n, hh⟩ := rn_gfm rfl rfl q5 hh
  obtain ⟨n, hh⟩ := rn_i rfl rfl rfl rfl hh
  obtain ⟨n, hh⟩ := rn_i rfl rfl rfl rfl hh
  have e6 : (Int8.ofInt 6).toInt32 * nI rm = nI (6 * rm) := hI_mul 6 rm
  have hh : pm_run PT n fr lo 187 (24, [some (.ref 162), some (.int ((Int8.ofInt 6).toInt32 * nI rm)), none, none], [], h, 198, sl) = some R := hh
  rw [e6] at hh
  obtain ⟨n, hh⟩ := rn_i rfl rfl rfl rfl hh
  obtain ⟨n, hh⟩ := rn_gfm rfl rfl q7 hh
  obtain ⟨n, hh⟩ := rn_i rfl rfl rfl rfl hh
  obtain ⟨n, hh⟩ := rn_i rfl rfl rfl rfl hh
  obtain ⟨n, hh⟩ := rn_i rfl rfl rfl rfl hh
  obtain ⟨n, hh⟩ := rn_i rfl rfl rfl rfl hh
  obtain ⟨n, fr', lo', r1, hr1, hh⟩ := rn_call (w := 0) (t := 185) rfl rfl hh
  have er := rn_dt (F := 10) (Lo := 1000) (hd_digitIn (fr := 10) (lo := 1000) (sl := sl) q1 q2 q3 q4 ht (by omega) (by decide) (by decide) 1 9) hr1
  have hin : pm_in (nI (6 * rm)) 36 = true := hI_in (by omega) (by decide)
  have ek : (nI (6 * rm)).toNatClampNeg = 6 * rm := nI_clamp (by omega)
  cases hd : dgi tp (7 * rm) t 1 9 with
  | false =>
    rw [hd] at er
    dsimp only [cond] at er
    subst er
    have hh : pm_run PT n fr lo 187 (36, [some (.ref 162), some (.int (nI (6 * rm))), none, none], [.int (-1), .int (nI (6 * rm)), .ref 173], h, 198, sl) = some R := hh
    obtain ⟨n, hh⟩ := rn_ism rfl q8 hin (by decide) hh
    rw [ek] at hh
    have x2 := pV_rd (Rd' := upd Rd (6 * rm) (-1)) x
    obtain ⟨n, hh⟩ := rn_i rfl rfl rfl rfl hh
    obtain ⟨n, hh⟩ := rn_gfm rfl rfl x2.2.2.2.1 hh
    obtain ⟨n, hh⟩ := rn_i rfl rfl rfl rfl hh
    obtain ⟨n, hh⟩ := rn_iam rfl asR_self hin (by decide) hh
    rw [ek, show upd Rd (6 * rm) (-1) (6 * rm) = (-1 : Int32) from if_pos rfl] at hh
    obtain ⟨n, hh⟩ := rn_if (cc := .lt) (off := 7) (t := 50) rfl rfl hh
    rw [lt0_m1] at hh
    obtain ⟨n, hh⟩ := rn_i rfl rfl rfl rfl hh
    obtain ⟨n, hh⟩ := rn_i rfl rfl rfl rfl hh
    obtain ⟨n, hh⟩ := rn_i rfl rfl rfl rfl hh
    obtain ⟨n, hh⟩ := rn_i rfl rfl rfl rfl hh
    have hh : pm_run PT n fr lo 187 (54, [some (.ref 162), some (.int (nI (6 * rm))), some (.int 0), some (.int (nI 0))], [], aset h 173 36 (upd Rd (6 * rm) (-1)), 198, sl) = some R := hh
    exact vm_no (by omega) (by omega) (by omega) x2 (fun j hj => if_neg (by omega)) hh
  | true =>
    rw [hd] at er
    dsimp only [cond] at er
    subst er
    obtain ⟨v0, v1⟩ := dgi_val hd
    have x1 := pV_16 (q := 7 * rm + 1) x
    have hh : pm_run PT n fr lo 187 (36, [some (.ref 162), some (.int (nI (6 * rm))), none, none], [.int (tp (7 * rm) - 48), .int (nI (6 * rm)), .ref 173], mset h 16 (.int (nI (7 * rm + 1))), 198, sl) = some R := hh
    obtain ⟨n, hh⟩ := rn_ism rfl x1.2.2.2.2 hin (by decide) hh
    rw [ek] at hh
    have x2 := pV_rd (Rd' := upd Rd (6 * rm) (tp (7 * rm) - 48)) x1
    obtain ⟨n, hh⟩ := rn_i rfl rfl rfl rfl hh
    obtain ⟨n, hh⟩ := rn_gfm rfl rfl x2.2.2.2.1 hh
    obtain ⟨n, hh⟩ := rn_i rfl rfl rfl rfl hh
    obtain ⟨n, hh⟩ := rn_iam rfl asR_self hin (by decide) hh
    rw [ek, show upd Rd (6 * rm) (tp (7 * rm) - 48) (6 * rm) = tp (7 * rm) - 48 from if_pos rfl] at hh
    obtain ⟨n, hh⟩ := rn_if (cc := .lt) (off := 7) (t := 50) rfl rfl hh
    rw [lt0_val v1] at hh
    obtain ⟨n, hh⟩ := rn_i rfl rfl rfl rfl hh
    obtain ⟨n, hh⟩ := rn_i rfl rfl rfl rfl hh
    obtain ⟨n, hh⟩ := rn_i rfl rfl rfl rfl hh
    obtain ⟨n, hh⟩ := rn_i rfl rfl rfl rfl hh
    obtain ⟨n, hh⟩ := rn_i rfl rfl rfl rfl hh
    have hh : pm_run PT n fr lo 187 (54, [some (.ref 162), some (.int (nI (6 * rm))), some (.int 1), some (.int (nI 0))], [], aset (mset h 16 (.int (nI (7 * rm + 1)))) 173 36 (upd Rd (6 * rm) (tp (7 * rm) - 48)), 198, sl) = some R := hh
    refine vm_loop ht (by omega) 5 0 n _ _ rfl x2 (fun j hj => if_neg (by omega)) (fun j hj => ?_) hh
    have e0 : j = 0 := by omega
    subst e0
    exact ⟨if_pos rfl, dgi_19 hd, dgi_lt hd⟩
/-- the LINES: at place 60; where the flag is 1 every LINE stands in cell 173 -/
theorem vm_lines (ht : t ≤ 80) {n0 : Int32} : ∀ (k rm n : Nat) (h : pm_H) (Rd : Nat → Int32), cc + rm + k = 7 → 0 < k → pV g0 h tp t cc (7 * rm) rm Rd → (∀ r, r < rm → ∀ j, j < 6 → Rd (6 * r + j) = tp (7 * r + j) - nI 48 ∧ dgV tp t (7 * r + j)) → pm_run PT n fr lo 188 (29, [some (.ref 162), some (.int n0), some (.int 1), some (.int 1), none, none, none], [], h, 198, sl) = some R → ∃ (m : Nat) (h' : pm_H) (b : Bool) (p' rm' : Nat) (Rd' : Nat → Int32), pm_run PT m fr lo 188 (60, [some (.ref 162), some (.int n0), some (.int (cond b 1 0)), some (.int 0), none, none, none], [], h', 198, sl) = some R ∧ pV g0 h' tp t cc p' rm' Rd' ∧ cc + rm' ≤ 6 ∧ p' < 80 ∧ (b = true → ∀ r, r < rm' → ∀ j, j < 6 → Rd' (6 * r + j) = tp (7 * r + j) - nI 48 ∧ dgV tp t (7 * r + j)) := by
  have out : ∀ (n : Nat) (b : Int32) (h : pm_H), pm_run PT n fr lo 188 (29, [some (.ref 162), some (.int n0), some (.int b), some (.int 0), none, none, none], [], h, 198, sl) = some R → ∃ m, pm_run PT m fr lo 188 (60, [some (.ref 162), some (.int n0), some (.int b), some (.int 0), none, none, none], [], h, 198, sl) = some R := by
    intro n b h hh
    obtain ⟨n, hh⟩ := rn_i rfl rfl rfl rfl hh
    obtain ⟨n, hh⟩ := rn_if (cc := .eq) (off := 30) (t := 60) rfl rfl hh
    exact ⟨n, hh⟩
  intro k
  induction k with
  | zero => intro rm n h Rd hk h0; exact absurd h0 (by omega)
  | succ k ih =>
    intro rm n h Rd hk h0 x hv hh
    obtain ⟨n, hh⟩ := rn_i rfl rfl rfl rfl hh
    obtain ⟨n, hh⟩ := rn_if (cc := .eq) (off := 30) (t := 60) rfl rfl hh
    have hh : pm_run PT n fr lo 188 (33, [some (.ref 162), some (.int n0), some (.int 1), some (.int 1), none, none, none], [], h, 198, sl) = some R := hh
    obtain ⟨n, hh⟩ := rn_i rfl rfl rfl rfl hh
    obtain ⟨n, fr', lo', r1, hr1, hh⟩ := rn_call (w := 0) (t := 187) rfl rfl hh
    by_cases z : cc + rm = 6
    · obtain ⟨q0, q5, q6, -⟩ := id x
      obtain ⟨n1, hr1⟩ := rn_i rfl rfl rfl rfl hr1
      obtain ⟨n1, hr1⟩ := rn_gfm rfl rfl q6.1 hr1
      obtain ⟨n1, hr1⟩ := rn_i rfl rfl rfl rfl hr1
      obtain ⟨n1, hr1⟩ := rn_gfm rfl rfl q5 hr1
      obtain ⟨n1, hr1⟩ := rn_i rfl rfl rfl rfl hr1
      obtain ⟨n1, hr1⟩ := rn_i rfl rfl rfl rfl hr1
      obtain ⟨n1, hr1⟩ := rn_icmp (cc := .ne) (off := 5) (t := 16) rfl rfl hr1
      have ec : pm_cmp .ne ((fun x y => x + y) (nI cc) (nI rm)) (Int8.ofInt 6).toInt32 = decide (¬ (cc + rm = 6)) := by
        show pm_cmp .ne (nI cc + nI rm) (nI 6) = _
        rw [nI_add]
        exact hI_ne (by omega) (by omega)
      rw [ec, decide_eq_false (fun q => q z)] at hr1
      obtain ⟨n1, hr1⟩ := rn_i rfl rfl rfl rfl hr1
      obtain ⟨-, rfl⟩ := rn_ret rfl (Or.inr rfl) hr1
      have hh : pm_run PT n fr lo 188 (37, [some (.ref 162), some (.int n0), some (.int 1), some (.int 1), none, none, none], [.int 0], h, 198, sl) = some R := hh
      obtain ⟨n, hh⟩ := rn_i rfl rfl rfl rfl hh
      obtain ⟨n, hh⟩ := rn_i rfl rfl rfl rfl hh
      obtain ⟨n, hh⟩ := rn_if (cc := .eq) (off := 16) (t := 55) rfl rfl hh
      have hh : pm_run PT n fr lo 188 (55, [some (.ref 162), some (.int n0), some (.int 0), some (.int 1), none, none, none], [], h, 198, sl) = some R := hh
      obtain ⟨n, hh⟩ := rn_i rfl rfl rfl rfl hh
      obtain ⟨n, hh⟩ := rn_i rfl rfl rfl rfl hh
      obtain ⟨n, hh⟩ := rn_i rfl rfl rfl rfl hh
      obtain ⟨m, hm⟩ := out n 0 h hh
      exact ⟨m, h, false, _, _, _, hm, x, by omega, by omega, fun e => Bool.noConfusion e⟩
    · obtain ⟨b, p', Rd', e1, x2, e3, f0, f1, f2⟩ := vm_reads ht (by omega) x hr1
      obtain ⟨rv, h1, s1⟩ := r1
      dsimp only at e1 x2 e3
      subst e1
      subst e3
      cases b with
      | false =>
        have hh : pm_run PT n fr lo 188 (37, [some (.ref 162), some (.int n0), some (.int 1), some (.int 1), none, none, none], [.int 0], h1, 198, sl) = some R := hh
        obtain ⟨n, hh⟩ := rn_i rfl rfl rfl rfl hh
        obtain ⟨n, hh⟩ := rn_i rfl rfl rfl rfl hh
        obtain ⟨n, hh⟩ := rn_if (cc := .eq) (off := 16) (t := 55) rfl rfl hh
        have hh : pm_run PT n fr lo 188 (55, [some (.ref 162), some (.int n0), some (.int 0), some (.int 1), none, none, none], [], h1, 198, sl) = some R := hh
        obtain ⟨n, hh⟩ := rn_i rfl rfl rfl rfl hh
        obtain ⟨n, hh⟩ := rn_i rfl rfl rfl rfl hh
        obtain ⟨n, hh⟩ := rn_i rfl rfl rfl rfl hh
        obtain ⟨m, hm⟩ := out n 0 h1 hh
        exact ⟨m, h1, false, _, _, _, hm, x2, by omega, f0, fun e => Bool.noConfusion e⟩
      | true =>
        obtain ⟨f3, f4⟩ := f2 rfl
        subst f3
        have hv2 : ∀ r, r < rm + 1 → ∀ j, j < 6 → Rd' (6 * r + j) = tp (7 * r + j) - nI 48 ∧ dgV tp t (7 * r + j) := fun r hr j hj => by
          by_cases y : r = rm
          · rw [y]
            exact f4 j hj
          · rw [f1 (6 * r + j) (by omega)]
            exact hv r (by omega) j hj
        have hh : pm_run PT n fr lo 188 (37, [some (.ref 162), some (.int n0), some (.int 1), some (.int 1), none, none, none], [.int 1], h1, 198, sl) = some R := hh
        obtain ⟨n, hh⟩ := rn_i rfl rfl rfl rfl hh
        obtain ⟨n, hh⟩ := rn_i rfl rfl rfl rfl hh
        obtain ⟨n, hh⟩ := rn_if (cc := .eq) (off := 16) (t := 55) rfl rfl hh
        have hh : pm_run PT n fr lo 188 (42, [some (.ref 162), some (.int n0), some (.int 1), some (.int 1), none, none, none], [], h1, 198, sl) = some R := hh
        obtain ⟨n, hh⟩ := rn_i rfl rfl rfl rfl hh
        obtain ⟨n, hh⟩ := rn_i rfl rfl rfl rfl hh
        obtain ⟨n, fr', lo', r1, hr1, hh⟩ := rn_call (w := 0) (t := 181) rfl rfl hh
        obtain ⟨⟨q1, q2, q3, q4⟩, -⟩ := id x2
        have er := rn_dt (F := 10) (Lo := 1000) (hd_takes (fr := 10) (lo := 1000) (sl := sl) q1 q2 q3 q4 ht (by omega) (by decide) (by decide) 59) hr1
        cases y : decide (7 * rm + 6 < t ∧ tp (7 * rm + 6) = 59) with
        | false =>
          rw [y] at er
          dsimp only [cond] at er
          subst er
          have hh : pm_run PT n fr lo 188 (48, [some (.ref 162), some (.int n0), some (.int 1), some (.int 1), none, none, none], [.int 0], mset h1 16 (.int (nI (7 * rm + 6 + 0))), 198, sl) = some R := hh
          obtain ⟨n, hh⟩ := rn_if (cc := .eq) (off := 7) (t := 55) rfl rfl hh
          have hh : pm_run PT n fr lo 188 (55, [some (.ref 162), some (.int n0), some (.int 1), some (.int 1), none, none, none], [], mset h1 16 (.int (nI (7 * rm + 6 + 0))), 198, sl) = some R := hh
          obtain ⟨n, hh⟩ := rn_i rfl rfl rfl rfl hh
          obtain ⟨n, hh⟩ := rn_i rfl rfl rfl rfl hh
          obtain ⟨n, hh⟩ := rn_i rfl rfl rfl rfl hh
          obtain ⟨m, hm⟩ := out n 1 _ hh
          exact ⟨m, _, true, 7 * rm + 6, _, _, hm, pV_16 (q := 7 * rm + 6) x2, by omega, by omega, fun _ => hv2⟩
        | true =>
          rw [y] at er
          dsimp only [cond] at er
          subst er
          have hh : pm_run PT n fr lo 188 (48, [some (.ref 162), some (.int n0), some (.int 1), some (.int 1), none, none, none], [.int 1], mset h1 16 (.int (nI (7 * rm + 6 + 1))), 198, sl) = some R := hh
          obtain ⟨n, hh⟩ := rn_if (cc := .eq) (off := 7) (t := 55) rfl rfl hh
          have hh : pm_run PT n fr lo 188 (51, [some (.ref 162), some (.int n0), some (.int 1), some (.int 1), none, none, none], [], mset h1 16 (.int (nI (7 * rm + 6 + 1))), 198, sl) = some R := hh
          obtain ⟨n, hh⟩ := rn_i rfl rfl rfl rfl hh
          obtain ⟨n, hh⟩ := rn_i rfl rfl rfl rfl hh
          obtain ⟨n, hh⟩ := rn_i rfl rfl rfl rfl hh
          obtain ⟨n, hh⟩ := rn_i rfl rfl rfl rfl hh
          exact ih (rm + 1) n _ _ (by omega) (by omega) (pV_16 (q := 7 * rm + 6 + 1) x2) hv2 hh
end VAM
