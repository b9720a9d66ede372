/-! the code that the reference's reader of rules lays: functions alone -/
section ZRL
variable {f : Nat → Int32} {t : Nat}
def rlt (x : Int32) : Int32 := if x = nI 119 then nI 1000 else if x = nI 107 then nI 1001 else if x = nI 114 then nI 1002 else if x = nI 115 then nI 1003 else if x = nI 104 then nI 1004 else if x = nI 101 then nI 1005 else nI 1006
def rop (o : Nat) (x : Int32) : Int32 := cond (Nat.beq o 0) (if x = nI 60 then nI 2000 else if x = nI 62 then nI 2001 else nI 2002) (cond (Nat.beq o 1) (if x = nI 43 then nI 2003 else nI 2004) (if x = nI 42 then nI 2005 else nI 2006))
def rth (sc : Nat → List Int32) (f : Nat → Int32) (t q : Nat) : List Int32 := cond (dg f q t) [(nbr f t 3 q 0).2] (cond (decide (q < t) && zlet (f q)) [rlt (f q)] (sc (q + 1)))
def rlp (sc : Nat → List Int32) (st : Nat → Bool × Nat) (f : Nat → Int32) (t o : Nat) : Nat → Nat → List Int32
  | 0, _ => []
  | k + 1, p => cond (decide (p < t) && zlev o (f p)) (sc (p + 1) ++ rop o (f p) :: rlp sc st f t o k (st (p + 1)).2) []
def pr (f : Nat → Int32) (t : Nat) : Nat → Nat → Nat → Nat → List Int32
  | 0, _, _, _ => []
  | m + 1, o, ns, p => cond (Nat.ble 3 o) (rth (pr f t m 0 (ns + 1)) f t (zmi f t 40 p) ++ List.replicate (zmi f t 40 p - p) (nI 3000)) (pr f t m (o + 1) ns p ++ rlp (pr f t m (o + 1) ns) (pz f t m (o + 1) ns) f t o (cond (Nat.beq o 0) 1 40) (pz f t m (o + 1) ns p).2)
def rthm (f : Nat → Int32) (t m ns p : Nat) : List Int32 := rth (pr f t m 0 (ns + 1)) f t (zmi f t 40 p) ++ List.replicate (zmi f t 40 p - p) (nI 3000)
theorem rth_len0 {st : Nat → Bool × Nat} {sc : Nat → List Int32} {ns q : Nat} (hs : ∀ q, (st q).1 = true → (sc q).length + q ≤ (st q).2) (e : (zth st f t ns q).1 = true) : (rth sc f t q).length + q ≤ (zth st f t ns q).2 := by
  have h := cth_len0 (f := f) (t := t) (st := st) (sc := sc) (ns := ns) (q := q) hs e
  have e2 : (rth sc f t q).length = (cth sc f t q).length := by
    unfold rth cth
    cases dg f q t with
    | true => rfl
    | false =>
      cases (decide (q < t) && zlet (f q)) <;> rfl
  omega
theorem rlp_len {st : Nat → Bool × Nat} {sc : Nat → List Int32} {o : Nat} (hs : ∀ q, (st q).1 = true → (sc q).length + q ≤ (st q).2) (k p : Nat) (e : (zlp st f t o k p).1 = true) : (rlp sc st f t o k p).length + p ≤ (zlp st f t o k p).2 := by
  have h := clp_len (f := f) (t := t) (st := st) (sc := sc) (o := o) hs k p e
  have e2 : ∀ k p, (rlp sc st f t o k p).length = (clp sc st f t o k p).length := by
    intro k
    induction k with
    | zero => intro p; rfl
    | succ k ih =>
      intro p
      show (cond (decide (p < t) && zlev o (f p)) (sc (p + 1) ++ rop o (f p) :: rlp sc st f t o k (st (p + 1)).2) []).length = (cond (decide (p < t) && zlev o (f p)) (sc (p + 1) ++ (-(f p)) :: clp sc st f t o k (st (p + 1)).2) []).length
      cases (decide (p < t) && zlev o (f p)) with
      | false => rfl
      | true =>
        show (sc (p + 1) ++ rop o (f p) :: rlp sc st f t o k (st (p + 1)).2).length = (sc (p + 1) ++ (-(f p)) :: clp sc st f t o k (st (p + 1)).2).length
        rw [List.length_append, List.length_append, List.length_cons, List.length_cons, ih]
  rw [e2]
  exact h
theorem pr_len : ∀ (m o ns p : Nat), (pz f t m o ns p).1 = true → (pr f t m o ns p).length + p ≤ (pz f t m o ns p).2
  | 0, _, _, _, e => by cases e
  | m + 1, o, ns, p, e => by
    have e : (cond (Nat.ble 3 o) (zth (pz f t m 0 (ns + 1)) f t ns (zmi f t 40 p)) (cond (pz f t m (o + 1) ns p).1 (zlp (pz f t m (o + 1) ns) f t o (cond (Nat.beq o 0) 1 40) (pz f t m (o + 1) ns p).2) (false, (pz f t m (o + 1) ns p).2))).1 = true := e
    show (cond (Nat.ble 3 o) (rth (pr f t m 0 (ns + 1)) f t (zmi f t 40 p) ++ List.replicate (zmi f t 40 p - p) (nI 3000)) (pr f t m (o + 1) ns p ++ rlp (pr f t m (o + 1) ns) (pz f t m (o + 1) ns) f t o (cond (Nat.beq o 0) 1 40) (pz f t m (o + 1) ns p).2)).length + p ≤ (cond (Nat.ble 3 o) (zth (pz f t m 0 (ns + 1)) f t ns (zmi f t 40 p)) (cond (pz f t m (o + 1) ns p).1 (zlp (pz f t m (o + 1) ns) f t o (cond (Nat.beq o 0) 1 40) (pz f t m (o + 1) ns p).2) (false, (pz f t m (o + 1) ns p).2))).2
    cases z1 : Nat.ble 3 o with
    | true =>
      rw [z1] at e
      have h1 := rth_len0 (sc := pr f t m 0 (ns + 1)) (pr_len m 0 (ns + 1)) e
      have h2 := zmi_ge (f := f) (t := t) 40 p
      show (rth (pr f t m 0 (ns + 1)) f t (zmi f t 40 p) ++ List.replicate (zmi f t 40 p - p) (nI 3000)).length + p ≤ (zth (pz f t m 0 (ns + 1)) f t ns (zmi f t 40 p)).2
      rw [List.length_append, List.length_replicate]
      omega
    | false =>
      rw [z1] at e
      have e : (cond (pz f t m (o + 1) ns p).1 (zlp (pz f t m (o + 1) ns) f t o (cond (Nat.beq o 0) 1 40) (pz f t m (o + 1) ns p).2) (false, (pz f t m (o + 1) ns p).2)).1 = true := e
      cases z2 : (pz f t m (o + 1) ns p).1 with
      | false =>
        rw [z2] at e
        cases e
      | true =>
        rw [z2] at e
        have h1 := pr_len m (o + 1) ns p z2
        have h2 := rlp_len (sc := pr f t m (o + 1) ns) (pr_len m (o + 1) ns) _ _ e
        show (pr f t m (o + 1) ns p ++ rlp (pr f t m (o + 1) ns) (pz f t m (o + 1) ns) f t o (cond (Nat.beq o 0) 1 40) (pz f t m (o + 1) ns p).2).length + p ≤ (zlp (pz f t m (o + 1) ns) f t o (cond (Nat.beq o 0) 1 40) (pz f t m (o + 1) ns p).2).2
        rw [List.length_append]
        omega
theorem rthm_len {m ns p : Nat} (e : (zth (pz f t m 0 (ns + 1)) f t ns (zmi f t 40 p)).1 = true) : (rthm f t m ns p).length + p ≤ (zth (pz f t m 0 (ns + 1)) f t ns (zmi f t 40 p)).2 := by
  unfold rthm
  have h1 := rth_len0 (f := f) (t := t) (sc := pr f t m 0 (ns + 1)) (pr_len m 0 (ns + 1)) e
  have h2 := zmi_ge (f := f) (t := t) 40 p
  rw [List.length_append, List.length_replicate]
  omega
end ZRL
/-! the reference's reader with its code -/
section ZRN
variable {n fr lo sl p t ns : Nat} {h : pm_H} {R : pm_Rs} {tp : Nat → Int32} {v : Int32} {v18 : Value} {cs ds : List Int32}
theorem tko_val {i : Nat} : ∀ {n k j : Nat}, tko i tp p t n k = some j → (st_tx i).getD j 0 = tp p
  | 0, _, _, e => by cases e
  | n + 1, k, j, e => by
    have e : cond (decide (p < t) && decide ((st_tx i).getD k 0 = tp p)) (some k) (tko i tp p t n (k + 1)) = some j := e
    cases z : (decide (p < t) && decide ((st_tx i).getD k 0 = tp p)) with
    | true =>
      rw [z] at e
      have e : some k = some j := e
      cases e
      rw [Bool.and_eq_true] at z
      exact of_decide_eq_true z.2
    | false =>
      rw [z] at e
      exact tko_val e
theorem rlt_of {j : Nat} (e : tko 0 tp p t (st_tx 0).length 0 = some j) : nI 1000 + nI j = rlt (tp p) := by
  have h1 := tko_some e
  have h2 := tko_val e
  have hl : (st_tx 0).length = 7 := by decide +kernel
  rw [hl] at h1
  have hj : j < 7 := by omega
  rw [← h2]
  have : ∀ j, j < 7 → nI 1000 + nI j = rlt ((st_tx 0).getD j 0) := by decide +kernel
  exact this j hj
theorem rop_0 {j : Nat} (e : tko 1 tp p t (st_tx 1).length 0 = some j) : nI 2000 + nI j + 0 = rop 0 (tp p) := by
  have h1 := tko_some e
  have h2 := tko_val e
  have hl : (st_tx 1).length = 3 := by decide +kernel
  rw [hl] at h1
  rw [← h2]
  have : ∀ j, j < 3 → nI 2000 + nI j + 0 = rop 0 ((st_tx 1).getD j 0) := by decide +kernel
  exact this j (by omega)
theorem rop_1 {j : Nat} (e : tko 2 tp p t (st_tx 2).length 0 = some j) : nI 2000 + nI j + nI 3 = rop 1 (tp p) := by
  have h1 := tko_some e
  have h2 := tko_val e
  have hl : (st_tx 2).length = 2 := by decide +kernel
  rw [hl] at h1
  rw [← h2]
  have : ∀ j, j < 2 → nI 2000 + nI j + nI 3 = rop 1 ((st_tx 2).getD j 0) := by decide +kernel
  exact this j (by omega)
theorem rop_2 {j : Nat} (e : tko 3 tp p t (st_tx 3).length 0 = some j) : nI 2000 + nI j + nI 5 = rop 2 (tp p) := by
  have h1 := tko_some e
  have h2 := tko_val e
  have hl : (st_tx 3).length = 2 := by decide +kernel
  rw [hl] at h1
  rw [← h2]
  have : ∀ j, j < 2 → nI 2000 + nI j + nI 5 = rop 2 ((st_tx 3).getD j 0) := by decide +kernel
  exact this j (by omega)
def kN (h : pm_H) (cs : List Int32) : Prop := mF h 24 (.int (nI cs.length)) ∧ ∃ D, h 175 = .inl (0, 80, .inl D) ∧ ∀ j, j < cs.length → cs[j]? = some (D j)
def qN (h : pm_H) (p t : Nat) (tp : Nat → Int32) (cs : List Int32) : Prop := qM h p t tp ∧ kN h cs
theorem kN_set {g : Nat} {w : Value} (hg : g ≠ 24) (k : kN h cs) : kN (mset h g w) cs := by
  obtain ⟨k1, D, k2, k3⟩ := k
  exact ⟨mF_ne hg k1, D, mset_arr (by decide) k2, k3⟩
theorem qN_16 {p' : Nat} (q : qN h p t tp cs) : qN (mset h 16 (.int (nI p'))) p' t tp cs := ⟨qM_16 q.1, kN_set (by decide) q.2⟩
theorem qN_18 {w : Value} (q : qN h p t tp cs) : qN (mset h 18 w) p t tp cs := ⟨qM_18 q.1, kN_set (by decide) q.2⟩
theorem nu_runV (ht : t ≤ 40) (hp : p ≤ t) (q : qM h p t tp) (z : dg tp p t = true) (hh : pm_run PT n fr lo 184 (0, pm_l0 [.ref 162, .int (nI 3)] 4, [], h, 198, sl) = some R) : R = (some (.int (nbr tp t 3 p 0).2), mset h 16 (.int (nI (znb tp t 3 p))), 198, sl) := by
  have e := rn_dt (F := 10) (Lo := 1000) (hd_number (fr := 10) (lo := 1000) (sl := sl) q.1.1 q.1.2.1 q.1.2.2.1 q.1.2.2.2 (by omega) (by omega) (by omega) (by omega) (d := 3) (by omega)) hh
  rw [z, nbr_z] at e
  exact e
theorem cod_runN (hl0 : cs.length < 80) (q : qN h p t tp cs) (hh : pm_run PT n fr lo 193 (0, pm_l0 [.ref 162, .int v] 2, [], h, 198, sl) = some R) : R.1 = none ∧ qN R.2.1 p t tp (cs ++ [v]) ∧ (∀ w, mF h 18 w → mF R.2.1 18 w) ∧ R.2.2 = (198, sl) := by
  obtain ⟨a1, a2, a3, a4⟩ := cod_run q.1 hh
  refine ⟨a1, ⟨a2, ?_⟩, a3, a4⟩
  obtain ⟨⟨-, a5, -⟩, k1, D, k2, k3⟩ := q
  obtain ⟨n, hh⟩ := rn_i rfl rfl rfl rfl hh
  obtain ⟨n, hh⟩ := rn_gfm rfl rfl a5 hh
  obtain ⟨n, hh⟩ := rn_i rfl rfl rfl rfl hh
  obtain ⟨n, hh⟩ := rn_gfm rfl rfl k1 hh
  obtain ⟨n, hh⟩ := rn_i rfl rfl rfl rfl hh
  have hh : pm_run PT n fr lo 193 (9, [some (.ref 162), some (.int v)], [.int v, .int (nI cs.length), .ref 175], h, 198, sl) = some R := hh
  obtain ⟨n, hh⟩ := rn_ism rfl k2 (hI_in hl0 (by decide)) (by decide) hh
  rw [nI_clamp (by omega)] at hh
  have j1 : mF (aset h 175 80 (upd D cs.length v)) 24 (.int (nI cs.length)) := mF_as (by decide) k1
  have hh : pm_run PT n fr lo 193 (10, [some (.ref 162), some (.int v)], [], aset h 175 80 (upd D cs.length v), 198, sl) = some R := hh
  obtain ⟨n, hh⟩ := rn_i rfl rfl rfl rfl hh
  obtain ⟨n, hh⟩ := rn_i rfl rfl rfl rfl hh
  obtain ⟨n, hh⟩ := rn_gfm rfl rfl j1 hh
  obtain ⟨n, hh⟩ := rn_i rfl rfl rfl rfl hh
  obtain ⟨n, hh⟩ := rn_i rfl rfl rfl rfl hh
  have hh : pm_run PT n fr lo 193 (17, [some (.ref 162), some (.int v)], [.int (nI cs.length + nI 1), .ref 162], aset h 175 80 (upd D cs.length v), 198, sl) = some R := hh
  rw [nI_add] at hh
  obtain ⟨n, hh⟩ := rn_pfm (w := .int (nI cs.length)) rfl rfl rfl (by decide) j1 hh
  have e := rn_vret rfl rfl hh
  rw [e]
  dsimp only
  refine ⟨by rw [List.length_append]; exact mF_self j1, upd D cs.length v, mset_arr (by decide) asR_self, fun j hj => ?_⟩
  rw [List.length_append] at hj
  have hj : j < cs.length + 1 := hj
  unfold upd
  by_cases z : j = cs.length
  · subst z
    rw [if_pos rfl, List.getElem?_append_right (Nat.le_refl _), Nat.sub_self]
    rfl
  · rw [if_neg z, List.getElem?_append_left (by omega)]
    exact k3 j (by omega)
def zN (R : pm_Rs) (t sl ns : Nat) (tp : Nat → Int32) (cs : List Int32) (r : Bool × Nat) (ds : List Int32) : Prop := R.1 = some (.int (cond r.1 1 0)) ∧ qM R.2.1 r.2 t tp ∧ (r.1 = true → mF R.2.1 18 (.int (nI ns)) ∧ qN R.2.1 r.2 t tp (cs ++ ds)) ∧ R.2.2 = (198, sl)
theorem zN_ok (q : qN h p t tp (cs ++ ds)) (g : mF h 18 (.int (nI ns))) (e : R = (some (.int 1), h, 198, sl)) : zN R t sl ns tp cs (true, p) ds := by
  rw [e]
  exact ⟨rfl, q.1, fun _ => ⟨g, q⟩, rfl⟩
theorem zN_no (q : qM h p t tp) (e : R = (some (.int 0), h, 198, sl)) : zN R t sl ns tp cs (false, p) ds := by
  rw [e]
  exact ⟨rfl, q, fun y => (by cases y), rfl⟩
def rN (m t : Nat) (tp : Nat → Int32) : Prop := ∀ (lv ns p n fr lo sl : Nat) (h : pm_H) (R : pm_Rs) (cs : List Int32), lv ≤ 3 → ns ≤ 4 → (4 - lv) + 4 * (4 - ns) ≤ m → p ≤ t → cs.length ≤ p → qN h p t tp cs → mF h 18 (.int (nI ns)) → pm_run PT n fr lo 195 (0, pm_l0 [.ref 162, .int (nI lv)] 4, [], h, 198, sl) = some R → zN R t sl ns tp cs (pz tp t m lv ns p) (pr tp t m lv ns p)
theorem thn_run {m ns : Nat} {tp : Nat → Int32} {cs : List Int32} (ht : t ≤ 40) (ih : rN m t tp) (hns : ns ≤ 4) (hm : 4 * (4 - ns) ≤ m) : ∀ (d p n fr lo sl : Nat) (h : pm_H) (R : pm_Rs), t - p ≤ d → p ≤ t → cs.length ≤ p → qN h p t tp cs → mF h 18 (.int (nI ns)) → pm_run PT n fr lo 194 (0, pm_l0 [.ref 162] 2, [], h, 198, sl) = some R → zN R t sl ns tp cs (zth (pz tp t m 0 (ns + 1)) tp t ns (zmi tp t 40 p)) (rthm tp t m ns p) := by
  intro d
  induction d with
  | zero =>
    intro p n fr lo sl h R hd hp hl0 q h18 hh
    obtain ⟨n, hh⟩ := rn_i rfl rfl rfl rfl hh
    obtain ⟨n, hh⟩ := rn_i rfl rfl rfl rfl hh
    have hh : pm_run PT n fr lo 194 (3, [some (.ref 162), none], [.int (nI 45), .ref 162], h, 198, sl) = some R := hh
    obtain ⟨n, fr', lo', r1, hr1, hh⟩ := rn_call (w := 0) (t := 181) rfl rfl hh
    have er := tk_run (c := 45) ht hp q.1 hr1
    subst er
    cases zb : decide (p < t ∧ tp p = nI 45) with
    | false =>
      rw [zb] at hh
      have q1 := qN_16 (p' := p + 0) q
      have g18 : mF (mset h 16 (.int (nI (p + 0)))) 18 (.int (nI ns)) := mF_ne (by decide) h18
      have hh : pm_run PT n fr lo 194 (6, [some (.ref 162), none], [.int 0], (mset h 16 (.int (nI (p + 0)))), 198, sl) = some R := hh
      generalize mset h 16 (.int (nI (p + 0))) = h1 at *
      have q1 : qN h1 p t tp cs := q1
      have hh : pm_run PT n fr lo 194 (6, [some (.ref 162), none], [.int 0], h1, 198, sl) = some R := hh
      obtain ⟨n, hh⟩ := rn_if (cc := .eq) (off := 17) (t := 23) rfl rfl hh
      have hh : pm_run PT n fr lo 194 (23, [some (.ref 162), none], [], h1, 198, sl) = some R := hh
      have ez : zmi tp t 40 p = p := by
        show cond (decide (p < t ∧ tp p = nI 45)) (zmi tp t 39 (p + 1)) p = p
        rw [zb]
        rfl
      unfold rthm
      rw [ez, Nat.sub_self, show List.replicate 0 (nI 3000) = ([] : List Int32) from rfl, List.append_nil]
      unfold zth rth
      obtain ⟨n, hh⟩ := rn_i rfl rfl rfl rfl hh
      obtain ⟨n, fr', lo', r1, hr1, hh⟩ := rn_call (w := 0) (t := 182) rfl rfl hh
      have er := ig_run ht hp q1.1 hr1
      subst er
      have hh : pm_run PT n fr lo 194 (27, [some (.ref 162), none], [.int (cond (dg tp p t) 1 0)], h1, 198, sl) = some R := hh
      obtain ⟨n, hh⟩ := rn_if (cc := .eq) (off := 14) (t := 41) rfl rfl hh
      cases zd : dg tp p t with
      | true =>
        rw [zd] at hh
        have hh : pm_run PT n fr lo 194 (30, [some (.ref 162), none], [], h1, 198, sl) = some R := hh
        obtain ⟨n, hh⟩ := rn_i rfl rfl rfl rfl hh
        obtain ⟨n, hh⟩ := rn_i rfl rfl rfl rfl hh
        obtain ⟨n, hh⟩ := rn_i rfl rfl rfl rfl hh
        have hh : pm_run PT n fr lo 194 (33, [some (.ref 162), none], [.int (nI 3), .ref 162, .ref 162], h1, 198, sl) = some R := hh
        obtain ⟨n, fr', lo', r1, hr1, hh⟩ := rn_call (w := 0) (t := 184) rfl rfl hh
        have er := nu_runV ht hp q1.1 zd hr1
        subst er
        have q2 := qN_16 (p' := znb tp t 3 p) q1
        have g2 : mF (mset h1 16 (.int (nI (znb tp t 3 p)))) 18 (.int (nI ns)) := mF_ne (by decide) g18
        have hh : pm_run PT n fr lo 194 (36, [some (.ref 162), none], [.int (nbr tp t 3 p 0).2, .ref 162], (mset h1 16 (.int (nI (znb tp t 3 p)))), 198, sl) = some R := hh
        generalize mset h1 16 (.int (nI (znb tp t 3 p))) = h2 at *
        have hh : pm_run PT n fr lo 194 (36, [some (.ref 162), none], [.int (nbr tp t 3 p 0).2, .ref 162], h2, 198, sl) = some R := hh
        obtain ⟨n, fr', lo', r1, hr1, hh⟩ := rn_call (w := 0) (t := 193) rfl rfl hh
        obtain ⟨b1, b2, b3, b4⟩ := cod_runN (by omega) q2 hr1
        obtain ⟨rv, h3, s3⟩ := r1
        dsimp only at b1 b2 b3 b4
        subst b1
        subst b4
        have hh : pm_run PT n fr lo 194 (39, [some (.ref 162), none], [], h3, 198, sl) = some R := hh
        obtain ⟨n, hh⟩ := rn_i rfl rfl rfl rfl hh
        exact zN_ok b2 (b3 _ g2) (rn_ret rfl (Or.inr rfl) hh).2
      | false =>
        rw [zd] at hh
        have hh : pm_run PT n fr lo 194 (41, [some (.ref 162), none], [], h1, 198, sl) = some R := hh
        obtain ⟨n, hh⟩ := rn_i rfl rfl rfl rfl hh
        obtain ⟨n, hh⟩ := rn_i rfl rfl rfl rfl hh
        have hh : pm_run PT n fr lo 194 (44, [some (.ref 162), none], [.retAddr 0, .ref 162], h1, 198, sl) = some R := hh
        obtain ⟨n, fr', lo', r1, hr1, hh⟩ := rn_call (w := 0) (t := 183) rfl rfl hh
        have er := to_run (i := 0) (by decide) ht hp q1.1 hr1
        have el : (tko 0 tp p t (st_tx 0).length 0).isSome = (decide (p < t) && zlet (tp p)) := by
          by_cases y : p < t
          · rw [decide_eq_true y, Bool.true_and]
            exact tk_let y
          · rw [decide_eq_false y, Bool.false_and]
            exact tk_no y
        rw [← el]
        cases zt : tko 0 tp p t (st_tx 0).length 0 with
        | some j =>
          have hj := tko_some zt
          rw [zt] at er
          have er : r1 = (some (.int (nI j)), mset h1 16 (.int (nI (p + 1))), 198, sl) := er
          subst er
          have hj2 : j < 7 := by
            have : (st_tx 0).length = 7 := by decide +kernel
            omega
          have q2 := qN_16 (p' := p + 1) q1
          have g2 : mF (mset h1 16 (.int (nI (p + 1)))) 18 (.int (nI ns)) := mF_ne (by decide) g18
          have hh : pm_run PT n fr lo 194 (47, [some (.ref 162), none], [.int (nI j)], (mset h1 16 (.int (nI (p + 1)))), 198, sl) = some R := hh
          generalize mset h1 16 (.int (nI (p + 1))) = h2 at *
          have hh : pm_run PT n fr lo 194 (47, [some (.ref 162), none], [.int (nI j)], h2, 198, sl) = some R := hh
          obtain ⟨n, hh⟩ := rn_i rfl rfl rfl rfl hh
          obtain ⟨n, hh⟩ := rn_i rfl rfl rfl rfl hh
          have hh : pm_run PT n fr lo 194 (49, [some (.ref 162), some (.int (nI j))], [.int (nI j)], h2, 198, sl) = some R := hh
          obtain ⟨n, hh⟩ := rn_if (cc := .lt) (off := 14) (t := 63) rfl rfl hh
          rw [lt0_val (by rw [nI_toInt (by omega)]; omega)] at hh
          have hh : pm_run PT n fr lo 194 (52, [some (.ref 162), some (.int (nI j))], [], h2, 198, sl) = some R := hh
          obtain ⟨n, hh⟩ := rn_i rfl rfl rfl rfl hh
          obtain ⟨n, hh⟩ := rn_i rfl rfl rfl rfl hh
          obtain ⟨n, hh⟩ := rn_i rfl rfl rfl rfl hh
          obtain ⟨n, hh⟩ := rn_i rfl rfl rfl rfl hh
          have hh : pm_run PT n fr lo 194 (58, [some (.ref 162), some (.int (nI j))], [.int (1000 + (nI j)), .ref 162], h2, 198, sl) = some R := hh
          obtain ⟨n, fr', lo', r1, hr1, hh⟩ := rn_call (w := 0) (t := 193) rfl rfl hh
          obtain ⟨b1, b2, b3, b4⟩ := cod_runN (by omega) q2 hr1
          obtain ⟨rv, h3, s3⟩ := r1
          dsimp only at b1 b2 b3 b4
          subst b1
          subst b4
          have hh : pm_run PT n fr lo 194 (61, [some (.ref 162), some (.int (nI j))], [], h3, 198, sl) = some R := hh
          obtain ⟨n, hh⟩ := rn_i rfl rfl rfl rfl hh
          rw [show (1000 : Int32) + nI j = rlt (tp p) from rlt_of zt] at b2
          exact zN_ok b2 (b3 _ g2) (rn_ret rfl (Or.inr rfl) hh).2
        | none =>
          rw [zt] at er
          have er : r1 = (some (.int (-1)), h1, 198, sl) := er
          subst er
          have hh : pm_run PT n fr lo 194 (47, [some (.ref 162), none], [.int (-1)], h1, 198, sl) = some R := hh
          obtain ⟨n, hh⟩ := rn_i rfl rfl rfl rfl hh
          obtain ⟨n, hh⟩ := rn_i rfl rfl rfl rfl hh
          have hh : pm_run PT n fr lo 194 (49, [some (.ref 162), some (.int (-1))], [.int (-1)], h1, 198, sl) = some R := hh
          obtain ⟨n, hh⟩ := rn_if (cc := .lt) (off := 14) (t := 63) rfl rfl hh
          have hh : pm_run PT n fr lo 194 (63, [some (.ref 162), some (.int (-1))], [], h1, 198, sl) = some R := hh
          have no : ∀ (n : Nat) (h2 : pm_H) (ds : List Int32), qM h2 p t tp → pm_run PT n fr lo 194 (80, [some (.ref 162), some (.int (-1))], [], h2, 198, sl) = some R → zN R t sl ns tp cs (false, p) ds := by
            intro n h2 ds q2 hh
            obtain ⟨n, hh⟩ := rn_i rfl rfl rfl rfl hh
            exact zN_no q2 (rn_ret rfl (Or.inr rfl) hh).2
          obtain ⟨n, hh⟩ := rn_i rfl rfl rfl rfl hh
          obtain ⟨n, hh⟩ := rn_gfm rfl rfl g18 hh
          obtain ⟨n, hh⟩ := rn_i rfl rfl rfl rfl hh
          have hh : pm_run PT n fr lo 194 (68, [some (.ref 162), some (.int (-1))], [.int (nI 4), .int (nI ns)], h1, 198, sl) = some R := hh
          obtain ⟨n, hh⟩ := rn_icmp (cc := .eq) (off := 12) (t := 80) rfl rfl hh
          rw [hI_eq (by omega) (by omega)] at hh
          by_cases z4 : ns = 4
          · rw [decide_eq_true z4] at hh
            rw [decide_eq_false (show ¬ ns < 4 by omega), Bool.and_false]
            exact no n h1 _ q1.1 hh
          · rw [decide_eq_false z4] at hh
            rw [decide_eq_true (show ns < 4 by omega), Bool.and_true]
            have hh : pm_run PT n fr lo 194 (71, [some (.ref 162), some (.int (-1))], [], h1, 198, sl) = some R := hh
            obtain ⟨n, hh⟩ := rn_i rfl rfl rfl rfl hh
            obtain ⟨n, hh⟩ := rn_i rfl rfl rfl rfl hh
            have hh : pm_run PT n fr lo 194 (74, [some (.ref 162), some (.int (-1))], [.int (nI 40), .ref 162], h1, 198, sl) = some R := hh
            obtain ⟨n, fr', lo', r1, hr1, hh⟩ := rn_call (w := 0) (t := 181) rfl rfl hh
            have er := tk_run (c := 40) ht hp q1.1 hr1
            subst er
            cases zo : decide (p < t ∧ tp p = nI 40) with
            | false =>
              rw [zo] at hh
              have q2 := qN_16 (p' := p + 0) q1
              have hh : pm_run PT n fr lo 194 (77, [some (.ref 162), some (.int (-1))], [.int 0], mset h1 16 (.int (nI (p + 0))), 198, sl) = some R := hh
              obtain ⟨n, hh⟩ := rn_i rfl rfl rfl rfl hh
              exact no n _ _ q2.1 hh
            | true =>
              rw [zo] at hh
              have hl := (of_decide_eq_true zo).1
              have q2 := qN_16 (p' := p + 1) q1
              have g2 : mF (mset h1 16 (.int (nI (p + 1)))) 18 (.int (nI ns)) := mF_ne (by decide) g18
              have hh : pm_run PT n fr lo 194 (77, [some (.ref 162), some (.int (-1))], [.int 1], (mset h1 16 (.int (nI (p + 1)))), 198, sl) = some R := hh
              generalize mset h1 16 (.int (nI (p + 1))) = h2 at *
              have hh : pm_run PT n fr lo 194 (77, [some (.ref 162), some (.int (-1))], [.int 1], h2, 198, sl) = some R := hh
              obtain ⟨n, hh⟩ := rn_if (cc := .ne) (off := 5) (t := 82) rfl rfl hh
              have hh : pm_run PT n fr lo 194 (82, [some (.ref 162), some (.int (-1))], [], h2, 198, sl) = some R := hh
              obtain ⟨n, hh⟩ := rn_i rfl rfl rfl rfl hh
              obtain ⟨n, hh⟩ := rn_i rfl rfl rfl rfl hh
              obtain ⟨n, hh⟩ := rn_gfm rfl rfl g2 hh
              obtain ⟨n, hh⟩ := rn_i rfl rfl rfl rfl hh
              obtain ⟨n, hh⟩ := rn_i rfl rfl rfl rfl hh
              have hh : pm_run PT n fr lo 194 (89, [some (.ref 162), some (.int (-1))], [.int ((nI ns) + 1), .ref 162], h2, 198, sl) = some R := hh
              obtain ⟨n, hh⟩ := rn_pfm (w := .int (nI ns)) rfl rfl rfl (by decide) g2 hh
              have hh : pm_run PT n fr lo 194 (92, [some (.ref 162), some (.int (-1))], [], (mset h2 18 (.int (nI ns + Int32.ofInt 1))), 198, sl) = some R := hh
              rw [show nI ns + Int32.ofInt 1 = nI (ns + 1) from (Int32.ofNat_add ns 1).symm] at hh
              have q3 := qN_18 (w := .int (nI (ns + 1))) q2
              have g3 : mF (mset h2 18 (.int (nI (ns + 1)))) 18 (.int (nI (ns + 1))) := mF_self g2
              generalize mset h2 18 (.int (nI (ns + 1))) = h3 at *
              have hh : pm_run PT n fr lo 194 (92, [some (.ref 162), some (.int (-1))], [], h3, 198, sl) = some R := hh
              obtain ⟨n, hh⟩ := rn_i rfl rfl rfl rfl hh
              obtain ⟨n, hh⟩ := rn_i rfl rfl rfl rfl hh
              have hh : pm_run PT n fr lo 194 (94, [some (.ref 162), some (.int (-1))], [.int (nI 0), .ref 162], h3, 198, sl) = some R := hh
              obtain ⟨n, fr', lo', r1, hr1, hh⟩ := rn_call (w := 0) (t := 195) rfl rfl hh
              obtain ⟨b1, b2, b3, b4⟩ := ih 0 (ns + 1) (p + 1) _ _ _ _ _ _ _ (by omega) (by omega) (by omega) (by omega) (by omega) q3 g3 hr1
              obtain ⟨rv, h4, s4⟩ := r1
              dsimp only at b1 b2 b3 b4
              subst b1
              subst b4
              have hle := pz_le (f := tp) (t := t) m 0 (ns + 1) (p + 1) (by omega)
              have hh : pm_run PT n fr lo 194 (97, [some (.ref 162), some (.int (-1))], [.int (cond (pz tp t m 0 (ns + 1) (p + 1)).1 1 0)], h4, 198, sl) = some R := hh
              generalize pz tp t m 0 (ns + 1) (p + 1) = r at *
              obtain ⟨rb, rp⟩ := r
              dsimp only at b2 b3 hle hh ⊢
              have hh : pm_run PT n fr lo 194 (97, [some (.ref 162), some (.int (-1))], [.int (cond rb 1 0)], h4, 198, sl) = some R := hh
              obtain ⟨n, hh⟩ := rn_if (cc := .eq) (off := 12) (t := 109) rfl rfl hh
              have no2 : ∀ (n : Nat) (h5 : pm_H) (ds : List Int32), qM h5 rp t tp → pm_run PT n fr lo 194 (109, [some (.ref 162), some (.int (-1))], [], h5, 198, sl) = some R → zN R t sl ns tp cs (false, rp) ds := by
                intro n h5 ds q5 hh
                obtain ⟨n, hh⟩ := rn_i rfl rfl rfl rfl hh
                exact zN_no q5 (rn_ret rfl (Or.inr rfl) hh).2
              cases rb with
              | false => exact no2 n h4 _ b2 hh
              | true =>
                obtain ⟨g4, b5⟩ := b3 rfl
                have hh : pm_run PT n fr lo 194 (100, [some (.ref 162), some (.int (-1))], [], h4, 198, sl) = some R := hh
                obtain ⟨n, hh⟩ := rn_i rfl rfl rfl rfl hh
                obtain ⟨n, hh⟩ := rn_i rfl rfl rfl rfl hh
                have hh : pm_run PT n fr lo 194 (103, [some (.ref 162), some (.int (-1))], [.int (nI 41), .ref 162], h4, 198, sl) = some R := hh
                obtain ⟨n, fr', lo', r1, hr1, hh⟩ := rn_call (w := 0) (t := 181) rfl rfl hh
                have er := tk_run (c := 41) ht hle b5.1 hr1
                subst er
                cases zc : decide (rp < t ∧ tp rp = nI 41) with
                | false =>
                  rw [zc] at hh
                  have q5 := qN_16 (p' := rp + 0) b5
                  have hh : pm_run PT n fr lo 194 (106, [some (.ref 162), some (.int (-1))], [.int 0], mset h4 16 (.int (nI (rp + 0))), 198, sl) = some R := hh
                  obtain ⟨n, hh⟩ := rn_i rfl rfl rfl rfl hh
                  exact no2 n _ _ q5.1 hh
                | true =>
                  rw [zc] at hh
                  have q5 := qN_16 (p' := rp + 1) b5
                  have g5 : mF (mset h4 16 (.int (nI (rp + 1)))) 18 (.int (nI (ns + 1))) := mF_ne (by decide) g4
                  have hh : pm_run PT n fr lo 194 (106, [some (.ref 162), some (.int (-1))], [.int 1], (mset h4 16 (.int (nI (rp + 1)))), 198, sl) = some R := hh
                  generalize mset h4 16 (.int (nI (rp + 1))) = h5 at *
                  have hh : pm_run PT n fr lo 194 (106, [some (.ref 162), some (.int (-1))], [.int 1], h5, 198, sl) = some R := hh
                  obtain ⟨n, hh⟩ := rn_if (cc := .ne) (off := 5) (t := 111) rfl rfl hh
                  have hh : pm_run PT n fr lo 194 (111, [some (.ref 162), some (.int (-1))], [], h5, 198, sl) = some R := hh
                  obtain ⟨n, hh⟩ := rn_i rfl rfl rfl rfl hh
                  obtain ⟨n, hh⟩ := rn_i rfl rfl rfl rfl hh
                  obtain ⟨n, hh⟩ := rn_gfm rfl rfl g5 hh
                  obtain ⟨n, hh⟩ := rn_i rfl rfl rfl rfl hh
                  obtain ⟨n, hh⟩ := rn_i rfl rfl rfl rfl hh
                  have hh : pm_run PT n fr lo 194 (118, [some (.ref 162), some (.int (-1))], [.int ((nI (ns + 1)) - 1), .ref 162], h5, 198, sl) = some R := hh
                  rw [show nI (ns + 1) - 1 = nI ns from nI_pr1 ns] at hh
                  obtain ⟨n, hh⟩ := rn_pfm (w := .int (nI (ns + 1))) rfl rfl rfl (by decide) g5 hh
                  have q6 := qN_18 (w := .int (nI ns)) q5
                  have g6 : mF (mset h5 18 (.int (nI ns))) 18 (.int (nI ns)) := mF_self g5
                  obtain ⟨n, hh⟩ := rn_i rfl rfl rfl rfl hh
                  exact zN_ok q6 g6 (rn_ret rfl (Or.inr rfl) hh).2
    | true =>
      have hl := (of_decide_eq_true zb).1
      omega
  | succ d ihd =>
    intro p n fr lo sl h R hd hp hl0 q h18 hh
    obtain ⟨n, hh⟩ := rn_i rfl rfl rfl rfl hh
    obtain ⟨n, hh⟩ := rn_i rfl rfl rfl rfl hh
    have hh : pm_run PT n fr lo 194 (3, [some (.ref 162), none], [.int (nI 45), .ref 162], h, 198, sl) = some R := hh
    obtain ⟨n, fr', lo', r1, hr1, hh⟩ := rn_call (w := 0) (t := 181) rfl rfl hh
    have er := tk_run (c := 45) ht hp q.1 hr1
    subst er
    cases zb : decide (p < t ∧ tp p = nI 45) with
    | false =>
      rw [zb] at hh
      have q1 := qN_16 (p' := p + 0) q
      have g18 : mF (mset h 16 (.int (nI (p + 0)))) 18 (.int (nI ns)) := mF_ne (by decide) h18
      have hh : pm_run PT n fr lo 194 (6, [some (.ref 162), none], [.int 0], (mset h 16 (.int (nI (p + 0)))), 198, sl) = some R := hh
      generalize mset h 16 (.int (nI (p + 0))) = h1 at *
      have q1 : qN h1 p t tp cs := q1
      have hh : pm_run PT n fr lo 194 (6, [some (.ref 162), none], [.int 0], h1, 198, sl) = some R := hh
      obtain ⟨n, hh⟩ := rn_if (cc := .eq) (off := 17) (t := 23) rfl rfl hh
      have hh : pm_run PT n fr lo 194 (23, [some (.ref 162), none], [], h1, 198, sl) = some R := hh
      have ez : zmi tp t 40 p = p := by
        show cond (decide (p < t ∧ tp p = nI 45)) (zmi tp t 39 (p + 1)) p = p
        rw [zb]
        rfl
      unfold rthm
      rw [ez, Nat.sub_self, show List.replicate 0 (nI 3000) = ([] : List Int32) from rfl, List.append_nil]
      unfold zth rth
      obtain ⟨n, hh⟩ := rn_i rfl rfl rfl rfl hh
      obtain ⟨n, fr', lo', r1, hr1, hh⟩ := rn_call (w := 0) (t := 182) rfl rfl hh
      have er := ig_run ht hp q1.1 hr1
      subst er
      have hh : pm_run PT n fr lo 194 (27, [some (.ref 162), none], [.int (cond (dg tp p t) 1 0)], h1, 198, sl) = some R := hh
      obtain ⟨n, hh⟩ := rn_if (cc := .eq) (off := 14) (t := 41) rfl rfl hh
      cases zd : dg tp p t with
      | true =>
        rw [zd] at hh
        have hh : pm_run PT n fr lo 194 (30, [some (.ref 162), none], [], h1, 198, sl) = some R := hh
        obtain ⟨n, hh⟩ := rn_i rfl rfl rfl rfl hh
        obtain ⟨n, hh⟩ := rn_i rfl rfl rfl rfl hh
        obtain ⟨n, hh⟩ := rn_i rfl rfl rfl rfl hh
        have hh : pm_run PT n fr lo 194 (33, [some (.ref 162), none], [.int (nI 3), .ref 162, .ref 162], h1, 198, sl) = some R := hh
        obtain ⟨n, fr', lo', r1, hr1, hh⟩ := rn_call (w := 0) (t := 184) rfl rfl hh
        have er := nu_runV ht hp q1.1 zd hr1
        subst er
        have q2 := qN_16 (p' := znb tp t 3 p) q1
        have g2 : mF (mset h1 16 (.int (nI (znb tp t 3 p)))) 18 (.int (nI ns)) := mF_ne (by decide) g18
        have hh : pm_run PT n fr lo 194 (36, [some (.ref 162), none], [.int (nbr tp t 3 p 0).2, .ref 162], (mset h1 16 (.int (nI (znb tp t 3 p)))), 198, sl) = some R := hh
        generalize mset h1 16 (.int (nI (znb tp t 3 p))) = h2 at *
        have hh : pm_run PT n fr lo 194 (36, [some (.ref 162), none], [.int (nbr tp t 3 p 0).2, .ref 162], h2, 198, sl) = some R := hh
        obtain ⟨n, fr', lo', r1, hr1, hh⟩ := rn_call (w := 0) (t := 193) rfl rfl hh
        obtain ⟨b1, b2, b3, b4⟩ := cod_runN (by omega) q2 hr1
        obtain ⟨rv, h3, s3⟩ := r1
        dsimp only at b1 b2 b3 b4
        subst b1
        subst b4
        have hh : pm_run PT n fr lo 194 (39, [some (.ref 162), none], [], h3, 198, sl) = some R := hh
        obtain ⟨n, hh⟩ := rn_i rfl rfl rfl rfl hh
        exact zN_ok b2 (b3 _ g2) (rn_ret rfl (Or.inr rfl) hh).2
      | false =>
        rw [zd] at hh
        have hh : pm_run PT n fr lo 194 (41, [some (.ref 162), none], [], h1, 198, sl) = some R := hh
        obtain ⟨n, hh⟩ := rn_i rfl rfl rfl rfl hh
        obtain ⟨n, hh⟩ := rn_i rfl rfl rfl rfl hh
        have hh : pm_run PT n fr lo 194 (44, [some (.ref 162), none], [.retAddr 0, .ref 162], h1, 198, sl) = some R := hh
        obtain ⟨n, fr', lo', r1, hr1, hh⟩ := rn_call (w := 0) (t := 183) rfl rfl hh
        have er := to_run (i := 0) (by decide) ht hp q1.1 hr1
        have el : (tko 0 tp p t (st_tx 0).length 0).isSome = (decide (p < t) && zlet (tp p)) := by
          by_cases y : p < t
          · rw [decide_eq_true y, Bool.true_and]
            exact tk_let y
          · rw [decide_eq_false y, Bool.false_and]
            exact tk_no y
        rw [← el]
        cases zt : tko 0 tp p t (st_tx 0).length 0 with
        | some j =>
          have hj := tko_some zt
          rw [zt] at er
          have er : r1 = (some (.int (nI j)), mset h1 16 (.int (nI (p + 1))), 198, sl) := er
          subst er
          have hj2 : j < 7 := by
            have : (st_tx 0).length = 7 := by decide +kernel
            omega
          have q2 := qN_16 (p' := p + 1) q1
          have g2 : mF (mset h1 16 (.int (nI (p + 1)))) 18 (.int (nI ns)) := mF_ne (by decide) g18
          have hh : pm_run PT n fr lo 194 (47, [some (.ref 162), none], [.int (nI j)], (mset h1 16 (.int (nI (p + 1)))), 198, sl) = some R := hh
          generalize mset h1 16 (.int (nI (p + 1))) = h2 at *
          have hh : pm_run PT n fr lo 194 (47, [some (.ref 162), none], [.int (nI j)], h2, 198, sl) = some R := hh
          obtain ⟨n, hh⟩ := rn_i rfl rfl rfl rfl hh
          obtain ⟨n, hh⟩ := rn_i rfl rfl rfl rfl hh
          have hh : pm_run PT n fr lo 194 (49, [some (.ref 162), some (.int (nI j))], [.int (nI j)], h2, 198, sl) = some R := hh
          obtain ⟨n, hh⟩ := rn_if (cc := .lt) (off := 14) (t := 63) rfl rfl hh
          rw [lt0_val (by rw [nI_toInt (by omega)]; omega)] at hh
          have hh : pm_run PT n fr lo 194 (52, [some (.ref 162), some (.int (nI j))], [], h2, 198, sl) = some R := hh
          obtain ⟨n, hh⟩ := rn_i rfl rfl rfl rfl hh
          obtain ⟨n, hh⟩ := rn_i rfl rfl rfl rfl hh
          obtain ⟨n, hh⟩ := rn_i rfl rfl rfl rfl hh
          obtain ⟨n, hh⟩ := rn_i rfl rfl rfl rfl hh
          have hh : pm_run PT n fr lo 194 (58, [some (.ref 162), some (.int (nI j))], [.int (1000 + (nI j)), .ref 162], h2, 198, sl) = some R := hh
          obtain ⟨n, fr', lo', r1, hr1, hh⟩ := rn_call (w := 0) (t := 193) rfl rfl hh
          obtain ⟨b1, b2, b3, b4⟩ := cod_runN (by omega) q2 hr1
          obtain ⟨rv, h3, s3⟩ := r1
          dsimp only at b1 b2 b3 b4
          subst b1
          subst b4
          have hh : pm_run PT n fr lo 194 (61, [some (.ref 162), some (.int (nI j))], [], h3, 198, sl) = some R := hh
          obtain ⟨n, hh⟩ := rn_i rfl rfl rfl rfl hh
          rw [show (1000 : Int32) + nI j = rlt (tp p) from rlt_of zt] at b2
          exact zN_ok b2 (b3 _ g2) (rn_ret rfl (Or.inr rfl) hh).2
        | none =>
          rw [zt] at er
          have er : r1 = (some (.int (-1)), h1, 198, sl) := er
          subst er
          have hh : pm_run PT n fr lo 194 (47, [some (.ref 162), none], [.int (-1)], h1, 198, sl) = some R := hh
          obtain ⟨n, hh⟩ := rn_i rfl rfl rfl rfl hh
          obtain ⟨n, hh⟩ := rn_i rfl rfl rfl rfl hh
          have hh : pm_run PT n fr lo 194 (49, [some (.ref 162), some (.int (-1))], [.int (-1)], h1, 198, sl) = some R := hh
          obtain ⟨n, hh⟩ := rn_if (cc := .lt) (off := 14) (t := 63) rfl rfl hh
          have hh : pm_run PT n fr lo 194 (63, [some (.ref 162), some (.int (-1))], [], h1, 198, sl) = some R := hh
          have no : ∀ (n : Nat) (h2 : pm_H) (ds : List Int32), qM h2 p t tp → pm_run PT n fr lo 194 (80, [some (.ref 162), some (.int (-1))], [], h2, 198, sl) = some R → zN R t sl ns tp cs (false, p) ds := by
            intro n h2 ds q2 hh
            obtain ⟨n, hh⟩ := rn_i rfl rfl rfl rfl hh
            exact zN_no q2 (rn_ret rfl (Or.inr rfl) hh).2
          obtain ⟨n, hh⟩ := rn_i rfl rfl rfl rfl hh
          obtain ⟨n, hh⟩ := rn_gfm rfl rfl g18 hh
          obtain ⟨n, hh⟩ := rn_i rfl rfl rfl rfl hh
          have hh : pm_run PT n fr lo 194 (68, [some (.ref 162), some (.int (-1))], [.int (nI 4), .int (nI ns)], h1, 198, sl) = some R := hh
          obtain ⟨n, hh⟩ := rn_icmp (cc := .eq) (off := 12) (t := 80) rfl rfl hh
          rw [hI_eq (by omega) (by omega)] at hh
          by_cases z4 : ns = 4
          · rw [decide_eq_true z4] at hh
            rw [decide_eq_false (show ¬ ns < 4 by omega), Bool.and_false]
            exact no n h1 _ q1.1 hh
          · rw [decide_eq_false z4] at hh
            rw [decide_eq_true (show ns < 4 by omega), Bool.and_true]
            have hh : pm_run PT n fr lo 194 (71, [some (.ref 162), some (.int (-1))], [], h1, 198, sl) = some R := hh
            obtain ⟨n, hh⟩ := rn_i rfl rfl rfl rfl hh
            obtain ⟨n, hh⟩ := rn_i rfl rfl rfl rfl hh
            have hh : pm_run PT n fr lo 194 (74, [some (.ref 162), some (.int (-1))], [.int (nI 40), .ref 162], h1, 198, sl) = some R := hh
            obtain ⟨n, fr', lo', r1, hr1, hh⟩ := rn_call (w := 0) (t := 181) rfl rfl hh
            have er := tk_run (c := 40) ht hp q1.1 hr1
            subst er
            cases zo : decide (p < t ∧ tp p = nI 40) with
            | false =>
              rw [zo] at hh
              have q2 := qN_16 (p' := p + 0) q1
              have hh : pm_run PT n fr lo 194 (77, [some (.ref 162), some (.int (-1))], [.int 0], mset h1 16 (.int (nI (p + 0))), 198, sl) = some R := hh
              obtain ⟨n, hh⟩ := rn_i rfl rfl rfl rfl hh
              exact no n _ _ q2.1 hh
            | true =>
              rw [zo] at hh
              have hl := (of_decide_eq_true zo).1
              have q2 := qN_16 (p' := p + 1) q1
              have g2 : mF (mset h1 16 (.int (nI (p + 1)))) 18 (.int (nI ns)) := mF_ne (by decide) g18
              have hh : pm_run PT n fr lo 194 (77, [some (.ref 162), some (.int (-1))], [.int 1], (mset h1 16 (.int (nI (p + 1)))), 198, sl) = some R := hh
              generalize mset h1 16 (.int (nI (p + 1))) = h2 at *
              have hh : pm_run PT n fr lo 194 (77, [some (.ref 162), some (.int (-1))], [.int 1], h2, 198, sl) = some R := hh
              obtain ⟨n, hh⟩ := rn_if (cc := .ne) (off := 5) (t := 82) rfl rfl hh
              have hh : pm_run PT n fr lo 194 (82, [some (.ref 162), some (.int (-1))], [], h2, 198, sl) = some R := hh
              obtain ⟨n, hh⟩ := rn_i rfl rfl rfl rfl hh
              obtain ⟨n, hh⟩ := rn_i rfl rfl rfl rfl hh
              obtain ⟨n, hh⟩ := rn_gfm rfl rfl g2 hh
              obtain ⟨n, hh⟩ := rn_i rfl rfl rfl rfl hh
              obtain ⟨n, hh⟩ := rn_i rfl rfl rfl rfl hh
              have hh : pm_run PT n fr lo 194 (89, [some (.ref 162), some (.int (-1))], [.int ((nI ns) + 1), .ref 162], h2, 198, sl) = some R := hh
              obtain ⟨n, hh⟩ := rn_pfm (w := .int (nI ns)) rfl rfl rfl (by decide) g2 hh
              have hh : pm_run PT n fr lo 194 (92, [some (.ref 162), some (.int (-1))], [], (mset h2 18 (.int (nI ns + Int32.ofInt 1))), 198, sl) = some R := hh
              rw [show nI ns + Int32.ofInt 1 = nI (ns + 1) from (Int32.ofNat_add ns 1).symm] at hh
              have q3 := qN_18 (w := .int (nI (ns + 1))) q2
              have g3 : mF (mset h2 18 (.int (nI (ns + 1)))) 18 (.int (nI (ns + 1))) := mF_self g2
              generalize mset h2 18 (.int (nI (ns + 1))) = h3 at *
              have hh : pm_run PT n fr lo 194 (92, [some (.ref 162), some (.int (-1))], [], h3, 198, sl) = some R := hh
              obtain ⟨n, hh⟩ := rn_i rfl rfl rfl rfl hh
              obtain ⟨n, hh⟩ := rn_i rfl rfl rfl rfl hh
              have hh : pm_run PT n fr lo 194 (94, [some (.ref 162), some (.int (-1))], [.int (nI 0), .ref 162], h3, 198, sl) = some R := hh
              obtain ⟨n, fr', lo', r1, hr1, hh⟩ := rn_call (w := 0) (t := 195) rfl rfl hh
              obtain ⟨b1, b2, b3, b4⟩ := ih 0 (ns + 1) (p + 1) _ _ _ _ _ _ _ (by omega) (by omega) (by omega) (by omega) (by omega) q3 g3 hr1
              obtain ⟨rv, h4, s4⟩ := r1
              dsimp only at b1 b2 b3 b4
              subst b1
              subst b4
              have hle := pz_le (f := tp) (t := t) m 0 (ns + 1) (p + 1) (by omega)
              have hh : pm_run PT n fr lo 194 (97, [some (.ref 162), some (.int (-1))], [.int (cond (pz tp t m 0 (ns + 1) (p + 1)).1 1 0)], h4, 198, sl) = some R := hh
              generalize pz tp t m 0 (ns + 1) (p + 1) = r at *
              obtain ⟨rb, rp⟩ := r
              dsimp only at b2 b3 hle hh ⊢
              have hh : pm_run PT n fr lo 194 (97, [some (.ref 162), some (.int (-1))], [.int (cond rb 1 0)], h4, 198, sl) = some R := hh
              obtain ⟨n, hh⟩ := rn_if (cc := .eq) (off := 12) (t := 109) rfl rfl hh
              have no2 : ∀ (n : Nat) (h5 : pm_H) (ds : List Int32), qM h5 rp t tp → pm_run PT n fr lo 194 (109, [some (.ref 162), some (.int (-1))], [], h5, 198, sl) = some R → zN R t sl ns tp cs (false, rp) ds := by
                intro n h5 ds q5 hh
                obtain ⟨n, hh⟩ := rn_i rfl rfl rfl rfl hh
                exact zN_no q5 (rn_ret rfl (Or.inr rfl) hh).2
              cases rb with
              | false => exact no2 n h4 _ b2 hh
              | true =>
                obtain ⟨g4, b5⟩ := b3 rfl
                have hh : pm_run PT n fr lo 194 (100, [some (.ref 162), some (.int (-1))], [], h4, 198, sl) = some R := hh
                obtain ⟨n, hh⟩ := rn_i rfl rfl rfl rfl hh
                obtain ⟨n, hh⟩ := rn_i rfl rfl rfl rfl hh
                have hh : pm_run PT n fr lo 194 (103, [some (.ref 162), some (.int (-1))], [.int (nI 41), .ref 162], h4, 198, sl) = some R := hh
                obtain ⟨n, fr', lo', r1, hr1, hh⟩ := rn_call (w := 0) (t := 181) rfl rfl hh
                have er := tk_run (c := 41) ht hle b5.1 hr1
                subst er
                cases zc : decide (rp < t ∧ tp rp = nI 41) with
                | false =>
                  rw [zc] at hh
                  have q5 := qN_16 (p' := rp + 0) b5
                  have hh : pm_run PT n fr lo 194 (106, [some (.ref 162), some (.int (-1))], [.int 0], mset h4 16 (.int (nI (rp + 0))), 198, sl) = some R := hh
                  obtain ⟨n, hh⟩ := rn_i rfl rfl rfl rfl hh
                  exact no2 n _ _ q5.1 hh
                | true =>
                  rw [zc] at hh
                  have q5 := qN_16 (p' := rp + 1) b5
                  have g5 : mF (mset h4 16 (.int (nI (rp + 1)))) 18 (.int (nI (ns + 1))) := mF_ne (by decide) g4
                  have hh : pm_run PT n fr lo 194 (106, [some (.ref 162), some (.int (-1))], [.int 1], (mset h4 16 (.int (nI (rp + 1)))), 198, sl) = some R := hh
                  generalize mset h4 16 (.int (nI (rp + 1))) = h5 at *
                  have hh : pm_run PT n fr lo 194 (106, [some (.ref 162), some (.int (-1))], [.int 1], h5, 198, sl) = some R := hh
                  obtain ⟨n, hh⟩ := rn_if (cc := .ne) (off := 5) (t := 111) rfl rfl hh
                  have hh : pm_run PT n fr lo 194 (111, [some (.ref 162), some (.int (-1))], [], h5, 198, sl) = some R := hh
                  obtain ⟨n, hh⟩ := rn_i rfl rfl rfl rfl hh
                  obtain ⟨n, hh⟩ := rn_i rfl rfl rfl rfl hh
                  obtain ⟨n, hh⟩ := rn_gfm rfl rfl g5 hh
                  obtain ⟨n, hh⟩ := rn_i rfl rfl rfl rfl hh
                  obtain ⟨n, hh⟩ := rn_i rfl rfl rfl rfl hh
                  have hh : pm_run PT n fr lo 194 (118, [some (.ref 162), some (.int (-1))], [.int ((nI (ns + 1)) - 1), .ref 162], h5, 198, sl) = some R := hh
                  rw [show nI (ns + 1) - 1 = nI ns from nI_pr1 ns] at hh
                  obtain ⟨n, hh⟩ := rn_pfm (w := .int (nI (ns + 1))) rfl rfl rfl (by decide) g5 hh
                  have q6 := qN_18 (w := .int (nI ns)) q5
                  have g6 : mF (mset h5 18 (.int (nI ns))) 18 (.int (nI ns)) := mF_self g5
                  obtain ⟨n, hh⟩ := rn_i rfl rfl rfl rfl hh
                  exact zN_ok q6 g6 (rn_ret rfl (Or.inr rfl) hh).2
    | true =>
      rw [zb] at hh
      have hl := (of_decide_eq_true zb).1
      have q1 := qN_16 (p' := p + 1) q
      have g18 : mF (mset h 16 (.int (nI (p + 1)))) 18 (.int (nI ns)) := mF_ne (by decide) h18
      have hh : pm_run PT n fr lo 194 (6, [some (.ref 162), none], [.int 1], (mset h 16 (.int (nI (p + 1)))), 198, sl) = some R := hh
      generalize mset h 16 (.int (nI (p + 1))) = h1 at *
      have hh : pm_run PT n fr lo 194 (6, [some (.ref 162), none], [.int 1], h1, 198, sl) = some R := hh
      obtain ⟨n, hh⟩ := rn_if (cc := .eq) (off := 17) (t := 23) rfl rfl hh
      have hh : pm_run PT n fr lo 194 (9, [some (.ref 162), none], [], h1, 198, sl) = some R := hh
      obtain ⟨n, hh⟩ := rn_i rfl rfl rfl rfl hh
      have ez : zmi tp t 40 p = zmi tp t 40 (p + 1) := by
        show cond (decide (p < t ∧ tp p = nI 45)) (zmi tp t 39 (p + 1)) p = zmi tp t 40 (p + 1)
        rw [zb, zmi_fix 39 (p + 1) (by omega)]
        rfl
      have eq9 : rthm tp t m ns p = rthm tp t m ns (p + 1) ++ [nI 3000] := by
        unfold rthm
        have hg := zmi_ge (f := tp) (t := t) 40 (p + 1)
        rw [ez, show zmi tp t 40 (p + 1) - p = (zmi tp t 40 (p + 1) - (p + 1)) + 1 by omega, List.replicate_succ', List.append_assoc]
      rw [ez, eq9]
      have hlen := rthm_len (f := tp) (t := t) (m := m) (ns := ns) (p := p + 1)
      have hrl := zth_le (f := tp) (fun q hq => pz_le (f := tp) (t := t) m 0 (ns + 1) q hq) (ns := ns) (zmi_le (f := tp) (t := t) 40 (p + 1) (by omega))
      obtain ⟨n, fr', lo', r1, hr1, hh⟩ := rn_call (w := 0) (t := 194) rfl rfl hh
      obtain ⟨b1, b2, b3, b4⟩ := ihd (p + 1) _ _ _ _ h1 _ (by omega) (by omega) (by omega) q1 g18 hr1
      obtain ⟨rv, h2, s2⟩ := r1
      dsimp only at b1 b2 b3 b4
      subst b1
      subst b4
      have hh : pm_run PT n fr lo 194 (13, [some (.ref 162), none], [.int (cond (zth (pz tp t m 0 (ns + 1)) tp t ns (zmi tp t 40 (p + 1))).1 1 0)], h2, 198, sl) = some R := hh
      generalize zth (pz tp t m 0 (ns + 1)) tp t ns (zmi tp t 40 (p + 1)) = r at *
      generalize rthm tp t m ns (p + 1) = dt at *
      obtain ⟨rb, rp⟩ := r
      dsimp only at b2 b3 hh hlen hrl ⊢
      have hh : pm_run PT n fr lo 194 (13, [some (.ref 162), none], [.int (cond rb 1 0)], h2, 198, sl) = some R := hh
      obtain ⟨n, hh⟩ := rn_i rfl rfl rfl rfl hh
      obtain ⟨n, hh⟩ := rn_i rfl rfl rfl rfl hh
      obtain ⟨n, hh⟩ := rn_i rfl rfl rfl rfl hh
      have hh : pm_run PT n fr lo 194 (18, [some (.ref 162), some (.int (cond rb 1 0))], [.int (nI 3000), .ref 162], h2, 198, sl) = some R := hh
      cases rb with
      | false =>
        obtain ⟨n, fr', lo', r1, hr1, hh⟩ := rn_call (w := 0) (t := 193) rfl rfl hh
        obtain ⟨d1, d2, d3, d4⟩ := cod_run b2 hr1
        obtain ⟨rv, h3, s3⟩ := r1
        dsimp only at d1 d2 d3 d4
        subst d1
        subst d4
        have hh : pm_run PT n fr lo 194 (21, [some (.ref 162), some (.int (cond false 1 0))], [], h3, 198, sl) = some R := hh
        obtain ⟨n, hh⟩ := rn_i rfl rfl rfl rfl hh
        exact zN_no d2 (rn_ret rfl (Or.inr rfl) hh).2
      | true =>
        obtain ⟨g4, b5⟩ := b3 rfl
        have hlen := hlen rfl
        obtain ⟨n, fr', lo', r1, hr1, hh⟩ := rn_call (w := 0) (t := 193) rfl rfl hh
        obtain ⟨d1, d2, d3, d4⟩ := cod_runN (by rw [List.length_append]; omega) b5 hr1
        obtain ⟨rv, h3, s3⟩ := r1
        dsimp only at d1 d2 d3 d4
        subst d1
        subst d4
        have hh : pm_run PT n fr lo 194 (21, [some (.ref 162), some (.int (cond true 1 0))], [], h3, 198, sl) = some R := hh
        obtain ⟨n, hh⟩ := rn_i rfl rfl rfl rfl hh
        rw [List.append_assoc] at d2
        exact zN_ok d2 (d3 _ g4) (rn_ret rfl (Or.inr rfl) hh).2
theorem lpn_0 {m ns : Nat} {tp : Nat → Int32} {cs : List Int32} {x3 : Option Value} (ht : t ≤ 40) (ih : rN m t tp) (hns : ns ≤ 4) (hm : 3 + 4 * (4 - ns) ≤ m) (hp : p ≤ t) (hl0 : cs.length ≤ p) (q : qN h p t tp cs) (h18 : mF h 18 (.int (nI ns))) (hh : pm_run PT n fr lo 195 (24, [some (.ref 162), some (.int (nI 0)), some (.int 1), x3], [], h, 198, sl) = some R) : zN R t sl ns tp cs (zlp (pz tp t m 1 ns) tp t 0 1 p) (rlp (pr tp t m 1 ns) (pz tp t m 1 ns) tp t 0 1 p) := by
  obtain ⟨n, hh⟩ := rn_i rfl rfl rfl rfl hh
  obtain ⟨n, hh⟩ := rn_if (cc := .eq) (off := 88) (t := 113) rfl rfl hh
  have hh : pm_run PT n fr lo 195 (28, [some (.ref 162), some (.int (nI 0)), some (.int 1), x3], [], h, 198, sl) = some R := hh
  obtain ⟨n, hh⟩ := rn_i rfl rfl rfl rfl hh
  obtain ⟨n, hh⟩ := rn_i rfl rfl rfl rfl hh
  obtain ⟨n, hh⟩ := rn_if (cc := .ne) (off := 8) (t := 38) rfl rfl hh
  have hh : pm_run PT n fr lo 195 (33, [some (.ref 162), some (.int (nI 0)), some (.int 1), x3], [.ref 162], h, 198, sl) = some R := hh
  obtain ⟨n, hh⟩ := rn_i rfl rfl rfl rfl hh
  obtain ⟨n, hh⟩ := rn_i rfl rfl rfl rfl hh
  have hh : pm_run PT n fr lo 195 (50, [some (.ref 162), some (.int (nI 0)), some (.int 1), x3], [.retAddr 1, .ref 162], h, 198, sl) = some R := hh
  obtain ⟨n, fr', lo', r1, hr1, hh⟩ := rn_call (w := 0) (t := 183) rfl rfl hh
  have er := to_run (i := 1) (by decide) ht hp q.1 hr1
  have el : (tko 1 tp p t (st_tx 1).length 0).isSome = (decide (p < t) && zlev 0 (tp p)) := by
    by_cases y : p < t
    · rw [decide_eq_true y, Bool.true_and]
      exact tk_l0 y
    · rw [decide_eq_false y, Bool.false_and]
      exact tk_no y
  show zN R t sl ns tp cs (cond (decide (p < t) && zlev 0 (tp p)) (cond (pz tp t m 1 ns (p + 1)).1 (true, (pz tp t m 1 ns (p + 1)).2) (false, (pz tp t m 1 ns (p + 1)).2)) (true, p)) (cond (decide (p < t) && zlev 0 (tp p)) (pr tp t m 1 ns (p + 1) ++ rop 0 (tp p) :: []) [])
  rw [← el]
  cases zt : tko 1 tp p t (st_tx 1).length 0 with
  | none =>
    rw [zt] at er
    have er : r1 = (some (.int (-1)), h, 198, sl) := er
    subst er
    have hh : pm_run PT n fr lo 195 (53, [some (.ref 162), some (.int (nI 0)), some (.int 1), x3], [.int (-1)], h, 198, sl) = some R := hh
    obtain ⟨n, hh⟩ := rn_i rfl rfl rfl rfl hh
    obtain ⟨n, hh⟩ := rn_i rfl rfl rfl rfl hh
    have hh : pm_run PT n fr lo 195 (55, [some (.ref 162), some (.int (nI 0)), some (.int 1), some (.int (-1))], [.int (-1)], h, 198, sl) = some R := hh
    obtain ⟨n, hh⟩ := rn_if (cc := .ge) (off := 5) (t := 60) rfl rfl hh
    have hh : pm_run PT n fr lo 195 (58, [some (.ref 162), some (.int (nI 0)), some (.int 1), some (.int (-1))], [], h, 198, sl) = some R := hh
    obtain ⟨n, hh⟩ := rn_i rfl rfl rfl rfl hh
    exact zN_ok (by show qN h p t tp (cs ++ []); rw [List.append_nil]; exact q) h18 (rn_ret rfl (Or.inr rfl) hh).2
  | some j =>
    have hj := tko_some zt
    have hl : p < t := hj.1
    rw [zt] at er
    have er : r1 = (some (.int (nI j)), mset h 16 (.int (nI (p + 1))), 198, sl) := er
    subst er
    have hj2 : j < 3 := by
      have : (st_tx 1).length = 3 := by decide +kernel
      omega
    have q2 := qN_16 (p' := p + 1) q
    have g2 : mF (mset h 16 (.int (nI (p + 1)))) 18 (.int (nI ns)) := mF_ne (by decide) h18
    have hh : pm_run PT n fr lo 195 (53, [some (.ref 162), some (.int (nI 0)), some (.int 1), x3], [.int (nI j)], (mset h 16 (.int (nI (p + 1)))), 198, sl) = some R := hh
    generalize mset h 16 (.int (nI (p + 1))) = h2 at hh q2 g2
    have hh : pm_run PT n fr lo 195 (53, [some (.ref 162), some (.int (nI 0)), some (.int 1), x3], [.int (nI j)], h2, 198, sl) = some R := hh
    obtain ⟨n, hh⟩ := rn_i rfl rfl rfl rfl hh
    obtain ⟨n, hh⟩ := rn_i rfl rfl rfl rfl hh
    have hh : pm_run PT n fr lo 195 (55, [some (.ref 162), some (.int (nI 0)), some (.int 1), some (.int (nI j))], [.int (nI j)], h2, 198, sl) = some R := hh
    obtain ⟨n, hh⟩ := rn_if (cc := .ge) (off := 5) (t := 60) rfl rfl hh
    rw [ge0_val (by rw [nI_toInt (by omega)]; omega)] at hh
    have hh : pm_run PT n fr lo 195 (60, [some (.ref 162), some (.int (nI 0)), some (.int 1), some (.int (nI j))], [], h2, 198, sl) = some R := hh
    obtain ⟨n, hh⟩ := rn_i rfl rfl rfl rfl hh
    obtain ⟨n, hh⟩ := rn_i rfl rfl rfl rfl hh
    obtain ⟨n, hh⟩ := rn_i rfl rfl rfl rfl hh
    obtain ⟨n, hh⟩ := rn_i rfl rfl rfl rfl hh
    have hh : pm_run PT n fr lo 195 (64, [some (.ref 162), some (.int (nI 0)), some (.int 1), some (.int (nI j))], [.int (nI 1), .ref 162], h2, 198, sl) = some R := hh
    obtain ⟨n, fr', lo', r1, hr1, hh⟩ := rn_call (w := 0) (t := 195) rfl rfl hh
    obtain ⟨b1, b2, b3, b4⟩ := ih 1 ns (p + 1) _ _ _ _ _ _ _ (by omega) hns (by omega) (by omega) (by omega) q2 g2 hr1
    obtain ⟨rv, h4, s4⟩ := r1
    dsimp only at b1 b2 b3 b4
    subst b1
    subst b4
    have hle := pz_le (f := tp) (t := t) m 1 ns (p + 1) (by omega)
    have hge := pz_ge (f := tp) (t := t) m 1 ns (p + 1)
    have hlen := pr_len (f := tp) (t := t) m 1 ns (p + 1)
    have hh : pm_run PT n fr lo 195 (67, [some (.ref 162), some (.int (nI 0)), some (.int 1), some (.int (nI j))], [.int (cond (pz tp t m 1 ns (p + 1)).1 1 0)], h4, 198, sl) = some R := hh
    obtain ⟨n, hh⟩ := rn_if (cc := .ne) (off := 5) (t := 72) rfl rfl hh
    cases zr : (pz tp t m 1 ns (p + 1)).1 with
    | false =>
      rw [zr] at hh
      have hh : pm_run PT n fr lo 195 (70, [some (.ref 162), some (.int (nI 0)), some (.int 1), some (.int (nI j))], [], h4, 198, sl) = some R := hh
      obtain ⟨n, hh⟩ := rn_i rfl rfl rfl rfl hh
      exact zN_no b2 (rn_ret rfl (Or.inr rfl) hh).2
    | true =>
      rw [zr] at hh b3
      obtain ⟨g4, b5⟩ := b3 rfl
      have hlen := hlen zr
      have hh : pm_run PT n fr lo 195 (72, [some (.ref 162), some (.int (nI 0)), some (.int 1), some (.int (nI j))], [], h4, 198, sl) = some R := hh
      obtain ⟨n, hh⟩ := rn_i rfl rfl rfl rfl hh
      obtain ⟨n, hh⟩ := rn_i rfl rfl rfl rfl hh
      obtain ⟨n, hh⟩ := rn_i rfl rfl rfl rfl hh
      obtain ⟨n, hh⟩ := rn_i rfl rfl rfl rfl hh
      obtain ⟨n, hh⟩ := rn_i rfl rfl rfl rfl hh
      have hh : pm_run PT n fr lo 195 (79, [some (.ref 162), some (.int (nI 0)), some (.int 1), some (.int (nI j))], [.int (nI 0), .int (2000 + (nI j)), .ref 162], h4, 198, sl) = some R := hh
      obtain ⟨n, hh⟩ := rn_if (cc := .ne) (off := 7) (t := 86) rfl rfl hh
      have hh : pm_run PT n fr lo 195 (82, [some (.ref 162), some (.int (nI 0)), some (.int 1), some (.int (nI j))], [.int (2000 + (nI j)), .ref 162], h4, 198, sl) = some R := hh
      obtain ⟨n, hh⟩ := rn_i rfl rfl rfl rfl hh
      obtain ⟨n, hh⟩ := rn_i rfl rfl rfl rfl hh
      have hh : pm_run PT n fr lo 195 (96, [some (.ref 162), some (.int (nI 0)), some (.int 1), some (.int (nI j))], [.int 0, .int (2000 + (nI j)), .ref 162], h4, 198, sl) = some R := hh
      obtain ⟨n, hh⟩ := rn_i rfl rfl rfl rfl hh
      have hh : pm_run PT n fr lo 195 (97, [some (.ref 162), some (.int (nI 0)), some (.int 1), some (.int (nI j))], [.int ((2000 + (nI j)) + 0), .ref 162], h4, 198, sl) = some R := hh
      rw [show (2000 : Int32) + nI j + 0 = rop 0 (tp p) from rop_0 zt] at hh
      have hh : pm_run PT n fr lo 195 (97, [some (.ref 162), some (.int (nI 0)), some (.int 1), some (.int (nI j))], [.int (rop 0 (tp p)), .ref 162], h4, 198, sl) = some R := hh
      obtain ⟨n, fr', lo', r1, hr1, hh⟩ := rn_call (w := 0) (t := 193) rfl rfl hh
      obtain ⟨d1, d2, d3, d4⟩ := cod_runN (by rw [List.length_append]; omega) b5 hr1
      obtain ⟨rv, h5, s5⟩ := r1
      dsimp only at d1 d2 d3 d4
      subst d1
      subst d4
      have g5 := d3 _ g4
      have hh : pm_run PT n fr lo 195 (100, [some (.ref 162), some (.int (nI 0)), some (.int 1), some (.int (nI j))], [], h5, 198, sl) = some R := hh
      obtain ⟨n, hh⟩ := rn_i rfl rfl rfl rfl hh
      obtain ⟨n, hh⟩ := rn_if (cc := .le) (off := 7) (t := 108) rfl rfl hh
      have hh : pm_run PT n fr lo 195 (108, [some (.ref 162), some (.int (nI 0)), some (.int 1), some (.int (nI j))], [], h5, 198, sl) = some R := hh
      obtain ⟨n, hh⟩ := rn_i rfl rfl rfl rfl hh
      obtain ⟨n, hh⟩ := rn_i rfl rfl rfl rfl hh
      obtain ⟨n, hh⟩ := rn_i rfl rfl rfl rfl hh
      have hh : pm_run PT n fr lo 195 (24, [some (.ref 162), some (.int (nI 0)), some (.int 0), some (.int (nI j))], [], h5, 198, sl) = some R := hh
      obtain ⟨n, hh⟩ := rn_i rfl rfl rfl rfl hh
      obtain ⟨n, hh⟩ := rn_if (cc := .eq) (off := 88) (t := 113) rfl rfl hh
      have hh : pm_run PT n fr lo 195 (113, [some (.ref 162), some (.int (nI 0)), some (.int 0), some (.int (nI j))], [], h5, 198, sl) = some R := hh
      obtain ⟨n, hh⟩ := rn_i rfl rfl rfl rfl hh
      rw [List.append_assoc] at d2
      exact zN_ok d2 g5 (rn_ret rfl (Or.inr rfl) hh).2
theorem lpn_1 {m ns : Nat} {tp : Nat → Int32} (ht : t ≤ 40) (ih : rN m t tp) (hns : ns ≤ 4) (hm : 2 + 4 * (4 - ns) ≤ m) : ∀ (k p n : Nat) (x3 : Option Value) (h : pm_H) (cs : List Int32), t ≤ p + k → p ≤ t → cs.length ≤ p → qN h p t tp cs → mF h 18 (.int (nI ns)) → pm_run PT n fr lo 195 (24, [some (.ref 162), some (.int (nI 1)), some (.int 1), x3], [], h, 198, sl) = some R → zN R t sl ns tp cs (zlp (pz tp t m 2 ns) tp t 1 k p) (rlp (pr tp t m 2 ns) (pz tp t m 2 ns) tp t 1 k p) := by
  have stopR : ∀ (k p : Nat), ¬ p < t → rlp (pr tp t m 2 ns) (pz tp t m 2 ns) tp t 1 k p = [] := by
    intro k p y
    cases k with
    | zero => rfl
    | succ k =>
      show cond (decide (p < t) && zlev 1 (tp p)) _ [] = []
      rw [decide_eq_false y]
      rfl
  have stop : ∀ (k p : Nat), ¬ p < t → zlp (pz tp t m 2 ns) tp t 1 k p = (true, p) := by
    intro k p y
    cases k with
    | zero => rfl
    | succ k =>
      show cond (decide (p < t) && zlev 1 (tp p)) _ (true, p) = (true, p)
      rw [decide_eq_false y]
      rfl
  intro k
  induction k with
  | zero =>
    intro p n x3 h cs hk hp hl0 q h18 hh
    rw [show zlp (pz tp t m 2 ns) tp t 1 0 p = zlp (pz tp t m 2 ns) tp t 1 1 p from (stop 0 p (by omega)).trans (stop 1 p (by omega)).symm, show rlp (pr tp t m 2 ns) (pz tp t m 2 ns) tp t 1 0 p = rlp (pr tp t m 2 ns) (pz tp t m 2 ns) tp t 1 1 p from (stopR 0 p (by omega)).trans (stopR 1 p (by omega)).symm]
    have y : ¬ p < t := by omega
    obtain ⟨n, hh⟩ := rn_i rfl rfl rfl rfl hh
    obtain ⟨n, hh⟩ := rn_if (cc := .eq) (off := 88) (t := 113) rfl rfl hh
    have hh : pm_run PT n fr lo 195 (28, [some (.ref 162), some (.int (nI 1)), some (.int 1), x3], [], h, 198, sl) = some R := hh
    obtain ⟨n, hh⟩ := rn_i rfl rfl rfl rfl hh
    obtain ⟨n, hh⟩ := rn_i rfl rfl rfl rfl hh
    obtain ⟨n, hh⟩ := rn_if (cc := .ne) (off := 8) (t := 38) rfl rfl hh
    have hh : pm_run PT n fr lo 195 (38, [some (.ref 162), some (.int (nI 1)), some (.int 1), x3], [.ref 162], h, 198, sl) = some R := hh
    obtain ⟨n, hh⟩ := rn_i rfl rfl rfl rfl hh
    obtain ⟨n, hh⟩ := rn_i rfl rfl rfl rfl hh
    obtain ⟨n, hh⟩ := rn_icmp (cc := .ne) (off := 8) (t := 48) rfl rfl hh
    have hh : pm_run PT n fr lo 195 (43, [some (.ref 162), some (.int (nI 1)), some (.int 1), x3], [.ref 162], h, 198, sl) = some R := hh
    obtain ⟨n, hh⟩ := rn_i rfl rfl rfl rfl hh
    obtain ⟨n, hh⟩ := rn_i rfl rfl rfl rfl hh
    have hh : pm_run PT n fr lo 195 (50, [some (.ref 162), some (.int (nI 1)), some (.int 1), x3], [.retAddr 2, .ref 162], h, 198, sl) = some R := hh
    obtain ⟨n, fr', lo', r1, hr1, hh⟩ := rn_call (w := 0) (t := 183) rfl rfl hh
    have er := to_run (i := 2) (by decide) ht hp q.1 hr1
    have el : (tko 2 tp p t (st_tx 2).length 0).isSome = (decide (p < t) && zlev 1 (tp p)) := by
      by_cases y : p < t
      · rw [decide_eq_true y, Bool.true_and]
        exact tk_l1 y
      · rw [decide_eq_false y, Bool.false_and]
        exact tk_no y
    show zN R t sl ns tp cs (cond (decide (p < t) && zlev 1 (tp p)) (cond (pz tp t m 2 ns (p + 1)).1 (zlp (pz tp t m 2 ns) tp t 1 0 (pz tp t m 2 ns (p + 1)).2) (false, (pz tp t m 2 ns (p + 1)).2)) (true, p)) (cond (decide (p < t) && zlev 1 (tp p)) (pr tp t m 2 ns (p + 1) ++ rop 1 (tp p) :: rlp (pr tp t m 2 ns) (pz tp t m 2 ns) tp t 1 0 (pz tp t m 2 ns (p + 1)).2) [])
    rw [← el]
    cases zt : tko 2 tp p t (st_tx 2).length 0 with
    | none =>
      rw [zt] at er
      have er : r1 = (some (.int (-1)), h, 198, sl) := er
      subst er
      have hh : pm_run PT n fr lo 195 (53, [some (.ref 162), some (.int (nI 1)), some (.int 1), x3], [.int (-1)], h, 198, sl) = some R := hh
      obtain ⟨n, hh⟩ := rn_i rfl rfl rfl rfl hh
      obtain ⟨n, hh⟩ := rn_i rfl rfl rfl rfl hh
      have hh : pm_run PT n fr lo 195 (55, [some (.ref 162), some (.int (nI 1)), some (.int 1), some (.int (-1))], [.int (-1)], h, 198, sl) = some R := hh
      obtain ⟨n, hh⟩ := rn_if (cc := .ge) (off := 5) (t := 60) rfl rfl hh
      have hh : pm_run PT n fr lo 195 (58, [some (.ref 162), some (.int (nI 1)), some (.int 1), some (.int (-1))], [], h, 198, sl) = some R := hh
      obtain ⟨n, hh⟩ := rn_i rfl rfl rfl rfl hh
      exact zN_ok (by show qN h p t tp (cs ++ []); rw [List.append_nil]; exact q) h18 (rn_ret rfl (Or.inr rfl) hh).2
    | some j =>
      have hj := tko_some zt
      have hl : p < t := hj.1
      rw [zt] at er
      have er : r1 = (some (.int (nI j)), mset h 16 (.int (nI (p + 1))), 198, sl) := er
      subst er
      have hj2 : j < 2 := by
        have : (st_tx 2).length = 2 := by decide +kernel
        omega
      have q2 := qN_16 (p' := p + 1) q
      have g2 : mF (mset h 16 (.int (nI (p + 1)))) 18 (.int (nI ns)) := mF_ne (by decide) h18
      have hh : pm_run PT n fr lo 195 (53, [some (.ref 162), some (.int (nI 1)), some (.int 1), x3], [.int (nI j)], (mset h 16 (.int (nI (p + 1)))), 198, sl) = some R := hh
      generalize mset h 16 (.int (nI (p + 1))) = h2 at hh q2 g2
      have hh : pm_run PT n fr lo 195 (53, [some (.ref 162), some (.int (nI 1)), some (.int 1), x3], [.int (nI j)], h2, 198, sl) = some R := hh
      obtain ⟨n, hh⟩ := rn_i rfl rfl rfl rfl hh
      obtain ⟨n, hh⟩ := rn_i rfl rfl rfl rfl hh
      have hh : pm_run PT n fr lo 195 (55, [some (.ref 162), some (.int (nI 1)), some (.int 1), some (.int (nI j))], [.int (nI j)], h2, 198, sl) = some R := hh
      obtain ⟨n, hh⟩ := rn_if (cc := .ge) (off := 5) (t := 60) rfl rfl hh
      rw [ge0_val (by rw [nI_toInt (by omega)]; omega)] at hh
      have hh : pm_run PT n fr lo 195 (60, [some (.ref 162), some (.int (nI 1)), some (.int 1), some (.int (nI j))], [], h2, 198, sl) = some R := hh
      obtain ⟨n, hh⟩ := rn_i rfl rfl rfl rfl hh
      obtain ⟨n, hh⟩ := rn_i rfl rfl rfl rfl hh
      obtain ⟨n, hh⟩ := rn_i rfl rfl rfl rfl hh
      obtain ⟨n, hh⟩ := rn_i rfl rfl rfl rfl hh
      have hh : pm_run PT n fr lo 195 (64, [some (.ref 162), some (.int (nI 1)), some (.int 1), some (.int (nI j))], [.int (nI 2), .ref 162], h2, 198, sl) = some R := hh
      obtain ⟨n, fr', lo', r1, hr1, hh⟩ := rn_call (w := 0) (t := 195) rfl rfl hh
      obtain ⟨b1, b2, b3, b4⟩ := ih 2 ns (p + 1) _ _ _ _ _ _ _ (by omega) hns (by omega) (by omega) (by omega) q2 g2 hr1
      obtain ⟨rv, h4, s4⟩ := r1
      dsimp only at b1 b2 b3 b4
      subst b1
      subst b4
      have hle := pz_le (f := tp) (t := t) m 2 ns (p + 1) (by omega)
      have hge := pz_ge (f := tp) (t := t) m 2 ns (p + 1)
      have hlen := pr_len (f := tp) (t := t) m 2 ns (p + 1)
      have hh : pm_run PT n fr lo 195 (67, [some (.ref 162), some (.int (nI 1)), some (.int 1), some (.int (nI j))], [.int (cond (pz tp t m 2 ns (p + 1)).1 1 0)], h4, 198, sl) = some R := hh
      obtain ⟨n, hh⟩ := rn_if (cc := .ne) (off := 5) (t := 72) rfl rfl hh
      cases zr : (pz tp t m 2 ns (p + 1)).1 with
      | false =>
        rw [zr] at hh
        have hh : pm_run PT n fr lo 195 (70, [some (.ref 162), some (.int (nI 1)), some (.int 1), some (.int (nI j))], [], h4, 198, sl) = some R := hh
        obtain ⟨n, hh⟩ := rn_i rfl rfl rfl rfl hh
        exact zN_no b2 (rn_ret rfl (Or.inr rfl) hh).2
      | true =>
        rw [zr] at hh b3
        obtain ⟨g4, b5⟩ := b3 rfl
        have hlen := hlen zr
        have hh : pm_run PT n fr lo 195 (72, [some (.ref 162), some (.int (nI 1)), some (.int 1), some (.int (nI j))], [], h4, 198, sl) = some R := hh
        obtain ⟨n, hh⟩ := rn_i rfl rfl rfl rfl hh
        obtain ⟨n, hh⟩ := rn_i rfl rfl rfl rfl hh
        obtain ⟨n, hh⟩ := rn_i rfl rfl rfl rfl hh
        obtain ⟨n, hh⟩ := rn_i rfl rfl rfl rfl hh
        obtain ⟨n, hh⟩ := rn_i rfl rfl rfl rfl hh
        have hh : pm_run PT n fr lo 195 (79, [some (.ref 162), some (.int (nI 1)), some (.int 1), some (.int (nI j))], [.int (nI 1), .int (2000 + (nI j)), .ref 162], h4, 198, sl) = some R := hh
        obtain ⟨n, hh⟩ := rn_if (cc := .ne) (off := 7) (t := 86) rfl rfl hh
        have hh : pm_run PT n fr lo 195 (86, [some (.ref 162), some (.int (nI 1)), some (.int 1), some (.int (nI j))], [.int (2000 + (nI j)), .ref 162], h4, 198, sl) = some R := hh
        obtain ⟨n, hh⟩ := rn_i rfl rfl rfl rfl hh
        obtain ⟨n, hh⟩ := rn_i rfl rfl rfl rfl hh
        obtain ⟨n, hh⟩ := rn_icmp (cc := .ne) (off := 7) (t := 95) rfl rfl hh
        have hh : pm_run PT n fr lo 195 (91, [some (.ref 162), some (.int (nI 1)), some (.int 1), some (.int (nI j))], [.int (2000 + (nI j)), .ref 162], h4, 198, sl) = some R := hh
        obtain ⟨n, hh⟩ := rn_i rfl rfl rfl rfl hh
        obtain ⟨n, hh⟩ := rn_i rfl rfl rfl rfl hh
        have hh : pm_run PT n fr lo 195 (96, [some (.ref 162), some (.int (nI 1)), some (.int 1), some (.int (nI j))], [.int 3, .int (2000 + (nI j)), .ref 162], h4, 198, sl) = some R := hh
        obtain ⟨n, hh⟩ := rn_i rfl rfl rfl rfl hh
        have hh : pm_run PT n fr lo 195 (97, [some (.ref 162), some (.int (nI 1)), some (.int 1), some (.int (nI j))], [.int ((2000 + (nI j)) + 3), .ref 162], h4, 198, sl) = some R := hh
        rw [show (2000 : Int32) + nI j + 3 = rop 1 (tp p) from rop_1 zt] at hh
        have hh : pm_run PT n fr lo 195 (97, [some (.ref 162), some (.int (nI 1)), some (.int 1), some (.int (nI j))], [.int (rop 1 (tp p)), .ref 162], h4, 198, sl) = some R := hh
        obtain ⟨n, fr', lo', r1, hr1, hh⟩ := rn_call (w := 0) (t := 193) rfl rfl hh
        obtain ⟨d1, d2, d3, d4⟩ := cod_runN (by rw [List.length_append]; omega) b5 hr1
        obtain ⟨rv, h5, s5⟩ := r1
        dsimp only at d1 d2 d3 d4
        subst d1
        subst d4
        have g5 := d3 _ g4
        have hh : pm_run PT n fr lo 195 (100, [some (.ref 162), some (.int (nI 1)), some (.int 1), some (.int (nI j))], [], h5, 198, sl) = some R := hh
        obtain ⟨n, hh⟩ := rn_i rfl rfl rfl rfl hh
        obtain ⟨n, hh⟩ := rn_if (cc := .le) (off := 7) (t := 108) rfl rfl hh
        have hh : pm_run PT n fr lo 195 (104, [some (.ref 162), some (.int (nI 1)), some (.int 1), some (.int (nI j))], [], h5, 198, sl) = some R := hh
        obtain ⟨n, hh⟩ := rn_i rfl rfl rfl rfl hh
        obtain ⟨n, hh⟩ := rn_i rfl rfl rfl rfl hh
        obtain ⟨n, hh⟩ := rn_i rfl rfl rfl rfl hh
        obtain ⟨n, hh⟩ := rn_i rfl rfl rfl rfl hh
        have hh : pm_run PT n fr lo 195 (24, [some (.ref 162), some (.int (nI 1)), some (.int 1), some (.int (nI j))], [], h5, 198, sl) = some R := hh
        exact absurd hl y
  | succ k ihk =>
    intro p n x3 h cs hk hp hl0 q h18 hh
    obtain ⟨n, hh⟩ := rn_i rfl rfl rfl rfl hh
    obtain ⟨n, hh⟩ := rn_if (cc := .eq) (off := 88) (t := 113) rfl rfl hh
    have hh : pm_run PT n fr lo 195 (28, [some (.ref 162), some (.int (nI 1)), some (.int 1), x3], [], h, 198, sl) = some R := hh
    obtain ⟨n, hh⟩ := rn_i rfl rfl rfl rfl hh
    obtain ⟨n, hh⟩ := rn_i rfl rfl rfl rfl hh
    obtain ⟨n, hh⟩ := rn_if (cc := .ne) (off := 8) (t := 38) rfl rfl hh
    have hh : pm_run PT n fr lo 195 (38, [some (.ref 162), some (.int (nI 1)), some (.int 1), x3], [.ref 162], h, 198, sl) = some R := hh
    obtain ⟨n, hh⟩ := rn_i rfl rfl rfl rfl hh
    obtain ⟨n, hh⟩ := rn_i rfl rfl rfl rfl hh
    obtain ⟨n, hh⟩ := rn_icmp (cc := .ne) (off := 8) (t := 48) rfl rfl hh
    have hh : pm_run PT n fr lo 195 (43, [some (.ref 162), some (.int (nI 1)), some (.int 1), x3], [.ref 162], h, 198, sl) = some R := hh
    obtain ⟨n, hh⟩ := rn_i rfl rfl rfl rfl hh
    obtain ⟨n, hh⟩ := rn_i rfl rfl rfl rfl hh
    have hh : pm_run PT n fr lo 195 (50, [some (.ref 162), some (.int (nI 1)), some (.int 1), x3], [.retAddr 2, .ref 162], h, 198, sl) = some R := hh
    obtain ⟨n, fr', lo', r1, hr1, hh⟩ := rn_call (w := 0) (t := 183) rfl rfl hh
    have er := to_run (i := 2) (by decide) ht hp q.1 hr1
    have el : (tko 2 tp p t (st_tx 2).length 0).isSome = (decide (p < t) && zlev 1 (tp p)) := by
      by_cases y : p < t
      · rw [decide_eq_true y, Bool.true_and]
        exact tk_l1 y
      · rw [decide_eq_false y, Bool.false_and]
        exact tk_no y
    show zN R t sl ns tp cs (cond (decide (p < t) && zlev 1 (tp p)) (cond (pz tp t m 2 ns (p + 1)).1 (zlp (pz tp t m 2 ns) tp t 1 k (pz tp t m 2 ns (p + 1)).2) (false, (pz tp t m 2 ns (p + 1)).2)) (true, p)) (cond (decide (p < t) && zlev 1 (tp p)) (pr tp t m 2 ns (p + 1) ++ rop 1 (tp p) :: rlp (pr tp t m 2 ns) (pz tp t m 2 ns) tp t 1 k (pz tp t m 2 ns (p + 1)).2) [])
    rw [← el]
    cases zt : tko 2 tp p t (st_tx 2).length 0 with
    | none =>
      rw [zt] at er
      have er : r1 = (some (.int (-1)), h, 198, sl) := er
      subst er
      have hh : pm_run PT n fr lo 195 (53, [some (.ref 162), some (.int (nI 1)), some (.int 1), x3], [.int (-1)], h, 198, sl) = some R := hh
      obtain ⟨n, hh⟩ := rn_i rfl rfl rfl rfl hh
      obtain ⟨n, hh⟩ := rn_i rfl rfl rfl rfl hh
      have hh : pm_run PT n fr lo 195 (55, [some (.ref 162), some (.int (nI 1)), some (.int 1), some (.int (-1))], [.int (-1)], h, 198, sl) = some R := hh
      obtain ⟨n, hh⟩ := rn_if (cc := .ge) (off := 5) (t := 60) rfl rfl hh
      have hh : pm_run PT n fr lo 195 (58, [some (.ref 162), some (.int (nI 1)), some (.int 1), some (.int (-1))], [], h, 198, sl) = some R := hh
      obtain ⟨n, hh⟩ := rn_i rfl rfl rfl rfl hh
      exact zN_ok (by show qN h p t tp (cs ++ []); rw [List.append_nil]; exact q) h18 (rn_ret rfl (Or.inr rfl) hh).2
    | some j =>
      have hj := tko_some zt
      have hl : p < t := hj.1
      rw [zt] at er
      have er : r1 = (some (.int (nI j)), mset h 16 (.int (nI (p + 1))), 198, sl) := er
      subst er
      have hj2 : j < 2 := by
        have : (st_tx 2).length = 2 := by decide +kernel
        omega
      have q2 := qN_16 (p' := p + 1) q
      have g2 : mF (mset h 16 (.int (nI (p + 1)))) 18 (.int (nI ns)) := mF_ne (by decide) h18
      have hh : pm_run PT n fr lo 195 (53, [some (.ref 162), some (.int (nI 1)), some (.int 1), x3], [.int (nI j)], (mset h 16 (.int (nI (p + 1)))), 198, sl) = some R := hh
      generalize mset h 16 (.int (nI (p + 1))) = h2 at hh q2 g2
      have hh : pm_run PT n fr lo 195 (53, [some (.ref 162), some (.int (nI 1)), some (.int 1), x3], [.int (nI j)], h2, 198, sl) = some R := hh
      obtain ⟨n, hh⟩ := rn_i rfl rfl rfl rfl hh
      obtain ⟨n, hh⟩ := rn_i rfl rfl rfl rfl hh
      have hh : pm_run PT n fr lo 195 (55, [some (.ref 162), some (.int (nI 1)), some (.int 1), some (.int (nI j))], [.int (nI j)], h2, 198, sl) = some R := hh
      obtain ⟨n, hh⟩ := rn_if (cc := .ge) (off := 5) (t := 60) rfl rfl hh
      rw [ge0_val (by rw [nI_toInt (by omega)]; omega)] at hh
      have hh : pm_run PT n fr lo 195 (60, [some (.ref 162), some (.int (nI 1)), some (.int 1), some (.int (nI j))], [], h2, 198, sl) = some R := hh
      obtain ⟨n, hh⟩ := rn_i rfl rfl rfl rfl hh
      obtain ⟨n, hh⟩ := rn_i rfl rfl rfl rfl hh
      obtain ⟨n, hh⟩ := rn_i rfl rfl rfl rfl hh
      obtain ⟨n, hh⟩ := rn_i rfl rfl rfl rfl hh
      have hh : pm_run PT n fr lo 195 (64, [some (.ref 162), some (.int (nI 1)), some (.int 1), some (.int (nI j))], [.int (nI 2), .ref 162], h2, 198, sl) = some R := hh
      obtain ⟨n, fr', lo', r1, hr1, hh⟩ := rn_call (w := 0) (t := 195) rfl rfl hh
      obtain ⟨b1, b2, b3, b4⟩ := ih 2 ns (p + 1) _ _ _ _ _ _ _ (by omega) hns (by omega) (by omega) (by omega) q2 g2 hr1
      obtain ⟨rv, h4, s4⟩ := r1
      dsimp only at b1 b2 b3 b4
      subst b1
      subst b4
      have hle := pz_le (f := tp) (t := t) m 2 ns (p + 1) (by omega)
      have hge := pz_ge (f := tp) (t := t) m 2 ns (p + 1)
      have hlen := pr_len (f := tp) (t := t) m 2 ns (p + 1)
      have hh : pm_run PT n fr lo 195 (67, [some (.ref 162), some (.int (nI 1)), some (.int 1), some (.int (nI j))], [.int (cond (pz tp t m 2 ns (p + 1)).1 1 0)], h4, 198, sl) = some R := hh
      obtain ⟨n, hh⟩ := rn_if (cc := .ne) (off := 5) (t := 72) rfl rfl hh
      cases zr : (pz tp t m 2 ns (p + 1)).1 with
      | false =>
        rw [zr] at hh
        have hh : pm_run PT n fr lo 195 (70, [some (.ref 162), some (.int (nI 1)), some (.int 1), some (.int (nI j))], [], h4, 198, sl) = some R := hh
        obtain ⟨n, hh⟩ := rn_i rfl rfl rfl rfl hh
        exact zN_no b2 (rn_ret rfl (Or.inr rfl) hh).2
      | true =>
        rw [zr] at hh b3
        obtain ⟨g4, b5⟩ := b3 rfl
        have hlen := hlen zr
        have hh : pm_run PT n fr lo 195 (72, [some (.ref 162), some (.int (nI 1)), some (.int 1), some (.int (nI j))], [], h4, 198, sl) = some R := hh
        obtain ⟨n, hh⟩ := rn_i rfl rfl rfl rfl hh
        obtain ⟨n, hh⟩ := rn_i rfl rfl rfl rfl hh
        obtain ⟨n, hh⟩ := rn_i rfl rfl rfl rfl hh
        obtain ⟨n, hh⟩ := rn_i rfl rfl rfl rfl hh
        obtain ⟨n, hh⟩ := rn_i rfl rfl rfl rfl hh
        have hh : pm_run PT n fr lo 195 (79, [some (.ref 162), some (.int (nI 1)), some (.int 1), some (.int (nI j))], [.int (nI 1), .int (2000 + (nI j)), .ref 162], h4, 198, sl) = some R := hh
        obtain ⟨n, hh⟩ := rn_if (cc := .ne) (off := 7) (t := 86) rfl rfl hh
        have hh : pm_run PT n fr lo 195 (86, [some (.ref 162), some (.int (nI 1)), some (.int 1), some (.int (nI j))], [.int (2000 + (nI j)), .ref 162], h4, 198, sl) = some R := hh
        obtain ⟨n, hh⟩ := rn_i rfl rfl rfl rfl hh
        obtain ⟨n, hh⟩ := rn_i rfl rfl rfl rfl hh
        obtain ⟨n, hh⟩ := rn_icmp (cc := .ne) (off := 7) (t := 95) rfl rfl hh
        have hh : pm_run PT n fr lo 195 (91, [some (.ref 162), some (.int (nI 1)), some (.int 1), some (.int (nI j))], [.int (2000 + (nI j)), .ref 162], h4, 198, sl) = some R := hh
        obtain ⟨n, hh⟩ := rn_i rfl rfl rfl rfl hh
        obtain ⟨n, hh⟩ := rn_i rfl rfl rfl rfl hh
        have hh : pm_run PT n fr lo 195 (96, [some (.ref 162), some (.int (nI 1)), some (.int 1), some (.int (nI j))], [.int 3, .int (2000 + (nI j)), .ref 162], h4, 198, sl) = some R := hh
        obtain ⟨n, hh⟩ := rn_i rfl rfl rfl rfl hh
        have hh : pm_run PT n fr lo 195 (97, [some (.ref 162), some (.int (nI 1)), some (.int 1), some (.int (nI j))], [.int ((2000 + (nI j)) + 3), .ref 162], h4, 198, sl) = some R := hh
        rw [show (2000 : Int32) + nI j + 3 = rop 1 (tp p) from rop_1 zt] at hh
        have hh : pm_run PT n fr lo 195 (97, [some (.ref 162), some (.int (nI 1)), some (.int 1), some (.int (nI j))], [.int (rop 1 (tp p)), .ref 162], h4, 198, sl) = some R := hh
        obtain ⟨n, fr', lo', r1, hr1, hh⟩ := rn_call (w := 0) (t := 193) rfl rfl hh
        obtain ⟨d1, d2, d3, d4⟩ := cod_runN (by rw [List.length_append]; omega) b5 hr1
        obtain ⟨rv, h5, s5⟩ := r1
        dsimp only at d1 d2 d3 d4
        subst d1
        subst d4
        have g5 := d3 _ g4
        have hh : pm_run PT n fr lo 195 (100, [some (.ref 162), some (.int (nI 1)), some (.int 1), some (.int (nI j))], [], h5, 198, sl) = some R := hh
        obtain ⟨n, hh⟩ := rn_i rfl rfl rfl rfl hh
        obtain ⟨n, hh⟩ := rn_if (cc := .le) (off := 7) (t := 108) rfl rfl hh
        have hh : pm_run PT n fr lo 195 (104, [some (.ref 162), some (.int (nI 1)), some (.int 1), some (.int (nI j))], [], h5, 198, sl) = some R := hh
        obtain ⟨n, hh⟩ := rn_i rfl rfl rfl rfl hh
        obtain ⟨n, hh⟩ := rn_i rfl rfl rfl rfl hh
        obtain ⟨n, hh⟩ := rn_i rfl rfl rfl rfl hh
        obtain ⟨n, hh⟩ := rn_i rfl rfl rfl rfl hh
        have hh : pm_run PT n fr lo 195 (24, [some (.ref 162), some (.int (nI 1)), some (.int 1), some (.int (nI j))], [], h5, 198, sl) = some R := hh
        have q9 := ihk _ n _ h5 _ (by omega) hle (by rw [List.length_append, List.length_append]; show _ + _ + 1 ≤ _; omega) d2 g5 hh
        obtain ⟨r1, r2, r3, r4⟩ := q9
        exact ⟨r1, r2, fun y => ⟨(r3 y).1, by have y := (r3 y).2; rw [List.append_assoc, List.append_assoc] at y; exact y⟩, r4⟩
theorem lpn_2 {m ns : Nat} {tp : Nat → Int32} (ht : t ≤ 40) (ih : rN m t tp) (hns : ns ≤ 4) (hm : 1 + 4 * (4 - ns) ≤ m) : ∀ (k p n : Nat) (x3 : Option Value) (h : pm_H) (cs : List Int32), t ≤ p + k → p ≤ t → cs.length ≤ p → qN h p t tp cs → mF h 18 (.int (nI ns)) → pm_run PT n fr lo 195 (24, [some (.ref 162), some (.int (nI 2)), some (.int 1), x3], [], h, 198, sl) = some R → zN R t sl ns tp cs (zlp (pz tp t m 3 ns) tp t 2 k p) (rlp (pr tp t m 3 ns) (pz tp t m 3 ns) tp t 2 k p) := by
  have stopR : ∀ (k p : Nat), ¬ p < t → rlp (pr tp t m 3 ns) (pz tp t m 3 ns) tp t 2 k p = [] := by
    intro k p y
    cases k with
    | zero => rfl
    | succ k =>
      show cond (decide (p < t) && zlev 2 (tp p)) _ [] = []
      rw [decide_eq_false y]
      rfl
  have stop : ∀ (k p : Nat), ¬ p < t → zlp (pz tp t m 3 ns) tp t 2 k p = (true, p) := by
    intro k p y
    cases k with
    | zero => rfl
    | succ k =>
      show cond (decide (p < t) && zlev 2 (tp p)) _ (true, p) = (true, p)
      rw [decide_eq_false y]
      rfl
  intro k
  induction k with
  | zero =>
    intro p n x3 h cs hk hp hl0 q h18 hh
    rw [show zlp (pz tp t m 3 ns) tp t 2 0 p = zlp (pz tp t m 3 ns) tp t 2 1 p from (stop 0 p (by omega)).trans (stop 1 p (by omega)).symm, show rlp (pr tp t m 3 ns) (pz tp t m 3 ns) tp t 2 0 p = rlp (pr tp t m 3 ns) (pz tp t m 3 ns) tp t 2 1 p from (stopR 0 p (by omega)).trans (stopR 1 p (by omega)).symm]
    have y : ¬ p < t := by omega
    obtain ⟨n, hh⟩ := rn_i rfl rfl rfl rfl hh
    obtain ⟨n, hh⟩ := rn_if (cc := .eq) (off := 88) (t := 113) rfl rfl hh
    have hh : pm_run PT n fr lo 195 (28, [some (.ref 162), some (.int (nI 2)), some (.int 1), x3], [], h, 198, sl) = some R := hh
    obtain ⟨n, hh⟩ := rn_i rfl rfl rfl rfl hh
    obtain ⟨n, hh⟩ := rn_i rfl rfl rfl rfl hh
    obtain ⟨n, hh⟩ := rn_if (cc := .ne) (off := 8) (t := 38) rfl rfl hh
    have hh : pm_run PT n fr lo 195 (38, [some (.ref 162), some (.int (nI 2)), some (.int 1), x3], [.ref 162], h, 198, sl) = some R := hh
    obtain ⟨n, hh⟩ := rn_i rfl rfl rfl rfl hh
    obtain ⟨n, hh⟩ := rn_i rfl rfl rfl rfl hh
    obtain ⟨n, hh⟩ := rn_icmp (cc := .ne) (off := 8) (t := 48) rfl rfl hh
    have hh : pm_run PT n fr lo 195 (48, [some (.ref 162), some (.int (nI 2)), some (.int 1), x3], [.ref 162], h, 198, sl) = some R := hh
    obtain ⟨n, hh⟩ := rn_i rfl rfl rfl rfl hh
    have hh : pm_run PT n fr lo 195 (50, [some (.ref 162), some (.int (nI 2)), some (.int 1), x3], [.retAddr 3, .ref 162], h, 198, sl) = some R := hh
    obtain ⟨n, fr', lo', r1, hr1, hh⟩ := rn_call (w := 0) (t := 183) rfl rfl hh
    have er := to_run (i := 3) (by decide) ht hp q.1 hr1
    have el : (tko 3 tp p t (st_tx 3).length 0).isSome = (decide (p < t) && zlev 2 (tp p)) := by
      by_cases y : p < t
      · rw [decide_eq_true y, Bool.true_and]
        exact tk_l2 y
      · rw [decide_eq_false y, Bool.false_and]
        exact tk_no y
    show zN R t sl ns tp cs (cond (decide (p < t) && zlev 2 (tp p)) (cond (pz tp t m 3 ns (p + 1)).1 (zlp (pz tp t m 3 ns) tp t 2 0 (pz tp t m 3 ns (p + 1)).2) (false, (pz tp t m 3 ns (p + 1)).2)) (true, p)) (cond (decide (p < t) && zlev 2 (tp p)) (pr tp t m 3 ns (p + 1) ++ rop 2 (tp p) :: rlp (pr tp t m 3 ns) (pz tp t m 3 ns) tp t 2 0 (pz tp t m 3 ns (p + 1)).2) [])
    rw [← el]
    cases zt : tko 3 tp p t (st_tx 3).length 0 with
    | none =>
      rw [zt] at er
      have er : r1 = (some (.int (-1)), h, 198, sl) := er
      subst er
      have hh : pm_run PT n fr lo 195 (53, [some (.ref 162), some (.int (nI 2)), some (.int 1), x3], [.int (-1)], h, 198, sl) = some R := hh
      obtain ⟨n, hh⟩ := rn_i rfl rfl rfl rfl hh
      obtain ⟨n, hh⟩ := rn_i rfl rfl rfl rfl hh
      have hh : pm_run PT n fr lo 195 (55, [some (.ref 162), some (.int (nI 2)), some (.int 1), some (.int (-1))], [.int (-1)], h, 198, sl) = some R := hh
      obtain ⟨n, hh⟩ := rn_if (cc := .ge) (off := 5) (t := 60) rfl rfl hh
      have hh : pm_run PT n fr lo 195 (58, [some (.ref 162), some (.int (nI 2)), some (.int 1), some (.int (-1))], [], h, 198, sl) = some R := hh
      obtain ⟨n, hh⟩ := rn_i rfl rfl rfl rfl hh
      exact zN_ok (by show qN h p t tp (cs ++ []); rw [List.append_nil]; exact q) h18 (rn_ret rfl (Or.inr rfl) hh).2
    | some j =>
      have hj := tko_some zt
      have hl : p < t := hj.1
      rw [zt] at er
      have er : r1 = (some (.int (nI j)), mset h 16 (.int (nI (p + 1))), 198, sl) := er
      subst er
      have hj2 : j < 2 := by
        have : (st_tx 3).length = 2 := by decide +kernel
        omega
      have q2 := qN_16 (p' := p + 1) q
      have g2 : mF (mset h 16 (.int (nI (p + 1)))) 18 (.int (nI ns)) := mF_ne (by decide) h18
      have hh : pm_run PT n fr lo 195 (53, [some (.ref 162), some (.int (nI 2)), some (.int 1), x3], [.int (nI j)], (mset h 16 (.int (nI (p + 1)))), 198, sl) = some R := hh
      generalize mset h 16 (.int (nI (p + 1))) = h2 at hh q2 g2
      have hh : pm_run PT n fr lo 195 (53, [some (.ref 162), some (.int (nI 2)), some (.int 1), x3], [.int (nI j)], h2, 198, sl) = some R := hh
      obtain ⟨n, hh⟩ := rn_i rfl rfl rfl rfl hh
      obtain ⟨n, hh⟩ := rn_i rfl rfl rfl rfl hh
      have hh : pm_run PT n fr lo 195 (55, [some (.ref 162), some (.int (nI 2)), some (.int 1), some (.int (nI j))], [.int (nI j)], h2, 198, sl) = some R := hh
      obtain ⟨n, hh⟩ := rn_if (cc := .ge) (off := 5) (t := 60) rfl rfl hh
      rw [ge0_val (by rw [nI_toInt (by omega)]; omega)] at hh
      have hh : pm_run PT n fr lo 195 (60, [some (.ref 162), some (.int (nI 2)), some (.int 1), some (.int (nI j))], [], h2, 198, sl) = some R := hh
      obtain ⟨n, hh⟩ := rn_i rfl rfl rfl rfl hh
      obtain ⟨n, hh⟩ := rn_i rfl rfl rfl rfl hh
      obtain ⟨n, hh⟩ := rn_i rfl rfl rfl rfl hh
      obtain ⟨n, hh⟩ := rn_i rfl rfl rfl rfl hh
      have hh : pm_run PT n fr lo 195 (64, [some (.ref 162), some (.int (nI 2)), some (.int 1), some (.int (nI j))], [.int (nI 3), .ref 162], h2, 198, sl) = some R := hh
      obtain ⟨n, fr', lo', r1, hr1, hh⟩ := rn_call (w := 0) (t := 195) rfl rfl hh
      obtain ⟨b1, b2, b3, b4⟩ := ih 3 ns (p + 1) _ _ _ _ _ _ _ (by omega) hns (by omega) (by omega) (by omega) q2 g2 hr1
      obtain ⟨rv, h4, s4⟩ := r1
      dsimp only at b1 b2 b3 b4
      subst b1
      subst b4
      have hle := pz_le (f := tp) (t := t) m 3 ns (p + 1) (by omega)
      have hge := pz_ge (f := tp) (t := t) m 3 ns (p + 1)
      have hlen := pr_len (f := tp) (t := t) m 3 ns (p + 1)
      have hh : pm_run PT n fr lo 195 (67, [some (.ref 162), some (.int (nI 2)), some (.int 1), some (.int (nI j))], [.int (cond (pz tp t m 3 ns (p + 1)).1 1 0)], h4, 198, sl) = some R := hh
      obtain ⟨n, hh⟩ := rn_if (cc := .ne) (off := 5) (t := 72) rfl rfl hh
      cases zr : (pz tp t m 3 ns (p + 1)).1 with
      | false =>
        rw [zr] at hh
        have hh : pm_run PT n fr lo 195 (70, [some (.ref 162), some (.int (nI 2)), some (.int 1), some (.int (nI j))], [], h4, 198, sl) = some R := hh
        obtain ⟨n, hh⟩ := rn_i rfl rfl rfl rfl hh
        exact zN_no b2 (rn_ret rfl (Or.inr rfl) hh).2
      | true =>
        rw [zr] at hh b3
        obtain ⟨g4, b5⟩ := b3 rfl
        have hlen := hlen zr
        have hh : pm_run PT n fr lo 195 (72, [some (.ref 162), some (.int (nI 2)), some (.int 1), some (.int (nI j))], [], h4, 198, sl) = some R := hh
        obtain ⟨n, hh⟩ := rn_i rfl rfl rfl rfl hh
        obtain ⟨n, hh⟩ := rn_i rfl rfl rfl rfl hh
        obtain ⟨n, hh⟩ := rn_i rfl rfl rfl rfl hh
        obtain ⟨n, hh⟩ := rn_i rfl rfl rfl rfl hh
        obtain ⟨n, hh⟩ := rn_i rfl rfl rfl rfl hh
        have hh : pm_run PT n fr lo 195 (79, [some (.ref 162), some (.int (nI 2)), some (.int 1), some (.int (nI j))], [.int (nI 2), .int (2000 + (nI j)), .ref 162], h4, 198, sl) = some R := hh
        obtain ⟨n, hh⟩ := rn_if (cc := .ne) (off := 7) (t := 86) rfl rfl hh
        have hh : pm_run PT n fr lo 195 (86, [some (.ref 162), some (.int (nI 2)), some (.int 1), some (.int (nI j))], [.int (2000 + (nI j)), .ref 162], h4, 198, sl) = some R := hh
        obtain ⟨n, hh⟩ := rn_i rfl rfl rfl rfl hh
        obtain ⟨n, hh⟩ := rn_i rfl rfl rfl rfl hh
        obtain ⟨n, hh⟩ := rn_icmp (cc := .ne) (off := 7) (t := 95) rfl rfl hh
        have hh : pm_run PT n fr lo 195 (95, [some (.ref 162), some (.int (nI 2)), some (.int 1), some (.int (nI j))], [.int (2000 + (nI j)), .ref 162], h4, 198, sl) = some R := hh
        obtain ⟨n, hh⟩ := rn_i rfl rfl rfl rfl hh
        have hh : pm_run PT n fr lo 195 (96, [some (.ref 162), some (.int (nI 2)), some (.int 1), some (.int (nI j))], [.int 5, .int (2000 + (nI j)), .ref 162], h4, 198, sl) = some R := hh
        obtain ⟨n, hh⟩ := rn_i rfl rfl rfl rfl hh
        have hh : pm_run PT n fr lo 195 (97, [some (.ref 162), some (.int (nI 2)), some (.int 1), some (.int (nI j))], [.int ((2000 + (nI j)) + 5), .ref 162], h4, 198, sl) = some R := hh
        rw [show (2000 : Int32) + nI j + 5 = rop 2 (tp p) from rop_2 zt] at hh
        have hh : pm_run PT n fr lo 195 (97, [some (.ref 162), some (.int (nI 2)), some (.int 1), some (.int (nI j))], [.int (rop 2 (tp p)), .ref 162], h4, 198, sl) = some R := hh
        obtain ⟨n, fr', lo', r1, hr1, hh⟩ := rn_call (w := 0) (t := 193) rfl rfl hh
        obtain ⟨d1, d2, d3, d4⟩ := cod_runN (by rw [List.length_append]; omega) b5 hr1
        obtain ⟨rv, h5, s5⟩ := r1
        dsimp only at d1 d2 d3 d4
        subst d1
        subst d4
        have g5 := d3 _ g4
        have hh : pm_run PT n fr lo 195 (100, [some (.ref 162), some (.int (nI 2)), some (.int 1), some (.int (nI j))], [], h5, 198, sl) = some R := hh
        obtain ⟨n, hh⟩ := rn_i rfl rfl rfl rfl hh
        obtain ⟨n, hh⟩ := rn_if (cc := .le) (off := 7) (t := 108) rfl rfl hh
        have hh : pm_run PT n fr lo 195 (104, [some (.ref 162), some (.int (nI 2)), some (.int 1), some (.int (nI j))], [], h5, 198, sl) = some R := hh
        obtain ⟨n, hh⟩ := rn_i rfl rfl rfl rfl hh
        obtain ⟨n, hh⟩ := rn_i rfl rfl rfl rfl hh
        obtain ⟨n, hh⟩ := rn_i rfl rfl rfl rfl hh
        obtain ⟨n, hh⟩ := rn_i rfl rfl rfl rfl hh
        have hh : pm_run PT n fr lo 195 (24, [some (.ref 162), some (.int (nI 2)), some (.int 1), some (.int (nI j))], [], h5, 198, sl) = some R := hh
        exact absurd hl y
  | succ k ihk =>
    intro p n x3 h cs hk hp hl0 q h18 hh
    obtain ⟨n, hh⟩ := rn_i rfl rfl rfl rfl hh
    obtain ⟨n, hh⟩ := rn_if (cc := .eq) (off := 88) (t := 113) rfl rfl hh
    have hh : pm_run PT n fr lo 195 (28, [some (.ref 162), some (.int (nI 2)), some (.int 1), x3], [], h, 198, sl) = some R := hh
    obtain ⟨n, hh⟩ := rn_i rfl rfl rfl rfl hh
    obtain ⟨n, hh⟩ := rn_i rfl rfl rfl rfl hh
    obtain ⟨n, hh⟩ := rn_if (cc := .ne) (off := 8) (t := 38) rfl rfl hh
    have hh : pm_run PT n fr lo 195 (38, [some (.ref 162), some (.int (nI 2)), some (.int 1), x3], [.ref 162], h, 198, sl) = some R := hh
    obtain ⟨n, hh⟩ := rn_i rfl rfl rfl rfl hh
    obtain ⟨n, hh⟩ := rn_i rfl rfl rfl rfl hh
    obtain ⟨n, hh⟩ := rn_icmp (cc := .ne) (off := 8) (t := 48) rfl rfl hh
    have hh : pm_run PT n fr lo 195 (48, [some (.ref 162), some (.int (nI 2)), some (.int 1), x3], [.ref 162], h, 198, sl) = some R := hh
    obtain ⟨n, hh⟩ := rn_i rfl rfl rfl rfl hh
    have hh : pm_run PT n fr lo 195 (50, [some (.ref 162), some (.int (nI 2)), some (.int 1), x3], [.retAddr 3, .ref 162], h, 198, sl) = some R := hh
    obtain ⟨n, fr', lo', r1, hr1, hh⟩ := rn_call (w := 0) (t := 183) rfl rfl hh
    have er := to_run (i := 3) (by decide) ht hp q.1 hr1
    have el : (tko 3 tp p t (st_tx 3).length 0).isSome = (decide (p < t) && zlev 2 (tp p)) := by
      by_cases y : p < t
      · rw [decide_eq_true y, Bool.true_and]
        exact tk_l2 y
      · rw [decide_eq_false y, Bool.false_and]
        exact tk_no y
    show zN R t sl ns tp cs (cond (decide (p < t) && zlev 2 (tp p)) (cond (pz tp t m 3 ns (p + 1)).1 (zlp (pz tp t m 3 ns) tp t 2 k (pz tp t m 3 ns (p + 1)).2) (false, (pz tp t m 3 ns (p + 1)).2)) (true, p)) (cond (decide (p < t) && zlev 2 (tp p)) (pr tp t m 3 ns (p + 1) ++ rop 2 (tp p) :: rlp (pr tp t m 3 ns) (pz tp t m 3 ns) tp t 2 k (pz tp t m 3 ns (p + 1)).2) [])
    rw [← el]
    cases zt : tko 3 tp p t (st_tx 3).length 0 with
    | none =>
      rw [zt] at er
      have er : r1 = (some (.int (-1)), h, 198, sl) := er
      subst er
      have hh : pm_run PT n fr lo 195 (53, [some (.ref 162), some (.int (nI 2)), some (.int 1), x3], [.int (-1)], h, 198, sl) = some R := hh
      obtain ⟨n, hh⟩ := rn_i rfl rfl rfl rfl hh
      obtain ⟨n, hh⟩ := rn_i rfl rfl rfl rfl hh
      have hh : pm_run PT n fr lo 195 (55, [some (.ref 162), some (.int (nI 2)), some (.int 1), some (.int (-1))], [.int (-1)], h, 198, sl) = some R := hh
      obtain ⟨n, hh⟩ := rn_if (cc := .ge) (off := 5) (t := 60) rfl rfl hh
      have hh : pm_run PT n fr lo 195 (58, [some (.ref 162), some (.int (nI 2)), some (.int 1), some (.int (-1))], [], h, 198, sl) = some R := hh
      obtain ⟨n, hh⟩ := rn_i rfl rfl rfl rfl hh
      exact zN_ok (by show qN h p t tp (cs ++ []); rw [List.append_nil]; exact q) h18 (rn_ret rfl (Or.inr rfl) hh).2
    | some j =>
      have hj := tko_some zt
      have hl : p < t := hj.1
      rw [zt] at er
      have er : r1 = (some (.int (nI j)), mset h 16 (.int (nI (p + 1))), 198, sl) := er
      subst er
      have hj2 : j < 2 := by
        have : (st_tx 3).length = 2 := by decide +kernel
        omega
      have q2 := qN_16 (p' := p + 1) q
      have g2 : mF (mset h 16 (.int (nI (p + 1)))) 18 (.int (nI ns)) := mF_ne (by decide) h18
      have hh : pm_run PT n fr lo 195 (53, [some (.ref 162), some (.int (nI 2)), some (.int 1), x3], [.int (nI j)], (mset h 16 (.int (nI (p + 1)))), 198, sl) = some R := hh
      generalize mset h 16 (.int (nI (p + 1))) = h2 at hh q2 g2
      have hh : pm_run PT n fr lo 195 (53, [some (.ref 162), some (.int (nI 2)), some (.int 1), x3], [.int (nI j)], h2, 198, sl) = some R := hh
      obtain ⟨n, hh⟩ := rn_i rfl rfl rfl rfl hh
      obtain ⟨n, hh⟩ := rn_i rfl rfl rfl rfl hh
      have hh : pm_run PT n fr lo 195 (55, [some (.ref 162), some (.int (nI 2)), some (.int 1), some (.int (nI j))], [.int (nI j)], h2, 198, sl) = some R := hh
      obtain ⟨n, hh⟩ := rn_if (cc := .ge) (off := 5) (t := 60) rfl rfl hh
      rw [ge0_val (by rw [nI_toInt (by omega)]; omega)] at hh
      have hh : pm_run PT n fr lo 195 (60, [some (.ref 162), some (.int (nI 2)), some (.int 1), some (.int (nI j))], [], h2, 198, sl) = some R := hh
      obtain ⟨n, hh⟩ := rn_i rfl rfl rfl rfl hh
      obtain ⟨n, hh⟩ := rn_i rfl rfl rfl rfl hh
      obtain ⟨n, hh⟩ := rn_i rfl rfl rfl rfl hh
      obtain ⟨n, hh⟩ := rn_i rfl rfl rfl rfl hh
      have hh : pm_run PT n fr lo 195 (64, [some (.ref 162), some (.int (nI 2)), some (.int 1), some (.int (nI j))], [.int (nI 3), .ref 162], h2, 198, sl) = some R := hh
      obtain ⟨n, fr', lo', r1, hr1, hh⟩ := rn_call (w := 0) (t := 195) rfl rfl hh
      obtain ⟨b1, b2, b3, b4⟩ := ih 3 ns (p + 1) _ _ _ _ _ _ _ (by omega) hns (by omega) (by omega) (by omega) q2 g2 hr1
      obtain ⟨rv, h4, s4⟩ := r1
      dsimp only at b1 b2 b3 b4
      subst b1
      subst b4
      have hle := pz_le (f := tp) (t := t) m 3 ns (p + 1) (by omega)
      have hge := pz_ge (f := tp) (t := t) m 3 ns (p + 1)
      have hlen := pr_len (f := tp) (t := t) m 3 ns (p + 1)
      have hh : pm_run PT n fr lo 195 (67, [some (.ref 162), some (.int (nI 2)), some (.int 1), some (.int (nI j))], [.int (cond (pz tp t m 3 ns (p + 1)).1 1 0)], h4, 198, sl) = some R := hh
      obtain ⟨n, hh⟩ := rn_if (cc := .ne) (off := 5) (t := 72) rfl rfl hh
      cases zr : (pz tp t m 3 ns (p + 1)).1 with
      | false =>
        rw [zr] at hh
        have hh : pm_run PT n fr lo 195 (70, [some (.ref 162), some (.int (nI 2)), some (.int 1), some (.int (nI j))], [], h4, 198, sl) = some R := hh
        obtain ⟨n, hh⟩ := rn_i rfl rfl rfl rfl hh
        exact zN_no b2 (rn_ret rfl (Or.inr rfl) hh).2
      | true =>
        rw [zr] at hh b3
        obtain ⟨g4, b5⟩ := b3 rfl
        have hlen := hlen zr
        have hh : pm_run PT n fr lo 195 (72, [some (.ref 162), some (.int (nI 2)), some (.int 1), some (.int (nI j))], [], h4, 198, sl) = some R := hh
        obtain ⟨n, hh⟩ := rn_i rfl rfl rfl rfl hh
        obtain ⟨n, hh⟩ := rn_i rfl rfl rfl rfl hh
        obtain ⟨n, hh⟩ := rn_i rfl rfl rfl rfl hh
        obtain ⟨n, hh⟩ := rn_i rfl rfl rfl rfl hh
        obtain ⟨n, hh⟩ := rn_i rfl rfl rfl rfl hh
        have hh : pm_run PT n fr lo 195 (79, [some (.ref 162), some (.int (nI 2)), some (.int 1), some (.int (nI j))], [.int (nI 2), .int (2000 + (nI j)), .ref 162], h4, 198, sl) = some R := hh
        obtain ⟨n, hh⟩ := rn_if (cc := .ne) (off := 7) (t := 86) rfl rfl hh
        have hh : pm_run PT n fr lo 195 (86, [some (.ref 162), some (.int (nI 2)), some (.int 1), some (.int (nI j))], [.int (2000 + (nI j)), .ref 162], h4, 198, sl) = some R := hh
        obtain ⟨n, hh⟩ := rn_i rfl rfl rfl rfl hh
        obtain ⟨n, hh⟩ := rn_i rfl rfl rfl rfl hh
        obtain ⟨n, hh⟩ := rn_icmp (cc := .ne) (off := 7) (t := 95) rfl rfl hh
        have hh : pm_run PT n fr lo 195 (95, [some (.ref 162), some (.int (nI 2)), some (.int 1), some (.int (nI j))], [.int (2000 + (nI j)), .ref 162], h4, 198, sl) = some R := hh
        obtain ⟨n, hh⟩ := rn_i rfl rfl rfl rfl hh
        have hh : pm_run PT n fr lo 195 (96, [some (.ref 162), some (.int (nI 2)), some (.int 1), some (.int (nI j))], [.int 5, .int (2000 + (nI j)), .ref 162], h4, 198, sl) = some R := hh
        obtain ⟨n, hh⟩ := rn_i rfl rfl rfl rfl hh
        have hh : pm_run PT n fr lo 195 (97, [some (.ref 162), some (.int (nI 2)), some (.int 1), some (.int (nI j))], [.int ((2000 + (nI j)) + 5), .ref 162], h4, 198, sl) = some R := hh
        rw [show (2000 : Int32) + nI j + 5 = rop 2 (tp p) from rop_2 zt] at hh
        have hh : pm_run PT n fr lo 195 (97, [some (.ref 162), some (.int (nI 2)), some (.int 1), some (.int (nI j))], [.int (rop 2 (tp p)), .ref 162], h4, 198, sl) = some R := hh
        obtain ⟨n, fr', lo', r1, hr1, hh⟩ := rn_call (w := 0) (t := 193) rfl rfl hh
        obtain ⟨d1, d2, d3, d4⟩ := cod_runN (by rw [List.length_append]; omega) b5 hr1
        obtain ⟨rv, h5, s5⟩ := r1
        dsimp only at d1 d2 d3 d4
        subst d1
        subst d4
        have g5 := d3 _ g4
        have hh : pm_run PT n fr lo 195 (100, [some (.ref 162), some (.int (nI 2)), some (.int 1), some (.int (nI j))], [], h5, 198, sl) = some R := hh
        obtain ⟨n, hh⟩ := rn_i rfl rfl rfl rfl hh
        obtain ⟨n, hh⟩ := rn_if (cc := .le) (off := 7) (t := 108) rfl rfl hh
        have hh : pm_run PT n fr lo 195 (104, [some (.ref 162), some (.int (nI 2)), some (.int 1), some (.int (nI j))], [], h5, 198, sl) = some R := hh
        obtain ⟨n, hh⟩ := rn_i rfl rfl rfl rfl hh
        obtain ⟨n, hh⟩ := rn_i rfl rfl rfl rfl hh
        obtain ⟨n, hh⟩ := rn_i rfl rfl rfl rfl hh
        obtain ⟨n, hh⟩ := rn_i rfl rfl rfl rfl hh
        have hh : pm_run PT n fr lo 195 (24, [some (.ref 162), some (.int (nI 2)), some (.int 1), some (.int (nI j))], [], h5, 198, sl) = some R := hh
        have q9 := ihk _ n _ h5 _ (by omega) hle (by rw [List.length_append, List.length_append]; show _ + _ + 1 ≤ _; omega) d2 g5 hh
        obtain ⟨r1, r2, r3, r4⟩ := q9
        exact ⟨r1, r2, fun y => ⟨(r3 y).1, by have y := (r3 y).2; rw [List.append_assoc, List.append_assoc] at y; exact y⟩, r4⟩
theorem rN_all {tp : Nat → Int32} (ht : t ≤ 40) : ∀ m, rN m t tp
  | 0 => by
    intro lv ns p n fr lo sl h R cs h1 h2 h3 hp hl0 q h18 hh
    omega
  | m + 1 => by
    intro lv ns p n fr lo sl h R cs h1 h2 h3 hp hl0 q h18 hh
    have ih := rN_all (tp := tp) ht m
    rcases (by omega : lv = 3 ∨ lv = 0 ∨ lv = 1 ∨ lv = 2) with rfl | rfl | rfl | rfl
    · show zN R t sl ns tp cs (zth (pz tp t m 0 (ns + 1)) tp t ns (zmi tp t 40 p)) (rthm tp t m ns p)
      obtain ⟨n, hh⟩ := rn_i rfl rfl rfl rfl hh
      obtain ⟨n, hh⟩ := rn_i rfl rfl rfl rfl hh
      obtain ⟨n, hh⟩ := rn_icmp (cc := .ne) (off := 8) (t := 10) rfl rfl hh
      have hh : pm_run PT n fr lo 195 (5, [some (.ref 162), some (.int (nI 3)), none, none], [], h, 198, sl) = some R := hh
      obtain ⟨n, hh⟩ := rn_i rfl rfl rfl rfl hh
      obtain ⟨n, fr', lo', r1, hr1, hh⟩ := rn_call (w := 0) (t := 194) rfl rfl hh
      obtain ⟨b1, b2, b3, b4⟩ := thn_run ht ih h2 (by omega) t p _ _ _ _ h _ (by omega) hp hl0 q h18 hr1
      obtain ⟨rv, h3, s3⟩ := r1
      dsimp only at b1 b2 b3 b4
      subst b1
      subst b4
      have hh : pm_run PT n fr lo 195 (9, [some (.ref 162), some (.int (nI 3)), none, none], [.int (cond (zth (pz tp t m 0 (ns + 1)) tp t ns (zmi tp t 40 p)).1 1 0)], h3, 198, sl) = some R := hh
      have e := (rn_ret rfl (Or.inr rfl) hh).2
      rw [e]
      exact ⟨rfl, b2, b3, rfl⟩
    · show zN R t sl ns tp cs (cond (pz tp t m 1 ns p).1 (zlp (pz tp t m 1 ns) tp t 0 1 (pz tp t m 1 ns p).2) (false, (pz tp t m 1 ns p).2)) (pr tp t m 1 ns p ++ rlp (pr tp t m 1 ns) (pz tp t m 1 ns) tp t 0 1 (pz tp t m 1 ns p).2)
      obtain ⟨n, hh⟩ := rn_i rfl rfl rfl rfl hh
      obtain ⟨n, hh⟩ := rn_i rfl rfl rfl rfl hh
      obtain ⟨n, hh⟩ := rn_icmp (cc := .ne) (off := 8) (t := 10) rfl rfl hh
      have hh : pm_run PT n fr lo 195 (10, [some (.ref 162), some (.int (nI 0)), none, none], [], h, 198, sl) = some R := hh
      obtain ⟨n, hh⟩ := rn_i rfl rfl rfl rfl hh
      obtain ⟨n, hh⟩ := rn_i rfl rfl rfl rfl hh
      obtain ⟨n, hh⟩ := rn_i rfl rfl rfl rfl hh
      obtain ⟨n, hh⟩ := rn_i rfl rfl rfl rfl hh
      have hh : pm_run PT n fr lo 195 (14, [some (.ref 162), some (.int (nI 0)), none, none], [.int (nI 1), .ref 162], h, 198, sl) = some R := hh
      obtain ⟨n, fr', lo', r1, hr1, hh⟩ := rn_call (w := 0) (t := 195) rfl rfl hh
      obtain ⟨b1, b2, b3, b4⟩ := ih 1 ns p _ _ _ _ _ _ _ (by omega) h2 (by omega) hp hl0 q h18 hr1
      obtain ⟨rv, h3, s3⟩ := r1
      dsimp only at b1 b2 b3 b4
      subst b1
      subst b4
      have hle := pz_le (f := tp) (t := t) m 1 ns p hp
      have hlen := pr_len (f := tp) (t := t) m 1 ns p
      have hh : pm_run PT n fr lo 195 (17, [some (.ref 162), some (.int (nI 0)), none, none], [.int (cond (pz tp t m 1 ns p).1 1 0)], h3, 198, sl) = some R := hh
      obtain ⟨n, hh⟩ := rn_if (cc := .ne) (off := 5) (t := 22) rfl rfl hh
      cases zr : (pz tp t m 1 ns p).1 with
      | false =>
        rw [zr] at hh
        have hh : pm_run PT n fr lo 195 (20, [some (.ref 162), some (.int (nI 0)), none, none], [], h3, 198, sl) = some R := hh
        obtain ⟨n, hh⟩ := rn_i rfl rfl rfl rfl hh
        exact zN_no b2 (rn_ret rfl (Or.inr rfl) hh).2
      | true =>
        rw [zr] at hh b3
        obtain ⟨g3, b5⟩ := b3 rfl
        have hlen := hlen zr
        have hh : pm_run PT n fr lo 195 (22, [some (.ref 162), some (.int (nI 0)), none, none], [], h3, 198, sl) = some R := hh
        obtain ⟨n, hh⟩ := rn_i rfl rfl rfl rfl hh
        obtain ⟨n, hh⟩ := rn_i rfl rfl rfl rfl hh
        have hh : pm_run PT n fr lo 195 (24, [some (.ref 162), some (.int (nI 0)), some (.int 1), none], [], h3, 198, sl) = some R := hh
        have q9 := lpn_0 ht ih h2 (by omega) hle (by rw [List.length_append]; omega) b5 g3 hh
        obtain ⟨r1, r2, r3, r4⟩ := q9
        exact ⟨r1, r2, fun y => ⟨(r3 y).1, by have y := (r3 y).2; rw [List.append_assoc] at y; exact y⟩, r4⟩
    · show zN R t sl ns tp cs (cond (pz tp t m 2 ns p).1 (zlp (pz tp t m 2 ns) tp t 1 40 (pz tp t m 2 ns p).2) (false, (pz tp t m 2 ns p).2)) (pr tp t m 2 ns p ++ rlp (pr tp t m 2 ns) (pz tp t m 2 ns) tp t 1 40 (pz tp t m 2 ns p).2)
      obtain ⟨n, hh⟩ := rn_i rfl rfl rfl rfl hh
      obtain ⟨n, hh⟩ := rn_i rfl rfl rfl rfl hh
      obtain ⟨n, hh⟩ := rn_icmp (cc := .ne) (off := 8) (t := 10) rfl rfl hh
      have hh : pm_run PT n fr lo 195 (10, [some (.ref 162), some (.int (nI 1)), none, none], [], h, 198, sl) = some R := hh
      obtain ⟨n, hh⟩ := rn_i rfl rfl rfl rfl hh
      obtain ⟨n, hh⟩ := rn_i rfl rfl rfl rfl hh
      obtain ⟨n, hh⟩ := rn_i rfl rfl rfl rfl hh
      obtain ⟨n, hh⟩ := rn_i rfl rfl rfl rfl hh
      have hh : pm_run PT n fr lo 195 (14, [some (.ref 162), some (.int (nI 1)), none, none], [.int (nI 2), .ref 162], h, 198, sl) = some R := hh
      obtain ⟨n, fr', lo', r1, hr1, hh⟩ := rn_call (w := 0) (t := 195) rfl rfl hh
      obtain ⟨b1, b2, b3, b4⟩ := ih 2 ns p _ _ _ _ _ _ _ (by omega) h2 (by omega) hp hl0 q h18 hr1
      obtain ⟨rv, h3, s3⟩ := r1
      dsimp only at b1 b2 b3 b4
      subst b1
      subst b4
      have hle := pz_le (f := tp) (t := t) m 2 ns p hp
      have hlen := pr_len (f := tp) (t := t) m 2 ns p
      have hh : pm_run PT n fr lo 195 (17, [some (.ref 162), some (.int (nI 1)), none, none], [.int (cond (pz tp t m 2 ns p).1 1 0)], h3, 198, sl) = some R := hh
      obtain ⟨n, hh⟩ := rn_if (cc := .ne) (off := 5) (t := 22) rfl rfl hh
      cases zr : (pz tp t m 2 ns p).1 with
      | false =>
        rw [zr] at hh
        have hh : pm_run PT n fr lo 195 (20, [some (.ref 162), some (.int (nI 1)), none, none], [], h3, 198, sl) = some R := hh
        obtain ⟨n, hh⟩ := rn_i rfl rfl rfl rfl hh
        exact zN_no b2 (rn_ret rfl (Or.inr rfl) hh).2
      | true =>
        rw [zr] at hh b3
        obtain ⟨g3, b5⟩ := b3 rfl
        have hlen := hlen zr
        have hh : pm_run PT n fr lo 195 (22, [some (.ref 162), some (.int (nI 1)), none, none], [], h3, 198, sl) = some R := hh
        obtain ⟨n, hh⟩ := rn_i rfl rfl rfl rfl hh
        obtain ⟨n, hh⟩ := rn_i rfl rfl rfl rfl hh
        have hh : pm_run PT n fr lo 195 (24, [some (.ref 162), some (.int (nI 1)), some (.int 1), none], [], h3, 198, sl) = some R := hh
        have q9 := lpn_1 ht ih h2 (by omega) 40 _ n _ h3 _ (by omega) hle (by rw [List.length_append]; omega) b5 g3 hh
        obtain ⟨r1, r2, r3, r4⟩ := q9
        exact ⟨r1, r2, fun y => ⟨(r3 y).1, by have y := (r3 y).2; rw [List.append_assoc] at y; exact y⟩, r4⟩
    · show zN R t sl ns tp cs (cond (pz tp t m 3 ns p).1 (zlp (pz tp t m 3 ns) tp t 2 40 (pz tp t m 3 ns p).2) (false, (pz tp t m 3 ns p).2)) (pr tp t m 3 ns p ++ rlp (pr tp t m 3 ns) (pz tp t m 3 ns) tp t 2 40 (pz tp t m 3 ns p).2)
      obtain ⟨n, hh⟩ := rn_i rfl rfl rfl rfl hh
      obtain ⟨n, hh⟩ := rn_i rfl rfl rfl rfl hh
      obtain ⟨n, hh⟩ := rn_icmp (cc := .ne) (off := 8) (t := 10) rfl rfl hh
      have hh : pm_run PT n fr lo 195 (10, [some (.ref 162), some (.int (nI 2)), none, none], [], h, 198, sl) = some R := hh
      obtain ⟨n, hh⟩ := rn_i rfl rfl rfl rfl hh
      obtain ⟨n, hh⟩ := rn_i rfl rfl rfl rfl hh
      obtain ⟨n, hh⟩ := rn_i rfl rfl rfl rfl hh
      obtain ⟨n, hh⟩ := rn_i rfl rfl rfl rfl hh
      have hh : pm_run PT n fr lo 195 (14, [some (.ref 162), some (.int (nI 2)), none, none], [.int (nI 3), .ref 162], h, 198, sl) = some R := hh
      obtain ⟨n, fr', lo', r1, hr1, hh⟩ := rn_call (w := 0) (t := 195) rfl rfl hh
      obtain ⟨b1, b2, b3, b4⟩ := ih 3 ns p _ _ _ _ _ _ _ (by omega) h2 (by omega) hp hl0 q h18 hr1
      obtain ⟨rv, h3, s3⟩ := r1
      dsimp only at b1 b2 b3 b4
      subst b1
      subst b4
      have hle := pz_le (f := tp) (t := t) m 3 ns p hp
      have hlen := pr_len (f := tp) (t := t) m 3 ns p
      have hh : pm_run PT n fr lo 195 (17, [some (.ref 162), some (.int (nI 2)), none, none], [.int (cond (pz tp t m 3 ns p).1 1 0)], h3, 198, sl) = some R := hh
      obtain ⟨n, hh⟩ := rn_if (cc := .ne) (off := 5) (t := 22) rfl rfl hh
      cases zr : (pz tp t m 3 ns p).1 with
      | false =>
        rw [zr] at hh
        have hh : pm_run PT n fr lo 195 (20, [some (.ref 162), some (.int (nI 2)), none, none], [], h3, 198, sl) = some R := hh
        obtain ⟨n, hh⟩ := rn_i rfl rfl rfl rfl hh
        exact zN_no b2 (rn_ret rfl (Or.inr rfl) hh).2
      | true =>
        rw [zr] at hh b3
        obtain ⟨g3, b5⟩ := b3 rfl
        have hlen := hlen zr
        have hh : pm_run PT n fr lo 195 (22, [some (.ref 162), some (.int (nI 2)), none, none], [], h3, 198, sl) = some R := hh
        obtain ⟨n, hh⟩ := rn_i rfl rfl rfl rfl hh
        obtain ⟨n, hh⟩ := rn_i rfl rfl rfl rfl hh
        have hh : pm_run PT n fr lo 195 (24, [some (.ref 162), some (.int (nI 2)), some (.int 1), none], [], h3, 198, sl) = some R := hh
        have q9 := lpn_2 ht ih h2 (by omega) 40 _ n _ h3 _ (by omega) hle (by rw [List.length_append]; omega) b5 g3 hh
        obtain ⟨r1, r2, r3, r4⟩ := q9
        exact ⟨r1, r2, fun y => ⟨(r3 y).1, by have y := (r3 y).2; rw [List.append_assoc] at y; exact y⟩, r4⟩
end ZRN
