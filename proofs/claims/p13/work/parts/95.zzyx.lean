/-! an act of both sides: a state is put by, then changed -/
section ACT
variable {cc gc fi si : Nat} {q : QT} {h H X M1 h2 : pm_H} {v : Int32} {W WX WM W2 : List Nat} {V VX VM V2 : List (Nat × Nat)}
def AK : List Nat := [6, 7, 9, 10, 11, 143, 146, 160, 161, 164, 165, 166, 167, 168, 174, 191, 192, 196, 125, 126, 127, 128, 129, 131, 132, 133, 134, 135, 137, 138, 139, 140, 141]
def FK : List (Nat × Nat) := [(0, 7), (5, 0), (5, 1), (159, 0), (162, 47), (124, 5), (124, 6), (130, 5), (130, 6), (136, 5), (136, 6)]
def CK : List Nat := AK ++ [0, 5, 159, 124, 130, 136]
/-- SR behind a change of the state now and of what can be undone -/
theorem SR_act (c2 : HC q cc gc h2) (hq : q.1 = 142 ∨ q.1 = 145) (s : SRq q cc gc h) (ka : kpt AK h h2) (kf : kpf FK h h2) (k9 : k0f 9 h h2) (nw : RSb cc gc 13 h2 (Ar h2 170) ∧ RI cc gc (Ar h2 170)) (pa : PA cc gc h2) : SR h2 := by
  obtain ⟨⟨s4, ⟨fs, o1, o2⟩⟩, ⟨s1, s3, s5, s6, ⟨m, m1, ⟨m2, m3⟩, m4⟩⟩⟩ := s
  have eq1 : Ar h2 (q.1 + 1) = Ar h (q.1 + 1) := by
    rcases hq with e | e
    · rw [e]
      exact ka 143 rfl
    · rw [e]
      exact ka 146 rfl
  refine ⟨q, cc, gc, c2, ⟨⟨?_, k9 fs _ o1 o2⟩, ⟨nw, ?_, pa, fun i hi hk => ?_, ⟨m, m1, ⟨(kf 159 0 rfl).trans m2, (kf 162 47 rfl).trans m3⟩, fun j hj => ?_⟩⟩⟩⟩
  · rw [eq1, ka 174 rfl]
    exact s4
  · unfold RMm
    rw [ka 6 rfl, ka 7 rfl, ka 9 rfl, ka 10 rfl, ka 11 rfl, ka 164 rfl, ka 165 rfl, ka 166 rfl, ka 167 rfl, ka 168 rfl]
    exact s3
  · rw [kf 0 7 rfl] at hk
    obtain ⟨k1, k2⟩ := s6 i hi hk
    rw [ka 196 rfl]
    refine ⟨?_, k2⟩
    unfold RSb at k1 ⊢
    rcases (by omega : i = 0 ∨ i = 1 ∨ i = 2) with rfl | rfl | rfl
    · show RS cc gc (Ar h2 125) (Ar h2 126) (Ar h2 127) (Ar h2 128) (Ar h2 129) (Fi h2 124 5) (Fi h2 124 6) _
      rw [ka 125 rfl, ka 126 rfl, ka 127 rfl, ka 128 rfl, ka 129 rfl, kf 124 5 rfl, kf 124 6 rfl]
      exact k1
    · show RS cc gc (Ar h2 131) (Ar h2 132) (Ar h2 133) (Ar h2 134) (Ar h2 135) (Fi h2 130 5) (Fi h2 130 6) _
      rw [ka 131 rfl, ka 132 rfl, ka 133 rfl, ka 134 rfl, ka 135 rfl, kf 130 5 rfl, kf 130 6 rfl]
      exact k1
    · show RS cc gc (Ar h2 137) (Ar h2 138) (Ar h2 139) (Ar h2 140) (Ar h2 141) (Fi h2 136 5) (Fi h2 136 6) _
      rw [ka 137 rfl, ka 138 rfl, ka 139 rfl, ka 140 rfl, ka 141 rfl, kf 136 5 rfl, kf 136 6 rfl]
      exact k1
  · rw [ka 160 rfl, ka 161 rfl, ka 191 rfl, ka 192 rfl]
    exact m4 j hj
/-- the class has put its state by -/
def XP (q : QT) (cc gc fi si : Nat) (h H : pm_H) : Prop := ((∀ i, (i < 27 ∨ 123 ≤ i) → i ≠ 25 → H i = h i) ∧ ∀ i, 27 ≤ i → i < 123 → H i = cp73 h (27 + 6 * ((fi + si) % 16)) 13 i) ∧ (Fi H 25 1 = nI (if 15 ≤ si then (fi + 1) % 16 else fi) ∧ Fi H 25 2 = nI (min (si + 1) 15)) ∧ HC q cc gc H
theorem xp_cell {k : Nat} {x : Value} (i : Nat) (hi : i < 27 ∨ 123 ≤ i) (hn : i ≠ 25) : fset (cp73 h (27 + 6 * ((fi + si) % 16)) 13) 25 k x i = h i := (fs_ne hn).trans (cp73_ne (by omega))
theorem xp_1 (hc : HC q cc gc h) (z : 15 ≤ si) (hs : si ≤ 15) (e2 : Fi h 25 2 = nI si) : XP q cc gc fi si h (fset (cp73 h (27 + 6 * ((fi + si) % 16)) 13) 25 1 (.int (nI ((fi + 1) % 16)))) := by
  have c1 : HC q cc gc (cp73 h (27 + 6 * ((fi + si) % 16)) 13) := cp73_hc (xst_27 (Nat.mod_lt _ (by decide))) hc
  refine ⟨⟨fun i h1 h2 => xp_cell i h1 h2, fun i h1 h2 => fs_ne (by omega)⟩, ⟨?_, ?_⟩, hc_f rfl rfl (by decide) rfl c1⟩
  · rw [Fi_s c1.wt (by decide) rfl (by decide) rfl, if_pos z]
  · rw [Fi_n (Or.inr (by decide)), Fi_e (cp73_ne (by omega)), e2, show min (si + 1) 15 = si by omega]
theorem xp_0 (hc : HC q cc gc h) (z : ¬ 15 ≤ si) (e1 : Fi h 25 1 = nI fi) : XP q cc gc fi si h (fset (cp73 h (27 + 6 * ((fi + si) % 16)) 13) 25 2 (.int (nI (si + 1)))) := by
  have c1 : HC q cc gc (cp73 h (27 + 6 * ((fi + si) % 16)) 13) := cp73_hc (xst_27 (Nat.mod_lt _ (by decide))) hc
  refine ⟨⟨fun i h1 h2 => xp_cell i h1 h2, fun i h1 h2 => fs_ne (by omega)⟩, ⟨?_, ?_⟩, hc_f rfl rfl (by decide) rfl c1⟩
  · rw [Fi_n (Or.inr (by decide)), Fi_e (cp73_ne (by omega)), e1, if_neg z]
  · rw [Fi_s c1.wt (by decide) rfl (by decide) rfl, show min (si + 1) 15 = si + 1 by omega]
def actX (W : List Nat) : Bool := CK.all (fun a => !(W.elem a)) && (W.all (fun a => Nat.blt a 162) && (!(W.elem 25) && (List.range 96).all (fun j => !(W.elem (27 + j)))))
def actM (W : List Nat) (V : List (Nat × Nat)) : Bool := CK.all (fun a => !(W.elem a)) && (W.all (fun a => Nat.ble 162 a) && (!(W.elem 178) && (!(V.elem (162, 47)) && !(V.elem (162, 27)))))
theorem nel {a : Nat} (e : (!(W.elem a)) = true) : W.elem a = false := by simpa using e
theorem nel2 {p : Nat × Nat} (e : (!(V.elem p)) = true) : V.elem p = false := by simpa using e
theorem el_lt {a : Nat} (w : W.all (fun a => Nat.blt a 162) = true) (ha : 162 ≤ a) : W.elem a = false := by
  cases z : W.elem a with
  | false => rfl
  | true =>
    have := Nat.le_of_ble_eq_true (List.all_eq_true.mp w a (List.elem_iff.mp z))
    omega
theorem el_ge {a : Nat} (w : W.all (fun a => Nat.ble 162 a) = true) (ha : a < 162) : W.elem a = false := by
  cases z : W.elem a with
  | false => rfl
  | true =>
    have := Nat.le_of_ble_eq_true (List.all_eq_true.mp w a (List.elem_iff.mp z))
    omega
theorem CK_lo : CK.all (fun a => (Nat.blt a 27 || Nat.ble 123 a) && (!(Nat.beq a 25) && (!(Nat.beq a 162) && !(Nat.beq a 178)))) = true := by decide +kernel
theorem CK_of {a : Nat} (e : CK.elem a = true) : (a < 27 ∨ 123 ≤ a) ∧ a ≠ 25 ∧ a ≠ 162 ∧ a ≠ 178 := by
  have z := List.all_eq_true.mp CK_lo a (List.elem_iff.mp e)
  rw [Bool.and_eq_true, Bool.and_eq_true, Bool.and_eq_true, Bool.or_eq_true] at z
  obtain ⟨z1, z2, z3, z4⟩ := z
  have n : ∀ b : Nat, (!(Nat.beq a b)) = true → a ≠ b := fun b e y => by
    rw [y, Nat.beq_refl] at e
    cases e
  refine ⟨?_, n 25 z2, n 162 z3, n 178 z4⟩
  rcases z1 with z1 | z1
  · exact Or.inl (Nat.le_of_ble_eq_true z1)
  · exact Or.inr (Nat.le_of_ble_eq_true z1)
theorem act_sr (hc : HC q cc gc h) (s : SRq q cc gc h) (hfi : fi < 16) (hsi : si ≤ 15) (pa : ∀ j, j < si → RSb cc gc (27 + 6 * ((fi + j) % 16)) h (fun k => Ar h 178 (96 * j + k)) ∧ RI cc gc (fun k => Ar h 178 (96 * j + k))) (xp : XP q cc gc fi si h H) (fX : frm WX VX H X) (kX : actX WX = true) (cX : HC q cc gc X) (fM : frm WM VM (v211 q cc gc (fset X 162 0 (.int (nI 0))) si) M1) (kM : actM WM VM = true) (cM : HC q cc gc M1) (f2 : frm W2 V2 (v212 q cc gc M1 si v).2 h2) (k2 : actM W2 V2 = true) (k170 : W2.elem 170 = false) (c2 : HC q cc gc h2) (nw : RS cc gc (Ar X 14) (Ar X 15) (Ar X 16) (Ar X 17) (Ar X 18) (Fi X 13 5) (Fi X 13 6) (Ar M1 170) ∧ RI cc gc (Ar M1 170)) : SR h2 := by
  unfold actX at kX
  unfold actM at kM k2
  rw [Bool.and_eq_true, Bool.and_eq_true, Bool.and_eq_true] at kX
  rw [Bool.and_eq_true, Bool.and_eq_true, Bool.and_eq_true, Bool.and_eq_true] at kM k2
  obtain ⟨x1, x2, x3, x4⟩ := kX
  obtain ⟨y1, y2, y3, y4, y5⟩ := kM
  obtain ⟨z1, z2, z3, z4, z5⟩ := k2
  have cF : HC q cc gc (fset X 162 0 (.int (nI 0))) := hc_f rfl rfl (by decide) rfl cX
  have g1 := (v211_fr (u := si) cF hsi).2
  have g2 := (v212_fr (u := si) (v := v) cM hsi).2
  have ne2 : ∀ a, a ≠ 162 → a ≠ 178 → (List.elem a [162, 178]) = false := fun a h1 h2 => by
    cases z : List.elem a [162, 178] with
    | false => rfl
    | true =>
      have := List.elem_iff.mp z
      simp at this
      omega
  have ne1 : ∀ a, a ≠ 178 → (List.elem a [178]) = false := fun a h1 => by
    cases z : List.elem a [178] with
    | false => rfl
    | true =>
      have := List.elem_iff.mp z
      simp at this
      omega
  -- the class's cells behind its act
  have lo : ∀ a, a < 162 → h2 a = X a := fun a ha => ((f2.1 a (el_ge z2 ha)).trans (g2.1 a (ne2 a (by omega) (by omega)))).trans (((fM.1 a (el_ge y2 ha)).trans (g1.1 a (ne1 a (by omega)))).trans (fs_ne (by omega)))
  have cs : ∀ a, CK.elem a = true → h2 a = h a := fun a e => by
    obtain ⟨e1, e2, e3, e4⟩ := CK_of e
    have w := List.elem_iff.mp e
    exact (((f2.1 a (nel (List.all_eq_true.mp z1 a w))).trans (g2.1 a (ne2 a e3 e4))).trans (((fM.1 a (nel (List.all_eq_true.mp y1 a w))).trans (g1.1 a (ne1 a e4))).trans (fs_ne e3))).trans ((fX.1 a (nel (List.all_eq_true.mp x1 a w))).trans (xp.1.1 a e1 e2))
  have hiX : ∀ a, 162 ≤ a → X a = h a := fun a ha => (fX.1 a (el_lt x2 ha)).trans (xp.1.1 a (by omega) (by omega))
  have ka : kpt AK h h2 := fun a e => Ar_e (cs a (List.elem_iff.mpr (List.mem_append_left _ (List.elem_iff.mp e))))
  have f47 : Fi h2 162 47 = Fi h 162 47 := ((f2.2 162 47 rfl (nel2 z4)).trans (g2.2 162 47 rfl rfl)).trans (((fM.2 162 47 rfl (nel2 y4)).trans (g1.2 162 47 rfl rfl)).trans ((Fi_n (Or.inr (by decide))).trans (Fi_e (hiX 162 (by decide)))))
  have kf : kpf FK h h2 := by
    intro c g e
    have e := List.elem_iff.mp e
    simp only [FK, List.mem_cons, Prod.mk.injEq, List.not_mem_nil, or_false] at e
    rcases e with ⟨rfl, rfl⟩ | ⟨rfl, rfl⟩ | ⟨rfl, rfl⟩ | ⟨rfl, rfl⟩ | ⟨rfl, rfl⟩ | ⟨rfl, rfl⟩ | ⟨rfl, rfl⟩ | ⟨rfl, rfl⟩ | ⟨rfl, rfl⟩ | ⟨rfl, rfl⟩ | ⟨rfl, rfl⟩
    · exact Fi_e (cs 0 rfl)
    · exact Fi_e (cs 5 rfl)
    · exact Fi_e (cs 5 rfl)
    · exact Fi_e (cs 159 rfl)
    · exact f47
    · exact Fi_e (cs 124 rfl)
    · exact Fi_e (cs 124 rfl)
    · exact Fi_e (cs 130 rfl)
    · exact Fi_e (cs 130 rfl)
    · exact Fi_e (cs 136 rfl)
    · exact Fi_e (cs 136 rfl)
  have k9 : k0f 9 h h2 := fun fs p e1 e2 => ⟨fs, (cs 0 rfl).trans e1, e2⟩
  obtain ⟨w1, w2, w3, w4⟩ := v212_ar (v := v) cM hsi
  have e170 : Ar h2 170 = Ar M1 170 := (Ar_e (f2.1 170 k170)).trans w2
  have nw2 : RSb cc gc 13 h2 (Ar h2 170) ∧ RI cc gc (Ar h2 170) := by
    rw [e170]
    refine ⟨?_, nw.2⟩
    unfold RSb
    rw [Ar_e (lo (13 + 1) (by decide)), Ar_e (lo (13 + 2) (by decide)), Ar_e (lo (13 + 3) (by decide)), Ar_e (lo (13 + 4) (by decide)), Ar_e (lo (13 + 5) (by decide)), Fi_e (lo 13 (by decide)), Fi_e (lo 13 (by decide))]
    exact nw.1
  have x25 : h2 25 = H 25 := (lo 25 (by decide)).trans (fX.1 25 (nel x3))
  obtain ⟨v1, v2, v3⟩ := v211_ar (q := q) (cc := cc) (gc := gc) (h := fset X 162 0 (.int (nI 0))) (u := si)
  have m178 : Ar M1 178 = Ar (v211 q cc gc (fset X 162 0 (.int (nI 0))) si) 178 := Ar_e (fM.1 178 (nel y3))
  have b170 : Ar (fset X 162 0 (.int (nI 0))) 170 = Ar h 170 := Ar_f.trans (Ar_e (hiX 170 (by decide)))
  have b178 : Ar (fset X 162 0 (.int (nI 0))) 178 = Ar h 178 := Ar_f.trans (Ar_e (hiX 178 (by decide)))
  have h178 : Ar h2 178 = Ar (v212 q cc gc M1 si v).2 178 := Ar_e (f2.1 178 (nel z3))
  refine SR_act c2 hc.qq s ka kf k9 nw2 (pa_push hc.cb hc.gb hc.wt hfi hsi pa s.2.1.1 s.2.1.2 (fun i h1 h3 => ?_) ?_ ?_ ?_ (fun j hj k hk => ?_))
  · have e := List.all_eq_true.mp x4 (i - 27) (List.mem_range.mpr (by omega))
    rw [show 27 + (i - 27) = i by omega] at e
    exact ((lo i (by omega)).trans (fX.1 i (nel e))).trans (xp.1.2 i h1 h3)
  · exact (Fi_e x25).trans xp.2.1.1
  · exact (Fi_e x25).trans xp.2.1.2
  · exact (f2.2 162 27 rfl (nel2 z5)).trans w1
  · rw [h178]
    by_cases z : 15 ≤ si
    · have hs : si = 15 := by omega
      rw [if_pos z, w4 hs _ (by omega), m178, show 96 * j + k + 96 = 96 * (j + 1) + k by omega]
      by_cases y : j = 14
      · rw [if_pos y, show 96 * (j + 1) + k = 96 * si + k by omega, v2 k hk, b170]
      · rw [if_neg y, v3 _ (by omega), b178]
    · rw [if_neg z, w3 (by omega), m178]
      by_cases y : j = si
      · rw [if_pos y, y, v2 k hk, b170]
      · rw [if_neg y, v3 _ (by omega), b178]
end ACT
