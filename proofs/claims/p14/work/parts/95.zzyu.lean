/-! the relation of the whole states, and what keeps it -/
section SRD
variable {n fr lo sl kx km cc gc b : Nat} {q : QT} {h h' h1 h2 hx : pm_H} {r : Nat → Int32} {R : pm_Rs} {vs : List Int32} {v w : Int32}
def stB : List Nat := [13, 27, 33, 39, 45, 51, 57, 63, 69, 75, 81, 87, 93, 99, 105, 111, 117, 124, 130, 136]
def SB : List Nat := [6, 7, 9, 10, 11, 160, 161, 164, 165, 166, 167, 168, 170, 178, 191, 192, 196, 14, 15, 16, 17, 18, 28, 29, 30, 31, 32, 34, 35, 36, 37, 38, 40, 41, 42, 43, 44, 46, 47, 48, 49, 50, 52, 53, 54, 55, 56, 58, 59, 60, 61, 62, 64, 65, 66, 67, 68, 70, 71, 72, 73, 74, 76, 77, 78, 79, 80, 82, 83, 84, 85, 86, 88, 89, 90, 91, 92, 94, 95, 96, 97, 98, 100, 101, 102, 103, 104, 106, 107, 108, 109, 110, 112, 113, 114, 115, 116, 118, 119, 120, 121, 122, 125, 126, 127, 128, 129, 131, 132, 133, 134, 135, 137, 138, 139, 140, 141]
def SA : List Nat := SB ++ [143, 146, 174]
def SF2 : List (Nat × Nat) := [(0, 7), (5, 0), (5, 1), (25, 1), (25, 2), (159, 0), (162, 3), (162, 4), (162, 27), (162, 47), (13, 5), (13, 6), (27, 5), (27, 6), (33, 5), (33, 6), (39, 5), (39, 6), (45, 5), (45, 6), (51, 5), (51, 6), (57, 5), (57, 6), (63, 5), (63, 6), (69, 5), (69, 6), (75, 5), (75, 6), (81, 5), (81, 6), (87, 5), (87, 6), (93, 5), (93, 6), (99, 5), (99, 6), (105, 5), (105, 6), (111, 5), (111, 6), (117, 5), (117, 6), (124, 5), (124, 6), (130, 5), (130, 6), (136, 5), (136, 6)]
def SFs : List (Nat × Nat) := SF2 ++ [(142, 1), (145, 1), (162, 23)]
/-- the state object b of the class tells what the row r does -/
def RSb (cc gc b : Nat) (h : pm_H) (r : Nat → Int32) : Prop := RS cc gc (Ar h (b + 1)) (Ar h (b + 2)) (Ar h (b + 3)) (Ar h (b + 4)) (Ar h (b + 5)) (Fi h b 5) (Fi h b 6) r
/-- what can be undone -/
def PA (cc gc : Nat) (h : pm_H) : Prop := ∃ fi si : Nat, fi < 16 ∧ si ≤ 15 ∧ (Fi h 25 1 = nI fi ∧ Fi h 25 2 = nI si ∧ Fi h 162 27 = nI si) ∧ ∀ j, j < si → RSb cc gc (27 + 6 * ((fi + j) % 16)) h (fun k => Ar h 178 (96 * j + k)) ∧ RI cc gc (fun k => Ar h 178 (96 * j + k))
/-- what is kept -/
def KP (cc gc : Nat) (h : pm_H) : Prop := ∀ i, i < 3 → kbit (Fi h 0 7) (nI i) = true → RSb cc gc (124 + 6 * i) h (fun k => Ar h 196 (96 * i + k)) ∧ RI cc gc (fun k => Ar h 196 (96 * i + k))
/-- what was heard -/
def CLU (h : pm_H) : Prop := ∃ m : Nat, m ≤ 12 ∧ (Fi h 159 0 = nI m ∧ Fi h 162 47 = nI m) ∧ ∀ j, j < m → Ar h 160 j = Ar h 191 j ∧ Ar h 161 j = Ar h 192 j ∧ v2 (0, 0, 0) 0 0 (Ar h 160 j) (Ar h 161 j) = true
/-- all but THE RULE -/
def SRc (cc gc : Nat) (h : pm_H) : Prop := (RSb cc gc 13 h (Ar h 170) ∧ RI cc gc (Ar h 170)) ∧ RMm cc gc h h ∧ PA cc gc h ∧ KP cc gc h ∧ CLU h
/-- the rule that isn't ruling -/
def OT (q : QT) (h : pm_H) : Prop := ∃ fs, h 0 = .inr (10, fs) ∧ fs[9]? = some (.ref (287 - q.1))
def SRq (q : QT) (cc gc : Nat) (h : pm_H) : Prop := (VR q cc gc (Ar h (q.1 + 1)) (Ar h 174) ∧ OT q h) ∧ SRc cc gc h
def SR (h : pm_H) : Prop := ∃ q cc gc, HC q cc gc h ∧ SRq q cc gc h
def kpt (As : List Nat) (h h' : pm_H) : Prop := ∀ a, As.elem a = true → Ar h' a = Ar h a
def kpf (Fs : List (Nat × Nat)) (h h' : pm_H) : Prop := ∀ c g, Fs.elem (c, g) = true → Fi h' c g = Fi h c g
theorem kpt_tr {As : List Nat} (x : kpt As h h1) (y : kpt As h1 h2) : kpt As h h2 := fun a e => (y a e).trans (x a e)
theorem kpf_tr {Fs : List (Nat × Nat)} (x : kpf Fs h h1) (y : kpf Fs h1 h2) : kpf Fs h h2 := fun c g e => (y c g e).trans (x c g e)
theorem kpt_b (x : kpt SA h h') : kpt SB h h' := fun a e => x a (List.elem_iff.mpr (List.mem_append_left _ (List.elem_iff.mp e)))
theorem kpf_b (x : kpf SFs h h') : kpf SF2 h h' := fun c g e => x c g (List.elem_iff.mpr (List.mem_append_left _ (List.elem_iff.mp e)))
theorem sst_in : stB.all (fun b => SB.elem (b + 1) && (SB.elem (b + 2) && (SB.elem (b + 3) && (SB.elem (b + 4) && (SB.elem (b + 5) && (SF2.elem (b, 5) && SF2.elem (b, 6))))))) = true := by decide +kernel
theorem st_p : ∀ m, m < 16 → stB.elem (27 + 6 * m) = true := by decide +kernel
theorem st_k : ∀ m, m < 3 → stB.elem (124 + 6 * m) = true := by decide +kernel
theorem RSb_keep (hb : stB.elem b = true) (ka : kpt SB h h') (kf : kpf SF2 h h') (s : RSb cc gc b h r) : RSb cc gc b h' r := by
  have z := List.all_eq_true.mp sst_in b (List.elem_iff.mp hb)
  rw [Bool.and_eq_true, Bool.and_eq_true, Bool.and_eq_true, Bool.and_eq_true, Bool.and_eq_true, Bool.and_eq_true] at z
  obtain ⟨z1, z2, z3, z4, z5, z6, z7⟩ := z
  unfold RSb
  rw [ka _ z1, ka _ z2, ka _ z3, ka _ z4, ka _ z5, kf _ _ z6, kf _ _ z7]
  exact s
theorem SRc_keep (ka : kpt SB h h') (kf : kpf SF2 h h') (s : SRc cc gc h) : SRc cc gc h' := by
  obtain ⟨⟨s1, s2⟩, s3, ⟨fi, si, p1, p2, ⟨p3, p4, p5⟩, p6⟩, s6, ⟨m, m1, ⟨m2, m3⟩, m4⟩⟩ := s
  have e170 : Ar h' 170 = Ar h 170 := ka 170 rfl
  have e178 : Ar h' 178 = Ar h 178 := ka 178 rfl
  have e196 : Ar h' 196 = Ar h 196 := ka 196 rfl
  refine ⟨⟨?_, ?_⟩, ?_, ⟨fi, si, p1, p2, ⟨(kf 25 1 rfl).trans p3, (kf 25 2 rfl).trans p4, (kf 162 27 rfl).trans p5⟩, fun j hj => ?_⟩, fun i hi hk => ?_, ⟨m, m1, ⟨(kf 159 0 rfl).trans m2, (kf 162 47 rfl).trans m3⟩, fun j hj => ?_⟩⟩
  · rw [e170]
    exact RSb_keep rfl ka kf s1
  · rw [e170]
    exact s2
  · unfold RMm
    rw [ka 6 rfl, ka 7 rfl, ka 9 rfl, ka 10 rfl, ka 11 rfl, ka 164 rfl, ka 165 rfl, ka 166 rfl, ka 167 rfl, ka 168 rfl]
    exact s3
  · rw [e178]
    exact ⟨RSb_keep (st_p _ (Nat.mod_lt _ (by decide))) ka kf (p6 j hj).1, (p6 j hj).2⟩
  · rw [kf 0 7 rfl] at hk
    rw [e196]
    exact ⟨RSb_keep (st_k i hi) ka kf (s6 i hi hk).1, (s6 i hi hk).2⟩
  · rw [ka 160 rfl, ka 161 rfl, ka 191 rfl, ka 192 rfl]
    exact m4 j hj
/-- a reference that stands in a field of object 0 stands there still -/
def k0f (g : Nat) (h h' : pm_H) : Prop := ∀ fs p, h 0 = .inr (10, fs) → fs[g]? = some (.ref p) → ∃ fs', h' 0 = .inr (10, fs') ∧ fs'[g]? = some (.ref p)
theorem SRq_keep (hq : q.1 = 142 ∨ q.1 = 145) (ka : kpt SA h h') (kf : kpf SFs h h') (k9 : k0f 9 h h') (s : SRq q cc gc h) : SRq q cc gc h' := by
  obtain ⟨⟨s4, ⟨fs, o1, o2⟩⟩, s⟩ := s
  have e174 : Ar h' 174 = Ar h 174 := ka 174 rfl
  have eq1 : Ar h' (q.1 + 1) = Ar h (q.1 + 1) := by
    rcases hq with e | e
    · rw [e]
      exact ka 143 rfl
    · rw [e]
      exact ka 146 rfl
  refine ⟨⟨?_, k9 fs _ o1 o2⟩, SRc_keep (kpt_b ka) (kpf_b kf) s⟩
  rw [eq1, e174]
  exact s4
theorem HC_keep (hw : WT h') (kf : kpf SFs h h') (k8 : k0f 8 h h') (c : HC q cc gc h) : HC q cc gc h' := by
  obtain ⟨w, ⟨x0, x1⟩, ⟨m3, m4, m23, rs⟩, bb, ⟨fs, r1, r2⟩, r3⟩ := c
  refine ⟨hw, ⟨(kf 5 0 rfl).trans x0, (kf 5 1 rfl).trans x1⟩, ⟨(kf 162 3 rfl).trans m3, (kf 162 4 rfl).trans m4, (kf 162 23 rfl).trans m23, ?_⟩, bb, k8 fs q.1 r1 r2, r3⟩
  rcases r3 with e | e
  · rw [e] at rs ⊢
    exact (kf 142 1 rfl).trans rs
  · rw [e] at rs ⊢
    exact (kf 145 1 rfl).trans rs
/-! who writes the fields -/
def wFP (ci f : Nat) : Bool := (Nat.beq ci 0 && (Nat.beq f 0)) || (Nat.beq ci 2 && (Nat.beq f 1 || Nat.beq f 2)) || (Nat.beq ci 3 && (Nat.beq f 0 || Nat.beq f 1)) || (Nat.beq ci 6 && (Nat.beq f 1)) || (Nat.beq ci 7 && (Nat.beq f 5 || Nat.beq f 6)) || (Nat.beq ci 10 && (Nat.beq f 7 || Nat.beq f 8 || Nat.beq f 9)) || (Nat.beq ci 11 && (Nat.beq f 3 || Nat.beq f 4 || Nat.beq f 23 || Nat.beq f 27 || Nat.beq f 47))
def wFX : List Nat := [0, 1, 6, 15, 16, 17, 18, 19, 20, 22, 42, 43, 44, 45, 52, 57, 58, 59, 60, 62, 64, 65, 66, 72, 73, 78, 82, 85, 88, 89, 90, 91, 92, 93, 96, 97, 98, 99, 100, 101, 111, 112, 118, 119, 122, 124, 125, 126, 128, 133, 140, 141, 161, 188, 190, 192, 197, 198, 212, 213, 214, 222, 223, 224, 225, 228, 251, 252, 258, 265]
theorem wF_all : ((List.range 271).filter (fun k => !(wFX.any (fun x => Nat.beq x k)))).all (sf_b wFP (sf_X wFX)) = true := by decide +kernel
theorem wF_ok : sf_ok wFP (sf_X wFX) := sf_of sf_X_in wF_all
def fldK (p : Nat × Nat) : Bool := match bB p.1 with
  | .inr (ci, as) => Nat.blt ci 1000 && (wFP ci p.2 && Nat.blt p.1 198)
  | _ => false
theorem fld_all : SFs.all fldK = true := by decide +kernel
theorem fi_fm {F : fr_F} {c ci g : Nat} {fs : List Value} (f : fm F h h') (hF : F.2 ci g = true) (e : h c = .inr (ci, fs)) : Fi h' c g = Fi h c g := by
  obtain ⟨fs', e', -, hk⟩ := f.2 c ci fs e
  unfold Fi
  rw [e, e']
  dsimp only
  rw [hk g hF]
theorem kpf_fm (hh : ah_ok bB 198 [] h) (f : fm (sfF wFP) h h') : kpf SFs h h' := by
  intro c g e
  have z := List.all_eq_true.mp fld_all (c, g) (List.elem_iff.mp e)
  unfold fldK at z
  dsimp only at z
  cases hB : bB c with
  | inl x => rw [hB] at z; cases z
  | inr x =>
    obtain ⟨ci, as⟩ := x
    rw [hB] at z
    dsimp only at z
    rw [Bool.and_eq_true, Bool.and_eq_true] at z
    have h0 : ac_ok (h c) (bB c) := hh c (Nat.le_of_ble_eq_true z.2.2)
    rw [hB] at h0
    obtain ⟨fs, ef, -, -⟩ := aE_obj h0 (Nat.le_of_ble_eq_true z.1)
    exact fi_fm f z.2.1 ef
theorem k8_fm {g : Nat} (hg : wFP 10 g = true) (f : fm (sfF wFP) h h') : k0f g h h' := by
  intro fs p e e8
  obtain ⟨fs', e', -, hk⟩ := f.2 0 10 fs e
  exact ⟨fs', e', (hk g hg).trans e8⟩
/-! the arrays -/
theorem sx_all : SA.all (fun a => tnA wStA a || (tnA wReA a || (tnA wRuA a || (tnA wClA a || Nat.ble 162 a)))) = true := by decide +kernel
theorem sm_all : SA.all (fun a => tnA wMRA a || (tnA wMNA a || (tnA wMCA a || (tnA wMPA a || (tnA wMKA a || (tnA wMLA a || Nat.blt a 162)))))) = true := by decide +kernel
theorem sx_kpt (k1 : sf_X wStX kx = true) (k2 : sf_X wReX kx = true) (k3 : sf_X wRuX kx = true) (k4 : sf_X wClX kx = true) (hI : mInv h) (f1 : fm cxF h R.2.1) {mx m f l : Nat} (r1 : pm_run PT m f l kx (0, pm_l0 (.ref 0 :: vs.map Value.int) mx, [], h, 198, sl) = some R) : kpt SA h R.2.1 := by
  intro a e
  apply Ar_e
  have z := List.all_eq_true.mp sx_all a (List.elem_iff.mp e)
  rw [Bool.or_eq_true, Bool.or_eq_true, Bool.or_eq_true, Bool.or_eq_true] at z
  rcases z with z | z | z | z | z
  · exact t2_keeps wSt_tn wSt_sf wSt_tb k1 hI.1 (o := 0) rfl vs r1 a z
  · exact t2_keeps wRe_tn wRe_sf wRe_tb k2 hI.1 (o := 0) rfl vs r1 a z
  · exact t2_keeps wRu_tn wRu_sf wRu_tb k3 hI.1 (o := 0) rfl vs r1 a z
  · exact t2_keeps wCl_tn wCl_sf wCl_tb k4 hI.1 (o := 0) rfl vs r1 a z
  · exact f1.1 a z
theorem sm_kpt (k1 : sf_X wMRX km = true) (k2 : h2 170 = h1 170) (k3 : sf_X wMCX km = true) (k4 : sf_X wMPX km = true) (k5 : sf_X wMKX km = true) (k6 : sf_X wMLX km = true) (i1 : mInv h1) (lo1 : ∀ i, i < 162 → h2 i = h1 i) {mx m f l : Nat} {rv : Option Value} {s1 : Nat × Nat} (r2 : pm_run PT m f l km (0, pm_l0 (.ref 162 :: vs.map Value.int) mx, [], h1, 198, sl) = some (rv, h2, s1)) : kpt SA h1 h2 := by
  intro a e
  apply Ar_e
  have z := List.all_eq_true.mp sm_all a (List.elem_iff.mp e)
  rw [Bool.or_eq_true, Bool.or_eq_true, Bool.or_eq_true, Bool.or_eq_true, Bool.or_eq_true, Bool.or_eq_true] at z
  rcases z with z | z | z | z | z | z | z
  · exact t2_keeps wMR_tn wMR_sf wMR_tb k1 i1.1 (o := 162) rfl vs r2 a z
  · have : a = 170 := by
      obtain ⟨p, hp, e1⟩ := List.any_eq_true.mp z
      have e2 : p = 170 := List.mem_singleton.mp hp
      have e3 := Nat.eq_of_beq_eq_true e1
      omega
    subst this
    exact k2
  · exact t2_keeps wMC_tn wMC_sf wMC_tb k3 i1.1 (o := 162) rfl vs r2 a z
  · exact t2_keeps wMP_tn wMP_sf wMP_tb k4 i1.1 (o := 162) rfl vs r2 a z
  · exact t2_keeps wMK_tn wMK_sf wMK_tb k5 i1.1 (o := 162) rfl vs r2 a z
  · exact t2_keeps wML_tn wML_sf wML_tb k6 i1.1 (o := 162) rfl vs r2 a z
  · exact lo1 a (Nat.le_of_ble_eq_true z)
/-- the class's call keeps SR -/
theorem SR_x (k1 : sf_X wStX kx = true) (k2 : sf_X wReX kx = true) (k3 : sf_X wRuX kx = true) (k4 : sf_X wClX kx = true) (k5 : sf_X wFX kx = true) (hI : mInv h) (f1 : fm cxF h R.2.1) (i1 : mInv R.2.1) {mx m f l : Nat} (r1 : pm_run PT m f l kx (0, pm_l0 (.ref 0 :: vs.map Value.int) mx, [], h, 198, sl) = some R) (s : SR h) : SR R.2.1 := by
  obtain ⟨q, cc, gc, hc, s⟩ := s
  have ff := sf_run wF_ok _ _ _ kx _ R k5 r1
  have kf := kpf_fm hI.1 ff
  exact ⟨q, cc, gc, HC_keep (wt_of i1.1) kf (k8_fm rfl ff) hc, SRq_keep hc.qq (sx_kpt k1 k2 k3 k4 hI f1 r1) kf (k8_fm rfl ff) s⟩
/-- the reference's call keeps SR -/
theorem SR_m (k1 : sf_X wMRX km = true) (k2 : h2 170 = h1 170) (k3 : sf_X wMCX km = true) (k4 : sf_X wMPX km = true) (k5 : sf_X wMKX km = true) (k6 : sf_X wMLX km = true) (k7 : sf_X wFX km = true) (i1 : mInv h1) (i2 : mInv h2) (lo1 : ∀ i, i < 162 → h2 i = h1 i) {mx m f l : Nat} {rv : Option Value} {s1 : Nat × Nat} (r2 : pm_run PT m f l km (0, pm_l0 (.ref 162 :: vs.map Value.int) mx, [], h1, 198, sl) = some (rv, h2, s1)) (s : SR h1) : SR h2 := by
  obtain ⟨q, cc, gc, hc, s⟩ := s
  have ff : fm (sfF wFP) h1 h2 := sf_run wF_ok _ _ _ km _ (rv, h2, s1) k7 r2
  have kf := kpf_fm i1.1 ff
  exact ⟨q, cc, gc, HC_keep (wt_of i2.1) kf (k8_fm rfl ff) hc, SRq_keep hc.qq (sm_kpt k1 k2 k3 k4 k5 k6 i1 lo1 r2) kf (k8_fm rfl ff) s⟩
theorem now_keep (k : sf_X wMNX km = true) (i1 : mInv h1) {mx m f l : Nat} (r2 : pm_run PT m f l km (0, pm_l0 (.ref 162 :: vs.map Value.int) mx, [], h1, 198, sl) = some R) : R.2.1 170 = h1 170 := t2_keeps wMN_tn wMN_sf wMN_tb k i1.1 (o := 162) rfl vs r2 170 rfl
/-- a pair of calls that writes nothing of SR -/
theorem SR_pure (a1 : sf_X wStX kx = true) (a2 : sf_X wReX kx = true) (a3 : sf_X wRuX kx = true) (a4 : sf_X wClX kx = true) (a5 : sf_X wFX kx = true) (k1 : sf_X wMRX km = true) (k2 : sf_X wMNX km = true) (k3 : sf_X wMCX km = true) (k4 : sf_X wMPX km = true) (k5 : sf_X wMKX km = true) (k6 : sf_X wMLX km = true) (k7 : sf_X wFX km = true) (hI : mInv h) (pr : prun sl kx km vs h h1 h2 v w) (s : SR h) : SR h2 := by
  obtain ⟨⟨m, r1⟩, ⟨f1, i1⟩, ⟨m2, r2⟩, lo1, i2⟩ := pr
  exact SR_m k1 (now_keep k2 i1 r2) k3 k4 k5 k6 k7 i1 i2 lo1 r2 (SR_x a1 a2 a3 a4 a5 hI f1 i1 r1 s)
end SRD
/-! the calls that keep SR by their code alone -/
section SRP
variable {sl : Nat} {h h1 h2 : pm_H} {vs : List Int32} {v w : Int32}
theorem sr_sign (hI : mInv h) (pr : prun sl 86 178 vs h h1 h2 v w) (s : SR h) : SR h2 := SR_pure rfl rfl rfl rfl rfl rfl rfl rfl rfl rfl rfl rfl hI pr s
theorem sr_end (hI : mInv h) (pr : prun sl 87 179 vs h h1 h2 v w) (s : SR h) : SR h2 := SR_pure rfl rfl rfl rfl rfl rfl rfl rfl rfl rfl rfl rfl hI pr s
theorem sr_road (hI : mInv h) (pr : prun sl 94 209 vs h h1 h2 v w) (s : SR h) : SR h2 := SR_pure rfl rfl rfl rfl rfl rfl rfl rfl rfl rfl rfl rfl hI pr s
theorem sr_answer (hI : mInv h) (pr : prun sl 104 232 vs h h1 h2 v w) (s : SR h) : SR h2 := SR_pure rfl rfl rfl rfl rfl rfl rfl rfl rfl rfl rfl rfl hI pr s
theorem sr_wins (hI : mInv h) (pr : prun sl 105 234 vs h h1 h2 v w) (s : SR h) : SR h2 := SR_pure rfl rfl rfl rfl rfl rfl rfl rfl rfl rfl rfl rfl hI pr s
theorem sr_unseen (hI : mInv h) (pr : prun sl 106 235 vs h h1 h2 v w) (s : SR h) : SR h2 := SR_pure rfl rfl rfl rfl rfl rfl rfl rfl rfl rfl rfl rfl hI pr s
theorem sr_way (hI : mInv h) (pr : prun sl 108 238 vs h h1 h2 v w) (s : SR h) : SR h2 := SR_pure rfl rfl rfl rfl rfl rfl rfl rfl rfl rfl rfl rfl hI pr s
theorem sr_walks (hI : mInv h) (pr : prun sl 109 239 vs h h1 h2 v w) (s : SR h) : SR h2 := SR_pure rfl rfl rfl rfl rfl rfl rfl rfl rfl rfl rfl rfl hI pr s
theorem sr_alive (hI : mInv h) (pr : prun sl 110 240 vs h h1 h2 v w) (s : SR h) : SR h2 := SR_pure rfl rfl rfl rfl rfl rfl rfl rfl rfl rfl rfl rfl hI pr s
theorem sr_net (hI : mInv h) (pr : prun sl 113 244 vs h h1 h2 v w) (s : SR h) : SR h2 := SR_pure rfl rfl rfl rfl rfl rfl rfl rfl rfl rfl rfl rfl hI pr s
theorem sr_settle (hI : mInv h) (pr : prun sl 114 245 vs h h1 h2 v w) (s : SR h) : SR h2 := SR_pure rfl rfl rfl rfl rfl rfl rfl rfl rfl rfl rfl rfl hI pr s
theorem sr_ring (hI : mInv h) (pr : prun sl 115 247 vs h h1 h2 v w) (s : SR h) : SR h2 := SR_pure rfl rfl rfl rfl rfl rfl rfl rfl rfl rfl rfl rfl hI pr s
theorem sr_ranks (hI : mInv h) (pr : prun sl 116 249 vs h h1 h2 v w) (s : SR h) : SR h2 := SR_pure rfl rfl rfl rfl rfl rfl rfl rfl rfl rfl rfl rfl hI pr s
theorem sr_league (hI : mInv h) (pr : prun sl 117 250 vs h h1 h2 v w) (s : SR h) : SR h2 := SR_pure rfl rfl rfl rfl rfl rfl rfl rfl rfl rfl rfl rfl hI pr s
theorem sr_fits (hI : mInv h) (pr : prun sl 120 255 vs h h1 h2 v w) (s : SR h) : SR h2 := SR_pure rfl rfl rfl rfl rfl rfl rfl rfl rfl rfl rfl rfl hI pr s
theorem sr_ask (hI : mInv h) (pr : prun sl 121 256 vs h h1 h2 v w) (s : SR h) : SR h2 := SR_pure rfl rfl rfl rfl rfl rfl rfl rfl rfl rfl rfl rfl hI pr s
theorem sr_rests (hI : mInv h) (pr : prun sl 123 261 vs h h1 h2 v w) (s : SR h) : SR h2 := SR_pure rfl rfl rfl rfl rfl rfl rfl rfl rfl rfl rfl rfl hI pr s
theorem sr_count (hI : mInv h) (pr : prun sl 127 267 vs h h1 h2 v w) (s : SR h) : SR h2 := SR_pure rfl rfl rfl rfl rfl rfl rfl rfl rfl rfl rfl rfl hI pr s
end SRP
