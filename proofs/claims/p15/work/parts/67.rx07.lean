section MH67rx07x0
/-! contracts -/
def rxt74 : con := (254, [(2, 162, 1)], [], [some (0, 0, 255)], [], 70, 3800, true)
theorem rxk74 : con_chk (kn_or (kl bB rxF [rxt73]) rk) PT bB 198 rxF0 rxJ rxjo rxP 5738 rxt74 = true := fq_chk2 (fq_jn_eq _) rfl (by decide +kernel)   -- X11_fitting
theorem rxo74 : con_ok PT bB 198 rxF rxQ rxt74 := con_chk_ok rxle rxpp (kn_or_ok (kl_ok (List.forall_mem_cons.mpr ⟨rxo73, fun _ h => (by cases h)⟩)) rk_ok) nw_class (fun _ => by decide) rxk74
def rxt75 : con := (259, [(0, 0, 9), (0, 0, 9), (0, 0, 20)], [], [some (0, (-20), 20)], [], 65, 3400, true)
theorem rxk75 : con_chk (kn_or (kl bB rxF []) rk) PT bB 198 rxF0 rxJ rxjo rxP 441 rxt75 = true := fq_chk2 (fq_jn_eq _) rfl (by decide +kernel)   -- X11_earns
theorem rxo75 : con_ok PT bB 198 rxF rxQ rxt75 := con_chk_ok rxle rxpp (kn_or_ok (kl_ok (fun _ h => (by cases h))) rk_ok) nw_class (fun _ => by decide) rxk75
def rxt76 : con := (260, [(0, 0, 9), (0, 0, 9), (0, 0, 20)], [], [some (0, 0, 1)], [], 70, 3800, true)
theorem rxk76 : con_chk (kn_or (kl bB rxF [rxt75]) rk) PT bB 198 rxF0 rxJ rxjo rxP 627 rxt76 = true := fq_chk2 (fq_jn_eq _) rfl (by decide +kernel)   -- X11_isRest
theorem rxo76 : con_ok PT bB 198 rxF rxQ rxt76 := con_chk_ok rxle rxpp (kn_or_ok (kl_ok (List.forall_mem_cons.mpr ⟨rxo75, fun _ h => (by cases h)⟩)) rk_ok) nw_class (fun _ => by decide) rxk76
def rxt77 : con := (266, [(2, 162, 1), (0, 0, 2)], [], [some (0, 0, 15)], [], 70, 3800, true)
theorem rxk77 : con_chk (kn_or (kl bB rxF [rxt2, rxt3]) rk) PT bB 198 rxF0 rxJ rxjo rxP 1498 rxt77 = true := fq_chk2 (fq_jn_eq _) rfl (by decide +kernel)   -- X11_pairMany
theorem rxo77 : con_ok PT bB 198 rxF rxQ rxt77 := con_chk_ok rxle rxpp (kn_or_ok (kl_ok (List.forall_mem_cons.mpr ⟨rxo2, List.forall_mem_cons.mpr ⟨rxo3, fun _ h => (by cases h)⟩⟩)) rk_ok) nw_class (fun _ => by decide) rxk77
def rxt78 : con := (269, [(0, (-2147483648), 2147483647)], [], [some (0, (-2147483648), 2147483647)], [], 65, 3400, true)
theorem rxk78 : con_chk (kn_or (kl bB rxF []) rk) PT bB 198 rxF0 rxJ rxjo rxP 468 rxt78 = true := fq_chk2 (fq_jn_eq _) rfl (by decide +kernel)   -- J6_numberOfTrailingZeros_0f7a4
theorem rxo78 : con_ok PT bB 198 rxF rxQ rxt78 := con_chk_ok rxle rxpp (kn_or_ok (kl_ok (fun _ h => (by cases h))) rk_ok) nw_class (fun _ => by decide) rxk78
end MH67rx07x0
section MH67rx07x1
section MG68segxx0
/-! the frames of courts() and gifts() -/
section SGX
theorem seg_cons {T : pm_Tab} {B : Nat → ac} {sz : Nat} {F : fr_F} {PP : pm_H → Prop} {c : con} {z : ast} {l : List ast} (h1 : seg_ok T B sz F PP c [z]) (h2 : seg_ok T B sz F PP c l) : seg_ok T B sz F PP c (z :: l) := by
  intro st fr lo sl hst hp hF hL
  obtain ⟨s, hs, hok⟩ := hst
  rcases List.mem_cons.mp hs with rfl | hs
  · exact h1 st fr lo sl ⟨s, List.mem_singleton_self _, hok⟩ hp hF hL
  · exact h2 st fr lo sl ⟨s, hs, hok⟩ hp hF hL
theorem seg_piece {T : pm_Tab} {B : Nat → ac} {sz : Nat} {F : fr_F} {PP : pm_H → Prop} {c : con} {l : List ast} {a n : Nat} (h1 : seg_ok T B sz F PP c ((l.drop a).take n)) (h2 : seg_ok T B sz F PP c (l.drop (a + n))) : seg_ok T B sz F PP c (l.drop a) := seg_split n h1 (by rw [List.drop_drop]; exact h2)
/-- without the number of courts and of gifts -/
def rxQ1 (h : pm_H) : Prop := codeOk h ∧ rowsOk h 178 1536 ∧ rowsOk h 196 288
def rxPc (ci f : Nat) : Bool := Nat.beq ci 11 && (Nat.beq f 4 || (Nat.beq f 23 || Nat.beq f 24))
def rxPg (ci f : Nat) : Bool := Nat.beq ci 11 && (Nat.beq f 3 || (Nat.beq f 23 || Nat.beq f 24))
def rxFc0 : fr_F := (fun i => rxC i || (Nat.beq i 178 || Nat.beq i 196), rxPc)
def rxFc : fr_F := (rxC, rxPc)
def rxFg0 : fr_F := (fun i => rxC i || (Nat.beq i 178 || Nat.beq i 196), rxPg)
def rxFg : fr_F := (rxC, rxPg)
theorem rxlec : ∀ h h', fm rxFc0 h h' → fm rxFc h h' := by
  intro h h' q
  refine ⟨fun i hi => q.1 i ?_, q.2⟩
  have hi : rxC i = true := hi
  show (rxC i || (Nat.beq i 178 || Nat.beq i 196)) = true
  rw [hi]
  rfl
theorem rxleg : ∀ h h', fm rxFg0 h h' → fm rxFg h h' := by
  intro h h' q
  refine ⟨fun i hi => q.1 i ?_, q.2⟩
  have hi : rxC i = true := hi
  show (rxC i || (Nat.beq i 178 || Nat.beq i 196)) = true
  rw [hi]
  rfl
theorem rxppc : pp_ok rxFc0 rxQ1 := by
  intro h h' q hp
  obtain ⟨⟨n, dn, f, c1, c2, c3, c4⟩, ⟨f1, r1, r2⟩, f2, r3, r4⟩ := hp
  exact ⟨⟨n, dn, f, fm_mF q rfl c1, (q.1 174 rfl).trans c2, c3, c4⟩, ⟨f1, (q.1 178 rfl).trans r1, r2⟩, f2, (q.1 196 rfl).trans r3, r4⟩
theorem rxppg : pp_ok rxFg0 rxQ1 := by
  intro h h' q hp
  obtain ⟨⟨n, dn, f, c1, c2, c3, c4⟩, ⟨f1, r1, r2⟩, f2, r3, r4⟩ := hp
  exact ⟨⟨n, dn, f, fm_mF q rfl c1, (q.1 174 rfl).trans c2, c3, c4⟩, ⟨f1, (q.1 178 rfl).trans r1, r2⟩, f2, (q.1 196 rfl).trans r3, r4⟩
theorem at_c : at_ok rxFc rxQ1 := fun _ _ _ m hp => ⟨fm_ms rfl rfl m, rxppc _ _ (fm_ms rfl rfl m) hp⟩
theorem at_g : at_ok rxFg rxQ1 := fun _ _ _ m hp => ⟨fm_ms rfl rfl m, rxppg _ _ (fm_ms rfl rfl m) hp⟩
end SGX
end MG68segxx0
section MG68segxx1
/-! contracts of faultOf (by hand) and valueAll -/
section VFO
def rxtFO : con := (186, [(2, 162, 1), (0, 0, 80), (0, 60, 60), (0, 0, 1)], [], [some (0, (-81), 0)], [], 60, 3000, true)
theorem av_nat {v : Value} {u : Nat} (q : av_ok v (0, 0, (u : Int))) : ∃ n : Nat, v = .int (nI n) ∧ n ≤ u := by
  obtain ⟨x, rfl, h1, h2⟩ := av_int rfl q
  have h1 : (0 : Int) ≤ x.toInt := h1
  have h2 : x.toInt ≤ (u : Int) := h2
  obtain ⟨n, rfl, -, e⟩ := hI_of h1
  exact ⟨n, rfl, by omega⟩
theorem rxoFO : con_ok PT bB 198 rxF rxQ rxtFO := by
  intro As h fr lo sl hAs hh hp hF hL
  match As, hAs with
  | [v0, v1, v2, v3], hAs =>
    obtain ⟨q0, q1, q2, q3, -⟩ := hAs
    cases rf162 q0
    obtain ⟨n, rfl, hn⟩ := av_nat (u := 80) q1
    obtain ⟨b, rfl, hb⟩ := av_nat (u := 1) q3
    obtain ⟨x, rfl, h1, h2⟩ := av_int rfl q2
    have h1 : (60 : Int) ≤ x.toInt := h1
    have h2 : x.toInt ≤ (60 : Int) := h2
    obtain ⟨m, rfl, -, e⟩ := hI_of (x := x) (by omega)
    obtain rfl : m = 60 := by omega
    obtain ⟨a, h16, ha⟩ := ty_nat hh (g := 16) (u := 63) rfl (by decide)
    obtain ⟨t, h17, ht⟩ := ty_nat hh (g := 17) (u := 60) rfl (by decide)
    have key : ∀ c : Bool, nI b = cond c 1 0 → pm_WP PT fr lo 186 (0, pm_l0 [.ref 162, .int (nI n), .int (nI 60), .int (nI b)] 5, [], h, 198, sl) (fun x => (∃ a, a ∈ rxtFO.2.2.2.1 ∧ ao_ok x.1 a) ∧ x.2.2 = (198, sl) ∧ (fm rxF h x.2.1 ∧ rxQ x.2.1) ∧ x.2.1 = h) := by
      intro c ec
      rw [ec]
      refine wp_mono (hd_faultOf (n := n) (m := 60) (b := c) h16 h17 hn (by decide) (by omega) (by omega)) ?_
      rintro _ rfl
      have hb := flt_bd (n := n) (m := 60) (a := a) (t := t) (b := c) (by decide) (by omega)
      exact ⟨⟨_, List.mem_singleton_self _, rfl, hb.1, hb.2.1⟩, rfl, ⟨fm_rf h, hp⟩, rfl⟩
    have : b = 0 ∨ b = 1 := by omega
    rcases this with rfl | rfl
    · exact key false rfl
    · exact key true rfl
def rxtVA : con := (257, [(2, 162, 1)], [], [some (0, (-2147483648), 2147483647)], [], 75, 4000, false)
theorem rxkVA : con_chk (kn_or (kl bB rxF [rxt6, rxt7]) rk) PT bB 198 rxF0 rxJ rxjo rxP 250 rxtVA = true := fq_chk2 (fq_jn_eq _) rfl (by decide +kernel)
theorem rxoVA : con_ok PT bB 198 rxF rxQ rxtVA := con_chk_ok rxle rxpp (kn_or_ok (kl_ok (List.forall_mem_cons.mpr ⟨rxo6, List.forall_mem_cons.mpr ⟨rxo7, fun _ h => (by cases h)⟩⟩)) rk_ok) nw_class (fun h => by cases h) rxkVA
end VFO
end MG68segxx1
end MH67rx07x1
section MH67rx07x2
/-! the calls themselves -/
def rxr_sign : con := (178, [(2, 162, 1), (0, -2147483648, 2147483647)], [], [some (0, -2147483648, 2147483647)], [], 65, 3400, false)
theorem rxq_sign : con_chkS (kn_or (kl bB rxF []) rk) PT bB 198 rxF0 rxJ rxjo rxP [] 511 rxr_sign = true := fq_chkS2 (fq_jn_eq _) rfl (by decide +kernel)   -- 111
theorem rxw_sign : con_ok PT bB 198 rxF rxQ rxr_sign := con_chkS_ok rxle rxpp (kn_or_ok (kl_ok (fun _ h => (by cases h))) rk_ok) nw_class (fun h => by cases h) rxq_sign
def rxr_end : con := (179, [(2, 162, 1), (0, -2147483648, 2147483647)], [], [some (0, 0, 1)], [], 65, 3400, false)
theorem rxq_end : con_chkS (kn_or (kl bB rxF []) rk) PT bB 198 rxF0 rxJ rxjo rxP [] 472 rxr_end = true := fq_chkS2 (fq_jn_eq _) rfl (by decide +kernel)   -- 72
theorem rxw_end : con_ok PT bB 198 rxF rxQ rxr_end := con_chkS_ok rxle rxpp (kn_or_ok (kl_ok (fun _ h => (by cases h))) rk_ok) nw_class (fun h => by cases h) rxq_end
def rxr_court : con := (206, [(2, 162, 1), (0, -2147483648, 2147483647), (0, -2147483648, 2147483647)], [], [some (0, -2147483648, 2147483647)], [], 75, 4200, false)
theorem rxq_court : con_chkS (kn_or (kl bB rxF [rxt0, rxt8, rxt9, rxt10]) rk) PT bB 198 rxF0 rxJ rxjo rxP [(0, 1, 0, 0, [(-1), 5])] 666 rxr_court = true := fq_chkS2 (fq_jn_eq _) rfl (by decide +kernel)   -- 266
theorem rxw_court : con_ok PT bB 198 rxF rxQ rxr_court := con_chkS_ok rxle rxpp (kn_or_ok (kl_ok (List.forall_mem_cons.mpr ⟨rxo0, List.forall_mem_cons.mpr ⟨rxo8, List.forall_mem_cons.mpr ⟨rxo9, List.forall_mem_cons.mpr ⟨rxo10, fun _ h => (by cases h)⟩⟩⟩⟩)) rk_ok) nw_class (fun h => by cases h) rxq_court
def rxr_between : con := (207, [(2, 162, 1), (0, -2147483648, 2147483647), (0, -2147483648, 2147483647), (0, -2147483648, 2147483647)], [], [some (0, -2147483648, 2147483647)], [], 65, 3400, false)
theorem rxq_between : con_chkS (kn_or (kl bB rxF []) rk) PT bB 198 rxF0 rxJ rxjo rxP [(0, 1, 0, 0, [(-1), 5]), (0, 2, 0, 0, [(-1), 5])] 951 rxr_between = true := fq_chkS2 (fq_jn_eq _) rfl (by decide +kernel)   -- 551
theorem rxw_between : con_ok PT bB 198 rxF rxQ rxr_between := con_chkS_ok rxle rxpp (kn_or_ok (kl_ok (fun _ h => (by cases h))) rk_ok) nw_class (fun h => by cases h) rxq_between
def rxr_gift : con := (208, [(2, 162, 1), (0, -2147483648, 2147483647), (0, -2147483648, 2147483647)], [], [some (0, -2147483648, 2147483647)], [], 65, 3400, false)
theorem rxq_gift : con_chkS (kn_or (kl bB rxF []) rk) PT bB 198 rxF0 rxJ rxjo rxP [(0, 1, 0, 0, [(-1), 7])] 620 rxr_gift = true := fq_chkS2 (fq_jn_eq _) rfl (by decide +kernel)   -- 220
theorem rxw_gift : con_ok PT bB 198 rxF rxQ rxr_gift := con_chkS_ok rxle rxpp (kn_or_ok (kl_ok (fun _ h => (by cases h))) rk_ok) nw_class (fun h => by cases h) rxq_gift
def rxr_road : con := (209, [(2, 162, 1), (0, -2147483648, 2147483647), (0, -2147483648, 2147483647), (0, -2147483648, 2147483647)], [], [some (0, -2147483648, 2147483647)], [], 65, 3400, false)
theorem rxq_road : con_chkS (kn_or (kl bB rxF []) rk) PT bB 198 rxF0 rxJ rxjo rxP [(0, 1, 0, 0, [(-1), 5]), (0, 2, 0, 0, [(-1), 5])] 867 rxr_road = true := fq_chkS2 (fq_jn_eq _) rfl (by decide +kernel)   -- 467
theorem rxw_road : con_ok PT bB 198 rxF rxQ rxr_road := con_chkS_ok rxle rxpp (kn_or_ok (kl_ok (fun _ h => (by cases h))) rk_ok) nw_class (fun h => by cases h) rxq_road
def rxr_sheet : con := (210, [(2, 162, 1), (0, -2147483648, 2147483647), (0, -2147483648, 2147483647), (0, -2147483648, 2147483647), (0, -2147483648, 2147483647)], [], [some (0, -2147483648, 2147483647)], [], 70, 3800, false)
theorem rxq_sheet : con_chkS (kn_or (kl bB rxF [rxt4]) rk) PT bB 198 rxF0 rxJ rxjo rxP [] 969 rxr_sheet = true := fq_chkS2 (fq_jn_eq _) rfl (by decide +kernel)   -- 569
theorem rxw_sheet : con_ok PT bB 198 rxF rxQ rxr_sheet := con_chkS_ok rxle rxpp (kn_or_ok (kl_ok (List.forall_mem_cons.mpr ⟨rxo4, fun _ h => (by cases h)⟩)) rk_ok) nw_class (fun h => by cases h) rxq_sheet
def rxr_send : con := (222, [(2, 162, 1), (0, -2147483648, 2147483647), (0, -2147483648, 2147483647)], [], [some (0, -2147483648, 2147483647)], [], 80, 4600, false)
theorem rxq_send : con_chkS (kn_or (kl bB rxF [rxt12, rxt16, rxt17, rxt18, rxt19, rxt20, rxt21, rxt22, rxt23, rxt24]) rk) PT bB 198 rxF0 rxJ rxjo rxP [(0, 1, 0, 0, [(-1), 7]), (0, 2, 0, 0, [(-1), 5])] 931 rxr_send = true := fq_chkS2 (fq_jn_eq _) rfl (by decide +kernel)   -- 531
theorem rxw_send : con_ok PT bB 198 rxF rxQ rxr_send := con_chkS_ok rxle rxpp (kn_or_ok (kl_ok (List.forall_mem_cons.mpr ⟨rxo12, List.forall_mem_cons.mpr ⟨rxo16, List.forall_mem_cons.mpr ⟨rxo17, List.forall_mem_cons.mpr ⟨rxo18, List.forall_mem_cons.mpr ⟨rxo19, List.forall_mem_cons.mpr ⟨rxo20, List.forall_mem_cons.mpr ⟨rxo21, List.forall_mem_cons.mpr ⟨rxo22, List.forall_mem_cons.mpr ⟨rxo23, List.forall_mem_cons.mpr ⟨rxo24, fun _ h => (by cases h)⟩⟩⟩⟩⟩⟩⟩⟩⟩⟩)) rk_ok) nw_class (fun h => by cases h) rxq_send
def rxr_months : con := (223, [(2, 162, 1), (0, -2147483648, 2147483647)], [], [some (0, -2147483648, 2147483647)], [], 75, 4200, false)
theorem rxq_months : con_chkS (kn_or (kl bB rxF [rxt4, rxt5, rxt28]) rk) PT bB 198 rxF0 rxJ rxjo rxP [] 1961 rxr_months = true := fq_chkS2 (fq_jn_eq _) rfl (by decide +kernel)   -- 1561
theorem rxw_months : con_ok PT bB 198 rxF rxQ rxr_months := con_chkS_ok rxle rxpp (kn_or_ok (kl_ok (List.forall_mem_cons.mpr ⟨rxo4, List.forall_mem_cons.mpr ⟨rxo5, List.forall_mem_cons.mpr ⟨rxo28, fun _ h => (by cases h)⟩⟩⟩)) rk_ok) nw_class (fun h => by cases h) rxq_months
def rxr_envoy : con := (224, [(2, 162, 1), (0, -2147483648, 2147483647), (0, -2147483648, 2147483647), (0, -2147483648, 2147483647)], [], [some (0, -2147483648, 2147483647)], [], 75, 4200, false)
theorem rxq_envoy : con_chkS (kn_or (kl bB rxF [rxt12, rxt30, rxt31, rxt32, rxt33, rxt34, rxt35, rxt36, rxt37, rxt38]) rk) PT bB 198 rxF0 rxJ rxjo rxP [(0, 1, 0, 0, [(-1), 5]), (0, 2, 0, 0, [(-1), 5])] 517 rxr_envoy = true := fq_chkS2 (fq_jn_eq _) rfl (by decide +kernel)   -- 117
theorem rxw_envoy : con_ok PT bB 198 rxF rxQ rxr_envoy := con_chkS_ok rxle rxpp (kn_or_ok (kl_ok (List.forall_mem_cons.mpr ⟨rxo12, List.forall_mem_cons.mpr ⟨rxo30, List.forall_mem_cons.mpr ⟨rxo31, List.forall_mem_cons.mpr ⟨rxo32, List.forall_mem_cons.mpr ⟨rxo33, List.forall_mem_cons.mpr ⟨rxo34, List.forall_mem_cons.mpr ⟨rxo35, List.forall_mem_cons.mpr ⟨rxo36, List.forall_mem_cons.mpr ⟨rxo37, List.forall_mem_cons.mpr ⟨rxo38, fun _ h => (by cases h)⟩⟩⟩⟩⟩⟩⟩⟩⟩⟩)) rk_ok) nw_class (fun h => by cases h) rxq_envoy
def rxr_forgive : con := (225, [(2, 162, 1), (0, -2147483648, 2147483647), (0, -2147483648, 2147483647)], [], [some (0, -2147483648, 2147483647)], [], 70, 3800, false)
theorem rxq_forgive : con_chkS (kn_or (kl bB rxF [rxt12, rxt39, rxt40, rxt41, rxt42, rxt43, rxt44, rxt45, rxt46, rxt47]) rk) PT bB 198 rxF0 rxJ rxjo rxP [(0, 1, 0, 0, [(-1), 5]), (0, 2, 0, 0, [(-1), 5])] 508 rxr_forgive = true := fq_chkS2 (fq_jn_eq _) rfl (by decide +kernel)   -- 108
theorem rxw_forgive : con_ok PT bB 198 rxF rxQ rxr_forgive := con_chkS_ok rxle rxpp (kn_or_ok (kl_ok (List.forall_mem_cons.mpr ⟨rxo12, List.forall_mem_cons.mpr ⟨rxo39, List.forall_mem_cons.mpr ⟨rxo40, List.forall_mem_cons.mpr ⟨rxo41, List.forall_mem_cons.mpr ⟨rxo42, List.forall_mem_cons.mpr ⟨rxo43, List.forall_mem_cons.mpr ⟨rxo44, List.forall_mem_cons.mpr ⟨rxo45, List.forall_mem_cons.mpr ⟨rxo46, List.forall_mem_cons.mpr ⟨rxo47, fun _ h => (by cases h)⟩⟩⟩⟩⟩⟩⟩⟩⟩⟩)) rk_ok) nw_class (fun h => by cases h) rxq_forgive
def rxr_value : con := (230, [(2, 162, 1), (0, -2147483648, 2147483647), (0, -2147483648, 2147483647)], [], [some (0, -2147483648, 2147483647)], [], 75, 4200, false)
theorem rxq_value : con_chkS (kn_or (kl bB rxF [rxt6]) rk) PT bB 198 rxF0 rxJ rxjo rxP [(0, 1, 0, 0, [(-1), 7]), (0, 2, 0, 0, [(-1), 5])] 732 rxr_value = true := fq_chkS2 (fq_jn_eq _) rfl (by decide +kernel)   -- 332
theorem rxw_value : con_ok PT bB 198 rxF rxQ rxr_value := con_chkS_ok rxle rxpp (kn_or_ok (kl_ok (List.forall_mem_cons.mpr ⟨rxo6, fun _ h => (by cases h)⟩)) rk_ok) nw_class (fun h => by cases h) rxq_value
def rxr_where : con := (231, [(2, 162, 1), (0, -2147483648, 2147483647)], [], [some (0, -2147483648, 2147483647)], [], 75, 4200, false)
theorem rxq_where : con_chkS (kn_or (kl bB rxF [rxt6]) rk) PT bB 198 rxF0 rxJ rxjo rxP [(0, 1, 0, 0, [(-1), 7])] 839 rxr_where = true := fq_chkS2 (fq_jn_eq _) rfl (by decide +kernel)   -- 439
theorem rxw_where : con_ok PT bB 198 rxF rxQ rxr_where := con_chkS_ok rxle rxpp (kn_or_ok (kl_ok (List.forall_mem_cons.mpr ⟨rxo6, fun _ h => (by cases h)⟩)) rk_ok) nw_class (fun h => by cases h) rxq_where
end MH67rx07x2
section MH67rx07x3
/-! the calls themselves -/
def rxr_wins : con := (234, [(2, 162, 1), (0, -2147483648, 2147483647), (0, -2147483648, 2147483647)], [], [some (0, -2147483648, 2147483647)], [], 105, 6600, false)
theorem rxq_wins : con_chkS (kn_or (kl bB rxF [rxt49, rxt51, rxt54, rxt58, rxt63]) rk) PT bB 198 rxF0 rxJ rxjo rxP [(0, 1, 0, 0, [(-1), 5]), (0, 2, 0, 0, [(-1), 5])] 2184 rxr_wins = true := fq_chkS2 (fq_jn_eq _) rfl (by decide +kernel)   -- 1784
theorem rxw_wins : con_ok PT bB 198 rxF rxQ rxr_wins := con_chkS_ok rxle rxpp (kn_or_ok (kl_ok (List.forall_mem_cons.mpr ⟨rxo49, List.forall_mem_cons.mpr ⟨rxo51, List.forall_mem_cons.mpr ⟨rxo54, List.forall_mem_cons.mpr ⟨rxo58, List.forall_mem_cons.mpr ⟨rxo63, fun _ h => (by cases h)⟩⟩⟩⟩⟩)) rk_ok) nw_class (fun h => by cases h) rxq_wins
def rxr_unseen : con := (235, [(2, 162, 1), (0, -2147483648, 2147483647)], [], [some (0, -2147483648, 2147483647)], [], 70, 3800, false)
theorem rxq_unseen : con_chkS (kn_or (kl bB rxF [rxt2, rxt5]) rk) PT bB 198 rxF0 rxJ rxjo rxP [(0, 1, 0, 0, [(-1), 7])] 3212 rxr_unseen = true := fq_chkS2 (fq_jn_eq _) rfl (by decide +kernel)   -- 2812
theorem rxw_unseen : con_ok PT bB 198 rxF rxQ rxr_unseen := con_chkS_ok rxle rxpp (kn_or_ok (kl_ok (List.forall_mem_cons.mpr ⟨rxo2, List.forall_mem_cons.mpr ⟨rxo5, fun _ h => (by cases h)⟩⟩)) rk_ok) nw_class (fun h => by cases h) rxq_unseen
end MH67rx07x3
section MH67rx07x4
/-! the calls themselves -/
def rxr_swaps : con := (236, [(2, 162, 1)], [], [some (0, -2147483648, 2147483647)], [], 75, 4200, false)
theorem rxq_swaps : con_chkS (kn_or (kl bB rxF [rxt6]) rk) PT bB 198 rxF0 rxJ rxjo rxP [] 3113 rxr_swaps = true := fq_chkS2 (fq_jn_eq _) rfl (by decide +kernel)   -- 2713
theorem rxw_swaps : con_ok PT bB 198 rxF rxQ rxr_swaps := con_chkS_ok rxle rxpp (kn_or_ok (kl_ok (List.forall_mem_cons.mpr ⟨rxo6, fun _ h => (by cases h)⟩)) rk_ok) nw_class (fun h => by cases h) rxq_swaps
def rxr_feeds : con := (242, [(2, 162, 1), (0, -2147483648, 2147483647)], [], [some (0, -2147483648, 2147483647)], [], 80, 4600, false)
theorem rxq_feeds : con_chkS (kn_or (kl bB rxF [rxt65, rxt78]) rk) PT bB 198 rxF0 rxJ rxjo rxP [(0, 1, 0, 0, [(-1), 5])] 757 rxr_feeds = true := fq_chkS2 (fq_jn_eq _) rfl (by decide +kernel)   -- 357
theorem rxw_feeds : con_ok PT bB 198 rxF rxQ rxr_feeds := con_chkS_ok rxle rxpp (kn_or_ok (kl_ok (List.forall_mem_cons.mpr ⟨rxo65, List.forall_mem_cons.mpr ⟨rxo78, fun _ h => (by cases h)⟩⟩)) rk_ok) nw_class (fun h => by cases h) rxq_feeds
def rxr_starves : con := (243, [(2, 162, 1), (0, -2147483648, 2147483647), (0, -2147483648, 2147483647)], [], [some (0, -2147483648, 2147483647)], [], 80, 4600, false)
theorem rxq_starves : con_chkS (kn_or (kl bB rxF [rxt26, rxt65]) rk) PT bB 198 rxF0 rxJ rxjo rxP [(0, 1, 0, 0, [(-1), 5]), (0, 2, 0, 0, [(-1), 5])] 2294 rxr_starves = true := fq_chkS2 (fq_jn_eq _) rfl (by decide +kernel)   -- 1894
theorem rxw_starves : con_ok PT bB 198 rxF rxQ rxr_starves := con_chkS_ok rxle rxpp (kn_or_ok (kl_ok (List.forall_mem_cons.mpr ⟨rxo26, List.forall_mem_cons.mpr ⟨rxo65, fun _ h => (by cases h)⟩⟩)) rk_ok) nw_class (fun h => by cases h) rxq_starves
def rxr_net : con := (244, [(2, 162, 1), (0, -2147483648, 2147483647)], [], [some (0, -2147483648, 2147483647)], [], 70, 3800, false)
theorem rxq_net : con_chkS (kn_or (kl bB rxF [rxt10, rxt11]) rk) PT bB 198 rxF0 rxJ rxjo rxP [(0, 1, 0, 0, [(-1), 5])] 750 rxr_net = true := fq_chkS2 (fq_jn_eq _) rfl (by decide +kernel)   -- 350
theorem rxw_net : con_ok PT bB 198 rxF rxQ rxr_net := con_chkS_ok rxle rxpp (kn_or_ok (kl_ok (List.forall_mem_cons.mpr ⟨rxo10, List.forall_mem_cons.mpr ⟨rxo11, fun _ h => (by cases h)⟩⟩)) rk_ok) nw_class (fun h => by cases h) rxq_net
def rxr_ring : con := (247, [(2, 162, 1)], [], [some (0, -2147483648, 2147483647)], [], 95, 5800, false)
theorem rxq_ring : con_chkS (kn_or (kl bB rxF [rxt71]) rk) PT bB 198 rxF0 rxJ rxjo rxP [] 1041 rxr_ring = true := fq_chkS2 (fq_jn_eq _) rfl (by decide +kernel)   -- 641
theorem rxw_ring : con_ok PT bB 198 rxF rxQ rxr_ring := con_chkS_ok rxle rxpp (kn_or_ok (kl_ok (List.forall_mem_cons.mpr ⟨rxo71, fun _ h => (by cases h)⟩)) rk_ok) nw_class (fun h => by cases h) rxq_ring
end MH67rx07x4
section MH67rx07x5
/-! the calls themselves -/
def rxr_ranks : con := (249, [(2, 162, 1)], [], [some (0, -2147483648, 2147483647)], [], 70, 3800, false)
theorem rxq_ranks : con_chkS (kn_or (kl bB rxF [rxt72]) rk) PT bB 198 rxF0 rxJ rxjo rxP [] 2271 rxr_ranks = true := fq_chkS2 (fq_jn_eq _) rfl (by decide +kernel)   -- 1871
theorem rxw_ranks : con_ok PT bB 198 rxF rxQ rxr_ranks := con_chkS_ok rxle rxpp (kn_or_ok (kl_ok (List.forall_mem_cons.mpr ⟨rxo72, fun _ h => (by cases h)⟩)) rk_ok) nw_class (fun h => by cases h) rxq_ranks
def rxr_heard : con := (251, [(2, 162, 1), (0, -2147483648, 2147483647), (0, -2147483648, 2147483647)], [], [some (0, -2147483648, 2147483647)], [], 65, 3400, false)
theorem rxq_heard : con_chkS (kn_or (kl bB rxF []) rk) PT bB 198 rxF0 rxJ rxjo rxP [] 823 rxr_heard = true := fq_chkS2 (fq_jn_eq _) rfl (by decide +kernel)   -- 423
theorem rxw_heard : con_ok PT bB 198 rxF rxQ rxr_heard := con_chkS_ok rxle rxpp (kn_or_ok (kl_ok (fun _ h => (by cases h))) rk_ok) nw_class (fun h => by cases h) rxq_heard
def rxr_forget : con := (252, [(2, 162, 1)], [], [some (0, -2147483648, 2147483647)], [], 65, 3400, false)
theorem rxq_forget : con_chkS (kn_or (kl bB rxF []) rk) PT bB 198 rxF0 rxJ rxjo rxP [] 411 rxr_forget = true := fq_chkS2 (fq_jn_eq _) rfl (by decide +kernel)   -- 11
theorem rxw_forget : con_ok PT bB 198 rxF rxQ rxr_forget := con_chkS_ok rxle rxpp (kn_or_ok (kl_ok (fun _ h => (by cases h))) rk_ok) nw_class (fun h => by cases h) rxq_forget
def rxr_fits : con := (255, [(2, 162, 1)], [], [some (0, -2147483648, 2147483647)], [], 75, 4200, false)
theorem rxq_fits : con_chkS (kn_or (kl bB rxF [rxt5, rxt74]) rk) PT bB 198 rxF0 rxJ rxjo rxP [] 838 rxr_fits = true := fq_chkS2 (fq_jn_eq _) rfl (by decide +kernel)   -- 438
theorem rxw_fits : con_ok PT bB 198 rxF rxQ rxr_fits := con_chkS_ok rxle rxpp (kn_or_ok (kl_ok (List.forall_mem_cons.mpr ⟨rxo5, List.forall_mem_cons.mpr ⟨rxo74, fun _ h => (by cases h)⟩⟩)) rk_ok) nw_class (fun h => by cases h) rxq_fits
def rxr_ask : con := (256, [(2, 162, 1)], [], [some (0, -2147483648, 2147483647)], [], 75, 4200, false)
theorem rxq_ask : con_chkS (kn_or (kl bB rxF [rxt5, rxt74]) rk) PT bB 198 rxF0 rxJ rxjo rxP [] 4290 rxr_ask = true := fq_chkS2 (fq_jn_eq _) rfl (by decide +kernel)   -- 3890
theorem rxw_ask : con_ok PT bB 198 rxF rxQ rxr_ask := con_chkS_ok rxle rxpp (kn_or_ok (kl_ok (List.forall_mem_cons.mpr ⟨rxo5, List.forall_mem_cons.mpr ⟨rxo74, fun _ h => (by cases h)⟩⟩)) rk_ok) nw_class (fun h => by cases h) rxq_ask
end MH67rx07x5
section MH67rx07x6
/-! the calls themselves -/
def rxr_rests : con := (261, [(2, 162, 1), (0, -2147483648, 2147483647)], [], [some (0, -2147483648, 2147483647)], [], 75, 4200, false)
theorem rxq_rests : con_chkS (kn_or (kl bB rxF [rxt76]) rk) PT bB 198 rxF0 rxJ rxjo rxP [] 9306 rxr_rests = true := fq_chkS2 (fq_jn_eq _) rfl (by decide +kernel)   -- 8906
theorem rxw_rests : con_ok PT bB 198 rxF rxQ rxr_rests := con_chkS_ok rxle rxpp (kn_or_ok (kl_ok (List.forall_mem_cons.mpr ⟨rxo76, fun _ h => (by cases h)⟩)) rk_ok) nw_class (fun h => by cases h) rxq_rests
end MH67rx07x6
section MH67rx07x7
/-! the calls themselves -/
def rxr_count : con := (267, [(2, 162, 1), (0, -2147483648, 2147483647)], [], [some (0, -2147483648, 2147483647)], [], 75, 4200, false)
theorem rxq_count : con_chkS (kn_or (kl bB rxF [rxt4, rxt10, rxt77]) rk) PT bB 198 rxF0 rxJ rxjo rxP [] 646 rxr_count = true := fq_chkS2 (fq_jn_eq _) rfl (by decide +kernel)   -- 246
theorem rxw_count : con_ok PT bB 198 rxF rxQ rxr_count := con_chkS_ok rxle rxpp (kn_or_ok (kl_ok (List.forall_mem_cons.mpr ⟨rxo4, List.forall_mem_cons.mpr ⟨rxo10, List.forall_mem_cons.mpr ⟨rxo77, fun _ h => (by cases h)⟩⟩⟩)) rk_ok) nw_class (fun h => by cases h) rxq_count
def rxr_row : con := (268, [(2, 162, 1), (0, -2147483648, 2147483647)], [], [some (1, -9223372036854775808, 9223372036854775807)], [], 65, 3400, false)
theorem rxq_row : con_chkS (kn_or (kl bB rxF []) rk) PT bB 198 rxF0 rxJ rxjo rxP [] 803 rxr_row = true := fq_chkS2 (fq_jn_eq _) rfl (by decide +kernel)   -- 403
theorem rxw_row : con_ok PT bB 198 rxF rxQ rxr_row := con_chkS_ok rxle rxpp (kn_or_ok (kl_ok (fun _ h => (by cases h))) rk_ok) nw_class (fun h => by cases h) rxq_row
end MH67rx07x7
section MH67rx07x8
/-! long calls, in pieces -/
def rxr_year : con := (228, [(2, 162, 1)], [], [some (0, -2147483648, 2147483647)], [], 85, 5000, false)
def rxz_year_1 : List ast := [(42, [some (2, 162, 1), some (0, 0, 80), some (0, 0, 1), none, none], [], [])]
def rxz_year_2 : List ast := [(64, [some (2, 162, 1), some (0, 0, 80), some (0, 0, 1), some (0, 0, 0), some (0, 0, 0)], [], [])]
def rxz_year_3 : List ast := [(64, [some (2, 162, 1), some (0, 0, 80), some (0, 0, 1), some (0, 0, 0), some (0, 12, 12)], [], [])]
def rxz_year_4 : List ast := [(64, [some (2, 162, 1), some (0, 0, 80), some (0, 0, 1), some (0, 0, 0), some (0, 24, 24)], [], [])]
theorem rxs_year_4 : seg_chk [] (kn_or (kl bB rxF [rxtFO, rxt5, rxt48]) rk) PT bB 198 rxF0 rxJ rxjo rxP 1733 rxr_year rxz_year_4 = true := fq_seg2 (fq_jn_eq _) rfl (by decide +kernel)   -- 1333
theorem rxs_year_3 : seg_chk rxz_year_4 (kn_or (kl bB rxF [rxtFO, rxt5, rxt48]) rk) PT bB 198 rxF0 rxJ rxjo rxP 1735 rxr_year rxz_year_3 = true := fq_seg2 (fq_jn_eq _) rfl (by decide +kernel)   -- 1335
theorem rxs_year_2 : seg_chk rxz_year_3 (kn_or (kl bB rxF [rxtFO, rxt5, rxt48]) rk) PT bB 198 rxF0 rxJ rxjo rxP 1738 rxr_year rxz_year_2 = true := fq_seg2 (fq_jn_eq _) rfl (by decide +kernel)   -- 1338
theorem rxs_year_1 : seg_chk rxz_year_2 (kn_or (kl bB rxF [rxtFO, rxt5, rxt48]) rk) PT bB 198 rxF0 rxJ rxjo rxP 3231 rxr_year rxz_year_1 = true := fq_seg2 (fq_jn_eq _) rfl (by decide +kernel)   -- 2831
theorem rxs_year_0 : seg_chk rxz_year_1 (kn_or (kl bB rxF [rxtFO, rxt5, rxt48]) rk) PT bB 198 rxF0 rxJ rxjo rxP 5078 rxr_year (sp_all bB 198 [] [(0, aa_l0 rxr_year.2.1 (pm_max PT rxr_year.1), [], rxr_year.2.2.1)]) = true := fq_seg2 (fq_jn_eq _) rfl (by decide +kernel)   -- 4678
theorem rxw_year : con_ok PT bB 198 rxF rxQ rxr_year := seg_con rfl (ps := []) (seg_chk_ok rxle rxpp (kn_or_ok (kl_ok (List.forall_mem_cons.mpr ⟨rxoFO, List.forall_mem_cons.mpr ⟨rxo5, List.forall_mem_cons.mpr ⟨rxo48, fun _ h => (by cases h)⟩⟩⟩)) rk_ok) (seg_chk_ok rxle rxpp (kn_or_ok (kl_ok (List.forall_mem_cons.mpr ⟨rxoFO, List.forall_mem_cons.mpr ⟨rxo5, List.forall_mem_cons.mpr ⟨rxo48, fun _ h => (by cases h)⟩⟩⟩)) rk_ok) (seg_chk_ok rxle rxpp (kn_or_ok (kl_ok (List.forall_mem_cons.mpr ⟨rxoFO, List.forall_mem_cons.mpr ⟨rxo5, List.forall_mem_cons.mpr ⟨rxo48, fun _ h => (by cases h)⟩⟩⟩)) rk_ok) (seg_chk_ok rxle rxpp (kn_or_ok (kl_ok (List.forall_mem_cons.mpr ⟨rxoFO, List.forall_mem_cons.mpr ⟨rxo5, List.forall_mem_cons.mpr ⟨rxo48, fun _ h => (by cases h)⟩⟩⟩)) rk_ok) (seg_chk_ok rxle rxpp (kn_or_ok (kl_ok (List.forall_mem_cons.mpr ⟨rxoFO, List.forall_mem_cons.mpr ⟨rxo5, List.forall_mem_cons.mpr ⟨rxo48, fun _ h => (by cases h)⟩⟩⟩)) rk_ok) seg_nil rxs_year_4) rxs_year_3) rxs_year_2) rxs_year_1) rxs_year_0)
end MH67rx07x8
section MH67rx07x9
/-! long calls, in pieces -/
def rxr_settle : con := (245, [(2, 162, 1)], [], [some (0, -2147483648, 2147483647)], [], 70, 3800, false)
def rxz_settle_1 : List ast := [(48, [some (2, 162, 1), some (0, 0, 63), some (0, 12, 12), none], [], [])]
def rxz_settle_2 : List ast := [(48, [some (2, 162, 1), some (0, 0, 63), some (0, 24, 24), none], [], [])]
def rxz_settle_3 : List ast := [(48, [some (2, 162, 1), some (0, 0, 63), some (0, 36, 36), none], [], [])]
def rxz_settle_4 : List ast := [(48, [some (2, 162, 1), some (0, 0, 63), some (0, 48, 48), none], [], [])]
theorem rxs_settle_4 : seg_chk [] (kn_or (kl bB rxF [rxt5, rxt10, rxt11]) rk) PT bB 198 rxF0 rxJ rxjo rxP 6579 rxr_settle rxz_settle_4 = true := fq_seg2 (fq_jn_eq _) rfl (by decide +kernel)   -- 6179
theorem rxs_settle_3 : seg_chk rxz_settle_4 (kn_or (kl bB rxF [rxt5, rxt10, rxt11]) rk) PT bB 198 rxF0 rxJ rxjo rxP 4765 rxr_settle rxz_settle_3 = true := fq_seg2 (fq_jn_eq _) rfl (by decide +kernel)   -- 4365
theorem rxs_settle_2 : seg_chk rxz_settle_3 (kn_or (kl bB rxF [rxt5, rxt10, rxt11]) rk) PT bB 198 rxF0 rxJ rxjo rxP 4629 rxr_settle rxz_settle_2 = true := fq_seg2 (fq_jn_eq _) rfl (by decide +kernel)   -- 4229
theorem rxs_settle_1 : seg_chk rxz_settle_2 (kn_or (kl bB rxF [rxt5, rxt10, rxt11]) rk) PT bB 198 rxF0 rxJ rxjo rxP 4493 rxr_settle rxz_settle_1 = true := fq_seg2 (fq_jn_eq _) rfl (by decide +kernel)   -- 4093
theorem rxs_settle_0 : seg_chk rxz_settle_1 (kn_or (kl bB rxF [rxt5, rxt10, rxt11]) rk) PT bB 198 rxF0 rxJ rxjo rxP 4297 rxr_settle (sp_all bB 198 [] [(0, aa_l0 rxr_settle.2.1 (pm_max PT rxr_settle.1), [], rxr_settle.2.2.1)]) = true := fq_seg2 (fq_jn_eq _) rfl (by decide +kernel)   -- 3897
theorem rxw_settle : con_ok PT bB 198 rxF rxQ rxr_settle := seg_con rfl (ps := []) (seg_chk_ok rxle rxpp (kn_or_ok (kl_ok (List.forall_mem_cons.mpr ⟨rxo5, List.forall_mem_cons.mpr ⟨rxo10, List.forall_mem_cons.mpr ⟨rxo11, fun _ h => (by cases h)⟩⟩⟩)) rk_ok) (seg_chk_ok rxle rxpp (kn_or_ok (kl_ok (List.forall_mem_cons.mpr ⟨rxo5, List.forall_mem_cons.mpr ⟨rxo10, List.forall_mem_cons.mpr ⟨rxo11, fun _ h => (by cases h)⟩⟩⟩)) rk_ok) (seg_chk_ok rxle rxpp (kn_or_ok (kl_ok (List.forall_mem_cons.mpr ⟨rxo5, List.forall_mem_cons.mpr ⟨rxo10, List.forall_mem_cons.mpr ⟨rxo11, fun _ h => (by cases h)⟩⟩⟩)) rk_ok) (seg_chk_ok rxle rxpp (kn_or_ok (kl_ok (List.forall_mem_cons.mpr ⟨rxo5, List.forall_mem_cons.mpr ⟨rxo10, List.forall_mem_cons.mpr ⟨rxo11, fun _ h => (by cases h)⟩⟩⟩)) rk_ok) (seg_chk_ok rxle rxpp (kn_or_ok (kl_ok (List.forall_mem_cons.mpr ⟨rxo5, List.forall_mem_cons.mpr ⟨rxo10, List.forall_mem_cons.mpr ⟨rxo11, fun _ h => (by cases h)⟩⟩⟩)) rk_ok) seg_nil rxs_settle_4) rxs_settle_3) rxs_settle_2) rxs_settle_1) rxs_settle_0)
end MH67rx07x9
