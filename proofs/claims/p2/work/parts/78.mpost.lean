/-! every call of the reference keeps what must be kept -/
section MPW
variable {fr lo sl : Nat} {h : pm_H}
def aLong (v : Option Value) : Prop := ∃ x : Int64, v = some (.long x)
theorem ao_i {v : Option Value} {l u : Int} (q : ao_ok v (some (0, l, u))) : ∃ x : Int32, v = some (.int x) ∧ l ≤ x.toInt ∧ x.toInt ≤ u := by
  cases v with
  | none => exact q.elim
  | some v =>
    obtain ⟨x, rfl, h1, h2⟩ := av_int rfl q
    exact ⟨x, rfl, h1, h2⟩
theorem ao_l {v : Option Value} {l u : Int} (q : ao_ok v (some (1, l, u))) : aLong v := by
  cases v with
  | none => exact q.elim
  | some v =>
    cases v with
    | long x => exact ⟨x, rfl⟩
    | int x => exact absurd (show (1 : Nat) = 0 from q.1) (by decide)
    | ref p => exact absurd (show (1 : Nat) = 2 from q.1) (by decide)
    | null => exact absurd (show (1 : Nat) = 3 from q) (by decide)
    | retAddr i => exact absurd (show (1 : Nat) = 4 from q.1) (by decide)
    | _ => exact q.elim
theorem ao_I {v : Option Value} {l u : Int} (q : ∃ a, a ∈ [some ((0, l, u) : av)] ∧ ao_ok v a) : anInt v := by
  obtain ⟨a, ha, q⟩ := q
  cases List.mem_singleton.mp ha
  obtain ⟨x, rfl, -⟩ := ao_i q
  exact ⟨x, rfl⟩
theorem ao_L {v : Option Value} {l u : Int} (q : ∃ a, a ∈ [some ((1, l, u) : av)] ∧ ao_ok v a) : aLong v := by
  obtain ⟨a, ha, q⟩ := q
  cases List.mem_singleton.mp ha
  exact ao_l q
theorem ao_B {v : Option Value} (q : ∃ a, a ∈ [some ((0, 0, 1) : av)] ∧ ao_ok v a) : aBool v := by
  obtain ⟨a, ha, q⟩ := q
  cases List.mem_singleton.mp ha
  obtain ⟨x, rfl, h1, h2⟩ := ao_i q
  obtain ⟨n, rfl, -, e⟩ := hI_of h1
  have : n = 0 ∨ n = 1 := by omega
  rcases this with rfl | rfl
  · exact Or.inl rfl
  · exact Or.inr rfl
theorem post_c {x : pm_Rs} {A B : Option Value → Prop} (hB : ∀ v, B v → A v) (q : B x.1 ∧ x.2.2 = (198, sl) ∧ (fm rxF h x.2.1 ∧ rxQ x.2.1) ∧ ah_ok bB 198 [] x.2.1) : mPost A h sl x := ⟨hB _ q.1, q.2.1, fm_lt q.2.2.1.1, q.2.2.2, q.2.2.1.2⟩
/-- what is known of fields 3 and 4 put into the typing -/
theorem ov_in {as : List av} {o : ah} (hb : ah_get bB o 162 = .inr (11, as)) (hh : ah_ok bB 198 o h) {g : Nat} {v : Value} {a : av} (m : mF h g v) (hv : av_ok v a) : ah_ok bB 198 (ah_put o 162 (.inr (11, as.set g a))) h := by
  refine ah_put_ok hh ?_
  have h0 := hh 162 (by decide)
  rw [hb] at h0
  obtain ⟨fs, e, e1⟩ := m
  rw [e] at h0 ⊢
  obtain ⟨p1, p2, p3⟩ := h0
  refine ⟨p1, by rw [List.length_set]; exact p2, fun i w b hw hb2 => ?_⟩
  by_cases z : i = g
  · subst z
    rw [e1] at hw
    cases hw
    have hl : i < as.length := by
      have := (List.getElem?_eq_some_iff.mp hb2).1
      rwa [List.length_set] at this
    rw [List.getElem?_set_self hl] at hb2
    cases hb2
    exact hv
  · rw [List.getElem?_set_ne (Ne.symm z)] at hb2
    exact p3 i w b hw hb2
theorem hm_sign (hI : mInv h) (x1 : Int32) (hf : 500 ≤ fr) (hl : 12000 ≤ lo) : pm_WP PT fr lo 178 (0, pm_l0 [.ref 162, .int x1] 3, [], h, 198, sl) (mPost anInt h sl) := wp_mono (rxw_sign [.ref 162, .int x1] h fr lo sl ⟨⟨rfl, List.mem_singleton_self _⟩, ai_top_ok _, trivial⟩ hI.1 hI.2 (Nat.le_trans (by decide) hf) (Nat.le_trans (by decide) hl)) (fun x q => post_c (fun _ => ao_I) q)
theorem hm_end (hI : mInv h) (x1 : Int32) (hf : 500 ≤ fr) (hl : 12000 ≤ lo) : pm_WP PT fr lo 179 (0, pm_l0 [.ref 162, .int x1] 2, [], h, 198, sl) (mPost aBool h sl) := wp_mono (rxw_end [.ref 162, .int x1] h fr lo sl ⟨⟨rfl, List.mem_singleton_self _⟩, ai_top_ok _, trivial⟩ hI.1 hI.2 (Nat.le_trans (by decide) hf) (Nat.le_trans (by decide) hl)) (fun x q => post_c (fun _ => ao_B) q)
theorem hm_court (hI : mInv h) (x1 x2 : Int32) (hf : 500 ≤ fr) (hl : 12000 ≤ lo) : pm_WP PT fr lo 206 (0, pm_l0 [.ref 162, .int x1, .int x2] 3, [], h, 198, sl) (mPost anInt h sl) := wp_mono (rxw_court [.ref 162, .int x1, .int x2] h fr lo sl ⟨⟨rfl, List.mem_singleton_self _⟩, ai_top_ok _, ai_top_ok _, trivial⟩ hI.1 hI.2 (Nat.le_trans (by decide) hf) (Nat.le_trans (by decide) hl)) (fun x q => post_c (fun _ => ao_I) q)
theorem hm_between (hI : mInv h) (x1 x2 x3 : Int32) (hf : 500 ≤ fr) (hl : 12000 ≤ lo) : pm_WP PT fr lo 207 (0, pm_l0 [.ref 162, .int x1, .int x2, .int x3] 5, [], h, 198, sl) (mPost anInt h sl) := wp_mono (rxw_between [.ref 162, .int x1, .int x2, .int x3] h fr lo sl ⟨⟨rfl, List.mem_singleton_self _⟩, ai_top_ok _, ai_top_ok _, ai_top_ok _, trivial⟩ hI.1 hI.2 (Nat.le_trans (by decide) hf) (Nat.le_trans (by decide) hl)) (fun x q => post_c (fun _ => ao_I) q)
theorem hm_gift (hI : mInv h) (x1 x2 : Int32) (hf : 500 ≤ fr) (hl : 12000 ≤ lo) : pm_WP PT fr lo 208 (0, pm_l0 [.ref 162, .int x1, .int x2] 3, [], h, 198, sl) (mPost anInt h sl) := wp_mono (rxw_gift [.ref 162, .int x1, .int x2] h fr lo sl ⟨⟨rfl, List.mem_singleton_self _⟩, ai_top_ok _, ai_top_ok _, trivial⟩ hI.1 hI.2 (Nat.le_trans (by decide) hf) (Nat.le_trans (by decide) hl)) (fun x q => post_c (fun _ => ao_I) q)
theorem hm_road (hI : mInv h) (x1 x2 x3 : Int32) (hf : 500 ≤ fr) (hl : 12000 ≤ lo) : pm_WP PT fr lo 209 (0, pm_l0 [.ref 162, .int x1, .int x2, .int x3] 5, [], h, 198, sl) (mPost anInt h sl) := wp_mono (rxw_road [.ref 162, .int x1, .int x2, .int x3] h fr lo sl ⟨⟨rfl, List.mem_singleton_self _⟩, ai_top_ok _, ai_top_ok _, ai_top_ok _, trivial⟩ hI.1 hI.2 (Nat.le_trans (by decide) hf) (Nat.le_trans (by decide) hl)) (fun x q => post_c (fun _ => ao_I) q)
theorem hm_sheet (hI : mInv h) (x1 x2 x3 x4 : Int32) (hf : 500 ≤ fr) (hl : 12000 ≤ lo) : pm_WP PT fr lo 210 (0, pm_l0 [.ref 162, .int x1, .int x2, .int x3, .int x4] 8, [], h, 198, sl) (mPost anInt h sl) := wp_mono (rxw_sheet [.ref 162, .int x1, .int x2, .int x3, .int x4] h fr lo sl ⟨⟨rfl, List.mem_singleton_self _⟩, ai_top_ok _, ai_top_ok _, ai_top_ok _, ai_top_ok _, trivial⟩ hI.1 hI.2 (Nat.le_trans (by decide) hf) (Nat.le_trans (by decide) hl)) (fun x q => post_c (fun _ => ao_I) q)
theorem hm_send (hI : mInv h) (x1 x2 : Int32) (hf : 500 ≤ fr) (hl : 12000 ≤ lo) : pm_WP PT fr lo 222 (0, pm_l0 [.ref 162, .int x1, .int x2] 4, [], h, 198, sl) (mPost anInt h sl) := wp_mono (rxw_send [.ref 162, .int x1, .int x2] h fr lo sl ⟨⟨rfl, List.mem_singleton_self _⟩, ai_top_ok _, ai_top_ok _, trivial⟩ hI.1 hI.2 (Nat.le_trans (by decide) hf) (Nat.le_trans (by decide) hl)) (fun x q => post_c (fun _ => ao_I) q)
theorem hm_months (hI : mInv h) (x1 : Int32) (hf : 500 ≤ fr) (hl : 12000 ≤ lo) : pm_WP PT fr lo 223 (0, pm_l0 [.ref 162, .int x1] 4, [], h, 198, sl) (mPost anInt h sl) := wp_mono (rxw_months [.ref 162, .int x1] h fr lo sl ⟨⟨rfl, List.mem_singleton_self _⟩, ai_top_ok _, trivial⟩ hI.1 hI.2 (Nat.le_trans (by decide) hf) (Nat.le_trans (by decide) hl)) (fun x q => post_c (fun _ => ao_I) q)
theorem hm_envoy (hI : mInv h) (x1 x2 x3 : Int32) (hf : 500 ≤ fr) (hl : 12000 ≤ lo) : pm_WP PT fr lo 224 (0, pm_l0 [.ref 162, .int x1, .int x2, .int x3] 4, [], h, 198, sl) (mPost anInt h sl) := wp_mono (rxw_envoy [.ref 162, .int x1, .int x2, .int x3] h fr lo sl ⟨⟨rfl, List.mem_singleton_self _⟩, ai_top_ok _, ai_top_ok _, ai_top_ok _, trivial⟩ hI.1 hI.2 (Nat.le_trans (by decide) hf) (Nat.le_trans (by decide) hl)) (fun x q => post_c (fun _ => ao_I) q)
theorem hm_forgive (hI : mInv h) (x1 x2 : Int32) (hf : 500 ≤ fr) (hl : 12000 ≤ lo) : pm_WP PT fr lo 225 (0, pm_l0 [.ref 162, .int x1, .int x2] 3, [], h, 198, sl) (mPost anInt h sl) := wp_mono (rxw_forgive [.ref 162, .int x1, .int x2] h fr lo sl ⟨⟨rfl, List.mem_singleton_self _⟩, ai_top_ok _, ai_top_ok _, trivial⟩ hI.1 hI.2 (Nat.le_trans (by decide) hf) (Nat.le_trans (by decide) hl)) (fun x q => post_c (fun _ => ao_I) q)
theorem hm_value (hI : mInv h) (x1 x2 : Int32) (hf : 500 ≤ fr) (hl : 12000 ≤ lo) : pm_WP PT fr lo 230 (0, pm_l0 [.ref 162, .int x1, .int x2] 3, [], h, 198, sl) (mPost anInt h sl) := wp_mono (rxw_value [.ref 162, .int x1, .int x2] h fr lo sl ⟨⟨rfl, List.mem_singleton_self _⟩, ai_top_ok _, ai_top_ok _, trivial⟩ hI.1 hI.2 (Nat.le_trans (by decide) hf) (Nat.le_trans (by decide) hl)) (fun x q => post_c (fun _ => ao_I) q)
theorem hm_where (hI : mInv h) (x1 : Int32) (hf : 500 ≤ fr) (hl : 12000 ≤ lo) : pm_WP PT fr lo 231 (0, pm_l0 [.ref 162, .int x1] 7, [], h, 198, sl) (mPost anInt h sl) := wp_mono (rxw_where [.ref 162, .int x1] h fr lo sl ⟨⟨rfl, List.mem_singleton_self _⟩, ai_top_ok _, trivial⟩ hI.1 hI.2 (Nat.le_trans (by decide) hf) (Nat.le_trans (by decide) hl)) (fun x q => post_c (fun _ => ao_I) q)
theorem hm_wins (hI : mInv h) (x1 x2 : Int32) (hf : 500 ≤ fr) (hl : 12000 ≤ lo) : pm_WP PT fr lo 234 (0, pm_l0 [.ref 162, .int x1, .int x2] 5, [], h, 198, sl) (mPost anInt h sl) := wp_mono (rxw_wins [.ref 162, .int x1, .int x2] h fr lo sl ⟨⟨rfl, List.mem_singleton_self _⟩, ai_top_ok _, ai_top_ok _, trivial⟩ hI.1 hI.2 (Nat.le_trans (by decide) hf) (Nat.le_trans (by decide) hl)) (fun x q => post_c (fun _ => ao_I) q)
theorem hm_unseen (hI : mInv h) (x1 : Int32) (hf : 500 ≤ fr) (hl : 12000 ≤ lo) : pm_WP PT fr lo 235 (0, pm_l0 [.ref 162, .int x1] 6, [], h, 198, sl) (mPost anInt h sl) := wp_mono (rxw_unseen [.ref 162, .int x1] h fr lo sl ⟨⟨rfl, List.mem_singleton_self _⟩, ai_top_ok _, trivial⟩ hI.1 hI.2 (Nat.le_trans (by decide) hf) (Nat.le_trans (by decide) hl)) (fun x q => post_c (fun _ => ao_I) q)
theorem hm_swaps (hI : mInv h) (hf : 500 ≤ fr) (hl : 12000 ≤ lo) : pm_WP PT fr lo 236 (0, pm_l0 [.ref 162] 11, [], h, 198, sl) (mPost anInt h sl) := wp_mono (rxw_swaps [.ref 162] h fr lo sl ⟨⟨rfl, List.mem_singleton_self _⟩, trivial⟩ hI.1 hI.2 (Nat.le_trans (by decide) hf) (Nat.le_trans (by decide) hl)) (fun x q => post_c (fun _ => ao_I) q)
theorem hm_feeds (hI : mInv h) (x1 : Int32) (hf : 500 ≤ fr) (hl : 12000 ≤ lo) : pm_WP PT fr lo 242 (0, pm_l0 [.ref 162, .int x1] 3, [], h, 198, sl) (mPost anInt h sl) := wp_mono (rxw_feeds [.ref 162, .int x1] h fr lo sl ⟨⟨rfl, List.mem_singleton_self _⟩, ai_top_ok _, trivial⟩ hI.1 hI.2 (Nat.le_trans (by decide) hf) (Nat.le_trans (by decide) hl)) (fun x q => post_c (fun _ => ao_I) q)
theorem hm_starves (hI : mInv h) (x1 x2 : Int32) (hf : 500 ≤ fr) (hl : 12000 ≤ lo) : pm_WP PT fr lo 243 (0, pm_l0 [.ref 162, .int x1, .int x2] 7, [], h, 198, sl) (mPost anInt h sl) := wp_mono (rxw_starves [.ref 162, .int x1, .int x2] h fr lo sl ⟨⟨rfl, List.mem_singleton_self _⟩, ai_top_ok _, ai_top_ok _, trivial⟩ hI.1 hI.2 (Nat.le_trans (by decide) hf) (Nat.le_trans (by decide) hl)) (fun x q => post_c (fun _ => ao_I) q)
theorem hm_net (hI : mInv h) (x1 : Int32) (hf : 500 ≤ fr) (hl : 12000 ≤ lo) : pm_WP PT fr lo 244 (0, pm_l0 [.ref 162, .int x1] 2, [], h, 198, sl) (mPost anInt h sl) := wp_mono (rxw_net [.ref 162, .int x1] h fr lo sl ⟨⟨rfl, List.mem_singleton_self _⟩, ai_top_ok _, trivial⟩ hI.1 hI.2 (Nat.le_trans (by decide) hf) (Nat.le_trans (by decide) hl)) (fun x q => post_c (fun _ => ao_I) q)
theorem hm_ring (hI : mInv h) (hf : 500 ≤ fr) (hl : 12000 ≤ lo) : pm_WP PT fr lo 247 (0, pm_l0 [.ref 162] 3, [], h, 198, sl) (mPost anInt h sl) := wp_mono (rxw_ring [.ref 162] h fr lo sl ⟨⟨rfl, List.mem_singleton_self _⟩, trivial⟩ hI.1 hI.2 (Nat.le_trans (by decide) hf) (Nat.le_trans (by decide) hl)) (fun x q => post_c (fun _ => ao_I) q)
theorem hm_ranks (hI : mInv h) (hf : 500 ≤ fr) (hl : 12000 ≤ lo) : pm_WP PT fr lo 249 (0, pm_l0 [.ref 162] 6, [], h, 198, sl) (mPost anInt h sl) := wp_mono (rxw_ranks [.ref 162] h fr lo sl ⟨⟨rfl, List.mem_singleton_self _⟩, trivial⟩ hI.1 hI.2 (Nat.le_trans (by decide) hf) (Nat.le_trans (by decide) hl)) (fun x q => post_c (fun _ => ao_I) q)
theorem hm_heard (hI : mInv h) (x1 x2 : Int32) (hf : 500 ≤ fr) (hl : 12000 ≤ lo) : pm_WP PT fr lo 251 (0, pm_l0 [.ref 162, .int x1, .int x2] 4, [], h, 198, sl) (mPost anInt h sl) := wp_mono (rxw_heard [.ref 162, .int x1, .int x2] h fr lo sl ⟨⟨rfl, List.mem_singleton_self _⟩, ai_top_ok _, ai_top_ok _, trivial⟩ hI.1 hI.2 (Nat.le_trans (by decide) hf) (Nat.le_trans (by decide) hl)) (fun x q => post_c (fun _ => ao_I) q)
theorem hm_forget (hI : mInv h) (hf : 500 ≤ fr) (hl : 12000 ≤ lo) : pm_WP PT fr lo 252 (0, pm_l0 [.ref 162] 2, [], h, 198, sl) (mPost anInt h sl) := wp_mono (rxw_forget [.ref 162] h fr lo sl ⟨⟨rfl, List.mem_singleton_self _⟩, trivial⟩ hI.1 hI.2 (Nat.le_trans (by decide) hf) (Nat.le_trans (by decide) hl)) (fun x q => post_c (fun _ => ao_I) q)
theorem hm_fits (hI : mInv h) (hf : 500 ≤ fr) (hl : 12000 ≤ lo) : pm_WP PT fr lo 255 (0, pm_l0 [.ref 162] 4, [], h, 198, sl) (mPost anInt h sl) := wp_mono (rxw_fits [.ref 162] h fr lo sl ⟨⟨rfl, List.mem_singleton_self _⟩, trivial⟩ hI.1 hI.2 (Nat.le_trans (by decide) hf) (Nat.le_trans (by decide) hl)) (fun x q => post_c (fun _ => ao_I) q)
theorem hm_ask (hI : mInv h) (hf : 500 ≤ fr) (hl : 12000 ≤ lo) : pm_WP PT fr lo 256 (0, pm_l0 [.ref 162] 7, [], h, 198, sl) (mPost anInt h sl) := wp_mono (rxw_ask [.ref 162] h fr lo sl ⟨⟨rfl, List.mem_singleton_self _⟩, trivial⟩ hI.1 hI.2 (Nat.le_trans (by decide) hf) (Nat.le_trans (by decide) hl)) (fun x q => post_c (fun _ => ao_I) q)
theorem hm_rests (hI : mInv h) (x1 : Int32) (hf : 500 ≤ fr) (hl : 12000 ≤ lo) : pm_WP PT fr lo 261 (0, pm_l0 [.ref 162, .int x1] 5, [], h, 198, sl) (mPost anInt h sl) := wp_mono (rxw_rests [.ref 162, .int x1] h fr lo sl ⟨⟨rfl, List.mem_singleton_self _⟩, ai_top_ok _, trivial⟩ hI.1 hI.2 (Nat.le_trans (by decide) hf) (Nat.le_trans (by decide) hl)) (fun x q => post_c (fun _ => ao_I) q)
theorem hm_count (hI : mInv h) (x1 : Int32) (hf : 500 ≤ fr) (hl : 12000 ≤ lo) : pm_WP PT fr lo 267 (0, pm_l0 [.ref 162, .int x1] 4, [], h, 198, sl) (mPost anInt h sl) := wp_mono (rxw_count [.ref 162, .int x1] h fr lo sl ⟨⟨rfl, List.mem_singleton_self _⟩, ai_top_ok _, trivial⟩ hI.1 hI.2 (Nat.le_trans (by decide) hf) (Nat.le_trans (by decide) hl)) (fun x q => post_c (fun _ => ao_I) q)
theorem hm_row (hI : mInv h) (x1 : Int32) (hf : 500 ≤ fr) (hl : 12000 ≤ lo) : pm_WP PT fr lo 268 (0, pm_l0 [.ref 162, .int x1] 2, [], h, 198, sl) (mPost aLong h sl) := wp_mono (rxw_row [.ref 162, .int x1] h fr lo sl ⟨⟨rfl, List.mem_singleton_self _⟩, ai_top_ok _, trivial⟩ hI.1 hI.2 (Nat.le_trans (by decide) hf) (Nat.le_trans (by decide) hl)) (fun x q => post_c (fun _ => ao_L) q)
theorem hm_year (hI : mInv h) (hf : 500 ≤ fr) (hl : 12000 ≤ lo) : pm_WP PT fr lo 228 (0, pm_l0 [.ref 162] 5, [], h, 198, sl) (mPost anInt h sl) := wp_mono (rxw_year [.ref 162] h fr lo sl ⟨⟨rfl, List.mem_singleton_self _⟩, trivial⟩ hI.1 hI.2 (Nat.le_trans (by decide) hf) (Nat.le_trans (by decide) hl)) (fun x q => post_c (fun _ => ao_I) q)
theorem hm_settle (hI : mInv h) (hf : 500 ≤ fr) (hl : 12000 ≤ lo) : pm_WP PT fr lo 245 (0, pm_l0 [.ref 162] 4, [], h, 198, sl) (mPost anInt h sl) := wp_mono (rxw_settle [.ref 162] h fr lo sl ⟨⟨rfl, List.mem_singleton_self _⟩, trivial⟩ hI.1 hI.2 (Nat.le_trans (by decide) hf) (Nat.le_trans (by decide) hl)) (fun x q => post_c (fun _ => ao_I) q)
theorem hm_league (hI : mInv h) (hf : 500 ≤ fr) (hl : 12000 ≤ lo) : pm_WP PT fr lo 250 (0, pm_l0 [.ref 162] 5, [], h, 198, sl) (mPost anInt h sl) := wp_mono (rxw_league [.ref 162] h fr lo sl ⟨⟨rfl, List.mem_singleton_self _⟩, trivial⟩ hI.1 hI.2 (Nat.le_trans (by decide) hf) (Nat.le_trans (by decide) hl)) (fun x q => post_c (fun _ => ao_I) q)
theorem ov_3 (hh : ah_ok bB 198 [] h) {c l u : Nat} (h3 : mF h 3 (.int (nI c))) (h1 : l ≤ c) (h2 : c ≤ u) (hu : u ≤ 6) {o : ah} (e : ∃ as, bB 162 = .inr (11, as) ∧ o = ah_put [] 162 (.inr (11, as.set 3 (0, (l : Int), (u : Int))))) : ah_ok bB 198 o h := by
  obtain ⟨as, e1, rfl⟩ := e
  exact ov_in (o := []) e1 hh h3 (av_nI (by omega) (by omega) (by omega))
theorem ov_34 (hh : ah_ok bB 198 [] h) {c l u g p q : Nat} (h3 : mF h 3 (.int (nI c))) (h1 : l ≤ c) (h2 : c ≤ u) (hu : u ≤ 6) (h4 : mF h 4 (.int (nI g))) (h5 : p ≤ g) (h6 : g ≤ q) (hq : q ≤ 8) {o : ah} (e : ∃ as, bB 162 = .inr (11, as) ∧ o = ah_put [] 162 (.inr (11, (as.set 3 (0, (l : Int), (u : Int))).set 4 (0, (p : Int), (q : Int))))) : ah_ok bB 198 o h := by
  obtain ⟨as, e1, rfl⟩ := e
  have a1 := ov_in (o := []) e1 hh h3 (a := (0, (l : Int), (u : Int))) (av_nI (by omega) (by omega) (by omega))
  exact ov_in (o := ah_put [] 162 (.inr (11, as.set 3 (0, (l : Int), (u : Int))))) rfl a1 h4 (a := (0, (p : Int), (q : Int))) (av_nI (by omega) (by omega) (by omega))
/-- fields 3 and 4 told back -/
theorem ov_nat {o : ah} {as : List av} (hh : ah_ok bB 198 o h) (e : ah_get bB o 162 = .inr (11, as)) {g l u : Nat} (ha : as[g]? = some (0, (l : Int), (u : Int))) (hu : u ≤ 100) : ∃ n : Nat, mF h g (.int (nI n)) ∧ l ≤ n ∧ n ≤ u := by
  obtain ⟨n, m, h1, h2⟩ := ob_nat hh e ha (by omega) (by omega)
  exact ⟨n, m, by omega, by omega⟩
theorem ov_out {o : ah} (hh : ah_ok bB 198 o h) (hl : ah_le bB o [] = true) : ah_ok bB 198 [] h := ah_le_ok hl hh
theorem hm_years (hI : mInv h) (x1 x2 : Int32) (hf : 500 ≤ fr) (hl : 12000 ≤ lo) : pm_WP PT fr lo 263 (0, pm_l0 [.ref 162, .int x1, .int x2] 7, [], h, 198, sl) (mPost anInt h sl) := by
  obtain ⟨q1, ⟨c, g, h3, h4, hc, hg, hcg⟩, q3⟩ := id hI.2
  by_cases z : c = 0
  · subst z
    obtain rfl : g = 0 := by omega
    exact wp_mono (rxw_years0 [.ref 162, .int x1, .int x2] h fr lo sl ⟨⟨rfl, List.mem_singleton_self _⟩, ai_top_ok _, ai_top_ok _, trivial⟩ (ov_34 (l := 0) (u := 0) (p := 0) (q := 0) hI.1 h3 (by omega) (by omega) (by omega) h4 (by omega) (by omega) (by omega) ⟨_, rfl, rfl⟩) hI.2 (Nat.le_trans (by decide) hf) (Nat.le_trans (by decide) hl)) (fun x q => post_c (fun _ => ao_I) q)
  · exact wp_mono (rxw_years1 [.ref 162, .int x1, .int x2] h fr lo sl ⟨⟨rfl, List.mem_singleton_self _⟩, ai_top_ok _, ai_top_ok _, trivial⟩ (ov_3 (l := 1) (u := 6) hI.1 h3 (by omega) (by omega) (by omega) ⟨_, rfl, rfl⟩) hI.2 (Nat.le_trans (by decide) hf) (Nat.le_trans (by decide) hl)) (fun x q => post_c (fun _ => ao_I) q)
theorem fmc_lt {F : fr_F} (hF : F.1 = rxC) {h h' : pm_H} (q : fm F h h') : ∀ i, i < 162 → h' i = h i := fun i hi => q.1 i (by
  rw [hF]
  unfold rxC
  have : Nat.blt i 162 = true := Nat.ble_eq_true_of_le hi
  rw [this]
  rfl)
theorem post_courts {n : Nat} {o : ah} {x : pm_Rs} (hI : mInv h) (h3 : mF h 3 (.int (nI n))) (e : ∃ as, ah_get bB o 162 = .inr (11, as) ∧ as[3]? = some (0, (n : Int), ((6 : Nat) : Int))) (hlo : ah_le bB o [] = true) (q : (∃ a, a ∈ [some ((0, (-2147483648), 2147483647) : av)] ∧ ao_ok x.1 a) ∧ x.2.2 = (198, sl) ∧ (fm rxFc h x.2.1 ∧ rxQ1 x.2.1) ∧ ah_ok bB 198 o x.2.1) : mPost anInt h sl x := by
  obtain ⟨a1, a2, ⟨a3, ⟨b1, b2, b3⟩⟩, a4⟩ := q
  obtain ⟨as, e1, e2⟩ := e
  obtain ⟨c, m3, l1, l2⟩ := ov_nat a4 e1 e2 (by decide)
  obtain ⟨-, ⟨c0, g0, k3, k4, hc6, hg, hcg⟩, -⟩ := hI.2
  have hc0 : c0 = n := by
    obtain ⟨fs, p1, p2⟩ := k3
    obtain ⟨fs', p1', p2'⟩ := h3
    rw [p1] at p1'
    cases p1'
    rw [p2] at p2'
    have e5 : nI c0 = nI n := by
      have := Option.some.inj p2'
      exact (Value.int.inj this)
    have e6 : n ≤ 6 := by omega
    have := congrArg Int32.toInt e5
    rw [nI_toInt (by omega), nI_toInt (by omega)] at this
    omega
  exact ⟨ao_I a1, a2, fmc_lt rfl a3, ov_out a4 hlo, b1, ⟨c, g0, m3, fm_mF a3 rfl k4, l2, hg, fun z => by have := hcg z; omega⟩, b2, b3⟩
theorem hm_courts (hI : mInv h) (hf : 500 ≤ fr) (hl : 12000 ≤ lo) : pm_WP PT fr lo 188 (0, pm_l0 [.ref 162] 7, [], h, 198, sl) (mPost anInt h sl) := by
  obtain ⟨q1, ⟨c, g, h3, h4, hc, hg, hcg⟩, q3⟩ := id hI.2
  have hQ : rxQ1 h := ⟨q1, q3⟩
  have : c = 0 ∨ c = 1 ∨ c = 2 ∨ c = 3 ∨ c = 4 ∨ c = 5 ∨ c = 6 := by omega
  rcases this with rfl | rfl | rfl | rfl | rfl | rfl | rfl
  · exact wp_mono (rxw_courts0 [.ref 162] h fr lo sl ⟨⟨rfl, List.mem_singleton_self _⟩, trivial⟩ (ov_3 (l := 0) (u := 0) hI.1 h3 (by omega) (by omega) (by omega) ⟨_, rfl, rfl⟩) hQ (Nat.le_trans (by decide) hf) (Nat.le_trans (by decide) hl)) (fun x q => post_courts (n := 0) hI h3 ⟨_, rfl, rfl⟩ (by decide +kernel) q)
  · exact wp_mono (rxw_courts1 [.ref 162] h fr lo sl ⟨⟨rfl, List.mem_singleton_self _⟩, trivial⟩ (ov_3 (l := 1) (u := 1) hI.1 h3 (by omega) (by omega) (by omega) ⟨_, rfl, rfl⟩) hQ (Nat.le_trans (by decide) hf) (Nat.le_trans (by decide) hl)) (fun x q => post_courts (n := 1) hI h3 ⟨_, rfl, rfl⟩ (by decide +kernel) q)
  · exact wp_mono (rxw_courts2 [.ref 162] h fr lo sl ⟨⟨rfl, List.mem_singleton_self _⟩, trivial⟩ (ov_3 (l := 2) (u := 2) hI.1 h3 (by omega) (by omega) (by omega) ⟨_, rfl, rfl⟩) hQ (Nat.le_trans (by decide) hf) (Nat.le_trans (by decide) hl)) (fun x q => post_courts (n := 2) hI h3 ⟨_, rfl, rfl⟩ (by decide +kernel) q)
  · exact wp_mono (rxw_courts3 [.ref 162] h fr lo sl ⟨⟨rfl, List.mem_singleton_self _⟩, trivial⟩ (ov_3 (l := 3) (u := 3) hI.1 h3 (by omega) (by omega) (by omega) ⟨_, rfl, rfl⟩) hQ (Nat.le_trans (by decide) hf) (Nat.le_trans (by decide) hl)) (fun x q => post_courts (n := 3) hI h3 ⟨_, rfl, rfl⟩ (by decide +kernel) q)
  · exact wp_mono (rxw_courts4 [.ref 162] h fr lo sl ⟨⟨rfl, List.mem_singleton_self _⟩, trivial⟩ (ov_3 (l := 4) (u := 4) hI.1 h3 (by omega) (by omega) (by omega) ⟨_, rfl, rfl⟩) hQ (Nat.le_trans (by decide) hf) (Nat.le_trans (by decide) hl)) (fun x q => post_courts (n := 4) hI h3 ⟨_, rfl, rfl⟩ (by decide +kernel) q)
  · exact wp_mono (rxw_courts5 [.ref 162] h fr lo sl ⟨⟨rfl, List.mem_singleton_self _⟩, trivial⟩ (ov_3 (l := 5) (u := 5) hI.1 h3 (by omega) (by omega) (by omega) ⟨_, rfl, rfl⟩) hQ (Nat.le_trans (by decide) hf) (Nat.le_trans (by decide) hl)) (fun x q => post_courts (n := 5) hI h3 ⟨_, rfl, rfl⟩ (by decide +kernel) q)
  · exact wp_mono (rxw_courts6 [.ref 162] h fr lo sl ⟨⟨rfl, List.mem_singleton_self _⟩, trivial⟩ (ov_3 (l := 6) (u := 6) hI.1 h3 (by omega) (by omega) (by omega) ⟨_, rfl, rfl⟩) hQ (Nat.le_trans (by decide) hf) (Nat.le_trans (by decide) hl)) (fun x q => post_courts (n := 6) hI h3 ⟨_, rfl, rfl⟩ (by decide +kernel) q)
theorem post_gifts {c : Nat} {x : pm_Rs} (hI : mInv h) (h3 : mF h 3 (.int (nI c))) (hc : 0 < c) (hc6 : c ≤ 6) (q : (∃ a, a ∈ [some ((0, (-2147483648), 2147483647) : av)] ∧ ao_ok x.1 a) ∧ x.2.2 = (198, sl) ∧ (fm rxFg h x.2.1 ∧ rxQ1 x.2.1) ∧ ah_ok bB 198 [] x.2.1) : mPost anInt h sl x := by
  obtain ⟨a1, a2, ⟨a3, ⟨b1, b2, b3⟩⟩, a4⟩ := q
  obtain ⟨g, m4, l1⟩ := ty_nat a4 (g := 4) (u := 8) rfl (by decide)
  exact ⟨ao_I a1, a2, fmc_lt rfl a3, a4, b1, ⟨c, g, fm_mF a3 rfl h3, m4, hc6, l1, fun _ => hc⟩, b2, b3⟩
theorem post_giftsn {x : pm_Rs} {o : ah} (hI : mInv h) (h3 : mF h 3 (.int (nI 0))) (e : ∃ as, ah_get bB o 162 = .inr (11, as) ∧ as[4]? = some (0, ((0 : Nat) : Int), ((0 : Nat) : Int))) (hlo : ah_le bB o [] = true) (q : (∃ a, a ∈ [some ((0, (-2147483648), 2147483647) : av)] ∧ ao_ok x.1 a) ∧ x.2.2 = (198, sl) ∧ (fm rxFg h x.2.1 ∧ rxQ1 x.2.1) ∧ ah_ok bB 198 o x.2.1) : mPost anInt h sl x := by
  obtain ⟨a1, a2, ⟨a3, ⟨b1, b2, b3⟩⟩, a4⟩ := q
  obtain ⟨as, e1, e2⟩ := e
  obtain ⟨g, m4, l1, l2⟩ := ov_nat a4 e1 e2 (by decide)
  exact ⟨ao_I a1, a2, fmc_lt rfl a3, ov_out a4 hlo, b1, ⟨0, g, fm_mF a3 rfl h3, m4, by omega, by omega, fun z => by omega⟩, b2, b3⟩
theorem hm_gifts (hI : mInv h) (hf : 500 ≤ fr) (hl : 12000 ≤ lo) : pm_WP PT fr lo 192 (0, pm_l0 [.ref 162] 6, [], h, 198, sl) (mPost anInt h sl) := by
  obtain ⟨q1, ⟨c, g, h3, h4, hc, hg, hcg⟩, q3⟩ := id hI.2
  have hQ : rxQ1 h := ⟨q1, q3⟩
  by_cases z : c = 0
  · subst z
    obtain rfl : g = 0 := by omega
    exact wp_mono (rxw_giftsn [.ref 162] h fr lo sl ⟨⟨rfl, List.mem_singleton_self _⟩, trivial⟩ (ov_34 (l := 0) (u := 0) (p := 0) (q := 0) hI.1 h3 (by omega) (by omega) (by omega) h4 (by omega) (by omega) (by omega) ⟨_, rfl, rfl⟩) hQ (Nat.le_trans (by decide) hf) (Nat.le_trans (by decide) hl)) (fun x q => post_giftsn hI h3 ⟨_, rfl, rfl⟩ (by decide +kernel) q)
  have : g = 0 ∨ g = 1 ∨ g = 2 ∨ g = 3 ∨ g = 4 ∨ g = 5 ∨ g = 6 ∨ g = 7 ∨ g = 8 := by omega
  rcases this with rfl | rfl | rfl | rfl | rfl | rfl | rfl | rfl | rfl
  · exact wp_mono (rxw_gifts0 [.ref 162] h fr lo sl ⟨⟨rfl, List.mem_singleton_self _⟩, trivial⟩ (ov_34 (l := 1) (u := 6) (p := 0) (q := 0) hI.1 h3 (by omega) (by omega) (by omega) h4 (by omega) (by omega) (by omega) ⟨_, rfl, rfl⟩) hQ (Nat.le_trans (by decide) hf) (Nat.le_trans (by decide) hl)) (fun x q => post_gifts (c := c) hI h3 (by omega) hc q)
  · exact wp_mono (rxw_gifts1 [.ref 162] h fr lo sl ⟨⟨rfl, List.mem_singleton_self _⟩, trivial⟩ (ov_34 (l := 1) (u := 6) (p := 1) (q := 1) hI.1 h3 (by omega) (by omega) (by omega) h4 (by omega) (by omega) (by omega) ⟨_, rfl, rfl⟩) hQ (Nat.le_trans (by decide) hf) (Nat.le_trans (by decide) hl)) (fun x q => post_gifts (c := c) hI h3 (by omega) hc q)
  · exact wp_mono (rxw_gifts2 [.ref 162] h fr lo sl ⟨⟨rfl, List.mem_singleton_self _⟩, trivial⟩ (ov_34 (l := 1) (u := 6) (p := 2) (q := 2) hI.1 h3 (by omega) (by omega) (by omega) h4 (by omega) (by omega) (by omega) ⟨_, rfl, rfl⟩) hQ (Nat.le_trans (by decide) hf) (Nat.le_trans (by decide) hl)) (fun x q => post_gifts (c := c) hI h3 (by omega) hc q)
  · exact wp_mono (rxw_gifts3 [.ref 162] h fr lo sl ⟨⟨rfl, List.mem_singleton_self _⟩, trivial⟩ (ov_34 (l := 1) (u := 6) (p := 3) (q := 3) hI.1 h3 (by omega) (by omega) (by omega) h4 (by omega) (by omega) (by omega) ⟨_, rfl, rfl⟩) hQ (Nat.le_trans (by decide) hf) (Nat.le_trans (by decide) hl)) (fun x q => post_gifts (c := c) hI h3 (by omega) hc q)
  · exact wp_mono (rxw_gifts4 [.ref 162] h fr lo sl ⟨⟨rfl, List.mem_singleton_self _⟩, trivial⟩ (ov_34 (l := 1) (u := 6) (p := 4) (q := 4) hI.1 h3 (by omega) (by omega) (by omega) h4 (by omega) (by omega) (by omega) ⟨_, rfl, rfl⟩) hQ (Nat.le_trans (by decide) hf) (Nat.le_trans (by decide) hl)) (fun x q => post_gifts (c := c) hI h3 (by omega) hc q)
  · exact wp_mono (rxw_gifts5 [.ref 162] h fr lo sl ⟨⟨rfl, List.mem_singleton_self _⟩, trivial⟩ (ov_34 (l := 1) (u := 6) (p := 5) (q := 5) hI.1 h3 (by omega) (by omega) (by omega) h4 (by omega) (by omega) (by omega) ⟨_, rfl, rfl⟩) hQ (Nat.le_trans (by decide) hf) (Nat.le_trans (by decide) hl)) (fun x q => post_gifts (c := c) hI h3 (by omega) hc q)
  · exact wp_mono (rxw_gifts6 [.ref 162] h fr lo sl ⟨⟨rfl, List.mem_singleton_self _⟩, trivial⟩ (ov_34 (l := 1) (u := 6) (p := 6) (q := 6) hI.1 h3 (by omega) (by omega) (by omega) h4 (by omega) (by omega) (by omega) ⟨_, rfl, rfl⟩) hQ (Nat.le_trans (by decide) hf) (Nat.le_trans (by decide) hl)) (fun x q => post_gifts (c := c) hI h3 (by omega) hc q)
  · exact wp_mono (rxw_gifts7 [.ref 162] h fr lo sl ⟨⟨rfl, List.mem_singleton_self _⟩, trivial⟩ (ov_34 (l := 1) (u := 6) (p := 7) (q := 7) hI.1 h3 (by omega) (by omega) (by omega) h4 (by omega) (by omega) (by omega) ⟨_, rfl, rfl⟩) hQ (Nat.le_trans (by decide) hf) (Nat.le_trans (by decide) hl)) (fun x q => post_gifts (c := c) hI h3 (by omega) hc q)
  · exact wp_mono (rxw_gifts8 [.ref 162] h fr lo sl ⟨⟨rfl, List.mem_singleton_self _⟩, trivial⟩ (ov_34 (l := 1) (u := 6) (p := 8) (q := 8) hI.1 h3 (by omega) (by omega) (by omega) h4 (by omega) (by omega) (by omega) ⟨_, rfl, rfl⟩) hQ (Nat.le_trans (by decide) hf) (Nat.le_trans (by decide) hl)) (fun x q => post_gifts (c := c) hI h3 (by omega) hc q)
end MPW
