section MG48segx0
/-! long runs in pieces: a run stops at states that the next piece covers -/
section SEG
variable {T : pm_Tab} {B : Nat → ac} {sz sl : Nat}
def aL_le : List (Option av) → List (Option av) → Bool
  | [], [] => true
  | a :: r, b :: t => (match a, b with
    | _, none => true
    | some a, some b => av_le a b
    | none, some _ => false) && aL_le r t
  | _, _ => false
theorem aL_le_get : ∀ {A A' : List (Option av)}, aL_le A A' = true → A.length = A'.length ∧ ∀ (i : Nat) (b : av), A'[i]? = some (some b) → ∃ a, A[i]? = some (some a) ∧ av_le a b = true
  | [], [], _ => ⟨rfl, fun i b h => by simp at h⟩
  | a :: r, b :: t, e => by
    unfold aL_le at e
    rw [Bool.and_eq_true] at e
    obtain ⟨h1, h2⟩ := aL_le_get e.2
    refine ⟨by simp [h1], fun i c hc => ?_⟩
    match i, hc with
    | 0, hc =>
      have hc : some b = some (some c) := hc
      cases hc
      have e1 := e.1
      cases a with
      | none => cases e1
      | some a => exact ⟨a, rfl, e1⟩
    | i + 1, hc => exact h2 i c hc
  | [], _ :: _, e => by cases e
  | _ :: _, [], e => by cases e
def ast_le (B : Nat → ac) (s t : ast) : Bool := Nat.beq s.1 t.1 && (aL_le s.2.1 t.2.1 && (al_le s.2.2.1 t.2.2.1 && ah_le B s.2.2.2 t.2.2.2))
theorem ast_le_ok {s t : ast} {st : pm_St} (e : ast_le B s t = true) (h : ast_ok B sz sl s st) : ast_ok B sz sl t st := by
  unfold ast_le at e
  rw [Bool.and_eq_true, Bool.and_eq_true, Bool.and_eq_true] at e
  obtain ⟨e1, e2, e3, e4⟩ := e
  obtain ⟨h1, h2, h3, h4, h5⟩ := h
  obtain ⟨l1, l2⟩ := aL_le_get e2
  refine ⟨h1.trans (Nat.eq_of_beq_eq_true e1), ⟨h2.1.trans l1, fun i b hb => ?_⟩, al_le_ok e3 h3, ah_le_ok e4 h4, h5⟩
  obtain ⟨a, ha, hle⟩ := l2 i b hb
  obtain ⟨v, hv, hok⟩ := h2.2 i a ha
  exact ⟨v, hv, av_le_ok hle hok⟩
/-- runs that stop at the states of Z -/
def sg_run (Z : List ast) (K : kn) (T : pm_Tab) (B : Nat → ac) (sz : Nat) (F : fr_F) (J : Nat → ast → ast → Bool) (jo : Nat → ar → ar → Bool) (P : Nat → Nat → List sp) : Nat → Nat → Nat → Nat → List ast → List ar → Option (List ar)
  | 0, _, _, _, _, _ => none
  | n + 1, fr, lo, k, W, R => match W with
    | [] => some R
    | s :: W => cond (Z.any (fun z => ast_le B s z)) (sg_run Z K T B sz F J jo P n fr lo k W R) (match cx_each (cx_one T B sz F (fun fr lo t as o => match K t as o with
        | some (Rc, Fr, Lo) => if Fr ≤ fr ∧ Lo ≤ lo then some Rc else none
        | none => cx_run K T B sz F J jo P n fr lo t [(0, aa_l0 as (pm_max T t), [], o)] []) fr lo k) (sp_all B sz (P k s.1) [s]) with
      | some (A, ss) => sg_run Z K T B sz F J jo P n fr lo k (cx_all B (J k) ss W) (cx_outs B (jo k) A R)
      | none => none)
theorem sg_run_ok {Z : List ast} {F F0 : fr_F} {PP : pm_H → Prop} (hF0 : ∀ h h', fm F0 h h' → fm F h h') (hPP : pp_ok F0 PP) {K : kn} (hK : kn_ok K T B sz F PP) {J : Nat → ast → ast → Bool} {jo : Nat → ar → ar → Bool} {P : Nat → Nat → List sp} : ∀ (n fr lo k : Nat) (W : List ast) (R R' : List ar), sg_run Z K T B sz F0 J jo P n fr lo k W R = some R' → (∀ x, (∃ r, r ∈ R ∧ ar_ok B sz sl r x) → ∃ r, r ∈ R' ∧ ar_ok B sz sl r x) ∧ ∀ st, (∃ s, s ∈ W ∧ ast_ok B sz sl s st) → PP st.2.2.2.1 → ∀ Q : pm_Rs → Prop, (∀ x, (∃ r, r ∈ R' ∧ ar_ok B sz sl r x) → fm F st.2.2.2.1 x.2.1 → PP x.2.1 → Q x) → (∀ st', (∃ z, z ∈ Z ∧ ast_ok B sz sl z st') → fm F st.2.2.2.1 st'.2.2.2.1 → PP st'.2.2.2.1 → pm_WP T fr lo k st' Q) → pm_WP T fr lo k st Q
  | 0, _, _, _, _, _, _, e => by cases e
  | n + 1, fr, lo, k, W, R, R', e => by
    unfold sg_run at e
    match W, e with
    | [], e =>
      cases (Option.some.inj e : R = R')
      exact ⟨fun x h => h, fun st h => by obtain ⟨s, hs, _⟩ := h; cases hs⟩
    | s :: W, e =>
      dsimp only at e
      cases hz : Z.any (fun z => ast_le B s z) with
      | true =>
        rw [hz] at e
        dsimp only [cond] at e
        obtain ⟨i1, i2⟩ := sg_run_ok hF0 hPP hK n fr lo k _ _ R' e
        refine ⟨i1, fun st h hp Q hQ hS => ?_⟩
        obtain ⟨s', hs', hok⟩ := h
        rcases List.mem_cons.mp hs' with rfl | hs'
        · obtain ⟨z, hzm, hzl⟩ := List.any_eq_true.mp hz
          exact hS st ⟨z, hzm, ast_le_ok hzl hok⟩ (fm_rf _) hp
        · exact i2 st ⟨s', hs', hok⟩ hp Q hQ hS
      | false =>
        rw [hz] at e
        dsimp only [cond] at e
        split at e
        · rename_i A ss es
          obtain ⟨i1, i2⟩ := sg_run_ok hF0 hPP hK n fr lo k _ _ R' e
          refine ⟨fun x h => i1 x (cx_outs_ok (Or.inr h)), fun st h hp Q hQ hS => ?_⟩
          obtain ⟨s', hs', hok⟩ := h
          rcases List.mem_cons.mp hs' with rfl | hs'
          · obtain ⟨t, ht, htok⟩ := sp_all_ok (P k s'.1) [s'] ⟨s', List.mem_singleton_self _, hok⟩
            rcases cx_each_mem es t ht with ⟨a, h1, h2⟩ | ⟨st2, h1, h2⟩
            · unfold cx_one at h1
              split at h1
              · rename_i r ee
                cases h1
                obtain ⟨q, e1, e2⟩ := aE_end_ok ee htok
                have hh : q.2.1 = st.2.2.2.1 := by
                  unfold pm_end at e1
                  split at e1
                  · cases e1
                  · split at e1
                    · split at e1
                      · cases e1; rfl
                      · cases e1
                    · cases e1
                refine wp_end e1 (hQ q (i1 q (cx_outs_ok (Or.inl ⟨_, h2, e2⟩))) ?_ ?_)
                · rw [hh]; exact fm_rf _
                · rw [hh]; exact hp
              · split at h1
                · cases h1
                · cases h1
            · unfold cx_one at h1
              split at h1
              · cases h1
              · split at h1
                · rename_i ss2 ee
                  cases h1
                  refine cx_step_ok hF0 hPP ?_ ee htok hp (fun st' hst' hf' hp' => ?_)
                  · intro fr lo t as o Rc ego As h hAs hh hph
                    split at ego
                    · rename_i Rc' Fr Lo ek
                      split at ego
                      · rename_i hfl
                        cases ego
                        exact hK t as o Rc Fr Lo ek As h fr lo sl hAs hh hph hfl.1 hfl.2
                      · cases ego
                    · exact (cx_run_ok hF0 hPP hK n fr lo t _ [] Rc ego).2 _ ⟨_, List.mem_singleton_self _, rfl, al_l0 hAs _, trivial, hh, rfl, rfl⟩ hph
                  · obtain ⟨u, hu, huok⟩ := hst'
                    exact i2 st' (cx_all_ok (Or.inl ⟨u, h2 u hu, huok⟩)) hp' Q (fun x hx hfx => hQ x hx (fm_tr hf' hfx)) (fun st2 hz2 hf2 => hS st2 hz2 (fm_tr hf' hf2))
                · cases h1
          · exact i2 st (cx_all_ok (Or.inr ⟨s', hs', hok⟩)) hp Q hQ hS
        · cases e
/-- from the states of W the method ends as the contract says -/
def seg_ok (T : pm_Tab) (B : Nat → ac) (sz : Nat) (F : fr_F) (PP : pm_H → Prop) (c : con) (W : List ast) : Prop := ∀ (st : pm_St) (fr lo sl : Nat), (∃ s, s ∈ W ∧ ast_ok B sz sl s st) → PP st.2.2.2.1 → c.2.2.2.2.2.1 ≤ fr → c.2.2.2.2.2.2.1 ≤ lo → pm_WP T fr lo c.1 st (fun x => (∃ a, a ∈ c.2.2.2.1 ∧ ao_ok x.1 a) ∧ x.2.2 = (sz, sl) ∧ (fm F st.2.2.2.1 x.2.1 ∧ PP x.2.1) ∧ ah_ok B sz c.2.2.2.2.1 x.2.1)
def seg_chk (Z : List ast) (K : kn) (T : pm_Tab) (B : Nat → ac) (sz : Nat) (F : fr_F) (J : Nat → ast → ast → Bool) (jo : Nat → ar → ar → Bool) (P : Nat → Nat → List sp) (n : Nat) (c : con) (W : List ast) : Bool := match sg_run Z K T B sz F J jo P n c.2.2.2.2.2.1 c.2.2.2.2.2.2.1 c.1 W [] with
  | some R => R.all (fun r => c.2.2.2.1.any (fun a => ao_le r.1 a) && ah_le B r.2 c.2.2.2.2.1)
  | none => false
theorem seg_nil {F : fr_F} {PP : pm_H → Prop} {c : con} : seg_ok T B sz F PP c [] := fun st fr lo sl h => by obtain ⟨s, hs, _⟩ := h; cases hs
theorem seg_chk_ok {F F0 : fr_F} {PP : pm_H → Prop} (hF0 : ∀ h h', fm F0 h h' → fm F h h') (hPP : pp_ok F0 PP) {K : kn} (hK : kn_ok K T B sz F PP) {J : Nat → ast → ast → Bool} {jo : Nat → ar → ar → Bool} {P : Nat → Nat → List sp} {n : Nat} {c : con} {Z W : List ast} (hZ : seg_ok T B sz F PP c Z) (e : seg_chk Z K T B sz F0 J jo P n c W = true) : seg_ok T B sz F PP c W := by
  intro st fr lo sl hst hp hF hL
  unfold seg_chk at e
  split at e
  · rename_i R eR
    refine wp_room hF hL ?_
    refine (sg_run_ok (sl := sl) hF0 hPP hK n _ _ c.1 W [] R eR).2 st hst hp _ (fun x hx hfx hpx => ?_) (fun st' hz hf' hp' => ?_)
    · obtain ⟨r, hr, q1, q2, q3, q4⟩ := hx
      have er := List.all_eq_true.mp e r hr
      rw [Bool.and_eq_true] at er
      obtain ⟨a, ha, hle⟩ := List.any_eq_true.mp er.1
      exact ⟨⟨a, ha, ao_le_ok hle q1⟩, Prod.ext q3 q4, ⟨hfx, hpx⟩, ah_le_ok er.2 q2⟩
    · exact wp_mono (hZ st' _ _ sl hz hp' (Nat.le_refl _) (Nat.le_refl _)) (fun x hx => ⟨hx.1, hx.2.1, ⟨fm_tr hf' hx.2.2.1.1, hx.2.2.1.2⟩, hx.2.2.2⟩)
  · cases e
/-- the contract, out of the pieces -/
theorem seg_con {F : fr_F} {PP : pm_H → Prop} {c : con} (hk : c.2.2.2.2.2.2.2 = false) {ps : List sp} (h : seg_ok T B sz F PP c (sp_all B sz ps [(0, aa_l0 c.2.1 (pm_max T c.1), [], c.2.2.1)])) : con_ok T B sz F PP c := by
  intro As h' fr lo sl hAs hh hp hF hL
  obtain ⟨t, ht, htok⟩ := sp_all_ok (B := B) (sz := sz) (sl := sl) (st := (0, pm_l0 As (pm_max T c.1), [], h', sz, sl)) ps [(0, aa_l0 c.2.1 (pm_max T c.1), [], c.2.2.1)] ⟨_, List.mem_singleton_self _, rfl, al_l0 hAs _, trivial, hh, rfl, rfl⟩
  refine wp_mono (h _ fr lo sl ⟨t, ht, htok⟩ hp hF hL) (fun x hx => ⟨hx.1, hx.2.1, hx.2.2.1, ?_⟩)
  rw [hk]
  exact hx.2.2.2
theorem seg_split {F : fr_F} {PP : pm_H → Prop} {c : con} {l : List ast} (n : Nat) (h1 : seg_ok T B sz F PP c (l.take n)) (h2 : seg_ok T B sz F PP c (l.drop n)) : seg_ok T B sz F PP c l := by
  intro st fr lo sl hst hp hF hL
  obtain ⟨s, hs, hok⟩ := hst
  rw [← List.take_append_drop n l] at hs
  rcases List.mem_append.mp hs with hs | hs
  · exact h1 st fr lo sl ⟨s, hs, hok⟩ hp hF hL
  · exact h2 st fr lo sl ⟨s, hs, hok⟩ hp hF hL
theorem seg_sub {F : fr_F} {PP : pm_H → Prop} {c : con} {l l' : List ast} (h : seg_ok T B sz F PP c l') (hs : l.all (fun s => l'.any (fun t => ast_le B s t)) = true) : seg_ok T B sz F PP c l := by
  intro st fr lo sl hst hp hF hL
  obtain ⟨s, hs1, hok⟩ := hst
  obtain ⟨t, ht, hle⟩ := List.any_eq_true.mp (List.all_eq_true.mp hs s hs1)
  exact h st fr lo sl ⟨t, ht, ast_le_ok hle hok⟩ hp hF hL
end SEG
end MG48segx0
section MG48segx1
/-! long runs in pieces, quicker -/
section SGF
variable {T : pm_Tab} {B : Nat → ac} {sz : Nat} {F : fr_F}
noncomputable def fq_aLle (as bs : List (Option av)) : Bool := List.rec (motive := fun _ => List (Option av) → Bool) (fun bs => List.rec (motive := fun _ => Bool) true (fun _ _ _ => false) bs) (fun a _ ih bs => List.rec (motive := fun _ => Bool) false (fun b t _ => Bool.rec (motive := fun _ => Bool) false (ih t) (Option.rec (motive := fun _ => Bool) true (fun b => Option.rec (motive := fun _ => Bool) false (fun a => fq_avle a b) a) b)) bs) as bs
theorem fq_aLle_eq : ∀ as bs : List (Option av), fq_aLle as bs = aL_le as bs
  | [], [] => rfl
  | [], _ :: _ => rfl
  | _ :: _, [] => rfl
  | a :: r, b :: t => by
    have h := fq_aLle_eq r t
    unfold aL_le
    rw [← h]
    show Bool.rec (motive := fun _ => Bool) false (fq_aLle r t) (Option.rec (motive := fun _ => Bool) true (fun b => Option.rec (motive := fun _ => Bool) false (fun a => fq_avle a b) a) b) = _
    cases b with
    | none => cases a <;> rfl
    | some b =>
      cases a with
      | none => rfl
      | some a =>
        show Bool.rec (motive := fun _ => Bool) false (fq_aLle r t) (fq_avle a b) = (av_le a b && fq_aLle r t)
        rw [fq_avle_eq]
        cases av_le a b <;> rfl
noncomputable def fq_astle (B : Nat → ac) (s t : ast) : Bool := fq_and (Nat.beq s.1 t.1) (fq_and (fq_aLle s.2.1 t.2.1) (fq_and (fq_alle s.2.2.1 t.2.2.1) (fq_ahle B s.2.2.2 t.2.2.2)))
theorem fq_astle_eq (s t : ast) : fq_astle B s t = ast_le B s t := by
  unfold fq_astle ast_le
  rw [fq_and_eq, fq_and_eq, fq_and_eq, fq_aLle_eq, fq_alle_eq, fq_ahle_eq]
noncomputable def fq_sg (Z : List ast) (K : kn) (T : pm_Tab) (B : Nat → ac) (sz : Nat) (F : fr_F) (J : Nat → ast → ast → Bool) (jo : Nat → ar → ar → Bool) (P : Nat → Nat → List sp) (n : Nat) : Nat → Nat → Nat → List ast → List ar → Option (List ar) := Nat.rec (motive := fun _ => Nat → Nat → Nat → List ast → List ar → Option (List ar)) (fun _ _ _ _ _ => none) (fun n ih fr lo k W R => List.rec (motive := fun _ => Option (List ar)) (some R) (fun s W _ => Bool.rec (motive := fun _ => Option (List ar)) (Option.rec (motive := fun _ => Option (List ar)) none (fun p => fq_k B J jo ih fr lo k W R p) (fq_each (fq_one T B sz F (fq_go K T (fq_run K T B sz F J jo P n)) fr lo k) (fq_cut B sz s (fq_n s.1 (P k))))) (fq_t ih fr lo k W R) (fq_any (fun z => fq_astle B s z) Z)) W) n
theorem fq_sg_eq (Z : List ast) (K : kn) (T : pm_Tab) (B : Nat → ac) (sz : Nat) (F : fr_F) (J : Nat → ast → ast → Bool) (jo : Nat → ar → ar → Bool) (P : Nat → Nat → List sp) : ∀ n : Nat, fq_sg Z K T B sz F J jo P n = sg_run Z K T B sz F J jo P n
  | 0 => by
    funext fr lo k W R
    unfold sg_run
    rfl
  | n + 1 => by
    have h := fq_sg_eq Z K T B sz F J jo P n
    funext fr lo k W R
    unfold sg_run
    show List.rec (motive := fun _ => Option (List ar)) (some R) (fun s W _ => Bool.rec (motive := fun _ => Option (List ar)) (Option.rec (motive := fun _ => Option (List ar)) none (fun p => fq_k B J jo (fq_sg Z K T B sz F J jo P n) fr lo k W R p) (fq_each (fq_one T B sz F (fq_go K T (fq_run K T B sz F J jo P n)) fr lo k) (fq_cut B sz s (fq_n s.1 (P k))))) (fq_t (fq_sg Z K T B sz F J jo P n) fr lo k W R) (fq_any (fun z => fq_astle B s z) Z)) W = _
    cases W with
    | nil => rfl
    | cons s W =>
      dsimp only
      have hf : fq_one T B sz F (fq_go K T (fq_run K T B sz F J jo P n)) fr lo k = cx_one T B sz F (fun fr lo t as o => match K t as o with
          | some (Rc, Fr, Lo) => if Fr ≤ fr ∧ Lo ≤ lo then some Rc else none
          | none => cx_run K T B sz F J jo P n fr lo t [(0, aa_l0 as (pm_max T t), [], o)] []) fr lo k := by
        funext s
        rw [fq_one_eq, fq_go_eq (fq_run_eq K T B sz F J jo P n)]
        rfl
      have hz : (fun z => fq_astle B s z) = fun z => ast_le B s z := funext fun z => fq_astle_eq s z
      rw [hf, fq_each_eq, fq_cut_eq, fq_n_eq, h, fq_any_eq, hz]
      cases Z.any (fun z => ast_le B s z) with
      | true => rfl
      | false =>
        dsimp only [cond]
        cases cx_each (cx_one T B sz F (fun fr lo t as o => match K t as o with
            | some (Rc, Fr, Lo) => if Fr ≤ fr ∧ Lo ≤ lo then some Rc else none
            | none => cx_run K T B sz F J jo P n fr lo t [(0, aa_l0 as (pm_max T t), [], o)] []) fr lo k) (sp_all B sz (P k s.1) [s]) with
        | none => rfl
        | some p =>
          obtain ⟨A, ss⟩ := p
          exact fq_k_eq J jo _ fr lo k W R A ss
variable {K K' : kn} {J : Nat → ast → ast → Bool} {jo : Nat → ar → ar → Bool} {P : Nat → Nat → List sp} {n : Nat} {c : con} {l : List con} {Z W : List ast}
noncomputable def fq_fin2 (B : Nat → ac) (c : con) (R : Option (List ar)) : Bool := Option.rec (motive := fun _ => Bool) false (fun R => fq_all (fun r => fq_and (c.2.2.2.1.any (fun a => ao_le r.1 a)) (fq_ahle B r.2 c.2.2.2.2.1)) R) R
theorem fq_fin2_eq (c : con) (R : Option (List ar)) : fq_fin2 B c R = (match R with
    | some R => R.all (fun r => c.2.2.2.1.any (fun a => ao_le r.1 a) && ah_le B r.2 c.2.2.2.2.1)
    | none => false) := by
  cases R with
  | none => rfl
  | some R =>
    show fq_all (fun r => fq_and (c.2.2.2.1.any (fun a => ao_le r.1 a)) (fq_ahle B r.2 c.2.2.2.2.1)) R = _
    rw [fq_all_eq]
    have h : (fun r : ar => fq_and (c.2.2.2.1.any (fun a => ao_le r.1 a)) (fq_ahle B r.2 c.2.2.2.2.1)) = fun r => c.2.2.2.1.any (fun a => ao_le r.1 a) && ah_le B r.2 c.2.2.2.2.1 := funext fun r => by
      rw [fq_and_eq, fq_ahle_eq]
    rw [h]
noncomputable def fq_seg (Z : List ast) (K : kn) (T : pm_Tab) (B : Nat → ac) (sz : Nat) (F : fr_F) (J : Nat → ast → ast → Bool) (jo : Nat → ar → ar → Bool) (P : Nat → Nat → List sp) (n : Nat) (c : con) (W : List ast) : Bool := fq_fin2 B c (fq_sg Z K T B sz F J jo P n c.2.2.2.2.2.1 c.2.2.2.2.2.2.1 c.1 W [])
variable {J' : Nat → ast → ast → Bool} {jo' : Nat → ar → ar → Bool}
theorem fq_seg_eq (hK : K = K') (hJ : J = J') (ho : jo = jo') (h : fq_seg Z K T B sz F J jo P n c W = true) : seg_chk Z K' T B sz F J' jo' P n c W = true := by
  subst hK
  subst hJ
  subst ho
  unfold fq_seg at h
  rw [fq_fin2_eq, fq_sg_eq] at h
  exact h
theorem fq_seg1 (hJ : J = J') (ho : jo = jo') (h : fq_seg Z (fq_kl B F l) T B sz F J jo P n c W = true) : seg_chk Z (kl B F l) T B sz F J' jo' P n c W = true := fq_seg_eq (fq_kl_eq l) hJ ho h
theorem fq_seg2 {F' : fr_F} (hJ : J = J') (ho : jo = jo') (h : fq_seg Z (fq_or (fq_kl B F' l) K) T B sz F J jo P n c W = true) : seg_chk Z (kn_or (kl B F' l) K) T B sz F J' jo' P n c W = true := fq_seg_eq (fq_or_eq (fq_kl_eq l)) hJ ho h
theorem fq_seg3 (hJ : J = J') (ho : jo = jo') (h : fq_seg Z K T B sz F J jo P n c W = true) : seg_chk Z K T B sz F J' jo' P n c W = true := fq_seg_eq rfl hJ ho h
end SGF
end MG48segx1
