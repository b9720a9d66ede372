/-! whole methods on the abstract machine: a list of states that wait, the lowest place first; states of one place are joined where J says so -/
section ABR
variable {T : pm_Tab} {B : Nat → ac} {sz sl : Nat}
abbrev ar : Type := Option av × ah
def aE_end (T : pm_Tab) (k : Nat) (s : ast) : Option ar := match pm_ins T k s.1 with
  | none => none
  | some (i, len) => if pm_lenOk i len = true then (match i, s.2.2.1 with
    | .return_, [] => (match pm_ret T k with
      | none => some (none, s.2.2.2)
      | _ => none)
    | .ireturn, [a] => if a.1 = 0 then (match pm_ret T k with
      | some .int => some (some a, s.2.2.2)
      | some .boolean => if 0 ≤ a.2.1 ∧ a.2.2 ≤ 1 then some (some a, s.2.2.2) else none
      | _ => none) else none
    | .lreturn, [a] => if a.1 = 1 then (match pm_ret T k with
      | some .long => some (some a, s.2.2.2)
      | _ => none) else none
    | _, _ => none) else none
def ao_ok (v : Option Value) (a : Option av) : Prop := match v, a with
  | none, none => True
  | some v, some a => av_ok v a
  | _, _ => False
def ar_ok (B : Nat → ac) (sz sl : Nat) (r : ar) (q : pm_Rs) : Prop := ao_ok q.1 r.1 ∧ ah_ok B sz r.2 q.2.1 ∧ q.2.2.1 = sz ∧ q.2.2.2 = sl
theorem as_nil {S : List Value} (q : as_ok S []) : S = [] := by
  cases S with
  | nil => rfl
  | cons v r => exact q.elim
theorem aE_end_ok {k : Nat} {s : ast} {r : ar} {st : pm_St} (e : aE_end T k s = some r) (hs : ast_ok B sz sl s st) : ∃ q, pm_end T k st = some q ∧ ar_ok B sz sl r q := by
  obtain ⟨h1, hL, hS, hH, h5, h6⟩ := hs
  obtain ⟨pc, L, S, h, sz', sl'⟩ := st
  dsimp only at h1 hL hS hH h5 h6
  subst h1 h5 h6
  unfold aE_end at e
  unfold pm_end
  dsimp only
  cases ei : pm_ins T k s.1 with
  | none => rw [ei] at e; cases e
  | some il =>
    obtain ⟨i, len⟩ := il
    rw [ei] at e
    dsimp only at e ⊢
    by_cases hl : pm_lenOk i len = true
    · rw [if_pos hl] at e ⊢
      split at e
      · rename_i hq
        rw [hq] at hS
        cases as_nil hS
        dsimp only [pm_rets]
        cases er : pm_ret T k with
        | some _ => rw [er] at e; cases e
        | none =>
          rw [er] at e
          cases e
          exact ⟨_, rfl, trivial, hH, rfl, rfl⟩
      · rename_i a hq
        rw [hq] at hS
        obtain ⟨v, S2, rfl, hv, hS2⟩ := as_cons hS
        cases as_nil hS2
        split at e
        · rename_i h0
          obtain ⟨x, rfl, x1, x2⟩ := av_int h0 hv
          dsimp only [pm_rets]
          split at e
          · rename_i er
            rw [er]
            cases e
            exact ⟨_, rfl, hv, hH, rfl, rfl⟩
          · rename_i er
            rw [er]
            dsimp only
            split at e
            · rename_i hb
              cases e
              have n1 : (1 : Int32).toInt = 1 := by decide
              have hx : x = 0 ∨ x = 1 := by
                by_cases q : x.toInt = 0
                · exact Or.inl (Int32.toInt_inj.1 (by rw [q, Int32.toInt_zero]))
                · exact Or.inr (Int32.toInt_inj.1 (by rw [n1]; omega))
              rw [if_pos hx]
              exact ⟨_, rfl, hv, hH, rfl, rfl⟩
            · cases e
          · cases e
        · cases e
      · rename_i a hq
        rw [hq] at hS
        obtain ⟨v, S2, rfl, hv, hS2⟩ := as_cons hS
        cases as_nil hS2
        split at e
        · rename_i h0
          obtain ⟨x, rfl, x1, x2⟩ := av_long h0 hv
          dsimp only [pm_rets]
          split at e
          · rename_i er
            rw [er]
            cases e
            exact ⟨_, rfl, hv, hH, rfl, rfl⟩
          · cases e
        · cases e
      · cases e
    · rw [if_neg hl] at e; cases e
/-! calls -/
def aa_args : List av → List (Option av)
  | [] => []
  | a :: r => cond (Nat.beq a.1 1) (some a :: none :: aa_args r) (some a :: aa_args r)
def aa_l0 (as : List av) (n : Nat) : List (Option av) := aa_args as ++ List.replicate (n - (aa_args as).length) none
theorem as_len : ∀ {S : List Value} {SA : List av}, as_ok S SA → S.length = SA.length
  | [], [], _ => rfl
  | _ :: _, _ :: _, q => by simp [as_len q.2]
  | [], _ :: _, q => q.elim
  | _ :: _, [], q => q.elim
theorem as_take : ∀ (n : Nat) {S : List Value} {SA : List av}, as_ok S SA → as_ok (S.take n) (SA.take n)
  | 0, _, _, _ => by simp [as_ok]
  | n + 1, [], [], _ => by simp [as_ok]
  | n + 1, _ :: _, _ :: _, q => ⟨q.1, as_take n q.2⟩
  | n + 1, [], _ :: _, q => q.elim
  | n + 1, _ :: _, [], q => q.elim
theorem as_drop : ∀ (n : Nat) {S : List Value} {SA : List av}, as_ok S SA → as_ok (S.drop n) (SA.drop n)
  | 0, _, _, q => q
  | n + 1, [], [], _ => by simp [as_ok]
  | n + 1, _ :: _, _ :: _, q => as_drop n q.2
  | n + 1, [], _ :: _, q => q.elim
  | n + 1, _ :: _, [], q => q.elim
theorem as_app : ∀ {S : List Value} {SA : List av} {S' : List Value} {SA' : List av}, as_ok S SA → as_ok S' SA' → as_ok (S ++ S') (SA ++ SA')
  | [], [], _, _, _, q => q
  | _ :: _, _ :: _, _, _, p, q => ⟨p.1, as_app p.2 q⟩
  | [], _ :: _, _, _, p, _ => p.elim
  | _ :: _, [], _, _, p, _ => p.elim
theorem as_rev : ∀ {S : List Value} {SA : List av}, as_ok S SA → as_ok S.reverse SA.reverse
  | [], [], _ => by simp [as_ok]
  | v :: r, a :: t, q => by
    rw [List.reverse_cons, List.reverse_cons]
    exact as_app (as_rev q.2) ⟨q.1, trivial⟩
  | [], _ :: _, q => q.elim
  | _ :: _, [], q => q.elim
/-- place by place -/
def al2_ok : pm_L → List (Option av) → Prop
  | [], [] => True
  | v :: r, a :: t => (∀ x, a = some x → ∃ w, v = some w ∧ av_ok w x) ∧ al2_ok r t
  | _, _ => False
theorem al2_al : ∀ {L : pm_L} {A : List (Option av)}, al2_ok L A → al_ok L A
  | [], [], _ => ⟨rfl, fun i a q => by simp at q⟩
  | v :: r, a :: t, q => by
    obtain ⟨h1, h2⟩ := al2_al q.2
    refine ⟨by simp [h1], fun i x hx => ?_⟩
    match i, hx with
    | 0, hx =>
      have hx : some a = some (some x) := hx
      obtain ⟨w, rfl, hw⟩ := q.1 x (Option.some.inj hx)
      exact ⟨w, rfl, hw⟩
    | i + 1, hx => exact h2 i x hx
  | [], _ :: _, q => q.elim
  | _ :: _, [], q => q.elim
theorem al2_args : ∀ {S : List Value} {SA : List av}, as_ok S SA → al2_ok (pm_args S) (aa_args SA)
  | [], [], _ => trivial
  | v :: r, a :: t, q => by
    have h1 := al2_args q.2
    have h2 := av_cat q.1
    unfold pm_args aa_args
    by_cases e : a.1 = 1
    · rw [if_pos e] at h2
      rw [if_pos h2, e]
      exact ⟨fun x hx => ⟨v, rfl, (by cases hx; exact q.1)⟩, (fun x hx => (by cases hx)), h1⟩
    · rw [if_neg e] at h2
      rw [if_neg (by omega)]
      have hb : Nat.beq a.1 1 = false := by
        cases hb : Nat.beq a.1 1 with
        | false => rfl
        | true => exact absurd (Nat.eq_of_beq_eq_true hb) e
      rw [hb]
      exact ⟨fun x hx => ⟨v, rfl, (by cases hx; exact q.1)⟩, h1⟩
  | [], _ :: _, q => q.elim
  | _ :: _, [], q => q.elim
theorem al2_len : ∀ {L : pm_L} {A : List (Option av)}, al2_ok L A → L.length = A.length
  | [], [], _ => rfl
  | _ :: _, _ :: _, q => by simp [al2_len q.2]
  | [], _ :: _, q => q.elim
  | _ :: _, [], q => q.elim
theorem al2_app : ∀ {L : pm_L} {A : List (Option av)} {L' : pm_L} {A' : List (Option av)}, al2_ok L A → al2_ok L' A' → al2_ok (L ++ L') (A ++ A')
  | [], [], _, _, _, q => q
  | _ :: _, _ :: _, _, _, p, q => ⟨p.1, al2_app p.2 q⟩
  | [], _ :: _, _, _, p, _ => p.elim
  | _ :: _, [], _, _, p, _ => p.elim
theorem al2_rep : ∀ n : Nat, al2_ok (List.replicate n none) (List.replicate n none)
  | 0 => trivial
  | n + 1 => ⟨fun x hx => (by cases hx), al2_rep n⟩
theorem al_l0 {S : List Value} {SA : List av} (q : as_ok S SA) (n : Nat) : al_ok (pm_l0 S n) (aa_l0 SA n) := by
  have h1 := al2_args q
  unfold pm_l0 aa_l0
  rw [al2_len h1]
  exact al2_al (al2_app h1 (al2_rep _))
def aa_rcv (T : pm_Tab) (B : Nat → ac) (sz w t : Nat) (as : List av) (o : ah) : Bool := if w = 2 ∨ w = 3 then true else (match as with
  | a :: _ => decide (a.1 = 2) && (av_ids a).all (fun i => decide (i < sz) && (match ah_get B o i with
    | .inr (ci, _) => ci == pm_ci T t && Nat.blt ci 1000
    | _ => false))
  | _ => false)
theorem aa_rcv_ok {w t : Nat} {As : List Value} {as : List av} {o : ah} {h : pm_H} (e : aa_rcv T B sz w t as o = true) (q : as_ok As as) (hH : ah_ok B sz o h) : pm_rcv T w t As h sz = true := by
  unfold aa_rcv at e
  unfold pm_rcv
  by_cases hw : w = 2 ∨ w = 3
  · rw [if_pos hw]
  · rw [if_neg hw] at e ⊢
    match as, q, e with
    | [], _, e => cases e
    | a :: r, q, e =>
      obtain ⟨v, S2, rfl, hv, hS2⟩ := as_cons q
      dsimp only at e
      rw [Bool.and_eq_true] at e
      obtain ⟨p, rfl, hp⟩ := av_ref (of_decide_eq_true e.1) hv
      have h5 := List.all_eq_true.mp e.2 p hp
      rw [Bool.and_eq_true] at h5
      have hi := of_decide_eq_true h5.1
      have h6 := h5.2
      have hc := hH p hi
      dsimp only [pm_obj]
      rw [if_pos hi]
      split at h6
      · rename_i ci as' eg
        rw [eg] at hc
        rw [Bool.and_eq_true] at h6
        obtain ⟨fs, ef, -, -⟩ := aE_obj hc (by have := Nat.le_of_ble_eq_true h6.2; omega)
        rw [ef]
        exact h6.1
      · cases h6
/-- the callee, its arguments, what stays -/
def aa_cd (T : pm_Tab) (B : Nat → ac) (sz k : Nat) (s : ast) : Option (Nat × List av × List av) := match pm_ins T k s.1 with
  | none => none
  | some (i, len) => if pm_lenOk i len = true then (match pm_callee T k i with
    | some (w, t) => if pm_na T t ≤ s.2.2.1.length ∧ aa_rcv T B sz w t (s.2.2.1.take (pm_na T t)).reverse s.2.2.2 = true ∧ aa_sum (s.2.2.1.drop (pm_na T t)) ≤ 8 ∧ (aa_args (s.2.2.1.take (pm_na T t)).reverse).length ≤ pm_max T t then some (t, (s.2.2.1.take (pm_na T t)).reverse, s.2.2.1.drop (pm_na T t)) else none
    | none => none) else none
theorem aa_cd_ok {k t : Nat} {as rest : List av} {s : ast} {st : pm_St} (e : aa_cd T B sz k s = some (t, as, rest)) (hs : ast_ok B sz sl s st) : ∃ As Rest, pm_cd T k st = some (t, As, Rest) ∧ as_ok As as ∧ as_ok Rest rest := by
  obtain ⟨h1, hL, hS, hH, h5, h6⟩ := hs
  obtain ⟨pc, L, S, h, sz', sl'⟩ := st
  dsimp only at h1 hL hS hH h5 h6
  subst h1 h5 h6
  unfold aa_cd at e
  unfold pm_cd
  dsimp only
  cases ei : pm_ins T k s.1 with
  | none => rw [ei] at e; cases e
  | some il =>
    obtain ⟨i, len⟩ := il
    rw [ei] at e
    dsimp only at e ⊢
    by_cases hl : pm_lenOk i len = true
    · rw [if_pos hl] at e ⊢
      cases ec : pm_callee T k i with
      | none => rw [ec] at e; cases e
      | some wt =>
        obtain ⟨w, t'⟩ := wt
        rw [ec] at e
        dsimp only at e ⊢
        split at e
        · rename_i q
          cases e
          have a1 := as_rev (as_take (pm_na T t) hS)
          have a2 := as_drop (pm_na T t) hS
          refine ⟨_, _, if_pos ⟨by rw [as_len hS]; exact q.1, aa_rcv_ok q.2.1 a1 hH, by rw [as_sum a2]; exact q.2.2.1, by rw [al2_len (al2_args a1)]; exact q.2.2.2⟩, a1, a2⟩
        · cases e
    · rw [if_neg hl] at e; cases e
end ABR
