/-! frames: cells that a run leaves alone, and fields that it leaves alone in every object -/
section FRM
abbrev fr_F : Type := (Nat → Bool) × (Nat → Nat → Bool)
def fm (F : fr_F) (h h' : pm_H) : Prop := (∀ i, F.1 i = true → h' i = h i) ∧ ∀ i ci fs, h i = .inr (ci, fs) → ∃ fs', h' i = .inr (ci, fs') ∧ fs'.length = fs.length ∧ ∀ f, F.2 ci f = true → fs'[f]? = fs[f]?
variable {F : fr_F} {T : pm_Tab} {B : Nat → ac} {sz sl fr lo k pc : Nat}
theorem fm_rf (h : pm_H) : fm F h h := ⟨fun _ _ => rfl, fun _ _ fs e => ⟨fs, e, rfl, fun _ _ => rfl⟩⟩
theorem fm_tr {h h' h'' : pm_H} (a : fm F h h') (b : fm F h' h'') : fm F h h'' := by
  refine ⟨fun i hi => (b.1 i hi).trans (a.1 i hi), fun i ci fs e => ?_⟩
  obtain ⟨fs', e1, l1, g1⟩ := a.2 i ci fs e
  obtain ⟨fs2, e2, l2, g2⟩ := b.2 i ci fs' e1
  exact ⟨fs2, e2, l2.trans l1, fun f hf => (g2 f hf).trans (g1 f hf)⟩
/-- an array's cell is written -/
theorem fm_arr {h : pm_H} {a : Nat} {e : Nat × vp_A} (ha : F.1 a = false) (hc : ∃ q, h a = .inl q) : fm F h (va_up h a (.inl e)) := by
  obtain ⟨q, hq⟩ := hc
  refine ⟨fun i hi => ?_, fun i ci fs hi => ?_⟩
  · have : i ≠ a := fun e => by rw [e, ha] at hi; cases hi
    simp [va_up, this]
  · have : i ≠ a := fun e => by rw [e, hq] at hi; cases hi
    exact ⟨fs, by simp [va_up, this, hi], rfl, fun _ _ => rfl⟩
theorem fm_fld {h : pm_H} {a ci f : Nat} {fs : List Value} {v : Value} (ha : F.1 a = false) (hc : h a = .inr (ci, fs)) (hf : F.2 ci f = false) : fm F h (va_up h a (.inr (ci, fs.set f v))) := by
  refine ⟨fun i hi => ?_, fun i cj gs hi => ?_⟩
  · have : i ≠ a := fun e => by rw [e, ha] at hi; cases hi
    simp [va_up, this]
  · by_cases e : i = a
    · subst e
      rw [hc] at hi
      cases hi
      refine ⟨fs.set f v, by simp [va_up], by simp, fun g hg => ?_⟩
      have : f ≠ g := fun e => by rw [← e, hf] at hg; cases hg
      rw [List.getElem?_set_ne this]
    · exact ⟨gs, by simp [va_up, e, hi], rfl, fun _ _ => rfl⟩
/-- does the instruction write only where it may -/
def wr (T : pm_Tab) (F : fr_F) (k : Nat) (i : Instr) (S : List av) : Bool := match i, S with
  | .putfield j, _ :: a :: _ => (match pm_fld T (pm_o T k) j with
    | some (ci, f, _) => !(F.2 ci f) && (av_ids a).all (fun p => !(F.1 p))
    | none => false)
  | .iastore, _ :: _ :: a :: _ => (av_ids a).all (fun p => !(F.1 p))
  | .castore, _ :: _ :: a :: _ => (av_ids a).all (fun p => !(F.1 p))
  | .bastore, _ :: _ :: a :: _ => (av_ids a).all (fun p => !(F.1 p))
  | .lastore, _ :: _ :: a :: _ => (av_ids a).all (fun p => !(F.1 p))
  | .invokestatic j, S => (match pm_mlk T (pm_o T k) j with
    | some (9, _) => (match S with
      | _ :: _ :: a :: _ => (av_ids a).all (fun p => !(F.1 p))
      | _ => false)
    | _ => true)
  | .invokespecial j, _ => (match pm_mlk T (pm_o T k) j with
    | some (9, _) => false
    | _ => true)
  | i, _ => nw_i i
theorem wr_ids {a : av} {v : Value} {p : Nat} (h : (av_ids a).all (fun p => !(F.1 p)) = true) (hv : av_ok v a) (e : v = .ref p) : F.1 p = false := by
  subst e
  have := List.all_eq_true.mp h p hv.2
  simpa using this
theorem pm_iS_fm {ty : FieldType} {nr : Int32 → Int32} {L : pm_L} {S : List Value} {h : pm_H} {st' : pm_St} (hh : pm_iS T ty nr pc L S h sz sl = some st') (hw : ∀ x i p r, S = .int x :: .int i :: .ref p :: r → F.1 p = false) : fm F h st'.2.2.2.1 := by
  unfold pm_iS at hh
  split at hh
  · rename_i x i a r
    split at hh
    · rename_i kd n f e1
      split at hh
      · cases hh
        exact fm_arr (hw _ _ _ _ rfl) ⟨_, (pm_iar_inv e1).2.1⟩
      · cases hh
    · cases hh
  · cases hh
theorem pm_lS_fm {L : pm_L} {S : List Value} {h : pm_H} {st' : pm_St} (hh : pm_lS T pc L S h sz sl = some st') (hw : ∀ x i p r, S = .long x :: .int i :: .ref p :: r → F.1 p = false) : fm F h st'.2.2.2.1 := by
  unfold pm_lS at hh
  split at hh
  · rename_i x i a r
    split at hh
    · rename_i kd n f e1
      split at hh
      · cases hh
        exact fm_arr (hw _ _ _ _ rfl) ⟨_, (pm_lar_inv e1).2.1⟩
      · cases hh
    · cases hh
  · cases hh
theorem wr_third {SA : List av} {S : List Value} {x y v : Value} {r : List Value} (hS : as_ok S SA) (e : S = x :: y :: v :: r) : ∃ a b c t, SA = a :: b :: c :: t ∧ av_ok v c := by
  subst e
  match SA, hS with
  | a :: b :: c :: t, hS => exact ⟨a, b, c, t, rfl, hS.2.2.1⟩
set_option maxHeartbeats 4000000 in
theorem wr_ok {i : Instr} {SA : List av} {L : pm_L} {S : List Value} {h : pm_H} {st' : pm_St} (hw : wr T F k i SA = true) (hS : as_ok S SA) (hh : pm_simple T fr lo k i pc L S h sz sl = some st') : fm F h st'.2.2.2.1 := by
  have arr : ∀ (x y : Value) (p : Nat) (r : List Value), S = x :: y :: .ref p :: r → (∀ a b c t, SA = a :: b :: c :: t → (av_ids c).all (fun p => !(F.1 p)) = true) → F.1 p = false := by
    intro x y p r e hc
    obtain ⟨a, b, c, t, e1, e2⟩ := wr_third hS e
    exact wr_ids (hc a b c t e1) e2 rfl
  have none9 : ∀ j, (i = .invokestatic j ∨ i = .invokespecial j) → (∀ w x, pm_mlk T (pm_o T k) j = some (w, x) → w ≠ 9) → fm F h st'.2.2.2.1 := by
    intro j hj hm
    have e := pm_simple_nw (T := T) (k := k) (i := i) (by rcases hj with rfl | rfl <;> rfl) (fun j' w x hj' e => by
      have : j' = j := by
        rcases hj with rfl | rfl <;> rcases hj' with q | q <;> cases q <;> rfl
      subst this
      exact hm w x e) hh
    rw [e]
    exact fm_rf h
  cases i
  case putfield j =>
    dsimp only [pm_simple] at hh
    unfold pm_pf at hh
    split at hh
    · rename_i v a r
      split at hh
      · rename_i ci fs cj f t e1 e2
        split at hh
        · rename_i hc
          cases hh
          match SA, hS with
          | va :: aa :: t', hS =>
            dsimp only [wr] at hw
            rw [e2] at hw
            dsimp only at hw
            rw [Bool.and_eq_true] at hw
            have hci := hc.1
            subst hci
            exact fm_fld (wr_ids hw.2 hS.2.1 rfl) (pm_obj_inv e1).2 (by simpa using hw.1)
        · cases hh
      · cases hh
    · cases hh
  case iastore =>
    refine pm_iS_fm (ty := .int) (nr := fun x => x) hh (fun x i p r e => arr _ _ _ _ e (fun a b c t e1 => ?_))
    subst e1
    exact hw
  case castore =>
    refine pm_iS_fm (ty := .char) (nr := fun x => vp_nar .char x) hh (fun x i p r e => arr _ _ _ _ e (fun a b c t e1 => ?_))
    subst e1
    exact hw
  case bastore =>
    refine pm_iS_fm (ty := .boolean) (nr := fun x => vp_nar .boolean x) hh (fun x i p r e => arr _ _ _ _ e (fun a b c t e1 => ?_))
    subst e1
    exact hw
  case lastore =>
    refine pm_lS_fm hh (fun x i p r e => arr _ _ _ _ e (fun a b c t e1 => ?_))
    subst e1
    exact hw
  case invokespecial j =>
    refine none9 j (Or.inr rfl) (fun w x e q => ?_)
    subst q
    dsimp only [wr] at hw
    rw [e] at hw
    cases hw
  case invokestatic j =>
    cases em : pm_mlk T (pm_o T k) j with
    | none => exact none9 j (Or.inl rfl) (fun w x e => by rw [em] at e; cases e)
    | some wx =>
      obtain ⟨w, x⟩ := wx
      by_cases h9 : w = 9
      · subst h9
        dsimp only [wr] at hw
        rw [em] at hw
        have hh : pm_libW T false fr lo k j pc L S h sz sl = some st' := hh
        unfold pm_libW at hh
        rw [em] at hh
        dsimp only at hh
        split at hh
        · unfold pm_lib at hh
          split at hh
          · exfalso; first | omega | (simp at *; done)
          · exfalso; first | omega | (simp at *; done)
          · exfalso; first | omega | (simp at *; done)
          · rename_i n dp a sp a0 r _
            split at hh
            · rename_i e1 e2
              split at hh
              · cases hh
                refine fm_arr (arr _ _ _ _ rfl (fun a b c t e1 => ?_)) ⟨_, (pm_iar_inv e2).2.1⟩
                subst e1
                exact hw
              · cases hh
            · cases hh
          · cases hh
        · cases hh
      · exact none9 j (Or.inl rfl) (fun w' x' e => by rw [em] at e; cases e; exact h9)
  all_goals first
    | (cases hw; done)
    | (have e := pm_simple_nw (T := T) (k := k) rfl (fun j w x hj _ => by rcases hj with q | q <;> cases q) hh
       rw [e]
       exact fm_rf h)
end FRM
