/-! the instructions made ready, each by its place -/
section FQB
abbrev fqR : Type := Option (ar ⊕ List ast)
abbrev fqG : Type := Nat → Nat → Nat → List av → ah → Option (List ar)
abbrev fqF : Type := fqG → Nat → Nat → List (Option av) → List av → ah → fqR
def fq_o (q : Nat) (A : List (Option av)) (S : List av) (o : ah) : fqR := some (.inr [(q, A, S, o)])
def fq_lift (x : Option (List ast)) : fqR := match x with
  | some ss => some (.inr ss)
  | none => none
/-- f is the step at pc -/
def fq_ok (T : pm_Tab) (B : Nat → ac) (sz : Nat) (F : fr_F) (k pc : Nat) (f : fqF) : Prop := ∀ (go : fqG) (fr lo : Nat) (A : List (Option av)) (S : List av) (o : ah), f go fr lo A S o = cx_one T B sz F go fr lo k (pc, A, S, o)
def fq_slow (T : pm_Tab) (B : Nat → ac) (sz : Nat) (F : fr_F) (k pc : Nat) : fqF := fun go fr lo A S o => cx_one T B sz F go fr lo k (pc, A, S, o)
def fq_ne (i : Instr) : Bool := match i with
  | .return_ | .ireturn | .lreturn => false
  | _ => true
variable {T : pm_Tab} {B : Nat → ac} {sz : Nat} {F : fr_F} {k pc : Nat} {i : Instr} {len : Nat}
theorem fq_noend (e : pm_ins T k pc = some (i, len)) (hi : fq_ne i = true) (A : List (Option av)) (S : List av) (o : ah) : aE_end T k (pc, A, S, o) = none := by
  unfold aE_end
  dsimp only
  rw [e]
  dsimp only
  split
  · split
    · exact absurd hi (by decide)
    · exact absurd hi (by decide)
    · exact absurd hi (by decide)
    · rfl
  · rfl
theorem fq_nocd (e : pm_ins T k pc = some (i, len)) (hl : pm_lenOk i len = true) (hc : pm_callee T k i = none) (A : List (Option av)) (S : List av) (o : ah) : aa_cd T B sz k (pc, A, S, o) = none := by
  unfold aa_cd
  dsimp only
  rw [e]
  dsimp only
  rw [if_pos hl, hc]
theorem fq_step (e : pm_ins T k pc = some (i, len)) (hl : pm_lenOk i len = true) (hc : pm_callee T k i = none) (go : fqG) (fr lo : Nat) (A : List (Option av)) (S : List av) (o : ah) : aa_stepF T B sz F go fr lo k (pc, A, S, o) = cond (wr T F k i S) (aa_simple T B sz fr lo k i (pc, A, S, o)) none := by
  unfold aa_stepF
  rw [fq_nocd e hl hc]
  dsimp only
  rw [e]
  dsimp only
  rw [if_pos (show pm_lenOk i len = true ∧ pm_callee T k i = none from ⟨hl, hc⟩)]
theorem fq_simple (e : pm_ins T k pc = some (i, len)) (hl : pm_lenOk i len = true) (hi : fq_ne i = true) (hc : pm_callee T k i = none) (go : fqG) (fr lo : Nat) (A : List (Option av)) (S : List av) (o : ah) : cx_one T B sz F go fr lo k (pc, A, S, o) = fq_lift (cond (wr T F k i S) (aa_simple T B sz fr lo k i (pc, A, S, o)) none) := by
  unfold cx_one
  rw [fq_noend e hi, fq_step e hl hc]
  generalize cond (wr T F k i S) (aa_simple T B sz fr lo k i (pc, A, S, o)) none = x
  cases x <;> rfl
/-- an instruction that writes nothing -/
theorem fq_plain (e : pm_ins T k pc = some (i, len)) (hl : pm_lenOk i len = true) (hi : fq_ne i = true) (hc : pm_callee T k i = none) (hw : ∀ S, wr T F k i S = true) {f : fqF} (hf : ∀ (go : fqG) (fr lo : Nat) (A : List (Option av)) (S : List av) (o : ah), f go fr lo A S o = fq_lift (aa_simple T B sz fr lo k i (pc, A, S, o))) : fq_ok T B sz F k pc f := by
  intro go fr lo A S o
  rw [hf, fq_simple e hl hi hc, hw]
  rfl
/-! consts, locals -/
noncomputable def fq_push (z : Int) (q : Nat) : fqF := fun _ _ _ A S o => fq_o q A ((0, z, z) :: S) o
noncomputable def fq_lo (t q j : Nat) : fqF := fun _ _ _ A S o => Option.rec (motive := fun _ => fqR) none (fun a => Bool.rec (motive := fun _ => fqR) none (fq_o q A (a :: S) o) (Nat.beq a.1 t)) (fq_get A j)
theorem fq_lo_eq (t n j : Nat) (go : fqG) (fr lo : Nat) (A : List (Option av)) (S : List av) (o : ah) : fq_lo t (pc + n) j go fr lo A S o = fq_lift (aa_lo t n j (pc, A, S, o)) := by
  unfold fq_lo aa_lo
  rw [fq_get_eq]
  dsimp only
  cases aA_get A j with
  | none => rfl
  | some a =>
    dsimp only
    cases h : Nat.beq a.1 t with
    | false => rw [if_neg (fq_beqN h)]; rfl
    | true => rw [if_pos (Nat.eq_of_beq_eq_true h)]; rfl
noncomputable def fq_st (A : List (Option av)) (i : Nat) (a : av) : List (Option av) := Nat.rec (motive := fun _ => List (Option av)) (fq_set (some a) A i) (fun j _ => Option.rec (motive := fun _ => List (Option av)) (fq_set (some a) A i) (fun b => Bool.rec (motive := fun _ => List (Option av)) (fq_set (some a) A i) (fq_set (some a) (fq_set none A j) i) (Nat.beq b.1 1)) (fq_get A j)) i
theorem fq_st_eq (A : List (Option av)) (i : Nat) (a : av) : fq_st A i a = aA_st1 A i a := by
  unfold fq_st aA_st1 aA_cut
  cases i with
  | zero => exact fq_set_eq _ _ _
  | succ j =>
    dsimp only
    rw [fq_get_eq, fq_set_eq, fq_set_eq, fq_set_eq]
    cases aA_get A j with
    | none => rfl
    | some b => cases h : Nat.beq b.1 1 <;> simp only [h, cond]
noncomputable def fq_so (t q j : Nat) : fqF := fun _ _ _ A S o => List.rec (motive := fun _ => fqR) none (fun a r _ => Bool.rec (motive := fun _ => fqR) none (fq_sp (fq_st A j a) (fun A => fq_o q A r o)) (fq_and (Nat.beq a.1 t) (fq_in A j))) S
theorem fq_so_eq {mx : Nat} (t n j : Nat) (hm : Nat.blt j mx = true) (go : fqG) (fr lo : Nat) (A : List (Option av)) (S : List av) (o : ah) : fq_so t (pc + n) j go fr lo A S o = fq_lift (aa_so t n mx j (pc, A, S, o)) := by
  have hm : j < mx := Nat.le_of_ble_eq_true hm
  unfold fq_so aa_so
  cases S with
  | nil => rfl
  | cons a r =>
    dsimp only
    rw [fq_and_eq, fq_sp_eq, fq_st_eq]
    cases h1 : Nat.beq a.1 t with
    | false => rw [if_neg (fun q => fq_beqN h1 q.1)]; rfl
    | true =>
      cases h2 : fq_in A j with
      | false => rw [if_neg (fun q => by rw [(fq_in_iff _ _).2 q.2.2] at h2; cases h2)]; rfl
      | true => rw [if_pos ⟨Nat.eq_of_beq_eq_true h1, hm, (fq_in_iff _ _).1 h2⟩]; rfl
theorem fq_exact {x y z : Int} (h1 : ai_lo ≤ z) (h2 : z ≤ ai_hi) {F : Int32 → Int32 → Int32} (e : Int32.ofInt z = F (Int32.ofInt x) (Int32.ofInt y)) : (F (Int32.ofInt x) (Int32.ofInt y)).toInt = z := by
  unfold ai_lo at h1
  unfold ai_hi at h2
  rw [← e, Int32.toInt_ofInt_of_le (by omega) (by omega)]
noncomputable def fq_add (a b : av) : Option av := fq_i (a.2.1 + b.2.1) (fun l => fq_i (a.2.2 + b.2.2) (fun u => Bool.rec (motive := fun _ => Option av) (ab_ex (fun x y => x + y) ag_add a b) (some (0, l, u)) (fq_and (fq_le ai_lo l) (fq_and (fq_le l u) (fq_le u ai_hi)))))
theorem fq_add_eq (a b : av) : fq_add a b = ab_ex (fun x y => x + y) ag_add a b := by
  unfold fq_add
  rw [fq_i_eq, fq_i_eq, fq_and_eq, fq_and_eq]
  cases h : fq_le ai_lo (a.2.1 + b.2.1) && (fq_le (a.2.1 + b.2.1) (a.2.2 + b.2.2) && fq_le (a.2.2 + b.2.2) ai_hi) with
  | false => rfl
  | true =>
    rw [Bool.and_eq_true, Bool.and_eq_true] at h
    have h1 := (fq_le_iff _ _).1 h.1
    have h2 := (fq_le_iff _ _).1 h.2.1
    have h3 := (fq_le_iff _ _).1 h.2.2
    dsimp only
    unfold ab_ex
    split
    · rename_i q
      rw [fq_exact (F := fun x y => x + y) h1 (Int.le_trans h2 h3) (Int32.ofInt_add _ _), ← q.1, ← q.2]
    · unfold ag_add ai_mk
      rw [if_pos ⟨h1, h3⟩]
noncomputable def fq_sub (a b : av) : Option av := fq_i (a.2.1 - b.2.2) (fun l => fq_i (a.2.2 - b.2.1) (fun u => Bool.rec (motive := fun _ => Option av) (ab_ex (fun x y => x - y) ag_sub a b) (some (0, l, u)) (fq_and (fq_le ai_lo l) (fq_and (fq_le l u) (fq_le u ai_hi)))))
theorem fq_sub_eq (a b : av) : fq_sub a b = ab_ex (fun x y => x - y) ag_sub a b := by
  unfold fq_sub
  rw [fq_i_eq, fq_i_eq, fq_and_eq, fq_and_eq]
  cases h : fq_le ai_lo (a.2.1 - b.2.2) && (fq_le (a.2.1 - b.2.2) (a.2.2 - b.2.1) && fq_le (a.2.2 - b.2.1) ai_hi) with
  | false => rfl
  | true =>
    rw [Bool.and_eq_true, Bool.and_eq_true] at h
    have h1 := (fq_le_iff _ _).1 h.1
    have h2 := (fq_le_iff _ _).1 h.2.1
    have h3 := (fq_le_iff _ _).1 h.2.2
    dsimp only
    unfold ab_ex
    split
    · rename_i q
      rw [← q.2] at h1 h2 ⊢
      rw [fq_exact (F := fun x y => x - y) h1 (Int.le_trans h2 h3) (Int32.ofInt_sub _ _), ← q.1]
    · unfold ag_sub ai_mk
      rw [if_pos ⟨h1, h3⟩]
noncomputable def fq_mul (a b : av) : Option av := Bool.rec (motive := fun _ => Option av) (ab_ex (fun x y => x * y) ag_mul a b) (fq_i (a.2.1 * b.2.1) (fun p => Bool.rec (motive := fun _ => Option av) (ab_ex (fun x y => x * y) ag_mul a b) (some (0, p, p)) (fq_and (fq_le ai_lo p) (fq_le p ai_hi)))) (fq_and (fq_ieq a.2.1 a.2.2) (fq_ieq b.2.1 b.2.2))
theorem fq_mul_eq (a b : av) : fq_mul a b = ab_ex (fun x y => x * y) ag_mul a b := by
  unfold fq_mul
  rw [fq_i_eq, fq_and_eq, fq_and_eq]
  cases h0 : fq_ieq a.2.1 a.2.2 && fq_ieq b.2.1 b.2.2 with
  | false => rfl
  | true =>
    dsimp only
    cases h : fq_le ai_lo (a.2.1 * b.2.1) && fq_le (a.2.1 * b.2.1) ai_hi with
    | false => rfl
    | true =>
      rw [Bool.and_eq_true] at h h0
      have h1 := (fq_le_iff _ _).1 h.1
      have h2 := (fq_le_iff _ _).1 h.2
      dsimp only
      unfold ab_ex
      rw [if_pos ⟨fq_ieq_of h0.1, fq_ieq_of h0.2⟩, fq_exact (F := fun x y => x * y) h1 h2 (Int32.ofInt_mul _ _)]
noncomputable def fq_inc (z : Int) (q j : Nat) : fqF := fun _ _ _ A S o => Option.rec (motive := fun _ => fqR) none (fun a => Bool.rec (motive := fun _ => fqR) none (Option.rec (motive := fun _ => fqR) none (fun c => fq_sp (fq_st A j c) (fun A => fq_o q A S o)) (fq_add a (0, z, z))) (fq_and (Nat.beq a.1 0) (fq_in A j))) (fq_get A j)
/-- consts and locals -/
noncomputable def fq_d1 (T : pm_Tab) (k pc : Nat) (i : Instr) : Option fqF := match i with
  | .iconst n => fq_i (Int32.ofInt n).toInt (fun z => fq_n (pc + 1) (fun q => some (fq_push z q)))
  | .bipush n => fq_i ((Int8.ofInt n).toInt32).toInt (fun z => fq_n (pc + 2) (fun q => some (fq_push z q)))
  | .sipush n => fq_i ((Int16.ofInt n).toInt32).toInt (fun z => fq_n (pc + 3) (fun q => some (fq_push z q)))
  | .iload j => fq_n j (fun j => fq_n (pc + 2) (fun q => some (fq_lo 0 q j)))
  | .iload_n j => fq_n j.val (fun j => fq_n (pc + 1) (fun q => some (fq_lo 0 q j)))
  | .aload j => fq_n j (fun j => fq_n (pc + 2) (fun q => some (fq_lo 2 q j)))
  | .aload_n j => fq_n j.val (fun j => fq_n (pc + 1) (fun q => some (fq_lo 2 q j)))
  | .istore j => cond (Nat.blt j (pm_max T k)) (fq_n j (fun j => fq_n (pc + 2) (fun q => some (fq_so 0 q j)))) none
  | .istore_n j => cond (Nat.blt j.val (pm_max T k)) (fq_n j.val (fun j => fq_n (pc + 1) (fun q => some (fq_so 0 q j)))) none
  | .astore j => cond (Nat.blt j (pm_max T k)) (fq_n j (fun j => fq_n (pc + 2) (fun q => some (fq_so 2 q j)))) none
  | .astore_n j => cond (Nat.blt j.val (pm_max T k)) (fq_n j.val (fun j => fq_n (pc + 1) (fun q => some (fq_so 2 q j)))) none
  | .iinc j n => cond (Nat.blt j (pm_max T k)) (fq_i (Int32.ofInt n).toInt (fun z => fq_n j (fun j => fq_n (pc + 3) (fun q => some (fq_inc z q j))))) none
  | _ => none
theorem fq_cd {α : Type} {b : Bool} {x f : α} (h : cond b (some x) none = some f) : b = true ∧ x = f := by
  cases b with
  | false => cases h
  | true => exact ⟨rfl, Option.some.inj h⟩
theorem fq_d1_ok (e : pm_ins T k pc = some (i, len)) (hl : pm_lenOk i len = true) {f : fqF} (h : fq_d1 T k pc i = some f) : fq_ok T B sz F k pc f := by
  unfold fq_d1 at h
  split at h
  · rw [fq_i_eq, fq_n_eq] at h
    cases h
    exact fq_plain e hl rfl rfl (fun _ => rfl) (fun go fr lo A S o => rfl)
  · rw [fq_i_eq, fq_n_eq] at h
    cases h
    exact fq_plain e hl rfl rfl (fun _ => rfl) (fun go fr lo A S o => rfl)
  · rw [fq_i_eq, fq_n_eq] at h
    cases h
    exact fq_plain e hl rfl rfl (fun _ => rfl) (fun go fr lo A S o => rfl)
  · rw [fq_n_eq, fq_n_eq] at h
    cases h
    exact fq_plain e hl rfl rfl (fun _ => rfl) (fun go fr lo A S o => fq_lo_eq 0 2 _ go fr lo A S o)
  · rw [fq_n_eq, fq_n_eq] at h
    cases h
    exact fq_plain e hl rfl rfl (fun _ => rfl) (fun go fr lo A S o => fq_lo_eq 0 1 _ go fr lo A S o)
  · rw [fq_n_eq, fq_n_eq] at h
    cases h
    exact fq_plain e hl rfl rfl (fun _ => rfl) (fun go fr lo A S o => fq_lo_eq 2 2 _ go fr lo A S o)
  · rw [fq_n_eq, fq_n_eq] at h
    cases h
    exact fq_plain e hl rfl rfl (fun _ => rfl) (fun go fr lo A S o => fq_lo_eq 2 1 _ go fr lo A S o)
  · rw [fq_n_eq, fq_n_eq] at h
    obtain ⟨hm, rfl⟩ := fq_cd h
    exact fq_plain e hl rfl rfl (fun _ => rfl) (fun go fr lo A S o => fq_so_eq 0 2 _ hm go fr lo A S o)
  · rw [fq_n_eq, fq_n_eq] at h
    obtain ⟨hm, rfl⟩ := fq_cd h
    exact fq_plain e hl rfl rfl (fun _ => rfl) (fun go fr lo A S o => fq_so_eq 0 1 _ hm go fr lo A S o)
  · rw [fq_n_eq, fq_n_eq] at h
    obtain ⟨hm, rfl⟩ := fq_cd h
    exact fq_plain e hl rfl rfl (fun _ => rfl) (fun go fr lo A S o => fq_so_eq 2 2 _ hm go fr lo A S o)
  · rw [fq_n_eq, fq_n_eq] at h
    obtain ⟨hm, rfl⟩ := fq_cd h
    exact fq_plain e hl rfl rfl (fun _ => rfl) (fun go fr lo A S o => fq_so_eq 2 1 _ hm go fr lo A S o)
  · rename_i j n
    rw [fq_i_eq, fq_n_eq, fq_n_eq] at h
    obtain ⟨hm, rfl⟩ := fq_cd h
    refine fq_plain e hl rfl rfl (fun _ => rfl) (fun go fr lo A S o => ?_)
    have hm : j < pm_max T k := Nat.le_of_ble_eq_true hm
    show fq_inc (Int32.ofInt n).toInt (pc + 3) j go fr lo A S o = fq_lift (match aA_get A j with
      | some a => if a.1 = 0 ∧ j < pm_max T k ∧ j < A.length then (match ab_ex (fun x y => x + y) ag_add a (aa_k (Int32.ofInt n)) with
        | some c => some [(pc + 3, aA_st1 A j c, S, o)]
        | none => none) else none
      | none => none)
    unfold fq_inc
    rw [fq_get_eq]
    cases aA_get A j with
    | none => rfl
    | some a =>
      dsimp only
      rw [fq_and_eq]
      cases h1 : Nat.beq a.1 0 with
      | false => rw [if_neg (fun q => fq_beqN h1 q.1)]; rfl
      | true =>
        cases h2 : fq_in A j with
        | false => rw [if_neg (fun q => by rw [(fq_in_iff _ _).2 q.2.2] at h2; cases h2)]; rfl
        | true =>
          rw [if_pos ⟨Nat.eq_of_beq_eq_true h1, hm, (fq_in_iff _ _).1 h2⟩]
          rw [fq_add_eq]
          show Option.rec (motive := fun _ => fqR) none (fun c => fq_sp (fq_st A j c) (fun A => fq_o (pc + 3) A S o)) (ab_ex (fun x y => x + y) ag_add a (aa_k (Int32.ofInt n))) = _
          cases ab_ex (fun x y => x + y) ag_add a (aa_k (Int32.ofInt n)) with
          | none => rfl
          | some c =>
            show fq_sp (fq_st A j c) (fun A => fq_o (pc + 3) A S o) = fq_lift (some [(pc + 3, aA_st1 A j c, S, o)])
            rw [fq_sp_eq, fq_st_eq]
            rfl
  · cases h
end FQB
