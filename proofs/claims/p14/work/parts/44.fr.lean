section MG44frx0
/-! the instructions made ready, each by its place -/
section FQB
abbrev fqR : Type := Option (ar ⊕ List ast)
abbrev fqG : Type := Nat → Nat → Nat → List av → ah → Option (List ar)
abbrev fqF : Type := fqG → Nat → Nat → List (Option av) → List av → ah → fqR
def fq_o (q : Nat) (A : List (Option av)) (S : List av) (o : ah) : fqR := some (.inr [(q, A, S, o)])
def fq_lift (x : Option (List ast)) : fqR := match x with
  | some ss => some (.inr ss)
  | none => none
/-- f is the step at pc -/
def fq_ok (T : pm_Tab) (B : Nat → ac) (sz : Nat) (F : fr_F) (k pc : Nat) (f : fqF) : Prop := ∀ (go : fqG) (fr lo : Nat) (A : List (Option av)) (S : List av) (o : ah), f go fr lo A S o = cx_one T B sz F go fr lo k (pc, A, S, o)
def fq_slow (T : pm_Tab) (B : Nat → ac) (sz : Nat) (F : fr_F) (k pc : Nat) : fqF := fun go fr lo A S o => cx_one T B sz F go fr lo k (pc, A, S, o)
def fq_ne (i : Instr) : Bool := match i with
  | .return_ | .ireturn | .lreturn => false
  | _ => true
variable {T : pm_Tab} {B : Nat → ac} {sz : Nat} {F : fr_F} {k pc : Nat} {i : Instr} {len : Nat}
theorem fq_noend (e : pm_ins T k pc = some (i, len)) (hi : fq_ne i = true) (A : List (Option av)) (S : List av) (o : ah) : aE_end T k (pc, A, S, o) = none := by
  unfold aE_end
  dsimp only
  rw [e]
  dsimp only
  split
  · split
    · exact absurd hi (by decide)
    · exact absurd hi (by decide)
    · exact absurd hi (by decide)
    · rfl
  · rfl
theorem fq_nocd (e : pm_ins T k pc = some (i, len)) (hl : pm_lenOk i len = true) (hc : pm_callee T k i = none) (A : List (Option av)) (S : List av) (o : ah) : aa_cd T B sz k (pc, A, S, o) = none := by
  unfold aa_cd
  dsimp only
  rw [e]
  dsimp only
  rw [if_pos hl, hc]
theorem fq_step (e : pm_ins T k pc = some (i, len)) (hl : pm_lenOk i len = true) (hc : pm_callee T k i = none) (go : fqG) (fr lo : Nat) (A : List (Option av)) (S : List av) (o : ah) : aa_stepF T B sz F go fr lo k (pc, A, S, o) = cond (wr T F k i S) (aa_simple T B sz fr lo k i (pc, A, S, o)) none := by
  unfold aa_stepF
  rw [fq_nocd e hl hc]
  dsimp only
  rw [e]
  dsimp only
  rw [if_pos (show pm_lenOk i len = true ∧ pm_callee T k i = none from ⟨hl, hc⟩)]
theorem fq_simple (e : pm_ins T k pc = some (i, len)) (hl : pm_lenOk i len = true) (hi : fq_ne i = true) (hc : pm_callee T k i = none) (go : fqG) (fr lo : Nat) (A : List (Option av)) (S : List av) (o : ah) : cx_one T B sz F go fr lo k (pc, A, S, o) = fq_lift (cond (wr T F k i S) (aa_simple T B sz fr lo k i (pc, A, S, o)) none) := by
  unfold cx_one
  rw [fq_noend e hi, fq_step e hl hc]
  generalize cond (wr T F k i S) (aa_simple T B sz fr lo k i (pc, A, S, o)) none = x
  cases x <;> rfl
/-- an instruction that writes nothing -/
theorem fq_plain (e : pm_ins T k pc = some (i, len)) (hl : pm_lenOk i len = true) (hi : fq_ne i = true) (hc : pm_callee T k i = none) (hw : ∀ S, wr T F k i S = true) {f : fqF} (hf : ∀ (go : fqG) (fr lo : Nat) (A : List (Option av)) (S : List av) (o : ah), f go fr lo A S o = fq_lift (aa_simple T B sz fr lo k i (pc, A, S, o))) : fq_ok T B sz F k pc f := by
  intro go fr lo A S o
  rw [hf, fq_simple e hl hi hc, hw]
  rfl
/-! consts, locals -/
noncomputable def fq_push (z : Int) (q : Nat) : fqF := fun _ _ _ A S o => fq_o q A ((0, z, z) :: S) o
noncomputable def fq_lo (t q j : Nat) : fqF := fun _ _ _ A S o => Option.rec (motive := fun _ => fqR) none (fun a => Bool.rec (motive := fun _ => fqR) none (fq_o q A (a :: S) o) (Nat.beq a.1 t)) (fq_get A j)
theorem fq_lo_eq (t n j : Nat) (go : fqG) (fr lo : Nat) (A : List (Option av)) (S : List av) (o : ah) : fq_lo t (pc + n) j go fr lo A S o = fq_lift (aa_lo t n j (pc, A, S, o)) := by
  unfold fq_lo aa_lo
  rw [fq_get_eq]
  dsimp only
  cases aA_get A j with
  | none => rfl
  | some a =>
    dsimp only
    cases h : Nat.beq a.1 t with
    | false => rw [if_neg (fq_beqN h)]; rfl
    | true => rw [if_pos (Nat.eq_of_beq_eq_true h)]; rfl
noncomputable def fq_st (A : List (Option av)) (i : Nat) (a : av) : List (Option av) := Nat.rec (motive := fun _ => List (Option av)) (fq_set (some a) A i) (fun j _ => Option.rec (motive := fun _ => List (Option av)) (fq_set (some a) A i) (fun b => Bool.rec (motive := fun _ => List (Option av)) (fq_set (some a) A i) (fq_set (some a) (fq_set none A j) i) (Nat.beq b.1 1)) (fq_get A j)) i
theorem fq_st_eq (A : List (Option av)) (i : Nat) (a : av) : fq_st A i a = aA_st1 A i a := by
  unfold fq_st aA_st1 aA_cut
  cases i with
  | zero => exact fq_set_eq _ _ _
  | succ j =>
    dsimp only
    rw [fq_get_eq, fq_set_eq, fq_set_eq, fq_set_eq]
    cases aA_get A j with
    | none => rfl
    | some b => cases h : Nat.beq b.1 1 <;> simp only [h, cond]
noncomputable def fq_so (t q j : Nat) : fqF := fun _ _ _ A S o => List.rec (motive := fun _ => fqR) none (fun a r _ => Bool.rec (motive := fun _ => fqR) none (fq_sp (fq_st A j a) (fun A => fq_o q A r o)) (fq_and (Nat.beq a.1 t) (fq_in A j))) S
theorem fq_so_eq {mx : Nat} (t n j : Nat) (hm : Nat.blt j mx = true) (go : fqG) (fr lo : Nat) (A : List (Option av)) (S : List av) (o : ah) : fq_so t (pc + n) j go fr lo A S o = fq_lift (aa_so t n mx j (pc, A, S, o)) := by
  have hm : j < mx := Nat.le_of_ble_eq_true hm
  unfold fq_so aa_so
  cases S with
  | nil => rfl
  | cons a r =>
    dsimp only
    rw [fq_and_eq, fq_sp_eq, fq_st_eq]
    cases h1 : Nat.beq a.1 t with
    | false => rw [if_neg (fun q => fq_beqN h1 q.1)]; rfl
    | true =>
      cases h2 : fq_in A j with
      | false => rw [if_neg (fun q => by rw [(fq_in_iff _ _).2 q.2.2] at h2; cases h2)]; rfl
      | true => rw [if_pos ⟨Nat.eq_of_beq_eq_true h1, hm, (fq_in_iff _ _).1 h2⟩]; rfl
theorem fq_exact {x y z : Int} (h1 : ai_lo ≤ z) (h2 : z ≤ ai_hi) {F : Int32 → Int32 → Int32} (e : Int32.ofInt z = F (Int32.ofInt x) (Int32.ofInt y)) : (F (Int32.ofInt x) (Int32.ofInt y)).toInt = z := by
  unfold ai_lo at h1
  unfold ai_hi at h2
  rw [← e, Int32.toInt_ofInt_of_le (by omega) (by omega)]
noncomputable def fq_add (a b : av) : Option av := fq_i (a.2.1 + b.2.1) (fun l => fq_i (a.2.2 + b.2.2) (fun u => Bool.rec (motive := fun _ => Option av) (ab_ex (fun x y => x + y) ag_add a b) (some (0, l, u)) (fq_and (fq_le ai_lo l) (fq_and (fq_le l u) (fq_le u ai_hi)))))
theorem fq_add_eq (a b : av) : fq_add a b = ab_ex (fun x y => x + y) ag_add a b := by
  unfold fq_add
  rw [fq_i_eq, fq_i_eq, fq_and_eq, fq_and_eq]
  cases h : fq_le ai_lo (a.2.1 + b.2.1) && (fq_le (a.2.1 + b.2.1) (a.2.2 + b.2.2) && fq_le (a.2.2 + b.2.2) ai_hi) with
  | false => rfl
  | true =>
    rw [Bool.and_eq_true, Bool.and_eq_true] at h
    have h1 := (fq_le_iff _ _).1 h.1
    have h2 := (fq_le_iff _ _).1 h.2.1
    have h3 := (fq_le_iff _ _).1 h.2.2
    dsimp only
    unfold ab_ex
    split
    · rename_i q
      rw [fq_exact (F := fun x y => x + y) h1 (Int.le_trans h2 h3) (Int32.ofInt_add _ _), ← q.1, ← q.2]
    · unfold ag_add ai_mk
      rw [if_pos ⟨h1, h3⟩]
noncomputable def fq_sub (a b : av) : Option av := fq_i (a.2.1 - b.2.2) (fun l => fq_i (a.2.2 - b.2.1) (fun u => Bool.rec (motive := fun _ => Option av) (ab_ex (fun x y => x - y) ag_sub a b) (some (0, l, u)) (fq_and (fq_le ai_lo l) (fq_and (fq_le l u) (fq_le u ai_hi)))))
theorem fq_sub_eq (a b : av) : fq_sub a b = ab_ex (fun x y => x - y) ag_sub a b := by
  unfold fq_sub
  rw [fq_i_eq, fq_i_eq, fq_and_eq, fq_and_eq]
  cases h : fq_le ai_lo (a.2.1 - b.2.2) && (fq_le (a.2.1 - b.2.2) (a.2.2 - b.2.1) && fq_le (a.2.2 - b.2.1) ai_hi) with
  | false => rfl
  | true =>
    rw [Bool.and_eq_true, Bool.and_eq_true] at h
    have h1 := (fq_le_iff _ _).1 h.1
    have h2 := (fq_le_iff _ _).1 h.2.1
    have h3 := (fq_le_iff _ _).1 h.2.2
    dsimp only
    unfold ab_ex
    split
    · rename_i q
      rw [← q.2] at h1 h2 ⊢
      rw [fq_exact (F := fun x y => x - y) h1 (Int.le_trans h2 h3) (Int32.ofInt_sub _ _), ← q.1]
    · unfold ag_sub ai_mk
      rw [if_pos ⟨h1, h3⟩]
noncomputable def fq_mul (a b : av) : Option av := Bool.rec (motive := fun _ => Option av) (ab_ex (fun x y => x * y) ag_mul a b) (fq_i (a.2.1 * b.2.1) (fun p => Bool.rec (motive := fun _ => Option av) (ab_ex (fun x y => x * y) ag_mul a b) (some (0, p, p)) (fq_and (fq_le ai_lo p) (fq_le p ai_hi)))) (fq_and (fq_ieq a.2.1 a.2.2) (fq_ieq b.2.1 b.2.2))
theorem fq_mul_eq (a b : av) : fq_mul a b = ab_ex (fun x y => x * y) ag_mul a b := by
  unfold fq_mul
  rw [fq_i_eq, fq_and_eq, fq_and_eq]
  cases h0 : fq_ieq a.2.1 a.2.2 && fq_ieq b.2.1 b.2.2 with
  | false => rfl
  | true =>
    dsimp only
    cases h : fq_le ai_lo (a.2.1 * b.2.1) && fq_le (a.2.1 * b.2.1) ai_hi with
    | false => rfl
    | true =>
      rw [Bool.and_eq_true] at h h0
      have h1 := (fq_le_iff _ _).1 h.1
      have h2 := (fq_le_iff _ _).1 h.2
      dsimp only
      unfold ab_ex
      rw [if_pos ⟨fq_ieq_of h0.1, fq_ieq_of h0.2⟩, fq_exact (F := fun x y => x * y) h1 h2 (Int32.ofInt_mul _ _)]
noncomputable def fq_inc (z : Int) (q j : Nat) : fqF := fun _ _ _ A S o => Option.rec (motive := fun _ => fqR) none (fun a => Bool.rec (motive := fun _ => fqR) none (Option.rec (motive := fun _ => fqR) none (fun c => fq_sp (fq_st A j c) (fun A => fq_o q A S o)) (fq_add a (0, z, z))) (fq_and (Nat.beq a.1 0) (fq_in A j))) (fq_get A j)
/-- consts and locals -/
noncomputable def fq_d1 (T : pm_Tab) (k pc : Nat) (i : Instr) : Option fqF := match i with
  | .iconst n => fq_i (Int32.ofInt n).toInt (fun z => fq_n (pc + 1) (fun q => some (fq_push z q)))
  | .bipush n => fq_i ((Int8.ofInt n).toInt32).toInt (fun z => fq_n (pc + 2) (fun q => some (fq_push z q)))
  | .sipush n => fq_i ((Int16.ofInt n).toInt32).toInt (fun z => fq_n (pc + 3) (fun q => some (fq_push z q)))
  | .iload j => fq_n j (fun j => fq_n (pc + 2) (fun q => some (fq_lo 0 q j)))
  | .iload_n j => fq_n j.val (fun j => fq_n (pc + 1) (fun q => some (fq_lo 0 q j)))
  | .aload j => fq_n j (fun j => fq_n (pc + 2) (fun q => some (fq_lo 2 q j)))
  | .aload_n j => fq_n j.val (fun j => fq_n (pc + 1) (fun q => some (fq_lo 2 q j)))
  | .istore j => cond (Nat.blt j (pm_max T k)) (fq_n j (fun j => fq_n (pc + 2) (fun q => some (fq_so 0 q j)))) none
  | .istore_n j => cond (Nat.blt j.val (pm_max T k)) (fq_n j.val (fun j => fq_n (pc + 1) (fun q => some (fq_so 0 q j)))) none
  | .astore j => cond (Nat.blt j (pm_max T k)) (fq_n j (fun j => fq_n (pc + 2) (fun q => some (fq_so 2 q j)))) none
  | .astore_n j => cond (Nat.blt j.val (pm_max T k)) (fq_n j.val (fun j => fq_n (pc + 1) (fun q => some (fq_so 2 q j)))) none
  | .iinc j n => cond (Nat.blt j (pm_max T k)) (fq_i (Int32.ofInt n).toInt (fun z => fq_n j (fun j => fq_n (pc + 3) (fun q => some (fq_inc z q j))))) none
  | _ => none
theorem fq_cd {α : Type} {b : Bool} {x f : α} (h : cond b (some x) none = some f) : b = true ∧ x = f := by
  cases b with
  | false => cases h
  | true => exact ⟨rfl, Option.some.inj h⟩
theorem fq_d1_ok (e : pm_ins T k pc = some (i, len)) (hl : pm_lenOk i len = true) {f : fqF} (h : fq_d1 T k pc i = some f) : fq_ok T B sz F k pc f := by
  unfold fq_d1 at h
  split at h
  · rw [fq_i_eq, fq_n_eq] at h
    cases h
    exact fq_plain e hl rfl rfl (fun _ => rfl) (fun go fr lo A S o => rfl)
  · rw [fq_i_eq, fq_n_eq] at h
    cases h
    exact fq_plain e hl rfl rfl (fun _ => rfl) (fun go fr lo A S o => rfl)
  · rw [fq_i_eq, fq_n_eq] at h
    cases h
    exact fq_plain e hl rfl rfl (fun _ => rfl) (fun go fr lo A S o => rfl)
  · rw [fq_n_eq, fq_n_eq] at h
    cases h
    exact fq_plain e hl rfl rfl (fun _ => rfl) (fun go fr lo A S o => fq_lo_eq 0 2 _ go fr lo A S o)
  · rw [fq_n_eq, fq_n_eq] at h
    cases h
    exact fq_plain e hl rfl rfl (fun _ => rfl) (fun go fr lo A S o => fq_lo_eq 0 1 _ go fr lo A S o)
  · rw [fq_n_eq, fq_n_eq] at h
    cases h
    exact fq_plain e hl rfl rfl (fun _ => rfl) (fun go fr lo A S o => fq_lo_eq 2 2 _ go fr lo A S o)
  · rw [fq_n_eq, fq_n_eq] at h
    cases h
    exact fq_plain e hl rfl rfl (fun _ => rfl) (fun go fr lo A S o => fq_lo_eq 2 1 _ go fr lo A S o)
  · rw [fq_n_eq, fq_n_eq] at h
    obtain ⟨hm, rfl⟩ := fq_cd h
    exact fq_plain e hl rfl rfl (fun _ => rfl) (fun go fr lo A S o => fq_so_eq 0 2 _ hm go fr lo A S o)
  · rw [fq_n_eq, fq_n_eq] at h
    obtain ⟨hm, rfl⟩ := fq_cd h
    exact fq_plain e hl rfl rfl (fun _ => rfl) (fun go fr lo A S o => fq_so_eq 0 1 _ hm go fr lo A S o)
  · rw [fq_n_eq, fq_n_eq] at h
    obtain ⟨hm, rfl⟩ := fq_cd h
    exact fq_plain e hl rfl rfl (fun _ => rfl) (fun go fr lo A S o => fq_so_eq 2 2 _ hm go fr lo A S o)
  · rw [fq_n_eq, fq_n_eq] at h
    obtain ⟨hm, rfl⟩ := fq_cd h
    exact fq_plain e hl rfl rfl (fun _ => rfl) (fun go fr lo A S o => fq_so_eq 2 1 _ hm go fr lo A S o)
  · rename_i j n
    rw [fq_i_eq, fq_n_eq, fq_n_eq] at h
    obtain ⟨hm, rfl⟩ := fq_cd h
    refine fq_plain e hl rfl rfl (fun _ => rfl) (fun go fr lo A S o => ?_)
    have hm : j < pm_max T k := Nat.le_of_ble_eq_true hm
    show fq_inc (Int32.ofInt n).toInt (pc + 3) j go fr lo A S o = fq_lift (match aA_get A j with
      | some a => if a.1 = 0 ∧ j < pm_max T k ∧ j < A.length then (match ab_ex (fun x y => x + y) ag_add a (aa_k (Int32.ofInt n)) with
        | some c => some [(pc + 3, aA_st1 A j c, S, o)]
        | none => none) else none
      | none => none)
    unfold fq_inc
    rw [fq_get_eq]
    cases aA_get A j with
    | none => rfl
    | some a =>
      dsimp only
      rw [fq_and_eq]
      cases h1 : Nat.beq a.1 0 with
      | false => rw [if_neg (fun q => fq_beqN h1 q.1)]; rfl
      | true =>
        cases h2 : fq_in A j with
        | false => rw [if_neg (fun q => by rw [(fq_in_iff _ _).2 q.2.2] at h2; cases h2)]; rfl
        | true =>
          rw [if_pos ⟨Nat.eq_of_beq_eq_true h1, hm, (fq_in_iff _ _).1 h2⟩]
          rw [fq_add_eq]
          show Option.rec (motive := fun _ => fqR) none (fun c => fq_sp (fq_st A j c) (fun A => fq_o (pc + 3) A S o)) (ab_ex (fun x y => x + y) ag_add a (aa_k (Int32.ofInt n))) = _
          cases ab_ex (fun x y => x + y) ag_add a (aa_k (Int32.ofInt n)) with
          | none => rfl
          | some c =>
            show fq_sp (fq_st A j c) (fun A => fq_o (pc + 3) A S o) = fq_lift (some [(pc + 3, aA_st1 A j c, S, o)])
            rw [fq_sp_eq, fq_st_eq]
            rfl
  · cases h
end FQB
end MG44frx0
section MG44frx1
/-! sums, branches, fields and arrays, made ready -/
section FQC
variable {T : pm_Tab} {B : Nat → ac} {sz : Nat} {F : fr_F} {k pc : Nat} {i : Instr} {len : Nat}
noncomputable def fq_bi (g : av → av → Option av) (q : Nat) : fqF := fun _ _ _ A S o => List.rec (motive := fun _ => fqR) none (fun b r _ => List.rec (motive := fun _ => fqR) none (fun a r _ => Bool.rec (motive := fun _ => fqR) none (Option.rec (motive := fun _ => fqR) none (fun c => fq_o q A (c :: r) o) (g a b)) (fq_and (Nat.beq a.1 0) (Nat.beq b.1 0))) r) S
theorem fq_bi_eq {g g' : av → av → Option av} (hg : ∀ a b, g a b = g' a b) (go : fqG) (fr lo : Nat) (A : List (Option av)) (S : List av) (o : ah) : fq_bi g (pc + 1) go fr lo A S o = fq_lift (aa_bi g' (pc, A, S, o)) := by
  unfold fq_bi aa_bi
  cases S with
  | nil => rfl
  | cons b r =>
    cases r with
    | nil => rfl
    | cons a r =>
      dsimp only
      rw [fq_and_eq, hg]
      cases h1 : Nat.beq a.1 0 with
      | false => rw [if_neg (fun q => fq_beqN h1 q.1)]; rfl
      | true =>
        cases h2 : Nat.beq b.1 0 with
        | false => rw [if_neg (fun q => fq_beqN h2 q.2)]; rfl
        | true =>
          rw [if_pos ⟨Nat.eq_of_beq_eq_true h1, Nat.eq_of_beq_eq_true h2⟩]
          cases g' a b <;> rfl
/-- what is tried for an instruction that writes nothing, the instruction read already -/
def fq_md (f : ast → Option (List ast)) (pc : Nat) : fqF := fun _ _ _ A S o => fq_lift (f (pc, A, S, o))
noncomputable def fq_c2 (x y : Bool) : Option Bool := Bool.rec (motive := fun _ => Option Bool) (Bool.rec (motive := fun _ => Option Bool) none (some false) y) (some true) x
noncomputable def fq_ce (p q : Bool) (a b : av) : Option Bool := Bool.rec (motive := fun _ => Option Bool) (Bool.rec (motive := fun _ => Option Bool) (Bool.rec (motive := fun _ => Option Bool) none (some q) (fq_and (fq_ieq a.2.1 a.2.2) (fq_and (fq_ieq b.2.1 b.2.2) (fq_ieq a.2.1 b.2.1)))) (some p) (fq_lt b.2.2 a.2.1)) (some p) (fq_lt a.2.2 b.2.1)
theorem fq_ltN {a b : Int} (h : fq_lt a b = false) : ¬ a < b := fun q => by rw [(fq_lt_iff _ _).2 q] at h; cases h
theorem fq_leN {a b : Int} (h : fq_le a b = false) : ¬ a ≤ b := fun q => by rw [(fq_le_iff _ _).2 q] at h; cases h
theorem fq_ce_eq (p q : Bool) (a b : av) : fq_ce p q a b = if a.2.2 < b.2.1 ∨ b.2.2 < a.2.1 then some p else if a.2.1 = a.2.2 ∧ b.2.1 = b.2.2 ∧ a.2.1 = b.2.1 then some q else none := by
  unfold fq_ce
  cases h1 : fq_lt a.2.2 b.2.1 with
  | true => rw [if_pos (Or.inl ((fq_lt_iff _ _).1 h1))]
  | false =>
    cases h2 : fq_lt b.2.2 a.2.1 with
    | true => rw [if_pos (Or.inr ((fq_lt_iff _ _).1 h2))]
    | false =>
      rw [if_neg (fun z => z.elim (fq_ltN h1) (fq_ltN h2))]
      dsimp only
      rw [fq_and_eq, fq_and_eq]
      cases h3 : fq_ieq a.2.1 a.2.2 && (fq_ieq b.2.1 b.2.2 && fq_ieq a.2.1 b.2.1) with
      | true =>
        rw [Bool.and_eq_true, Bool.and_eq_true] at h3
        rw [if_pos ⟨fq_ieq_of h3.1, fq_ieq_of h3.2.1, fq_ieq_of h3.2.2⟩]
      | false =>
        rw [if_neg (fun z => by
          have z1 := z.1
          have z2 := z.2.1
          have z3 := z.2.2
          rw [← z1, ← z2, ← z3, fq_ieq_rf] at h3
          cases h3)]
theorem fq_c2_eq {x y : Bool} {P Q : Prop} [Decidable P] [Decidable Q] (h1 : x = true ↔ P) (h2 : y = true ↔ Q) : fq_c2 x y = if P then some true else if Q then some false else none := by
  unfold fq_c2
  cases x with
  | true => rw [if_pos (h1.1 rfl)]
  | false =>
    rw [if_neg (fun q => by cases h1.2 q)]
    cases y with
    | true => rw [if_pos (h2.1 rfl)]
    | false => rw [if_neg (fun q => by cases h2.2 q)]
noncomputable def fq_cmpK {α : Type} (c : Jvm.ClassFile.Cond) (f : (av → av → Option Bool) → α) : α := match c with
  | .eq => f (fq_ce false true)
  | .ne => f (fq_ce true false)
  | .lt => f (fun a b => fq_c2 (fq_lt a.2.2 b.2.1) (fq_le b.2.2 a.2.1))
  | .ge => f (fun a b => fq_c2 (fq_le b.2.2 a.2.1) (fq_lt a.2.2 b.2.1))
  | .gt => f (fun a b => fq_c2 (fq_lt b.2.2 a.2.1) (fq_le a.2.2 b.2.1))
  | .le => f (fun a b => fq_c2 (fq_le a.2.2 b.2.1) (fq_lt b.2.2 a.2.1))
theorem fq_cmpK_eq {α : Type} (c : Jvm.ClassFile.Cond) (f : (av → av → Option Bool) → α) : fq_cmpK c f = f (ag_cmp c) := by
  cases c with
  | eq => exact congrArg f (funext fun a => funext fun b => fq_ce_eq false true a b)
  | ne => exact congrArg f (funext fun a => funext fun b => fq_ce_eq true false a b)
  | lt => exact congrArg f (funext fun a => funext fun b => fq_c2_eq (fq_lt_iff _ _) (fq_le_iff _ _))
  | ge => exact congrArg f (funext fun a => funext fun b => fq_c2_eq (fq_le_iff _ _) (fq_lt_iff _ _))
  | gt => exact congrArg f (funext fun a => funext fun b => fq_c2_eq (fq_lt_iff _ _) (fq_le_iff _ _))
  | le => exact congrArg f (funext fun a => funext fun b => fq_c2_eq (fq_le_iff _ _) (fq_lt_iff _ _))
noncomputable def fq_br (r : Option Bool) (t q : Nat) (A : List (Option av)) (S : List av) (o : ah) : fqR := Option.rec (motive := fun _ => fqR) (some (.inr [(t, A, S, o), (q, A, S, o)])) (fun b => Bool.rec (motive := fun _ => fqR) (fq_o q A S o) (fq_o t A S o) b) r
theorem fq_br_eq {off : Int} {t : Nat} (ht : pm_tgt pc off = some t) (r : Option Bool) (A : List (Option av)) (S S0 : List av) (o : ah) : fq_br r t (pc + 3) A S o = fq_lift (aa_br r (pc, A, S0, o) off S) := by
  unfold aa_br
  dsimp only
  rw [ht]
  cases r with
  | none => rfl
  | some b => cases b <;> rfl
noncomputable def fq_if1 (g : av → av → Option Bool) (t q : Nat) : fqF := fun _ _ _ A S o => List.rec (motive := fun _ => fqR) none (fun a r _ => Bool.rec (motive := fun _ => fqR) none (fq_br (g a (0, 0, 0)) t q A r o) (Nat.beq a.1 0)) S
noncomputable def fq_if2 (g : av → av → Option Bool) (t q : Nat) : fqF := fun _ _ _ A S o => List.rec (motive := fun _ => fqR) none (fun b r _ => List.rec (motive := fun _ => fqR) none (fun a r _ => Bool.rec (motive := fun _ => fqR) none (fq_br (g a b) t q A r o) (fq_and (Nat.beq a.1 0) (Nat.beq b.1 0))) r) S
noncomputable def fq_d2 (T : pm_Tab) (B : Nat → ac) (sz k pc : Nat) (i : Instr) : Option fqF := match i with
  | .iadd => fq_n (pc + 1) (fun q => some (fq_bi fq_add q))
  | .isub => fq_n (pc + 1) (fun q => some (fq_bi fq_sub q))
  | .imul => fq_n (pc + 1) (fun q => some (fq_bi fq_mul q))
  | .iand => some (fq_md (aa_bi (ab_ex (fun x y => x &&& y) ag_and)) pc)
  | .ior => some (fq_md (aa_bi (ab_ex (fun x y => x ||| y) ag_or)) pc)
  | .ishl => some (fq_md (aa_bi (ab_ex (fun x y => x <<< (y &&& 31)) ag_shl)) pc)
  | .ishr => some (fq_md (aa_bi (ab_ex (fun x y => x >>> (y &&& 31)) ag_shr)) pc)
  | .idiv => some (fq_md (aa_bi (ag_gd (fun x y => x / y) ag_div)) pc)
  | .irem => some (fq_md (aa_bi (ag_gd (fun x y => x - x / y * y) ag_rem)) pc)
  | .ineg => some (fq_md (aa_ui ag_neg) pc)
  | .arraylength => some (fq_md (aa_alen T B sz) pc)
  | .aaload => some (fq_md (aa_qld T B sz) pc)
  | .ifCond c off => (match pm_tgt pc off with
    | some t => fq_n t (fun t => fq_n (pc + 3) (fun q => fq_cmpK c (fun g => some (fq_if1 g t q))))
    | none => none)
  | .if_icmp c off => (match pm_tgt pc off with
    | some t => fq_n t (fun t => fq_n (pc + 3) (fun q => fq_cmpK c (fun g => some (fq_if2 g t q))))
    | none => none)
  | .goto off => (match pm_tgt pc off with
    | some t => fq_n t (fun t => some (fun _ _ _ A S o => fq_o t A S o))
    | none => none)
  | _ => none
theorem fq_d2_ok (e : pm_ins T k pc = some (i, len)) (hl : pm_lenOk i len = true) {f : fqF} (h : fq_d2 T B sz k pc i = some f) : fq_ok T B sz F k pc f := by
  unfold fq_d2 at h
  split at h
  · rw [fq_n_eq] at h
    cases h
    exact fq_plain e hl rfl rfl (fun _ => rfl) (fun go fr lo A S o => fq_bi_eq fq_add_eq go fr lo A S o)
  · rw [fq_n_eq] at h
    cases h
    exact fq_plain e hl rfl rfl (fun _ => rfl) (fun go fr lo A S o => fq_bi_eq fq_sub_eq go fr lo A S o)
  · rw [fq_n_eq] at h
    cases h
    exact fq_plain e hl rfl rfl (fun _ => rfl) (fun go fr lo A S o => fq_bi_eq fq_mul_eq go fr lo A S o)
  · cases h; exact fq_plain e hl rfl rfl (fun _ => rfl) (fun go fr lo A S o => rfl)
  · cases h; exact fq_plain e hl rfl rfl (fun _ => rfl) (fun go fr lo A S o => rfl)
  · cases h; exact fq_plain e hl rfl rfl (fun _ => rfl) (fun go fr lo A S o => rfl)
  · cases h; exact fq_plain e hl rfl rfl (fun _ => rfl) (fun go fr lo A S o => rfl)
  · cases h; exact fq_plain e hl rfl rfl (fun _ => rfl) (fun go fr lo A S o => rfl)
  · cases h; exact fq_plain e hl rfl rfl (fun _ => rfl) (fun go fr lo A S o => rfl)
  · cases h; exact fq_plain e hl rfl rfl (fun _ => rfl) (fun go fr lo A S o => rfl)
  · cases h; exact fq_plain e hl rfl rfl (fun _ => rfl) (fun go fr lo A S o => rfl)
  · cases h; exact fq_plain e hl rfl rfl (fun _ => rfl) (fun go fr lo A S o => rfl)
  · rename_i c off
    cases ht : pm_tgt pc off with
    | none => rw [ht] at h; cases h
    | some t =>
      rw [ht] at h
      dsimp only at h
      rw [fq_n_eq, fq_n_eq, fq_cmpK_eq] at h
      cases h
      refine fq_plain e hl rfl rfl (fun _ => rfl) (fun go fr lo A S o => ?_)
      show fq_if1 (ag_cmp c) t (pc + 3) go fr lo A S o = fq_lift (match S with
        | a :: r => if a.1 = 0 then aa_br (ag_cmp c a (0, 0, 0)) (pc, A, S, o) off r else none
        | _ => none)
      unfold fq_if1
      cases S with
      | nil => rfl
      | cons a r =>
        dsimp only
        rw [fq_br_eq ht _ A r (a :: r) o]
        cases h1 : Nat.beq a.1 0 with
        | false => rw [if_neg (fq_beqN h1)]; rfl
        | true => rw [if_pos (Nat.eq_of_beq_eq_true h1)]
  · rename_i c off
    cases ht : pm_tgt pc off with
    | none => rw [ht] at h; cases h
    | some t =>
      rw [ht] at h
      dsimp only at h
      rw [fq_n_eq, fq_n_eq, fq_cmpK_eq] at h
      cases h
      refine fq_plain e hl rfl rfl (fun _ => rfl) (fun go fr lo A S o => ?_)
      show fq_if2 (ag_cmp c) t (pc + 3) go fr lo A S o = fq_lift (match S with
        | b :: a :: r => if a.1 = 0 ∧ b.1 = 0 then aa_br (ag_cmp c a b) (pc, A, S, o) off r else none
        | _ => none)
      unfold fq_if2
      cases S with
      | nil => rfl
      | cons b r =>
        cases r with
        | nil => rfl
        | cons a r =>
          dsimp only
          rw [fq_br_eq ht _ A r (b :: a :: r) o, fq_and_eq]
          cases h1 : Nat.beq a.1 0 with
          | false => rw [if_neg (fun q => fq_beqN h1 q.1)]; rfl
          | true =>
            cases h2 : Nat.beq b.1 0 with
            | false => rw [if_neg (fun q => fq_beqN h2 q.2)]; rfl
            | true => rw [if_pos ⟨Nat.eq_of_beq_eq_true h1, Nat.eq_of_beq_eq_true h2⟩]; rfl
  · rename_i off
    cases ht : pm_tgt pc off with
    | none => rw [ht] at h; cases h
    | some t =>
      rw [ht] at h
      dsimp only at h
      rw [fq_n_eq] at h
      cases h
      refine fq_plain e hl rfl rfl (fun _ => rfl) (fun go fr lo A S o => ?_)
      show fq_o t A S o = fq_lift (match pm_tgt pc off with
        | some t => some [(t, A, S, o)]
        | none => none)
      rw [ht]
      rfl
  · cases h
/-! fields and arrays -/
noncomputable def fq_fld (B : Nat → ac) (o : ah) (sz cj f i : Nat) : Option av := Bool.rec (motive := fun _ => Option av) none (Sum.rec (motive := fun _ => Option av) (fun _ => none) (fun x => Bool.rec (motive := fun _ => Option av) none (fq_nth x.2 f) (fq_and (Nat.beq x.1 cj) (Nat.blt x.1 1000))) (fq_fd B o i)) (Nat.blt i sz)
theorem fq_bltN {a b : Nat} (h : Nat.blt a b = false) : ¬ a < b := fun q => by rw [show Nat.blt a b = true from Nat.ble_eq_true_of_le q] at h; cases h
theorem fq_blt {a b : Nat} (h : Nat.blt a b = true) : a < b := Nat.le_of_ble_eq_true h
theorem fq_fld_eq (o : ah) (cj f i : Nat) : fq_fld B o sz cj f i = aa_fld B o sz cj f i := by
  unfold fq_fld aa_fld
  rw [fq_fd_eq]
  cases h1 : Nat.blt i sz with
  | false => rw [if_neg (fq_bltN h1)]
  | true =>
    rw [if_pos (fq_blt h1)]
    cases ah_get B o i with
    | inl x => rfl
    | inr x =>
      obtain ⟨ci, as⟩ := x
      dsimp only
      rw [fq_and_eq, fq_nth_eq]
      cases h2 : Nat.beq ci cj with
      | false => rw [if_neg (fun q => fq_beqN h2 q.1)]; rfl
      | true =>
        cases h3 : Nat.blt ci 1000 with
        | false => rw [if_neg (fun q => fq_bltN h3 q.2)]; rfl
        | true => rw [if_pos ⟨Nat.eq_of_beq_eq_true h2, fq_blt h3⟩]; rfl
/-- what f tells of one reference, or of some -/
noncomputable def fq_ov (f g : Nat → Option av) (a : av) : Option av := Bool.rec (motive := fun _ => Option av) (aa_over g (av_ids a)) (fq_n (fq_nat a.2.1) f) (fq_1 a.2.2)
theorem fq_ov_eq {f g : Nat → Option av} (h : ∀ i, f i = g i) (a : av) : fq_ov f g a = aa_over g (av_ids a) := by
  unfold fq_ov
  cases h1 : fq_1 a.2.2 with
  | false => rfl
  | true =>
    rw [fq_1_ids h1, fq_n_eq, h]
    rfl
noncomputable def fq_gf (B : Nat → ac) (sz cj f q : Nat) : fqF := fun _ _ _ A S o => List.rec (motive := fun _ => fqR) none (fun a r _ => Bool.rec (motive := fun _ => fqR) none (Option.rec (motive := fun _ => fqR) none (fun v => fq_o q A (v :: r) o) (fq_ov (fq_fld B o sz cj f) (aa_fld B o sz cj f) a)) (Nat.beq a.1 2)) S
noncomputable def fq_elt (T : pm_Tab) (B : Nat → ac) (o : ah) (sz : Nat) (ty : FieldType) (ix : av) (i : Nat) : Option av := Bool.rec (motive := fun _ => Option av) none (Sum.rec (motive := fun _ => Option av) (fun x => Bool.rec (motive := fun _ => Option av) none (some x.2.2) (fq_and (decide ((pm_ty T)[x.1]? = some ty)) (fq_and (Nat.beq x.2.2.1 0) (fq_and (fq_le (Int.ofNat 0) ix.2.1) (fq_lt ix.2.2 (Int.ofNat x.2.1)))))) (fun _ => aa_elti T B o sz ty ix i) (fq_fd B o i)) (Nat.blt i sz)
theorem fq_elt_eq (o : ah) (ty : FieldType) (ix : av) (i : Nat) : fq_elt T B o sz ty ix i = aa_elti T B o sz ty ix i := by
  unfold fq_elt
  rw [fq_fd_eq]
  cases h1 : Nat.blt i sz with
  | false => unfold aa_elti; rw [if_neg (fq_bltN h1)]
  | true =>
    cases h2 : ah_get B o i with
    | inr x => rfl
    | inl x =>
      obtain ⟨kd, n, a⟩ := x
      unfold aa_elti
      rw [if_pos (fq_blt h1), h2]
      dsimp only
      rw [fq_and_eq, fq_and_eq, fq_and_eq]
      by_cases g1 : (pm_ty T)[kd]? = some ty
      · by_cases g2 : a.1 = 0
        · by_cases g3 : 0 ≤ ix.2.1
          · by_cases g4 : ix.2.2 < (n : Int)
            · rw [if_pos ⟨g1, g2, g3, g4⟩, decide_eq_true g1, g2, show fq_le (Int.ofNat 0) ix.2.1 = true from (fq_le_iff _ _).2 g3, show fq_lt ix.2.2 (Int.ofNat n) = true from (fq_lt_iff _ _).2 g4]
              rfl
            · rw [if_neg (fun q => g4 q.2.2.2), show fq_lt ix.2.2 (Int.ofNat n) = false from Bool.eq_false_iff.mpr (fun q => g4 ((fq_lt_iff _ _).1 q)), Bool.and_false, Bool.and_false, Bool.and_false]
          · rw [if_neg (fun q => g3 q.2.2.1), show fq_le (Int.ofNat 0) ix.2.1 = false from Bool.eq_false_iff.mpr (fun q => g3 ((fq_le_iff _ _).1 q)), Bool.false_and, Bool.and_false, Bool.and_false]
        · rw [if_neg (fun q => g2 q.2.1), show Nat.beq a.1 0 = false from Bool.eq_false_iff.mpr (fun q => g2 (Nat.eq_of_beq_eq_true q)), Bool.false_and, Bool.and_false]
      · rw [if_neg (fun q => g1 q.1), decide_eq_false g1, Bool.false_and]
noncomputable def fq_ald (T : pm_Tab) (B : Nat → ac) (sz : Nat) (ty : FieldType) (q : Nat) : fqF := fun _ _ _ A S o => List.rec (motive := fun _ => fqR) none (fun ix r _ => List.rec (motive := fun _ => fqR) none (fun a r _ => Bool.rec (motive := fun _ => fqR) none (Option.rec (motive := fun _ => fqR) none (fun v => fq_o q A (v :: r) o) (fq_ov (fq_elt T B o sz ty ix) (aa_elti T B o sz ty ix) a)) (fq_and (Nat.beq ix.1 0) (Nat.beq a.1 2))) r) S
theorem fq_ald_eq (ty : FieldType) (go : fqG) (fr lo : Nat) (A : List (Option av)) (S : List av) (o : ah) : fq_ald T B sz ty (pc + 1) go fr lo A S o = fq_lift (aa_aldi T B sz ty (pc, A, S, o)) := by
  unfold fq_ald aa_aldi
  cases S with
  | nil => rfl
  | cons ix r =>
    cases r with
    | nil => rfl
    | cons a r =>
      dsimp only
      rw [fq_and_eq, fq_ov_eq (fun i => fq_elt_eq o ty ix i)]
      cases h1 : Nat.beq ix.1 0 with
      | false => rw [if_neg (fun q => fq_beqN h1 q.1)]; rfl
      | true =>
        cases h2 : Nat.beq a.1 2 with
        | false => rw [if_neg (fun q => fq_beqN h2 q.2)]; rfl
        | true =>
          rw [if_pos ⟨Nat.eq_of_beq_eq_true h1, Nat.eq_of_beq_eq_true h2⟩]
          cases aa_over (aa_elti T B o sz ty ix) (av_ids a) <;> rfl
/-- a write to one place of an array -/
noncomputable def fq_stu (T : pm_Tab) (ty : FieldType) (ix v : av) (c : ac) : Option ac := Sum.rec (motive := fun _ => Option ac) (fun x => Bool.rec (motive := fun _ => Option ac) none (Option.rec (motive := fun _ => Option ac) none (fun b => fq_n x.1 (fun k => fq_n x.2.1 (fun n => some (.inl (k, n, b))))) (fq_join x.2.2 v)) (fq_and (decide ((pm_ty T)[x.1]? = some ty)) (fq_and (Nat.beq x.2.2.1 0) (fq_and (fq_le (Int.ofNat 0) ix.2.1) (fq_lt ix.2.2 (Int.ofNat x.2.1)))))) (fun x => aa_astui T ty ix v (.inr x)) c
theorem fq_stu_eq (ty : FieldType) (ix v : av) (c : ac) : fq_stu T ty ix v c = aa_astui T ty ix v c := by
  unfold fq_stu
  cases c with
  | inr x => rfl
  | inl x =>
    obtain ⟨kd, n, a⟩ := x
    unfold aa_astui
    dsimp only
    rw [fq_and_eq, fq_and_eq, fq_and_eq, fq_join_eq]
    simp only [fq_n_eq]
    by_cases g1 : (pm_ty T)[kd]? = some ty
    · by_cases g2 : a.1 = 0
      · by_cases g3 : 0 ≤ ix.2.1
        · by_cases g4 : ix.2.2 < (n : Int)
          · rw [if_pos ⟨g1, g2, g3, g4⟩, decide_eq_true g1, g2, show fq_le (Int.ofNat 0) ix.2.1 = true from (fq_le_iff _ _).2 g3, show fq_lt ix.2.2 (Int.ofNat n) = true from (fq_lt_iff _ _).2 g4]
            show Option.rec (motive := fun _ => Option ac) none (fun b => some (.inl (kd, n, b))) (av_join a v) = _
            cases av_join a v <;> rfl
          · rw [if_neg (fun q => g4 q.2.2.2), show fq_lt ix.2.2 (Int.ofNat n) = false from Bool.eq_false_iff.mpr (fun q => g4 ((fq_lt_iff _ _).1 q)), Bool.and_false, Bool.and_false, Bool.and_false]
        · rw [if_neg (fun q => g3 q.2.2.1), show fq_le (Int.ofNat 0) ix.2.1 = false from Bool.eq_false_iff.mpr (fun q => g3 ((fq_le_iff _ _).1 q)), Bool.false_and, Bool.and_false, Bool.and_false]
      · rw [if_neg (fun q => g2 q.2.1), show Nat.beq a.1 0 = false from Bool.eq_false_iff.mpr (fun q => g2 (Nat.eq_of_beq_eq_true q)), Bool.false_and, Bool.and_false]
    · rw [if_neg (fun q => g1 q.1), decide_eq_false g1, Bool.false_and]
noncomputable def fq_ast (T : pm_Tab) (B : Nat → ac) (sz : Nat) (F : fr_F) (k pc : Nat) (ty : FieldType) (nr : av → av) (q : Nat) : fqF := fun go fr lo A S o => List.rec (motive := fun _ => fqR) none (fun v r _ => List.rec (motive := fun _ => fqR) none (fun ix r _ => List.rec (motive := fun _ => fqR) none (fun a r _ => Bool.rec (motive := fun _ => fqR) (fq_slow T B sz F k pc go fr lo A S o) (fq_n (fq_nat a.2.1) (fun p => Bool.rec (motive := fun _ => fqR) none (Option.rec (motive := fun _ => fqR) none (fun c => fq_sp (fq_put p c o) (fun o => fq_o q A r o)) (fq_stu T ty ix (nr v) (fq_fd B o p))) (fq_and (Nat.beq v.1 0) (fq_and (Nat.beq ix.1 0) (fq_and (Nat.beq a.1 2) (fq_and (Nat.blt p sz) (not (F.1 p)))))))) (fq_1 a.2.2)) r) r) S
theorem fq_ast_eq {ty : FieldType} {nr : av → av} {go : fqG} {fr lo : Nat} {A : List (Option av)} {S : List av} {o : ah} {w : List av → Bool} (hs : cx_one T B sz F go fr lo k (pc, A, S, o) = fq_lift (cond (w S) (aa_asti T B sz ty nr (pc, A, S, o)) none)) (hw : ∀ x y a r, w (x :: y :: a :: r) = (av_ids a).all (fun p => !(F.1 p))) : fq_ast T B sz F k pc ty nr (pc + 1) go fr lo A S o = cx_one T B sz F go fr lo k (pc, A, S, o) := by
  have short : (∀ v ix a r, S ≠ v :: ix :: a :: r) → fq_lift (cond (w S) (aa_asti T B sz ty nr (pc, A, S, o)) none) = none := by
    intro hq
    have : aa_asti T B sz ty nr (pc, A, S, o) = none := by
      unfold aa_asti
      dsimp only
      split
      · rename_i v ix a r
        exact absurd rfl (hq v ix a r)
      · rfl
    rw [this]
    cases w S <;> rfl
  cases S with
  | nil => rw [hs, short (fun _ _ _ _ q => by cases q)]; rfl
  | cons v r =>
    cases r with
    | nil => rw [hs, short (fun _ _ _ _ q => by cases q)]; rfl
    | cons ix r =>
      cases r with
      | nil => rw [hs, short (fun _ _ _ _ q => by cases q)]; rfl
      | cons a r =>
        unfold fq_ast
        dsimp only
        cases h1 : fq_1 a.2.2 with
        | false => rfl
        | true =>
          dsimp only
          rw [fq_n_eq, hs, hw, fq_1_ids h1]
          unfold aa_asti
          dsimp only
          rw [fq_1_ids h1, fq_stu_eq, fq_fd_eq]
          generalize fq_nat a.2.1 = p
          rw [fq_and_eq, fq_and_eq, fq_and_eq, fq_and_eq, List.all_cons, List.all_nil, List.all_cons, List.all_nil, Bool.and_true, Bool.and_true]
          cases g5 : F.1 p with
          | true =>
            rw [Bool.not_true, Bool.and_false, Bool.and_false, Bool.and_false, Bool.and_false]
            rfl
          | false =>
            rw [Bool.not_false, Bool.and_true]
            dsimp only [cond]
            by_cases g1 : v.1 = 0
            · by_cases g2 : ix.1 = 0
              · by_cases g3 : a.1 = 2
                · by_cases g4 : p < sz
                  · rw [g1, g2, g3, show Nat.blt p sz = true from Nat.ble_eq_true_of_le g4, decide_eq_true g4]
                    show Option.rec (motive := fun _ => fqR) none (fun c => fq_sp (fq_put p c o) (fun o => fq_o (pc + 1) A r o)) (aa_astui T ty ix (nr v) (ah_get B o p)) = _
                    cases hc : aa_astui T ty ix (nr v) (ah_get B o p) with
                    | none =>
                      rw [if_neg (fun q => by cases q.2.2.2)]
                      rfl
                    | some c =>
                      rw [if_pos ⟨rfl, rfl, rfl, rfl⟩]
                      unfold ah_upd
                      dsimp only
                      rw [hc]
                      dsimp only
                      rw [← fq_put_eq]
                      exact fq_sp_eq (fq_put p c o) (fun o => fq_o (pc + 1) A r o)
                  · rw [if_neg (fun q => by
                      have q2 := q.2.2.2
                      rw [Bool.and_eq_true] at q2
                      exact g4 (of_decide_eq_true q2.1)), show Nat.blt p sz = false from Bool.eq_false_iff.mpr (fun q => g4 (fq_blt q)), Bool.and_false, Bool.and_false, Bool.and_false]
                    rfl
                · rw [if_neg (fun q => g3 q.2.2.1), show Nat.beq a.1 2 = false from Bool.eq_false_iff.mpr (fun q => g3 (Nat.eq_of_beq_eq_true q)), Bool.false_and, Bool.and_false, Bool.and_false]
                  rfl
              · rw [if_neg (fun q => g2 q.2.1), show Nat.beq ix.1 0 = false from Bool.eq_false_iff.mpr (fun q => g2 (Nat.eq_of_beq_eq_true q)), Bool.false_and, Bool.and_false]
                rfl
            · rw [if_neg (fun q => g1 q.1), show Nat.beq v.1 0 = false from Bool.eq_false_iff.mpr (fun q => g1 (Nat.eq_of_beq_eq_true q)), Bool.false_and]
              rfl
end FQC
end MG44frx1
section MG44frx2
/-! puts, answers, calls; whole runs; contracts -/
section FQD
variable {T : pm_Tab} {B : Nat → ac} {sz : Nat} {F : fr_F} {k pc : Nat} {i : Instr} {len : Nat}
noncomputable def fq_pfu (cj f : Nat) (v : av) (c : ac) : Option ac := Sum.rec (motive := fun _ => Option ac) (fun _ => none) (fun x => Bool.rec (motive := fun _ => Option ac) none (fq_n x.1 (fun k => fq_sp (fq_set v x.2 f) (fun as => some (.inr (k, as))))) (fq_and (Nat.beq x.1 cj) (fq_and (fq_in x.2 f) (Nat.blt x.1 1000)))) c
theorem fq_pfu_eq (cj f : Nat) (v : av) (c : ac) : fq_pfu cj f v c = aa_pfu cj f v c := by
  cases c with
  | inl x => rfl
  | inr x =>
    obtain ⟨ci, as⟩ := x
    unfold fq_pfu aa_pfu
    dsimp only
    rw [fq_and_eq, fq_and_eq, fq_n_eq, fq_sp_eq, fq_set_eq]
    cases h1 : Nat.beq ci cj with
    | false => rw [if_neg (fun q => fq_beqN h1 q.1)]; rfl
    | true =>
      cases h2 : fq_in as f with
      | false => rw [if_neg (fun q => by rw [(fq_in_iff _ _).2 q.2.1] at h2; cases h2)]; rfl
      | true =>
        cases h3 : Nat.blt ci 1000 with
        | false => rw [if_neg (fun q => fq_bltN h3 q.2.2)]; rfl
        | true => rw [if_pos ⟨Nat.eq_of_beq_eq_true h1, (fq_in_iff _ _).1 h2, fq_blt h3⟩]; rfl
noncomputable def fq_pf (T : pm_Tab) (B : Nat → ac) (sz : Nat) (F : fr_F) (k pc cj f tt q : Nat) : fqF := fun go fr lo A S o => List.rec (motive := fun _ => fqR) none (fun v r _ => List.rec (motive := fun _ => fqR) none (fun a r _ => Bool.rec (motive := fun _ => fqR) (fq_slow T B sz F k pc go fr lo A S o) (fq_n (fq_nat a.2.1) (fun p => Bool.rec (motive := fun _ => fqR) none (Option.rec (motive := fun _ => fqR) none (fun c => fq_sp (fq_put p c o) (fun o => fq_o q A r o)) (fq_pfu cj f v (fq_fd B o p))) (fq_and (Nat.beq a.1 2) (fq_and (aa_fits tt v) (fq_and (Nat.blt p sz) (not (F.1 p))))))) (fq_1 a.2.2)) r) S
theorem fq_pf_eq {j cj f t : Nat} {go : fqG} {fr lo : Nat} {A : List (Option av)} {S : List av} {o : ah} {w : List av → Bool} (hs : cx_one T B sz F go fr lo k (pc, A, S, o) = fq_lift (cond (w S) (aa_pf T B sz k j (pc, A, S, o)) none)) (hw : ∀ x a r, w (x :: a :: r) = (av_ids a).all (fun p => !(F.1 p))) (hf : pm_fld T (pm_o T k) j = some (cj, f, t)) (ht : t < 10 ∨ (t < 20 ∧ pm_init T k = true)) : fq_pf T B sz F k pc cj f (t % 10) (pc + 3) go fr lo A S o = cx_one T B sz F go fr lo k (pc, A, S, o) := by
  have short : (∀ v a r, S ≠ v :: a :: r) → fq_lift (cond (w S) (aa_pf T B sz k j (pc, A, S, o)) none) = none := by
    intro hq
    have : aa_pf T B sz k j (pc, A, S, o) = none := by
      unfold aa_pf
      dsimp only
      split
      · rename_i v a r
        exact absurd rfl (hq v a r)
      · rfl
    rw [this]
    cases w S <;> rfl
  cases S with
  | nil => rw [hs, short (fun _ _ _ q => by cases q)]; rfl
  | cons v r =>
    cases r with
    | nil => rw [hs, short (fun _ _ _ q => by cases q)]; rfl
    | cons a r =>
      unfold fq_pf
      dsimp only
      cases h1 : fq_1 a.2.2 with
      | false => rfl
      | true =>
        dsimp only
        rw [fq_n_eq, hs, hw, fq_1_ids h1]
        unfold aa_pf
        dsimp only
        rw [hf]
        dsimp only
        rw [fq_1_ids h1, fq_pfu_eq, fq_fd_eq]
        generalize fq_nat a.2.1 = p
        rw [fq_and_eq, fq_and_eq, fq_and_eq, List.all_cons, List.all_nil, List.all_cons, List.all_nil, Bool.and_true, Bool.and_true]
        cases g5 : F.1 p with
        | true =>
          rw [Bool.not_true, Bool.and_false, Bool.and_false, Bool.and_false]
          rfl
        | false =>
          rw [Bool.not_false, Bool.and_true]
          dsimp only [cond]
          by_cases g3 : a.1 = 2
          · rw [if_pos g3]
            cases g2 : aa_fits (t % 10) v with
            | false =>
              rw [if_neg (fun q => by cases q.1), Bool.false_and, Bool.and_false]
              rfl
            | true =>
              by_cases g4 : p < sz
              · rw [g3, show Nat.blt p sz = true from Nat.ble_eq_true_of_le g4, decide_eq_true g4]
                show Option.rec (motive := fun _ => fqR) none (fun c => fq_sp (fq_put p c o) (fun o => fq_o (pc + 3) A r o)) (aa_pfu cj f v (ah_get B o p)) = _
                cases hc : aa_pfu cj f v (ah_get B o p) with
                | none =>
                  rw [if_neg (fun q => by cases q.2.2)]
                  rfl
                | some c =>
                  rw [if_pos ⟨rfl, ht, rfl⟩]
                  unfold ah_upd
                  dsimp only
                  rw [hc]
                  dsimp only
                  rw [← fq_put_eq]
                  exact fq_sp_eq (fq_put p c o) (fun o => fq_o (pc + 3) A r o)
              · rw [if_neg (fun q => by
                  have q2 := q.2.2
                  rw [Bool.and_eq_true] at q2
                  exact g4 (of_decide_eq_true q2.1)), show Nat.blt p sz = false from Bool.eq_false_iff.mpr (fun q => g4 (fq_blt q)), Bool.and_false, Bool.and_false]
                rfl
          · rw [if_neg g3, show Nat.beq a.1 2 = false from Bool.eq_false_iff.mpr (fun q => g3 (Nat.eq_of_beq_eq_true q)), Bool.false_and]
            rfl
theorem fq_end (e : pm_ins T k pc = some (i, len)) (hl : pm_lenOk i len = true) (hc : pm_callee T k i = none) (hs : ∀ fr lo s, aa_simple T B sz fr lo k i s = none) (go : fqG) (fr lo : Nat) (A : List (Option av)) (S : List av) (o : ah) : cx_one T B sz F go fr lo k (pc, A, S, o) = Option.rec (motive := fun _ => fqR) none (fun r => some (.inl r)) (aE_end T k (pc, A, S, o)) := by
  unfold cx_one
  rw [fq_step e hl hc, hs]
  cases aE_end T k (pc, A, S, o) with
  | some r => rfl
  | none => cases wr T F k i S <;> rfl
noncomputable def fq_reti : fqF := fun _ _ _ _ S o => List.rec (motive := fun _ => fqR) none (fun a r _ => List.rec (motive := fun _ => fqR) (Bool.rec (motive := fun _ => fqR) none (some (.inl (some a, o))) (Nat.beq a.1 0)) (fun _ _ _ => none) r) S
noncomputable def fq_retb : fqF := fun _ _ _ _ S o => List.rec (motive := fun _ => fqR) none (fun a r _ => List.rec (motive := fun _ => fqR) (Bool.rec (motive := fun _ => fqR) none (some (.inl (some a, o))) (fq_and (Nat.beq a.1 0) (fq_and (fq_le (Int.ofNat 0) a.2.1) (fq_le a.2.2 (Int.ofNat 1))))) (fun _ _ _ => none) r) S
noncomputable def fq_retv : fqF := fun _ _ _ _ S o => List.rec (motive := fun _ => fqR) (some (.inl (none, o))) (fun _ _ _ => none) S
noncomputable def fq_d3 (T : pm_Tab) (B : Nat → ac) (sz : Nat) (F : fr_F) (k pc : Nat) (i : Instr) : Option fqF := match i with
  | .getfield j => (match pm_fld T (pm_o T k) j with
    | some (cj, f, _) => fq_n cj (fun cj => fq_n f (fun f => fq_n (pc + 3) (fun q => some (fq_gf B sz cj f q))))
    | none => none)
  | .putfield j => (match pm_fld T (pm_o T k) j with
    | some (cj, f, t) => cond (!(F.2 cj f) && decide (t < 10 ∨ (t < 20 ∧ pm_init T k = true))) (fq_n cj (fun cj => fq_n f (fun f => fq_n (t % 10) (fun t => fq_n (pc + 3) (fun q => some (fq_pf T B sz F k pc cj f t q)))))) none
    | none => none)
  | .iaload => fq_n (pc + 1) (fun q => some (fq_ald T B sz .int q))
  | .caload => fq_n (pc + 1) (fun q => some (fq_ald T B sz .char q))
  | .baload => fq_n (pc + 1) (fun q => some (fq_ald T B sz .boolean q))
  | .iastore => fq_n (pc + 1) (fun q => some (fq_ast T B sz F k pc .int (fun v => v) q))
  | .castore => fq_n (pc + 1) (fun q => some (fq_ast T B sz F k pc .char (ag_cut 0 65535) q))
  | .bastore => fq_n (pc + 1) (fun q => some (fq_ast T B sz F k pc .boolean (ag_cut 0 1) q))
  | .ireturn => (match pm_ret T k with
    | some .int => some fq_reti
    | some .boolean => some fq_retb
    | _ => none)
  | .return_ => (match pm_ret T k with
    | none => some fq_retv
    | _ => none)
  | _ => none
theorem fq_d3_ok (e : pm_ins T k pc = some (i, len)) (hl : pm_lenOk i len = true) {f : fqF} (h : fq_d3 T B sz F k pc i = some f) : fq_ok T B sz F k pc f := by
  unfold fq_d3 at h
  split at h
  · rename_i j
    cases hf : pm_fld T (pm_o T k) j with
    | none => rw [hf] at h; cases h
    | some x =>
      obtain ⟨cj, f, t⟩ := x
      rw [hf] at h
      dsimp only at h
      rw [fq_n_eq, fq_n_eq, fq_n_eq] at h
      cases h
      refine fq_plain e hl rfl rfl (fun _ => rfl) (fun go fr lo A S o => ?_)
      show fq_gf B sz cj f (pc + 3) go fr lo A S o = fq_lift (aa_gf T B sz k j (pc, A, S, o))
      unfold fq_gf aa_gf
      cases S with
      | nil => rfl
      | cons a r =>
        dsimp only
        rw [hf, fq_ov_eq (fun i => fq_fld_eq o cj f i)]
        dsimp only
        cases h1 : Nat.beq a.1 2 with
        | false => rw [if_neg (fq_beqN h1)]; rfl
        | true =>
          rw [if_pos (Nat.eq_of_beq_eq_true h1)]
          cases aa_over (aa_fld B o sz cj f) (av_ids a) <;> rfl
  · rename_i j
    cases hf : pm_fld T (pm_o T k) j with
    | none => rw [hf] at h; cases h
    | some x =>
      obtain ⟨cj, f, t⟩ := x
      rw [hf] at h
      dsimp only at h
      rw [fq_n_eq, fq_n_eq, fq_n_eq, fq_n_eq] at h
      obtain ⟨hm, rfl⟩ := fq_cd h
      rw [Bool.and_eq_true] at hm
      intro go fr lo A S o
      refine fq_pf_eq (w := fun S => wr T F k (.putfield j) S) (fq_simple e hl rfl rfl go fr lo A S o) (fun x a r => ?_) hf (of_decide_eq_true hm.2)
      show (match pm_fld T (pm_o T k) j with
        | some (ci, f, _) => !(F.2 ci f) && (av_ids a).all (fun p => !(F.1 p))
        | none => false) = _
      rw [hf]
      dsimp only
      rw [hm.1, Bool.true_and]
  · rw [fq_n_eq] at h
    cases h
    exact fq_plain e hl rfl rfl (fun _ => rfl) (fun go fr lo A S o => fq_ald_eq _ go fr lo A S o)
  · rw [fq_n_eq] at h
    cases h
    exact fq_plain e hl rfl rfl (fun _ => rfl) (fun go fr lo A S o => fq_ald_eq _ go fr lo A S o)
  · rw [fq_n_eq] at h
    cases h
    exact fq_plain e hl rfl rfl (fun _ => rfl) (fun go fr lo A S o => fq_ald_eq _ go fr lo A S o)
  · rw [fq_n_eq] at h
    cases h
    intro go fr lo A S o
    exact fq_ast_eq (w := fun S => wr T F k .iastore S) (fq_simple e hl rfl rfl go fr lo A S o) (fun _ _ _ _ => rfl)
  · rw [fq_n_eq] at h
    cases h
    intro go fr lo A S o
    exact fq_ast_eq (w := fun S => wr T F k .castore S) (fq_simple e hl rfl rfl go fr lo A S o) (fun _ _ _ _ => rfl)
  · rw [fq_n_eq] at h
    cases h
    intro go fr lo A S o
    exact fq_ast_eq (w := fun S => wr T F k .bastore S) (fq_simple e hl rfl rfl go fr lo A S o) (fun _ _ _ _ => rfl)
  · cases hr : pm_ret T k with
    | none => rw [hr] at h; cases h
    | some ty =>
      rw [hr] at h
      have hend : ∀ A S o, aE_end T k (pc, A, S, o) = (match S with
          | [a] => if a.1 = 0 then (match some ty with
            | some .int => some (some a, o)
            | some .boolean => if 0 ≤ a.2.1 ∧ a.2.2 ≤ 1 then some (some a, o) else none
            | _ => none) else none
          | _ => none) := by
        intro A S o
        unfold aE_end
        dsimp only
        rw [e]
        dsimp only
        rw [if_pos hl, hr]
        match S with
        | [] => rfl
        | [a] => rfl
        | a :: b :: r => rfl
      split at h
      · rename_i e1
        cases e1
        cases h
        intro go fr lo A S o
        rw [fq_end e hl rfl (fun _ _ _ => rfl), hend]
        match S with
        | [] => rfl
        | a :: b :: r => rfl
        | [a] =>
          show Bool.rec (motive := fun _ => fqR) none (some (.inl (some a, o))) (Nat.beq a.1 0) = _
          dsimp only
          cases h1 : Nat.beq a.1 0 with
          | false => rw [if_neg (fq_beqN h1)]
          | true => rw [if_pos (Nat.eq_of_beq_eq_true h1)]
      · rename_i e1
        cases e1
        cases h
        intro go fr lo A S o
        rw [fq_end e hl rfl (fun _ _ _ => rfl), hend]
        match S with
        | [] => rfl
        | a :: b :: r => rfl
        | [a] =>
          show Bool.rec (motive := fun _ => fqR) none (some (.inl (some a, o))) (fq_and (Nat.beq a.1 0) (fq_and (fq_le (Int.ofNat 0) a.2.1) (fq_le a.2.2 (Int.ofNat 1)))) = _
          dsimp only
          rw [fq_and_eq, fq_and_eq]
          cases h1 : Nat.beq a.1 0 with
          | false => rw [if_neg (fq_beqN h1)]; rfl
          | true =>
            rw [if_pos (Nat.eq_of_beq_eq_true h1)]
            cases h2 : fq_le (Int.ofNat 0) a.2.1 with
            | false => rw [if_neg (fun q => fq_leN h2 q.1)]; rfl
            | true =>
              cases h3 : fq_le a.2.2 (Int.ofNat 1) with
              | false => rw [if_neg (fun q => fq_leN h3 q.2)]; rfl
              | true => rw [if_pos ⟨(fq_le_iff _ _).1 h2, (fq_le_iff _ _).1 h3⟩]; rfl
      · cases h
  · cases hr : pm_ret T k with
    | some ty => rw [hr] at h; cases h
    | none =>
      rw [hr] at h
      cases h
      intro go fr lo A S o
      rw [fq_end e hl rfl (fun _ _ _ => rfl)]
      have hend : aE_end T k (pc, A, S, o) = (match S with
          | [] => some (none, o)
          | _ => none) := by
        unfold aE_end
        dsimp only
        rw [e]
        dsimp only
        rw [if_pos hl, hr]
        match S with
        | [] => rfl
        | a :: r => rfl
      rw [hend]
      cases S <;> rfl
  · cases h
/-! calls -/
theorem fq_ne_call {x : Nat × Nat} (h : pm_callee T k i = some x) : fq_ne i = true := by
  unfold fq_ne
  split
  · cases (show (none : Option (Nat × Nat)) = some x from h)
  · cases (show (none : Option (Nat × Nat)) = some x from h)
  · cases (show (none : Option (Nat × Nat)) = some x from h)
  · rfl
noncomputable def fq_rcv (T : pm_Tab) (B : Nat → ac) (sz w t ci : Nat) (as : List av) (o : ah) : Bool := List.rec (motive := fun _ => Bool) false (fun a _ _ => fq_and (Nat.beq a.1 2) (Bool.rec (motive := fun _ => Bool) (aa_rcv T B sz w t as o) (fq_n (fq_nat a.2.1) (fun p => fq_and (Nat.blt p sz) (Sum.rec (motive := fun _ => Bool) (fun _ => false) (fun x => fq_and (Nat.beq x.1 ci) (Nat.blt x.1 1000)) (fq_fd B o p)))) (fq_1 a.2.2))) as
theorem fq_rcv_eq {w t : Nat} (hw : ¬ (w = 2 ∨ w = 3)) (as : List av) (o : ah) : fq_rcv T B sz w t (pm_ci T t) as o = aa_rcv T B sz w t as o := by
  unfold fq_rcv
  cases as with
  | nil => unfold aa_rcv; rw [if_neg hw]
  | cons a r =>
    dsimp only
    rw [fq_and_eq]
    cases h1 : fq_1 a.2.2 with
    | false =>
      dsimp only
      cases h2 : Nat.beq a.1 2 with
      | true => rfl
      | false =>
        unfold aa_rcv
        rw [if_neg hw]
        dsimp only
        rw [decide_eq_false (fq_beqN h2), Bool.false_and, Bool.false_and]
    | true =>
      dsimp only
      rw [fq_n_eq, fq_and_eq, fq_fd_eq]
      unfold aa_rcv
      rw [if_neg hw]
      dsimp only
      rw [fq_1_ids h1, List.all_cons, List.all_nil, Bool.and_true]
      have e1 : Nat.beq a.1 2 = decide (a.1 = 2) := Bool.eq_iff_iff.mpr ⟨fun q => decide_eq_true (Nat.eq_of_beq_eq_true q), fun q => by rw [of_decide_eq_true q]; rfl⟩
      have e2 : Nat.blt (fq_nat a.2.1) sz = decide (fq_nat a.2.1 < sz) := Bool.eq_iff_iff.mpr ⟨fun q => decide_eq_true (fq_blt q), fun q => Nat.ble_eq_true_of_le (of_decide_eq_true q)⟩
      rw [e1, e2]
      cases ah_get B o (fq_nat a.2.1) with
      | inl x => rfl
      | inr x =>
        obtain ⟨ci, fs⟩ := x
        dsimp only
        rw [fq_and_eq]
        have e3 : Nat.beq ci (pm_ci T t) = (ci == pm_ci T t) := Bool.eq_iff_iff.mpr ⟨fun q => beq_iff_eq.mpr (Nat.eq_of_beq_eq_true q), fun q => by rw [beq_iff_eq.mp q, Nat.beq_refl]⟩
        rw [e3]
noncomputable def fq_app {α : Type} (r l : List α) : List α := List.rec (motive := fun _ => List α) r (fun a _ ih => a :: ih) l
theorem fq_app_eq {α : Type} (r : List α) : ∀ l : List α, fq_app r l = l ++ r
  | [] => rfl
  | a :: l => congrArg (fun z => a :: z) (fq_app_eq r l)
noncomputable def fq_map {α β : Type} (f : α → β) (l : List α) : List β := List.rec (motive := fun _ => List β) [] (fun a _ ih => f a :: ih) l
theorem fq_map_eq {α β : Type} (f : α → β) : ∀ l : List α, fq_map f l = l.map f
  | [] => rfl
  | a :: r => congrArg (fun z => f a :: z) (fq_map_eq f r)
/-- a state behind a call -/
noncomputable def fq_bk (q : Nat) (A : List (Option av)) (S : List av) (r : ar) : ast := fq_sp (fq_app S (Option.rec (motive := fun _ => List av) [] (fun v => [v]) r.1)) (fun S => fq_sp r.2 (fun o => (q, A, S, o)))
theorem fq_bk_eq (q : Nat) (A : List (Option av)) (S : List av) (r : ar) : fq_bk q A S r = (q, A, r.1.toList ++ S, r.2) := by
  obtain ⟨r1, r2⟩ := r
  unfold fq_bk
  rw [fq_sp_eq, fq_sp_eq, fq_app_eq]
  cases r1 <;> rfl
noncomputable def fq_call (T : pm_Tab) (rv : List av → ah → Bool) (t na mx q : Nat) : fqF := fun go fr lo A S o => Bool.rec (motive := fun _ => fqR) none (Option.rec (motive := fun _ => fqR) none (fun R => some (.inr (fq_map (fq_bk q A (S.drop na)) R))) (fq_n (fr - 1) (fun fr => fq_n (lo - (19 + mx)) (fun lo => go fr lo t (S.take na).reverse o)))) (fq_and (Nat.ble na S.length) (fq_and (rv (S.take na).reverse o) (fq_and (Nat.ble (aa_sum (S.drop na)) 8) (fq_and (Nat.ble (aa_args (S.take na).reverse).length mx) (fq_and (Nat.ble 1 fr) (Nat.ble (19 + mx) lo))))))
theorem fq_bleN {a b : Nat} (h : Nat.ble a b = false) : ¬ a ≤ b := fun q => by rw [Nat.ble_eq_true_of_le q] at h; cases h
theorem fq_call_ok (e : pm_ins T k pc = some (i, len)) (hl : pm_lenOk i len = true) {w t : Nat} (hc : pm_callee T k i = some (w, t)) {rv : List av → ah → Bool} (hr : ∀ as o, rv as o = aa_rcv T B sz w t as o) : fq_ok T B sz F k pc (fq_call T rv t (pm_na T t) (pm_max T t) (pc + 3)) := by
  intro go fr lo A S o
  have hcd : aa_cd T B sz k (pc, A, S, o) = if pm_na T t ≤ S.length ∧ aa_rcv T B sz w t (S.take (pm_na T t)).reverse o = true ∧ aa_sum (S.drop (pm_na T t)) ≤ 8 ∧ (aa_args (S.take (pm_na T t)).reverse).length ≤ pm_max T t then some (t, (S.take (pm_na T t)).reverse, S.drop (pm_na T t)) else none := by
    unfold aa_cd
    dsimp only
    rw [e]
    dsimp only
    rw [if_pos hl, hc]
  have hno : ∀ x, aa_cd T B sz k (pc, A, S, o) = none → (match (match pm_ins T k pc with
      | none => none
      | some (i, len) => cond (wr T F k i S) (if pm_lenOk i len = true ∧ pm_callee T k i = none then aa_simple T B sz fr lo k i (pc, A, S, o) else none) none : Option (List ast)) with
      | some ss => some (.inr ss)
      | none => none : fqR) = x → x = none := by
    intro x _ hx
    rw [← hx, e]
    dsimp only
    rw [if_neg (fun q => by rw [hc] at q; cases q.2)]
    cases wr T F k i S <;> rfl
  unfold fq_call cx_one
  rw [fq_noend e (fq_ne_call hc)]
  dsimp only
  unfold aa_stepF
  rw [hcd, hr, fq_n_eq, fq_n_eq, fq_and_eq, fq_and_eq, fq_and_eq, fq_and_eq, fq_and_eq]
  by_cases g : pm_na T t ≤ S.length ∧ aa_rcv T B sz w t (S.take (pm_na T t)).reverse o = true ∧ aa_sum (S.drop (pm_na T t)) ≤ 8 ∧ (aa_args (S.take (pm_na T t)).reverse).length ≤ pm_max T t
  · rw [if_pos g, Nat.ble_eq_true_of_le g.1, g.2.1, Nat.ble_eq_true_of_le g.2.2.1, Nat.ble_eq_true_of_le g.2.2.2]
    dsimp only
    rw [Bool.true_and, Bool.true_and, Bool.true_and, Bool.true_and]
    cases h1 : Nat.ble 1 fr with
    | false => rw [if_neg (fun q => fq_bleN h1 q.1)]; rfl
    | true =>
      cases h2 : Nat.ble (19 + pm_max T t) lo with
      | false => rw [if_neg (fun q => fq_bleN h2 q.2)]; rfl
      | true =>
        rw [if_pos ⟨Nat.le_of_ble_eq_true h1, Nat.le_of_ble_eq_true h2⟩]
        show Option.rec (motive := fun _ => fqR) none (fun R => some (.inr (fq_map (fq_bk (pc + 3) A (S.drop (pm_na T t))) R))) (go (fr - 1) (lo - (19 + pm_max T t)) t (S.take (pm_na T t)).reverse o) = _
        cases go (fr - 1) (lo - (19 + pm_max T t)) t (S.take (pm_na T t)).reverse o with
        | none => rfl
        | some R =>
          show (some (.inr (fq_map (fq_bk (pc + 3) A (S.drop (pm_na T t))) R)) : fqR) = some (.inr (R.map (fun r => (pc + 3, A, r.1.toList ++ S.drop (pm_na T t), r.2))))
          rw [fq_map_eq, (funext fun r => fq_bk_eq (pc + 3) A (S.drop (pm_na T t)) r : fq_bk (pc + 3) A (S.drop (pm_na T t)) = fun r => (pc + 3, A, r.1.toList ++ S.drop (pm_na T t), r.2))]
  · have hz : (Nat.ble (pm_na T t) S.length && (aa_rcv T B sz w t (S.take (pm_na T t)).reverse o && (Nat.ble (aa_sum (S.drop (pm_na T t))) 8 && (Nat.ble (aa_args (S.take (pm_na T t)).reverse).length (pm_max T t) && (Nat.ble 1 fr && Nat.ble (19 + pm_max T t) lo))))) = false := by
      rw [Bool.eq_false_iff]
      intro q
      rw [Bool.and_eq_true, Bool.and_eq_true, Bool.and_eq_true, Bool.and_eq_true] at q
      exact g ⟨Nat.le_of_ble_eq_true q.1, q.2.1, Nat.le_of_ble_eq_true q.2.2.1, Nat.le_of_ble_eq_true q.2.2.2.1⟩
    rw [hz, if_neg g]
    exact (hno _ (by rw [hcd, if_neg g]) rfl).symm
/-- the step at a place, made ready -/
noncomputable def fq_c (T : pm_Tab) (B : Nat → ac) (sz : Nat) (F : fr_F) (k pc : Nat) : Option fqF := match pm_ins T k pc with
  | none => none
  | some (i, len) => cond (pm_lenOk i len) (match pm_callee T k i with
    | some (w, t) => fq_n t (fun t => fq_n (pm_na T t) (fun na => fq_n (pm_max T t) (fun mx => fq_n (pc + 3) (fun q => cond (Nat.beq w 2 || Nat.beq w 3) (some (fq_call T (fun _ _ => true) t na mx q)) (fq_n (pm_ci T t) (fun ci => some (fq_call T (fq_rcv T B sz w t ci) t na mx q)))))))
    | none => (match fq_d1 T k pc i with
      | some f => some f
      | none => (match fq_d2 T B sz k pc i with
        | some f => some f
        | none => (match fq_d3 T B sz F k pc i with
          | some f => some f
          | none => some (fq_slow T B sz F k pc))))) (some (fq_slow T B sz F k pc))
noncomputable def fq_one (T : pm_Tab) (B : Nat → ac) (sz : Nat) (F : fr_F) (go : fqG) (fr lo k : Nat) (s : ast) : fqR := fq_4 s (fun pc A S o => fq_n pc (fun pc => Option.rec (motive := fun _ => fqR) none (fun f => f go fr lo A S o) (fq_c T B sz F k pc)))
theorem fq_one_eq (go : fqG) (fr lo : Nat) (s : ast) : fq_one T B sz F go fr lo k s = cx_one T B sz F go fr lo k s := by
  obtain ⟨pc, A, S, o⟩ := s
  unfold fq_one
  rw [fq_4_eq, fq_n_eq]
  dsimp only
  unfold fq_c
  cases e : pm_ins T k pc with
  | none =>
    dsimp only
    unfold cx_one aE_end aa_stepF aa_cd
    dsimp only
    rw [e]
  | some x =>
    obtain ⟨i, len⟩ := x
    dsimp only
    cases hl : pm_lenOk i len with
    | false => rfl
    | true =>
      dsimp only [cond]
      cases hc : pm_callee T k i with
      | some x =>
        obtain ⟨w, t⟩ := x
        dsimp only
        rw [fq_n_eq, fq_n_eq, fq_n_eq, fq_n_eq]
        cases hw : Nat.beq w 2 || Nat.beq w 3 with
        | true =>
          dsimp only [cond]
          refine fq_call_ok e hl hc (fun as o => ?_) go fr lo A S o
          unfold aa_rcv
          rw [Bool.or_eq_true] at hw
          rw [if_pos (hw.imp Nat.eq_of_beq_eq_true Nat.eq_of_beq_eq_true)]
        | false =>
          dsimp only [cond]
          rw [fq_n_eq]
          refine fq_call_ok e hl hc (fun as o => fq_rcv_eq (fun q => ?_) as o) go fr lo A S o
          rw [Bool.or_eq_false_iff] at hw
          exact q.elim (fq_beqN hw.1) (fq_beqN hw.2)
      | none =>
        dsimp only
        cases h1 : fq_d1 T k pc i with
        | some f => exact fq_d1_ok e hl h1 go fr lo A S o
        | none =>
          dsimp only
          cases h2 : fq_d2 T B sz k pc i with
          | some f => exact fq_d2_ok e hl h2 go fr lo A S o
          | none =>
            dsimp only
            cases h3 : fq_d3 T B sz F k pc i with
            | some f => exact fq_d3_ok e hl h3 go fr lo A S o
            | none => rfl
/-! whole runs -/
noncomputable def fq_each (f : ast → fqR) (l : List ast) : Option (List ar × List ast) := List.rec (motive := fun _ => Option (List ar × List ast)) (some ([], [])) (fun s _ ih => Option.rec (motive := fun _ => Option (List ar × List ast)) none (fun x => Option.rec (motive := fun _ => Option (List ar × List ast)) none (fun p => Sum.rec (motive := fun _ => Option (List ar × List ast)) (fun a => some (a :: p.1, p.2)) (fun ss => some (p.1, fq_app p.2 ss)) x) ih) (f s)) l
theorem fq_each_eq (f : ast → fqR) : ∀ l : List ast, fq_each f l = cx_each f l
  | [] => rfl
  | s :: r => by
    have h := fq_each_eq f r
    unfold cx_each
    rw [← h]
    show Option.rec (motive := fun _ => Option (List ar × List ast)) none (fun x => Option.rec (motive := fun _ => Option (List ar × List ast)) none (fun p => Sum.rec (motive := fun _ => Option (List ar × List ast)) (fun a => some (a :: p.1, p.2)) (fun ss => some (p.1, fq_app p.2 ss)) x) (fq_each f r)) (f s) = _
    cases f s with
    | none => rfl
    | some x =>
      cases x with
      | inl a =>
        cases fq_each f r with
        | none => rfl
        | some p => rfl
      | inr ss =>
        cases fq_each f r with
        | none => rfl
        | some p =>
          obtain ⟨A, S⟩ := p
          show some (A, fq_app S ss) = some (A, ss ++ S)
          rw [fq_app_eq]
noncomputable def fq_avcut (cs : List Int) (a : av) : List av := List.rec (motive := fun _ => av → List av) (fun a => [a]) (fun c _ ih a => Bool.rec (motive := fun _ => List av) (ih a) (fq_n a.1 (fun t => fq_i c (fun c => (t, a.2.1, c) :: fq_i (c + 1) (fun d => ih (t, d, a.2.2))))) (fq_and (fq_le a.2.1 c) (fq_lt c a.2.2))) cs a
theorem fq_avcut_eq : ∀ (cs : List Int) (a : av), fq_avcut cs a = av_cut cs a
  | [], a => rfl
  | c :: r, a => by
    have h1 := fq_avcut_eq r a
    have h2 := fq_avcut_eq r (a.1, c + 1, a.2.2)
    unfold av_cut
    show Bool.rec (motive := fun _ => List av) (fq_avcut r a) (fq_n a.1 (fun t => fq_i c (fun c => (t, a.2.1, c) :: fq_i (c + 1) (fun d => fq_avcut r (t, d, a.2.2))))) (fq_and (fq_le a.2.1 c) (fq_lt c a.2.2)) = _
    rw [fq_and_eq, fq_n_eq, fq_i_eq, fq_i_eq, h1, h2]
    cases g1 : fq_le a.2.1 c with
    | false => rw [if_neg (fun q => fq_leN g1 q.1)]; rfl
    | true =>
      cases g2 : fq_lt c a.2.2 with
      | false => rw [if_neg (fun q => fq_ltN g2 q.2)]; rfl
      | true => rw [if_pos ⟨(fq_le_iff _ _).1 g1, (fq_lt_iff _ _).1 g2⟩]; rfl
noncomputable def fq_sploc (x : Nat) (cs : List Int) (s : ast) : List ast := fq_4 s (fun pc A S o => Option.rec (motive := fun _ => List ast) [s] (fun a => Bool.rec (motive := fun _ => List ast) [s] (fq_map (fun w => fq_sp (fq_set (some w) A x) (fun A => (pc, A, S, o))) (fq_avcut cs a)) (Nat.ble a.1 1)) (fq_get A x))
theorem fq_sploc_eq (x : Nat) (cs : List Int) (s : ast) : fq_sploc x cs s = sp_loc x cs s := by
  unfold fq_sploc sp_loc
  rw [fq_4_eq, fq_get_eq]
  unfold aA_get
  cases s.2.1[x]? with
  | none => rfl
  | some b =>
    cases b with
    | none => rfl
    | some a =>
      dsimp only
      rw [fq_map_eq, fq_avcut_eq]
      have h : (fun w : av => fq_sp (fq_set (some w) s.2.1 x) (fun A => (s.1, A, s.2.2.1, s.2.2.2))) = fun w => (s.1, s.2.1.set x (some w), s.2.2.1, s.2.2.2) := funext fun w => by rw [fq_sp_eq, fq_set_eq]
      rw [h]
      cases g : Nat.ble a.1 1 with
      | false => rw [if_neg (fun q => by rw [Nat.ble_eq_true_of_le q] at g; cases g)]
      | true => rw [if_pos (Nat.le_of_ble_eq_true g)]
noncomputable def fq_spdo (B : Nat → ac) (sz : Nat) (p : sp) (s : ast) : List ast := Nat.rec (motive := fun _ => List ast) (fq_sploc p.2.1 p.2.2.2.2 s) (fun _ _ => sp_do B sz p s) p.1
theorem fq_spdo_eq (p : sp) (s : ast) : fq_spdo B sz p s = sp_do B sz p s := by
  obtain ⟨n, p⟩ := p
  cases n with
  | zero => exact fq_sploc_eq _ _ _
  | succ n => rfl
noncomputable def fq_flat (f : ast → List ast) (l : List ast) : List ast := List.rec (motive := fun _ => List ast) [] (fun a _ ih => fq_app ih (f a)) l
theorem fq_flat_eq (f : ast → List ast) : ∀ l : List ast, fq_flat f l = l.flatMap f
  | [] => rfl
  | a :: r => by
    rw [List.flatMap_cons, ← fq_flat_eq f r, ← fq_app_eq]
    rfl
noncomputable def fq_spall (B : Nat → ac) (sz : Nat) (ps : List sp) (ss : List ast) : List ast := List.rec (motive := fun _ => List ast → List ast) (fun ss => ss) (fun p _ ih ss => ih (fq_flat (fq_spdo B sz p) ss)) ps ss
theorem fq_spall_eq : ∀ (ps : List sp) (ss : List ast), fq_spall B sz ps ss = sp_all B sz ps ss
  | [], ss => rfl
  | p :: r, ss => by
    unfold sp_all
    rw [← fq_spall_eq r, ← fq_flat_eq, ← (funext fun s => fq_spdo_eq p s : fq_spdo B sz p = sp_do B sz p)]
    rfl
noncomputable def fq_cut (B : Nat → ac) (sz : Nat) (s : ast) (ps : List sp) : List ast := List.rec (motive := fun _ => List ast) [s] (fun _ _ _ => fq_spall B sz ps [s]) ps
theorem fq_cut_eq (s : ast) (ps : List sp) : fq_cut B sz s ps = sp_all B sz ps [s] := by
  cases ps with
  | nil => rfl
  | cons p r =>
    show fq_spall B sz (p :: r) [s] = _
    exact fq_spall_eq _ _
noncomputable def fq_go (K : kn) (T : pm_Tab) (ih : Nat → Nat → Nat → List ast → List ar → Option (List ar)) : fqG := fun fr lo t as o => Option.rec (motive := fun _ => Option (List ar)) (ih fr lo t [(0, aa_l0 as (pm_max T t), [], o)] []) (fun x => Bool.rec (motive := fun _ => Option (List ar)) none (some x.1) (fq_and (Nat.ble x.2.1 fr) (Nat.ble x.2.2 lo))) (K t as o)
theorem fq_go_eq {K : kn} {ih ih' : Nat → Nat → Nat → List ast → List ar → Option (List ar)} (h : ih = ih') : fq_go K T ih = fun fr lo t as o => match K t as o with
    | some (Rc, Fr, Lo) => if Fr ≤ fr ∧ Lo ≤ lo then some Rc else none
    | none => ih' fr lo t [(0, aa_l0 as (pm_max T t), [], o)] [] := by
  subst h
  funext fr lo t as o
  unfold fq_go
  cases K t as o with
  | none => rfl
  | some x =>
    obtain ⟨Rc, Fr, Lo⟩ := x
    dsimp only
    rw [fq_and_eq]
    cases h1 : Nat.ble Fr fr with
    | false => rw [if_neg (fun q => fq_bleN h1 q.1)]; rfl
    | true =>
      cases h2 : Nat.ble Lo lo with
      | false => rw [if_neg (fun q => fq_bleN h2 q.2)]; rfl
      | true => rw [if_pos ⟨Nat.le_of_ble_eq_true h1, Nat.le_of_ble_eq_true h2⟩]; rfl
noncomputable def fq_r (B : Nat → ac) (r q : ar) : Option ar := Option.rec (motive := fun _ => Option ar) none (fun o => Option.rec (motive := fun _ => Option ar) (Option.rec (motive := fun _ => Option ar) (some (none, o)) (fun _ => none) q.1) (fun a => Option.rec (motive := fun _ => Option ar) none (fun b => Option.rec (motive := fun _ => Option ar) none (fun c => some (some c, o)) (fq_join a b)) q.1) r.1) (fq_h B r.2 q.2)
theorem fq_r_eq (r q : ar) : fq_r B r q = aj_r B r q := by
  obtain ⟨r1, r2⟩ := r
  obtain ⟨q1, q2⟩ := q
  unfold fq_r aj_r
  dsimp only
  rw [fq_h_eq]
  cases aj_h B r2 q2 with
  | none => cases r1 <;> cases q1 <;> rfl
  | some o =>
    cases r1 with
    | none => cases q1 <;> rfl
    | some a =>
      cases q1 with
      | none => rfl
      | some b =>
        dsimp only
        rw [fq_join_eq]
        cases av_join a b <;> rfl
noncomputable def fq_out (B : Nat → ac) (jo : ar → ar → Bool) (r : ar) (R : List ar) : List ar := List.rec (motive := fun _ => List ar) [r] (fun q R ih => Bool.rec (motive := fun _ => List ar) (q :: ih) (Option.rec (motive := fun _ => List ar) (q :: ih) (fun u => u :: R) (fq_r B r q)) (jo r q)) R
theorem fq_out_eq (jo : ar → ar → Bool) (r : ar) : ∀ R : List ar, fq_out B jo r R = cx_out B jo r R
  | [] => rfl
  | q :: R => by
    have h := fq_out_eq jo r R
    unfold cx_out
    rw [← h, ← fq_r_eq]
    show Bool.rec (motive := fun _ => List ar) (q :: fq_out B jo r R) (Option.rec (motive := fun _ => List ar) (q :: fq_out B jo r R) (fun u => u :: R) (fq_r B r q)) (jo r q) = _
    cases jo r q with
    | false => rfl
    | true => cases fq_r B r q <;> rfl
noncomputable def fq_outs (B : Nat → ac) (jo : ar → ar → Bool) (A R : List ar) : List ar := List.rec (motive := fun _ => List ar → List ar) (fun R => R) (fun a _ ih R => ih (fq_out B jo a R)) A R
theorem fq_outs_eq (jo : ar → ar → Bool) : ∀ A R : List ar, fq_outs B jo A R = cx_outs B jo A R
  | [], R => rfl
  | a :: r, R => by
    unfold cx_outs
    rw [← fq_outs_eq jo r, ← fq_out_eq]
    rfl
/-- a step behind which the kernel starts anew -/
noncomputable def fq_t (ih : Nat → Nat → Nat → List ast → List ar → Option (List ar)) (fr lo k : Nat) (W : List ast) (R : List ar) : Option (List ar) := ih fr lo k W R
noncomputable def fq_k (B : Nat → ac) (J : Nat → ast → ast → Bool) (jo : Nat → ar → ar → Bool) (ih : Nat → Nat → Nat → List ast → List ar → Option (List ar)) (fr lo k : Nat) (W : List ast) (R : List ar) (p : List ar × List ast) : Option (List ar) := Prod.rec (motive := fun _ => Option (List ar)) (fun A ss => fq_sp (fq_insA B (J k) ss W) (fun W => List.rec (motive := fun _ => Option (List ar)) (fq_t ih fr lo k W R) (fun _ _ _ => fq_sp (fq_outs B (jo k) A R) (fun R => fq_t ih fr lo k W R)) A)) p
theorem fq_k_eq (J : Nat → ast → ast → Bool) (jo : Nat → ar → ar → Bool) (ih : Nat → Nat → Nat → List ast → List ar → Option (List ar)) (fr lo k : Nat) (W : List ast) (R : List ar) (A : List ar) (ss : List ast) : fq_k B J jo ih fr lo k W R (A, ss) = ih fr lo k (cx_all B (J k) ss W) (cx_outs B (jo k) A R) := by
  show fq_sp (fq_insA B (J k) ss W) (fun W => List.rec (motive := fun _ => Option (List ar)) (fq_t ih fr lo k W R) (fun _ _ _ => fq_sp (fq_outs B (jo k) A R) (fun R => fq_t ih fr lo k W R)) A) = _
  rw [fq_sp_eq, fq_insA_eq, ← fq_outs_eq]
  cases A with
  | nil => rfl
  | cons a A =>
    show fq_sp (fq_outs B (jo k) (a :: A) R) (fun R => fq_t ih fr lo k (cx_all B (J k) ss W) R) = _
    rw [fq_sp_eq]
    rfl
noncomputable def fq_run (K : kn) (T : pm_Tab) (B : Nat → ac) (sz : Nat) (F : fr_F) (J : Nat → ast → ast → Bool) (jo : Nat → ar → ar → Bool) (P : Nat → Nat → List sp) (n : Nat) : Nat → Nat → Nat → List ast → List ar → Option (List ar) := Nat.rec (motive := fun _ => Nat → Nat → Nat → List ast → List ar → Option (List ar)) (fun _ _ _ _ _ => none) (fun _ ih fr lo k W R => List.rec (motive := fun _ => Option (List ar)) (some R) (fun s W _ => Option.rec (motive := fun _ => Option (List ar)) none (fun p => fq_k B J jo ih fr lo k W R p) (fq_each (fq_one T B sz F (fq_go K T ih) fr lo k) (fq_cut B sz s (fq_n s.1 (P k))))) W) n
theorem fq_run_eq (K : kn) (T : pm_Tab) (B : Nat → ac) (sz : Nat) (F : fr_F) (J : Nat → ast → ast → Bool) (jo : Nat → ar → ar → Bool) (P : Nat → Nat → List sp) : ∀ n : Nat, fq_run K T B sz F J jo P n = cx_run K T B sz F J jo P n
  | 0 => by
    funext fr lo k W R
    unfold cx_run
    rfl
  | n + 1 => by
    have h := fq_run_eq K T B sz F J jo P n
    funext fr lo k W R
    unfold cx_run
    show List.rec (motive := fun _ => Option (List ar)) (some R) (fun s W _ => Option.rec (motive := fun _ => Option (List ar)) none (fun p => fq_k B J jo (fq_run K T B sz F J jo P n) fr lo k W R p) (fq_each (fq_one T B sz F (fq_go K T (fq_run K T B sz F J jo P n)) fr lo k) (fq_cut B sz s (fq_n s.1 (P k))))) W = _
    cases W with
    | nil => rfl
    | cons s W =>
      dsimp only
      have hf : fq_one T B sz F (fq_go K T (fq_run K T B sz F J jo P n)) fr lo k = cx_one T B sz F (fun fr lo t as o => match K t as o with
          | some (Rc, Fr, Lo) => if Fr ≤ fr ∧ Lo ≤ lo then some Rc else none
          | none => cx_run K T B sz F J jo P n fr lo t [(0, aa_l0 as (pm_max T t), [], o)] []) fr lo k := by
        funext s
        rw [fq_one_eq, fq_go_eq h]
      rw [hf, fq_each_eq, fq_cut_eq, fq_n_eq, h]
      cases cx_each (cx_one T B sz F (fun fr lo t as o => match K t as o with
          | some (Rc, Fr, Lo) => if Fr ≤ fr ∧ Lo ≤ lo then some Rc else none
          | none => cx_run K T B sz F J jo P n fr lo t [(0, aa_l0 as (pm_max T t), [], o)] []) fr lo k) (sp_all B sz (P k s.1) [s]) with
      | none => rfl
      | some p =>
        obtain ⟨A, ss⟩ := p
        exact fq_k_eq J jo _ fr lo k W R A ss
/-! known callees -/
noncomputable def fq_len {α : Type} (l : List α) : Nat := List.rec (motive := fun _ => Nat) 0 (fun _ _ ih => Nat.succ ih) l
theorem fq_len_eq {α : Type} : ∀ l : List α, fq_len l = l.length
  | [] => rfl
  | a :: r => by rw [List.length_cons, ← fq_len_eq r]; rfl
noncomputable def fq_mgl {β : Type} (F : fr_F) (ci : Nat) (as : List av) (f : Nat) (ds : List av) (k : List av → β) : β := List.rec (motive := fun _ => Nat → List av → (List av → β) → β) (fun _ ds k => k ds) (fun a _ ih f ds k => List.rec (motive := fun _ => β) (k []) (fun d t _ => Bool.rec (motive := fun _ => β) (ih (Nat.succ f) t (fun r => k (d :: r))) (ih (Nat.succ f) t (fun r => k (a :: r))) (F.2 ci f)) ds) as f ds k
theorem fq_mgl_eq {β : Type} (ci : Nat) : ∀ (as : List av) (f : Nat) (ds : List av) (k : List av → β), fq_mgl F ci as f ds k = k (mgl F ci f as ds)
  | [], f, ds, k => by cases ds <;> rfl
  | a :: r, f, [], k => rfl
  | a :: r, f, d :: t, k => by
    have h := fun k => fq_mgl_eq (β := β) ci r (f + 1) t k
    unfold mgl
    show Bool.rec (motive := fun _ => β) (fq_mgl F ci r (f + 1) t (fun r => k (d :: r))) (fq_mgl F ci r (f + 1) t (fun r => k (a :: r))) (F.2 ci f) = _
    rw [h, h]
    cases F.2 ci f <;> rfl
noncomputable def fq_mg (F : fr_F) (i : Nat) (a d : ac) : ac := Bool.rec (motive := fun _ => ac) (Sum.rec (motive := fun _ => ac) (fun _ => d) (fun x => Sum.rec (motive := fun _ => ac) (fun _ => d) (fun y => Bool.rec (motive := fun _ => ac) d (fq_n x.1 (fun ci => fq_mgl F ci x.2 0 y.2 (fun l => .inr (ci, l)))) (fq_and (Nat.beq x.1 y.1) (fq_and (Nat.blt x.1 1000) (fq_sl x.2 y.2)))) d) a) a (F.1 i)
theorem fq_mg_eq (i : Nat) (a d : ac) : fq_mg F i a d = mg F i a d := by
  unfold fq_mg mg
  cases F.1 i with
  | true => rfl
  | false =>
    cases a with
    | inl x => cases d <;> rfl
    | inr x =>
      cases d with
      | inl y => rfl
      | inr y =>
        obtain ⟨ci, as⟩ := x
        obtain ⟨cj, ds⟩ := y
        dsimp only [cond]
        rw [fq_and_eq, fq_and_eq, fq_n_eq, fq_mgl_eq]
        have e : fq_sl as ds = Nat.beq as.length ds.length := Bool.eq_iff_iff.mpr ((fq_sl_iff as ds).trans ⟨fun q => (by rw [q, Nat.beq_refl]), fun q => Nat.eq_of_beq_eq_true q⟩)
        rw [e]
        cases Nat.beq ci cj && (Nat.blt ci 1000 && Nat.beq as.length ds.length) <;> rfl
noncomputable def fq_mgk (F : fr_F) (e : Nat × ac) : Bool := Bool.rec (motive := fun _ => Bool) (Sum.rec (motive := fun _ => Bool) (fun _ => false) (fun x => fq_n x.1 (fun ci => fq_n (fq_len x.2) (fun n => hasP F ci n))) e.2) true (F.1 e.1)
theorem fq_mgk_eq (e : Nat × ac) : fq_mgk F e = mg_key F e := by
  obtain ⟨j, c⟩ := e
  unfold fq_mgk mg_key
  dsimp only
  cases F.1 j with
  | true => rfl
  | false =>
    cases c with
    | inl x => rfl
    | inr x =>
      obtain ⟨ci, as⟩ := x
      dsimp only [cond]
      rw [fq_n_eq, fq_n_eq, fq_len_eq]
noncomputable def fq_kp (F : fr_F) (r : List Nat) (o : ah) : List Nat := List.rec (motive := fun _ => List Nat) r (fun e _ ih => Bool.rec (motive := fun _ => List Nat) ih (e.1 :: ih) (fq_mgk F e)) o
theorem fq_kp_eq (r : List Nat) : ∀ o : ah, fq_kp F r o = (o.filter (mg_key F)).map (fun e => e.1) ++ r
  | [] => rfl
  | e :: t => by
    have h := fq_kp_eq r t
    show Bool.rec (motive := fun _ => List Nat) (fq_kp F r t) (e.1 :: fq_kp F r t) (fq_mgk F e) = _
    rw [fq_mgk_eq, h]
    cases hk : mg_key F e with
    | true => rw [List.filter_cons_of_pos hk]; rfl
    | false => rw [List.filter_cons_of_neg (by rw [hk]; exact Bool.false_ne_true)]
noncomputable def fq_mrg {β : Type} (B : Nat → ac) (F : fr_F) (o o' : ah) (is : List Nat) (k : ah → β) : β := List.rec (motive := fun _ => (ah → β) → β) (fun k => k []) (fun i _ ih k => fq_n i (fun i => Sum.rec (motive := fun _ => β) (fun x => ih (fun r => k ((i, .inl x) :: r))) (fun x => ih (fun r => k ((i, .inr x) :: r))) (fq_mg F i (fq_fd B o i) (fq_fd B o' i)))) is k
theorem fq_mrg_at {β : Type} (o o' : ah) : ∀ (is : List Nat) (k : ah → β), fq_mrg B F o o' is k = k (is.map (fun i => (i, mg F i (ah_get B o i) (ah_get B o' i))))
  | [], k => rfl
  | i :: r, k => by
    have h := fun k => fq_mrg_at (β := β) o o' r k
    rw [List.map_cons]
    show fq_n i (fun i => Sum.rec (motive := fun _ => β) (fun x => fq_mrg B F o o' r (fun r => k ((i, .inl x) :: r))) (fun x => fq_mrg B F o o' r (fun r => k ((i, .inr x) :: r))) (fq_mg F i (fq_fd B o i) (fq_fd B o' i))) = _
    rw [fq_n_eq, fq_mg_eq, fq_fd_eq, fq_fd_eq]
    cases mg F i (ah_get B o i) (ah_get B o' i) with
    | inl x => exact h _
    | inr x => exact h _
theorem fq_mrg_eq {β : Type} (o o' : ah) (k : ah → β) : fq_mrg B F o o' (fq_kp F (fq_keys o' []) o) k = k (con_mrg B F o o') := by
  rw [fq_mrg_at, fq_kp_eq, fq_keys_eq, List.append_nil]
  rfl
noncomputable def fq_kl (B : Nat → ac) (F : fr_F) (l : List con) : kn := fun t as o => List.rec (motive := fun _ => Option (List ar × Nat × Nat)) none (fun c _ ih => Bool.rec (motive := fun _ => Option (List ar × Nat × Nat)) ih (some (Bool.rec (motive := fun _ => List ar) (fq_mrg B F o c.2.2.2.2.1 (fq_kp F (fq_keys c.2.2.2.2.1 []) o) (fun o1 => fq_map (fun a => (a, o1)) c.2.2.2.1)) (fq_map (fun a => (a, o)) c.2.2.2.1) c.2.2.2.2.2.2.2, c.2.2.2.2.2.1, c.2.2.2.2.2.2.1)) (fq_and (Nat.beq t c.1) (fq_and (fq_alle as c.2.1) (fq_ahle B o c.2.2.1)))) l
theorem fq_kl_at (t : Nat) (as : List av) (o : ah) : ∀ l : List con, fq_kl B F l t as o = kl B F l t as o
  | [] => rfl
  | c :: r => by
    have h := fq_kl_at t as o r
    unfold kl con_use
    rw [← h]
    show Bool.rec (motive := fun _ => Option (List ar × Nat × Nat)) (fq_kl B F r t as o) (some (Bool.rec (motive := fun _ => List ar) (fq_mrg B F o c.2.2.2.2.1 (fq_kp F (fq_keys c.2.2.2.2.1 []) o) (fun o1 => fq_map (fun a => (a, o1)) c.2.2.2.1)) (fq_map (fun a => (a, o)) c.2.2.2.1) c.2.2.2.2.2.2.2, c.2.2.2.2.2.1, c.2.2.2.2.2.2.1)) (fq_and (Nat.beq t c.1) (fq_and (fq_alle as c.2.1) (fq_ahle B o c.2.2.1))) = _
    rw [fq_and_eq, fq_and_eq, fq_alle_eq, fq_ahle_eq, fq_mrg_eq, fq_map_eq, fq_map_eq]
    cases Nat.beq t c.1 && (al_le as c.2.1 && ah_le B o c.2.2.1) with
    | false => rfl
    | true =>
      dsimp only [cond]
      cases c.2.2.2.2.2.2.2 <;> rfl
theorem fq_kl_eq (l : List con) : fq_kl B F l = kl B F l := funext fun t => funext fun as => funext fun o => fq_kl_at t as o l
noncomputable def fq_or (K K' : kn) : kn := fun t as o => Option.rec (motive := fun _ => Option (List ar × Nat × Nat)) (K' t as o) (fun x => some x) (K t as o)
theorem fq_or_eq {K K1 K' : kn} (h : K = K1) : fq_or K K' = kn_or K1 K' := by
  subst h
  funext t as o
  unfold fq_or kn_or
  cases K t as o <;> rfl
noncomputable def fq_fin (B : Nat → ac) (c : con) (R : Option (List ar)) : Bool := Option.rec (motive := fun _ => Bool) false (fun R => fq_all (fun r => fq_and (c.2.2.2.1.any (fun a => ao_le r.1 a)) (Bool.rec (motive := fun _ => Bool) (fq_ahle B r.2 c.2.2.2.2.1) true c.2.2.2.2.2.2.2)) R) R
theorem fq_fin_eq (c : con) (R : Option (List ar)) : fq_fin B c R = (match R with
    | some R => R.all (fun r => c.2.2.2.1.any (fun a => ao_le r.1 a) && (c.2.2.2.2.2.2.2 || ah_le B r.2 c.2.2.2.2.1))
    | none => false) := by
  cases R with
  | none => rfl
  | some R =>
    show fq_all (fun r => fq_and (c.2.2.2.1.any (fun a => ao_le r.1 a)) (Bool.rec (motive := fun _ => Bool) (fq_ahle B r.2 c.2.2.2.2.1) true c.2.2.2.2.2.2.2)) R = _
    rw [fq_all_eq]
    have h : (fun r : ar => fq_and (c.2.2.2.1.any (fun a => ao_le r.1 a)) (Bool.rec (motive := fun _ => Bool) (fq_ahle B r.2 c.2.2.2.2.1) true c.2.2.2.2.2.2.2)) = fun r => c.2.2.2.1.any (fun a => ao_le r.1 a) && (c.2.2.2.2.2.2.2 || ah_le B r.2 c.2.2.2.2.1) := funext fun r => by
      rw [fq_and_eq, fq_ahle_eq]
      cases c.2.2.2.2.2.2.2 <;> rfl
    rw [h]
variable {K K' : kn} {J : Nat → ast → ast → Bool} {jo : Nat → ar → ar → Bool} {P : Nat → Nat → List sp} {n : Nat} {c : con} {l : List con} {ps : List sp}
variable {J' : Nat → ast → ast → Bool} {jo' : Nat → ar → ar → Bool}
noncomputable def fq_chk (K : kn) (T : pm_Tab) (B : Nat → ac) (sz : Nat) (F : fr_F) (J : Nat → ast → ast → Bool) (jo : Nat → ar → ar → Bool) (P : Nat → Nat → List sp) (n : Nat) (c : con) : Bool := fq_fin B c (fq_run K T B sz F J jo P n c.2.2.2.2.2.1 c.2.2.2.2.2.2.1 c.1 [(0, aa_l0 c.2.1 (pm_max T c.1), [], c.2.2.1)] [])
theorem fq_chk_eq (hK : K = K') (hJ : J = J') (ho : jo = jo') (h : fq_chk K T B sz F J jo P n c = true) : con_chk K' T B sz F J' jo' P n c = true := by
  subst hK
  subst hJ
  subst ho
  unfold fq_chk at h
  rw [fq_fin_eq, fq_run_eq] at h
  exact h
noncomputable def fq_chkS (K : kn) (T : pm_Tab) (B : Nat → ac) (sz : Nat) (F : fr_F) (J : Nat → ast → ast → Bool) (jo : Nat → ar → ar → Bool) (P : Nat → Nat → List sp) (ps : List sp) (n : Nat) (c : con) : Bool := fq_all (fun t => fq_fin B c (fq_run K T B sz F J jo P n c.2.2.2.2.2.1 c.2.2.2.2.2.2.1 c.1 [t] [])) (sp_all B sz ps [(0, aa_l0 c.2.1 (pm_max T c.1), [], c.2.2.1)])
theorem fq_chkS_eq (hK : K = K') (hJ : J = J') (ho : jo = jo') (h : fq_chkS K T B sz F J jo P ps n c = true) : con_chkS K' T B sz F J' jo' P ps n c = true := by
  subst hK
  subst hJ
  subst ho
  unfold fq_chkS at h
  rw [fq_all_eq] at h
  have e : (fun t => fq_fin B c (fq_run K T B sz F J jo P n c.2.2.2.2.2.1 c.2.2.2.2.2.2.1 c.1 [t] [])) = fun t => (match cx_run K T B sz F J jo P n c.2.2.2.2.2.1 c.2.2.2.2.2.2.1 c.1 [t] [] with
    | some R => R.all (fun r => c.2.2.2.1.any (fun a => ao_le r.1 a) && (c.2.2.2.2.2.2.2 || ah_le B r.2 c.2.2.2.2.1))
    | none => false) := funext fun t => by rw [fq_fin_eq, fq_run_eq]
  rw [e] at h
  exact h
theorem fq_chk1 (hJ : J = J') (ho : jo = jo') (h : fq_chk (fq_kl B F l) T B sz F J jo P n c = true) : con_chk (kl B F l) T B sz F J' jo' P n c = true := fq_chk_eq (fq_kl_eq l) hJ ho h
theorem fq_chk2 {F' : fr_F} (hJ : J = J') (ho : jo = jo') (h : fq_chk (fq_or (fq_kl B F' l) K) T B sz F J jo P n c = true) : con_chk (kn_or (kl B F' l) K) T B sz F J' jo' P n c = true := fq_chk_eq (fq_or_eq (fq_kl_eq l)) hJ ho h
theorem fq_chk3 (hJ : J = J') (ho : jo = jo') (h : fq_chk K T B sz F J jo P n c = true) : con_chk K T B sz F J' jo' P n c = true := fq_chk_eq rfl hJ ho h
theorem fq_chkS1 (hJ : J = J') (ho : jo = jo') (h : fq_chkS (fq_kl B F l) T B sz F J jo P ps n c = true) : con_chkS (kl B F l) T B sz F J' jo' P ps n c = true := fq_chkS_eq (fq_kl_eq l) hJ ho h
theorem fq_chkS2 {F' : fr_F} (hJ : J = J') (ho : jo = jo') (h : fq_chkS (fq_or (fq_kl B F' l) K) T B sz F J jo P ps n c = true) : con_chkS (kn_or (kl B F' l) K) T B sz F J' jo' P ps n c = true := fq_chkS_eq (fq_or_eq (fq_kl_eq l)) hJ ho h
theorem fq_chkS3 (hJ : J = J') (ho : jo = jo') (h : fq_chkS K T B sz F J jo P ps n c = true) : con_chkS K T B sz F J' jo' P ps n c = true := fq_chkS_eq rfl hJ ho h
end FQD
end MG44frx2
section MG44frx3
/-! the methods that write nothing -/
section NWC
def nw_L : List Nat := [2, 3, 4, 5, 7, 8, 9, 14, 21, 23, 24, 25, 28, 29, 30, 31, 32, 33, 34, 35, 36, 37, 38, 41, 49, 61, 63, 67, 71, 74, 75, 76, 77, 80, 81, 127, 134, 135, 136, 137, 139, 147, 148, 151, 152, 153, 154, 155, 156, 157, 158, 159, 160, 163, 164, 165, 166, 168, 169, 170, 171, 172, 173, 174, 175, 176, 177, 182, 186, 199, 202, 203, 204, 205, 216, 218, 248, 253, 254, 259, 260, 266, 269, 270]
def nw_K (k : Nat) : Bool := nw_L.any (fun x => Nat.beq x k)
def nw_c (k : Nat) (i : Instr) : Bool := nw_i i && ((match pm_callee PT k i with
  | some (_, t) => nw_K t
  | none => true) && (match i with
  | .invokestatic j | .invokespecial j => (match pm_mlk PT (pm_o PT k) j with
    | some (w, _) => !(Nat.beq w 9)
    | none => true)
  | _ => true))
def nw_b (k : Nat) : Bool := match pd_a2 k with
  | some e => e.2.all (fun c => c.all (fun x => nw_c k x.2.1))
  | none => true
theorem nw_all : nw_L.all nw_b = true := by decide +kernel
theorem nw_class : nw_ok PT nw_K := by
  intro k pc i len hk hi
  obtain ⟨x, hx, hxk⟩ := List.any_eq_true.mp hk
  have e0 := Nat.eq_of_beq_eq_true hxk
  subst e0
  have hb := List.all_eq_true.mp nw_all x hx
  have hi : pd_ins x pc = some (i, len) := hi
  unfold pd_ins at hi
  unfold nw_b at hb
  split at hi
  · rename_i e ee
    rw [ee] at hb
    dsimp only at hb
    unfold pm_ch at hi
    split at hi
    · rename_i c ec
      have h1 := List.all_eq_true.mp (List.all_eq_true.mp hb c (pm_nth_mem ec)) _ (pm_fd_mem hi)
      unfold nw_c at h1
      rw [Bool.and_eq_true, Bool.and_eq_true] at h1
      obtain ⟨a1, a2, a3⟩ := h1
      dsimp only at a1 a2 a3
      refine ⟨a1, fun w t ht => ?_, fun j w y hj hm => ?_⟩
      · rw [ht] at a2
        exact a2
      · rcases hj with rfl | rfl
        · dsimp only at a3
          rw [hm] at a3
          dsimp only at a3
          intro h9
          subst h9
          cases a3
        · dsimp only at a3
          rw [hm] at a3
          dsimp only at a3
          intro h9
          subst h9
          cases a3
    · cases hi
  · cases hi
end NWC
end MG44frx3
