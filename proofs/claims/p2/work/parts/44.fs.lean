/-! sums, branches, fields and arrays, made ready -/
section FQC
variable {T : pm_Tab} {B : Nat → ac} {sz : Nat} {F : fr_F} {k pc : Nat} {i : Instr} {len : Nat}
noncomputable def fq_bi (g : av → av → Option av) (q : Nat) : fqF := fun _ _ _ A S o => List.rec (motive := fun _ => fqR) none (fun b r _ => List.rec (motive := fun _ => fqR) none (fun a r _ => Bool.rec (motive := fun _ => fqR) none (Option.rec (motive := fun _ => fqR) none (fun c => fq_o q A (c :: r) o) (g a b)) (fq_and (Nat.beq a.1 0) (Nat.beq b.1 0))) r) S
theorem fq_bi_eq {g g' : av → av → Option av} (hg : ∀ a b, g a b = g' a b) (go : fqG) (fr lo : Nat) (A : List (Option av)) (S : List av) (o : ah) : fq_bi g (pc + 1) go fr lo A S o = fq_lift (aa_bi g' (pc, A, S, o)) := by
  unfold fq_bi aa_bi
  cases S with
  | nil => rfl
  | cons b r =>
    cases r with
    | nil => rfl
    | cons a r =>
      dsimp only
      rw [fq_and_eq, hg]
      cases h1 : Nat.beq a.1 0 with
      | false => rw [if_neg (fun q => fq_beqN h1 q.1)]; rfl
      | true =>
        cases h2 : Nat.beq b.1 0 with
        | false => rw [if_neg (fun q => fq_beqN h2 q.2)]; rfl
        | true =>
          rw [if_pos ⟨Nat.eq_of_beq_eq_true h1, Nat.eq_of_beq_eq_true h2⟩]
          cases g' a b <;> rfl
/-- what is tried for an instruction that writes nothing, the instruction read already -/
def fq_md (f : ast → Option (List ast)) (pc : Nat) : fqF := fun _ _ _ A S o => fq_lift (f (pc, A, S, o))
noncomputable def fq_c2 (x y : Bool) : Option Bool := Bool.rec (motive := fun _ => Option Bool) (Bool.rec (motive := fun _ => Option Bool) none (some false) y) (some true) x
noncomputable def fq_ce (p q : Bool) (a b : av) : Option Bool := Bool.rec (motive := fun _ => Option Bool) (Bool.rec (motive := fun _ => Option Bool) (Bool.rec (motive := fun _ => Option Bool) none (some q) (fq_and (fq_ieq a.2.1 a.2.2) (fq_and (fq_ieq b.2.1 b.2.2) (fq_ieq a.2.1 b.2.1)))) (some p) (fq_lt b.2.2 a.2.1)) (some p) (fq_lt a.2.2 b.2.1)
theorem fq_ltN {a b : Int} (h : fq_lt a b = false) : ¬ a < b := fun q => by rw [(fq_lt_iff _ _).2 q] at h; cases h
theorem fq_leN {a b : Int} (h : fq_le a b = false) : ¬ a ≤ b := fun q => by rw [(fq_le_iff _ _).2 q] at h; cases h
theorem fq_ce_eq (p q : Bool) (a b : av) : fq_ce p q a b = if a.2.2 < b.2.1 ∨ b.2.2 < a.2.1 then some p else if a.2.1 = a.2.2 ∧ b.2.1 = b.2.2 ∧ a.2.1 = b.2.1 then some q else none := by
  unfold fq_ce
  cases h1 : fq_lt a.2.2 b.2.1 with
  | true => rw [if_pos (Or.inl ((fq_lt_iff _ _).1 h1))]
  | false =>
    cases h2 : fq_lt b.2.2 a.2.1 with
    | true => rw [if_pos (Or.inr ((fq_lt_iff _ _).1 h2))]
    | false =>
      rw [if_neg (fun z => z.elim (fq_ltN h1) (fq_ltN h2))]
      dsimp only
      rw [fq_and_eq, fq_and_eq]
      cases h3 : fq_ieq a.2.1 a.2.2 && (fq_ieq b.2.1 b.2.2 && fq_ieq a.2.1 b.2.1) with
      | true =>
        rw [Bool.and_eq_true, Bool.and_eq_true] at h3
        rw [if_pos ⟨fq_ieq_of h3.1, fq_ieq_of h3.2.1, fq_ieq_of h3.2.2⟩]
      | false =>
        rw [if_neg (fun z => by
          have z1 := z.1
          have z2 := z.2.1
          have z3 := z.2.2
          rw [← z1, ← z2, ← z3, fq_ieq_rf] at h3
          cases h3)]
theorem fq_c2_eq {x y : Bool} {P Q : Prop} [Decidable P] [Decidable Q] (h1 : x = true ↔ P) (h2 : y = true ↔ Q) : fq_c2 x y = if P then some true else if Q then some false else none := by
  unfold fq_c2
  cases x with
  | true => rw [if_pos (h1.1 rfl)]
  | false =>
    rw [if_neg (fun q => by cases h1.2 q)]
    cases y with
    | true => rw [if_pos (h2.1 rfl)]
    | false => rw [if_neg (fun q => by cases h2.2 q)]
noncomputable def fq_cmpK {α : Type} (c : Jvm.ClassFile.Cond) (f : (av → av → Option Bool) → α) : α := match c with
  | .eq => f (fq_ce false true)
  | .ne => f (fq_ce true false)
  | .lt => f (fun a b => fq_c2 (fq_lt a.2.2 b.2.1) (fq_le b.2.2 a.2.1))
  | .ge => f (fun a b => fq_c2 (fq_le b.2.2 a.2.1) (fq_lt a.2.2 b.2.1))
  | .gt => f (fun a b => fq_c2 (fq_lt b.2.2 a.2.1) (fq_le a.2.2 b.2.1))
  | .le => f (fun a b => fq_c2 (fq_le a.2.2 b.2.1) (fq_lt b.2.2 a.2.1))
theorem fq_cmpK_eq {α : Type} (c : Jvm.ClassFile.Cond) (f : (av → av → Option Bool) → α) : fq_cmpK c f = f (ag_cmp c) := by
  cases c with
  | eq => exact congrArg f (funext fun a => funext fun b => fq_ce_eq false true a b)
  | ne => exact congrArg f (funext fun a => funext fun b => fq_ce_eq true false a b)
  | lt => exact congrArg f (funext fun a => funext fun b => fq_c2_eq (fq_lt_iff _ _) (fq_le_iff _ _))
  | ge => exact congrArg f (funext fun a => funext fun b => fq_c2_eq (fq_le_iff _ _) (fq_lt_iff _ _))
  | gt => exact congrArg f (funext fun a => funext fun b => fq_c2_eq (fq_lt_iff _ _) (fq_le_iff _ _))
  | le => exact congrArg f (funext fun a => funext fun b => fq_c2_eq (fq_le_iff _ _) (fq_lt_iff _ _))
noncomputable def fq_br (r : Option Bool) (t q : Nat) (A : List (Option av)) (S : List av) (o : ah) : fqR := Option.rec (motive := fun _ => fqR) (some (.inr [(t, A, S, o), (q, A, S, o)])) (fun b => Bool.rec (motive := fun _ => fqR) (fq_o q A S o) (fq_o t A S o) b) r
theorem fq_br_eq {off : Int} {t : Nat} (ht : pm_tgt pc off = some t) (r : Option Bool) (A : List (Option av)) (S S0 : List av) (o : ah) : fq_br r t (pc + 3) A S o = fq_lift (aa_br r (pc, A, S0, o) off S) := by
  unfold aa_br
  dsimp only
  rw [ht]
  cases r with
  | none => rfl
  | some b => cases b <;> rfl
noncomputable def fq_if1 (g : av → av → Option Bool) (t q : Nat) : fqF := fun _ _ _ A S o => List.rec (motive := fun _ => fqR) none (fun a r _ => Bool.rec (motive := fun _ => fqR) none (fq_br (g a (0, 0, 0)) t q A r o) (Nat.beq a.1 0)) S
noncomputable def fq_if2 (g : av → av → Option Bool) (t q : Nat) : fqF := fun _ _ _ A S o => List.rec (motive := fun _ => fqR) none (fun b r _ => List.rec (motive := fun _ => fqR) none (fun a r _ => Bool.rec (motive := fun _ => fqR) none (fq_br (g a b) t q A r o) (fq_and (Nat.beq a.1 0) (Nat.beq b.1 0))) r) S
noncomputable def fq_d2 (T : pm_Tab) (B : Nat → ac) (sz k pc : Nat) (i : Instr) : Option fqF := match i with
  | .iadd => fq_n (pc + 1) (fun q => some (fq_bi fq_add q))
  | .isub => fq_n (pc + 1) (fun q => some (fq_bi fq_sub q))
  | .imul => fq_n (pc + 1) (fun q => some (fq_bi fq_mul q))
  | .iand => some (fq_md (aa_bi (ab_ex (fun x y => x &&& y) ag_and)) pc)
  | .ior => some (fq_md (aa_bi (ab_ex (fun x y => x ||| y) ag_or)) pc)
  | .ishl => some (fq_md (aa_bi (ab_ex (fun x y => x <<< (y &&& 31)) ag_shl)) pc)
  | .ishr => some (fq_md (aa_bi (ab_ex (fun x y => x >>> (y &&& 31)) ag_shr)) pc)
  | .idiv => some (fq_md (aa_bi (ag_gd (fun x y => x / y) ag_div)) pc)
  | .irem => some (fq_md (aa_bi (ag_gd (fun x y => x - x / y * y) ag_rem)) pc)
  | .ineg => some (fq_md (aa_ui ag_neg) pc)
  | .arraylength => some (fq_md (aa_alen T B sz) pc)
  | .aaload => some (fq_md (aa_qld T B sz) pc)
  | .ifCond c off => (match pm_tgt pc off with
    | some t => fq_n t (fun t => fq_n (pc + 3) (fun q => fq_cmpK c (fun g => some (fq_if1 g t q))))
    | none => none)
  | .if_icmp c off => (match pm_tgt pc off with
    | some t => fq_n t (fun t => fq_n (pc + 3) (fun q => fq_cmpK c (fun g => some (fq_if2 g t q))))
    | none => none)
  | .goto off => (match pm_tgt pc off with
    | some t => fq_n t (fun t => some (fun _ _ _ A S o => fq_o t A S o))
    | none => none)
  | _ => none
theorem fq_d2_ok (e : pm_ins T k pc = some (i, len)) (hl : pm_lenOk i len = true) {f : fqF} (h : fq_d2 T B sz k pc i = some f) : fq_ok T B sz F k pc f := by
  unfold fq_d2 at h
  split at h
  · rw [fq_n_eq] at h
    cases h
    exact fq_plain e hl rfl rfl (fun _ => rfl) (fun go fr lo A S o => fq_bi_eq fq_add_eq go fr lo A S o)
  · rw [fq_n_eq] at h
    cases h
    exact fq_plain e hl rfl rfl (fun _ => rfl) (fun go fr lo A S o => fq_bi_eq fq_sub_eq go fr lo A S o)
  · rw [fq_n_eq] at h
    cases h
    exact fq_plain e hl rfl rfl (fun _ => rfl) (fun go fr lo A S o => fq_bi_eq fq_mul_eq go fr lo A S o)
  · cases h; exact fq_plain e hl rfl rfl (fun _ => rfl) (fun go fr lo A S o => rfl)
  · cases h; exact fq_plain e hl rfl rfl (fun _ => rfl) (fun go fr lo A S o => rfl)
  · cases h; exact fq_plain e hl rfl rfl (fun _ => rfl) (fun go fr lo A S o => rfl)
  · cases h; exact fq_plain e hl rfl rfl (fun _ => rfl) (fun go fr lo A S o => rfl)
  · cases h; exact fq_plain e hl rfl rfl (fun _ => rfl) (fun go fr lo A S o => rfl)
  · cases h; exact fq_plain e hl rfl rfl (fun _ => rfl) (fun go fr lo A S o => rfl)
  · cases h; exact fq_plain e hl rfl rfl (fun _ => rfl) (fun go fr lo A S o => rfl)
  · cases h; exact fq_plain e hl rfl rfl (fun _ => rfl) (fun go fr lo A S o => rfl)
  · cases h; exact fq_plain e hl rfl rfl (fun _ => rfl) (fun go fr lo A S o => rfl)
  · rename_i c off
    cases ht : pm_tgt pc off with
    | none => rw [ht] at h; cases h
    | some t =>
      rw [ht] at h
      dsimp only at h
      rw [fq_n_eq, fq_n_eq, fq_cmpK_eq] at h
      cases h
      refine fq_plain e hl rfl rfl (fun _ => rfl) (fun go fr lo A S o => ?_)
      show fq_if1 (ag_cmp c) t (pc + 3) go fr lo A S o = fq_lift (match S with
        | a :: r => if a.1 = 0 then aa_br (ag_cmp c a (0, 0, 0)) (pc, A, S, o) off r else none
        | _ => none)
      unfold fq_if1
      cases S with
      | nil => rfl
      | cons a r =>
        dsimp only
        rw [fq_br_eq ht _ A r (a :: r) o]
        cases h1 : Nat.beq a.1 0 with
        | false => rw [if_neg (fq_beqN h1)]; rfl
        | true => rw [if_pos (Nat.eq_of_beq_eq_true h1)]
  · rename_i c off
    cases ht : pm_tgt pc off with
    | none => rw [ht] at h; cases h
    | some t =>
      rw [ht] at h
      dsimp only at h
      rw [fq_n_eq, fq_n_eq, fq_cmpK_eq] at h
      cases h
      refine fq_plain e hl rfl rfl (fun _ => rfl) (fun go fr lo A S o => ?_)
      show fq_if2 (ag_cmp c) t (pc + 3) go fr lo A S o = fq_lift (match S with
        | b :: a :: r => if a.1 = 0 ∧ b.1 = 0 then aa_br (ag_cmp c a b) (pc, A, S, o) off r else none
        | _ => none)
      unfold fq_if2
      cases S with
      | nil => rfl
      | cons b r =>
        cases r with
        | nil => rfl
        | cons a r =>
          dsimp only
          rw [fq_br_eq ht _ A r (b :: a :: r) o, fq_and_eq]
          cases h1 : Nat.beq a.1 0 with
          | false => rw [if_neg (fun q => fq_beqN h1 q.1)]; rfl
          | true =>
            cases h2 : Nat.beq b.1 0 with
            | false => rw [if_neg (fun q => fq_beqN h2 q.2)]; rfl
            | true => rw [if_pos ⟨Nat.eq_of_beq_eq_true h1, Nat.eq_of_beq_eq_true h2⟩]; rfl
  · rename_i off
    cases ht : pm_tgt pc off with
    | none => rw [ht] at h; cases h
    | some t =>
      rw [ht] at h
      dsimp only at h
      rw [fq_n_eq] at h
      cases h
      refine fq_plain e hl rfl rfl (fun _ => rfl) (fun go fr lo A S o => ?_)
      show fq_o t A S o = fq_lift (match pm_tgt pc off with
        | some t => some [(t, A, S, o)]
        | none => none)
      rw [ht]
      rfl
  · cases h
/-! fields and arrays -/
noncomputable def fq_fld (B : Nat → ac) (o : ah) (sz cj f i : Nat) : Option av := Bool.rec (motive := fun _ => Option av) none (Sum.rec (motive := fun _ => Option av) (fun _ => none) (fun x => Bool.rec (motive := fun _ => Option av) none (fq_nth x.2 f) (fq_and (Nat.beq x.1 cj) (Nat.blt x.1 1000))) (fq_fd B o i)) (Nat.blt i sz)
theorem fq_bltN {a b : Nat} (h : Nat.blt a b = false) : ¬ a < b := fun q => by rw [show Nat.blt a b = true from Nat.ble_eq_true_of_le q] at h; cases h
theorem fq_blt {a b : Nat} (h : Nat.blt a b = true) : a < b := Nat.le_of_ble_eq_true h
theorem fq_fld_eq (o : ah) (cj f i : Nat) : fq_fld B o sz cj f i = aa_fld B o sz cj f i := by
  unfold fq_fld aa_fld
  rw [fq_fd_eq]
  cases h1 : Nat.blt i sz with
  | false => rw [if_neg (fq_bltN h1)]
  | true =>
    rw [if_pos (fq_blt h1)]
    cases ah_get B o i with
    | inl x => rfl
    | inr x =>
      obtain ⟨ci, as⟩ := x
      dsimp only
      rw [fq_and_eq, fq_nth_eq]
      cases h2 : Nat.beq ci cj with
      | false => rw [if_neg (fun q => fq_beqN h2 q.1)]; rfl
      | true =>
        cases h3 : Nat.blt ci 1000 with
        | false => rw [if_neg (fun q => fq_bltN h3 q.2)]; rfl
        | true => rw [if_pos ⟨Nat.eq_of_beq_eq_true h2, fq_blt h3⟩]; rfl
/-- what f tells of one reference, or of some -/
noncomputable def fq_ov (f g : Nat → Option av) (a : av) : Option av := Bool.rec (motive := fun _ => Option av) (aa_over g (av_ids a)) (fq_n (fq_nat a.2.1) f) (fq_1 a.2.2)
theorem fq_ov_eq {f g : Nat → Option av} (h : ∀ i, f i = g i) (a : av) : fq_ov f g a = aa_over g (av_ids a) := by
  unfold fq_ov
  cases h1 : fq_1 a.2.2 with
  | false => rfl
  | true =>
    rw [fq_1_ids h1, fq_n_eq, h]
    rfl
noncomputable def fq_gf (B : Nat → ac) (sz cj f q : Nat) : fqF := fun _ _ _ A S o => List.rec (motive := fun _ => fqR) none (fun a r _ => Bool.rec (motive := fun _ => fqR) none (Option.rec (motive := fun _ => fqR) none (fun v => fq_o q A (v :: r) o) (fq_ov (fq_fld B o sz cj f) (aa_fld B o sz cj f) a)) (Nat.beq a.1 2)) S
noncomputable def fq_elt (T : pm_Tab) (B : Nat → ac) (o : ah) (sz : Nat) (ty : FieldType) (ix : av) (i : Nat) : Option av := Bool.rec (motive := fun _ => Option av) none (Sum.rec (motive := fun _ => Option av) (fun x => Bool.rec (motive := fun _ => Option av) none (some x.2.2) (fq_and (decide ((pm_ty T)[x.1]? = some ty)) (fq_and (Nat.beq x.2.2.1 0) (fq_and (fq_le (Int.ofNat 0) ix.2.1) (fq_lt ix.2.2 (Int.ofNat x.2.1)))))) (fun _ => aa_elti T B o sz ty ix i) (fq_fd B o i)) (Nat.blt i sz)
theorem fq_elt_eq (o : ah) (ty : FieldType) (ix : av) (i : Nat) : fq_elt T B o sz ty ix i = aa_elti T B o sz ty ix i := by
  unfold fq_elt
  rw [fq_fd_eq]
  cases h1 : Nat.blt i sz with
  | false => unfold aa_elti; rw [if_neg (fq_bltN h1)]
  | true =>
    cases h2 : ah_get B o i with
    | inr x => rfl
    | inl x =>
      obtain ⟨kd, n, a⟩ := x
      unfold aa_elti
      rw [if_pos (fq_blt h1), h2]
      dsimp only
      rw [fq_and_eq, fq_and_eq, fq_and_eq]
      by_cases g1 : (pm_ty T)[kd]? = some ty
      · by_cases g2 : a.1 = 0
        · by_cases g3 : 0 ≤ ix.2.1
          · by_cases g4 : ix.2.2 < (n : Int)
            · rw [if_pos ⟨g1, g2, g3, g4⟩, decide_eq_true g1, g2, show fq_le (Int.ofNat 0) ix.2.1 = true from (fq_le_iff _ _).2 g3, show fq_lt ix.2.2 (Int.ofNat n) = true from (fq_lt_iff _ _).2 g4]
              rfl
            · rw [if_neg (fun q => g4 q.2.2.2), show fq_lt ix.2.2 (Int.ofNat n) = false from Bool.eq_false_iff.mpr (fun q => g4 ((fq_lt_iff _ _).1 q)), Bool.and_false, Bool.and_false, Bool.and_false]
          · rw [if_neg (fun q => g3 q.2.2.1), show fq_le (Int.ofNat 0) ix.2.1 = false from Bool.eq_false_iff.mpr (fun q => g3 ((fq_le_iff _ _).1 q)), Bool.false_and, Bool.and_false, Bool.and_false]
        · rw [if_neg (fun q => g2 q.2.1), show Nat.beq a.1 0 = false from Bool.eq_false_iff.mpr (fun q => g2 (Nat.eq_of_beq_eq_true q)), Bool.false_and, Bool.and_false]
      · rw [if_neg (fun q => g1 q.1), decide_eq_false g1, Bool.false_and]
noncomputable def fq_ald (T : pm_Tab) (B : Nat → ac) (sz : Nat) (ty : FieldType) (q : Nat) : fqF := fun _ _ _ A S o => List.rec (motive := fun _ => fqR) none (fun ix r _ => List.rec (motive := fun _ => fqR) none (fun a r _ => Bool.rec (motive := fun _ => fqR) none (Option.rec (motive := fun _ => fqR) none (fun v => fq_o q A (v :: r) o) (fq_ov (fq_elt T B o sz ty ix) (aa_elti T B o sz ty ix) a)) (fq_and (Nat.beq ix.1 0) (Nat.beq a.1 2))) r) S
theorem fq_ald_eq (ty : FieldType) (go : fqG) (fr lo : Nat) (A : List (Option av)) (S : List av) (o : ah) : fq_ald T B sz ty (pc + 1) go fr lo A S o = fq_lift (aa_aldi T B sz ty (pc, A, S, o)) := by
  unfold fq_ald aa_aldi
  cases S with
  | nil => rfl
  | cons ix r =>
    cases r with
    | nil => rfl
    | cons a r =>
      dsimp only
      rw [fq_and_eq, fq_ov_eq (fun i => fq_elt_eq o ty ix i)]
      cases h1 : Nat.beq ix.1 0 with
      | false => rw [if_neg (fun q => fq_beqN h1 q.1)]; rfl
      | true =>
        cases h2 : Nat.beq a.1 2 with
        | false => rw [if_neg (fun q => fq_beqN h2 q.2)]; rfl
        | true =>
          rw [if_pos ⟨Nat.eq_of_beq_eq_true h1, Nat.eq_of_beq_eq_true h2⟩]
          cases aa_over (aa_elti T B o sz ty ix) (av_ids a) <;> rfl
/-- a write to one place of an array -/
noncomputable def fq_stu (T : pm_Tab) (ty : FieldType) (ix v : av) (c : ac) : Option ac := Sum.rec (motive := fun _ => Option ac) (fun x => Bool.rec (motive := fun _ => Option ac) none (Option.rec (motive := fun _ => Option ac) none (fun b => fq_n x.1 (fun k => fq_n x.2.1 (fun n => some (.inl (k, n, b))))) (fq_join x.2.2 v)) (fq_and (decide ((pm_ty T)[x.1]? = some ty)) (fq_and (Nat.beq x.2.2.1 0) (fq_and (fq_le (Int.ofNat 0) ix.2.1) (fq_lt ix.2.2 (Int.ofNat x.2.1)))))) (fun x => aa_astui T ty ix v (.inr x)) c
theorem fq_stu_eq (ty : FieldType) (ix v : av) (c : ac) : fq_stu T ty ix v c = aa_astui T ty ix v c := by
  unfold fq_stu
  cases c with
  | inr x => rfl
  | inl x =>
    obtain ⟨kd, n, a⟩ := x
    unfold aa_astui
    dsimp only
    rw [fq_and_eq, fq_and_eq, fq_and_eq, fq_join_eq]
    simp only [fq_n_eq]
    by_cases g1 : (pm_ty T)[kd]? = some ty
    · by_cases g2 : a.1 = 0
      · by_cases g3 : 0 ≤ ix.2.1
        · by_cases g4 : ix.2.2 < (n : Int)
          · rw [if_pos ⟨g1, g2, g3, g4⟩, decide_eq_true g1, g2, show fq_le (Int.ofNat 0) ix.2.1 = true from (fq_le_iff _ _).2 g3, show fq_lt ix.2.2 (Int.ofNat n) = true from (fq_lt_iff _ _).2 g4]
            show Option.rec (motive := fun _ => Option ac) none (fun b => some (.inl (kd, n, b))) (av_join a v) = _
            cases av_join a v <;> rfl
          · rw [if_neg (fun q => g4 q.2.2.2), show fq_lt ix.2.2 (Int.ofNat n) = false from Bool.eq_false_iff.mpr (fun q => g4 ((fq_lt_iff _ _).1 q)), Bool.and_false, Bool.and_false, Bool.and_false]
        · rw [if_neg (fun q => g3 q.2.2.1), show fq_le (Int.ofNat 0) ix.2.1 = false from Bool.eq_false_iff.mpr (fun q => g3 ((fq_le_iff _ _).1 q)), Bool.false_and, Bool.and_false, Bool.and_false]
      · rw [if_neg (fun q => g2 q.2.1), show Nat.beq a.1 0 = false from Bool.eq_false_iff.mpr (fun q => g2 (Nat.eq_of_beq_eq_true q)), Bool.false_and, Bool.and_false]
    · rw [if_neg (fun q => g1 q.1), decide_eq_false g1, Bool.false_and]
noncomputable def fq_ast (T : pm_Tab) (B : Nat → ac) (sz : Nat) (F : fr_F) (k pc : Nat) (ty : FieldType) (nr : av → av) (q : Nat) : fqF := fun go fr lo A S o => List.rec (motive := fun _ => fqR) none (fun v r _ => List.rec (motive := fun _ => fqR) none (fun ix r _ => List.rec (motive := fun _ => fqR) none (fun a r _ => Bool.rec (motive := fun _ => fqR) (fq_slow T B sz F k pc go fr lo A S o) (fq_n (fq_nat a.2.1) (fun p => Bool.rec (motive := fun _ => fqR) none (Option.rec (motive := fun _ => fqR) none (fun c => fq_sp (fq_put p c o) (fun o => fq_o q A r o)) (fq_stu T ty ix (nr v) (fq_fd B o p))) (fq_and (Nat.beq v.1 0) (fq_and (Nat.beq ix.1 0) (fq_and (Nat.beq a.1 2) (fq_and (Nat.blt p sz) (not (F.1 p)))))))) (fq_1 a.2.2)) r) r) S
theorem fq_ast_eq {ty : FieldType} {nr : av → av} {go : fqG} {fr lo : Nat} {A : List (Option av)} {S : List av} {o : ah} {w : List av → Bool} (hs : cx_one T B sz F go fr lo k (pc, A, S, o) = fq_lift (cond (w S) (aa_asti T B sz ty nr (pc, A, S, o)) none)) (hw : ∀ x y a r, w (x :: y :: a :: r) = (av_ids a).all (fun p => !(F.1 p))) : fq_ast T B sz F k pc ty nr (pc + 1) go fr lo A S o = cx_one T B sz F go fr lo k (pc, A, S, o) := by
  have short : (∀ v ix a r, S ≠ v :: ix :: a :: r) → fq_lift (cond (w S) (aa_asti T B sz ty nr (pc, A, S, o)) none) = none := by
    intro hq
    have : aa_asti T B sz ty nr (pc, A, S, o) = none := by
      unfold aa_asti
      dsimp only
      split
      · rename_i v ix a r
        exact absurd rfl (hq v ix a r)
      · rfl
    rw [this]
    cases w S <;> rfl
  cases S with
  | nil => rw [hs, short (fun _ _ _ _ q => by cases q)]; rfl
  | cons v r =>
    cases r with
    | nil => rw [hs, short (fun _ _ _ _ q => by cases q)]; rfl
    | cons ix r =>
      cases r with
      | nil => rw [hs, short (fun _ _ _ _ q => by cases q)]; rfl
      | cons a r =>
        unfold fq_ast
        dsimp only
        cases h1 : fq_1 a.2.2 with
        | false => rfl
        | true =>
          dsimp only
          rw [fq_n_eq, hs, hw, fq_1_ids h1]
          unfold aa_asti
          dsimp only
          rw [fq_1_ids h1, fq_stu_eq, fq_fd_eq]
          generalize fq_nat a.2.1 = p
          rw [fq_and_eq, fq_and_eq, fq_and_eq, fq_and_eq, List.all_cons, List.all_nil, List.all_cons, List.all_nil, Bool.and_true, Bool.and_true]
          cases g5 : F.1 p with
          | true =>
            rw [Bool.not_true, Bool.and_false, Bool.and_false, Bool.and_false, Bool.and_false]
            rfl
          | false =>
            rw [Bool.not_false, Bool.and_true]
            dsimp only [cond]
            by_cases g1 : v.1 = 0
            · by_cases g2 : ix.1 = 0
              · by_cases g3 : a.1 = 2
                · by_cases g4 : p < sz
                  · rw [g1, g2, g3, show Nat.blt p sz = true from Nat.ble_eq_true_of_le g4, decide_eq_true g4]
                    show Option.rec (motive := fun _ => fqR) none (fun c => fq_sp (fq_put p c o) (fun o => fq_o (pc + 1) A r o)) (aa_astui T ty ix (nr v) (ah_get B o p)) = _
                    cases hc : aa_astui T ty ix (nr v) (ah_get B o p) with
                    | none =>
                      rw [if_neg (fun q => by cases q.2.2.2)]
                      rfl
                    | some c =>
                      rw [if_pos ⟨rfl, rfl, rfl, rfl⟩]
                      unfold ah_upd
                      dsimp only
                      rw [hc]
                      dsimp only
                      rw [← fq_put_eq]
                      exact fq_sp_eq (fq_put p c o) (fun o => fq_o (pc + 1) A r o)
                  · rw [if_neg (fun q => by
                      have q2 := q.2.2.2
                      rw [Bool.and_eq_true] at q2
                      exact g4 (of_decide_eq_true q2.1)), show Nat.blt p sz = false from Bool.eq_false_iff.mpr (fun q => g4 (fq_blt q)), Bool.and_false, Bool.and_false, Bool.and_false]
                    rfl
                · rw [if_neg (fun q => g3 q.2.2.1), show Nat.beq a.1 2 = false from Bool.eq_false_iff.mpr (fun q => g3 (Nat.eq_of_beq_eq_true q)), Bool.false_and, Bool.and_false, Bool.and_false]
                  rfl
              · rw [if_neg (fun q => g2 q.2.1), show Nat.beq ix.1 0 = false from Bool.eq_false_iff.mpr (fun q => g2 (Nat.eq_of_beq_eq_true q)), Bool.false_and, Bool.and_false]
                rfl
            · rw [if_neg (fun q => g1 q.1), show Nat.beq v.1 0 = false from Bool.eq_false_iff.mpr (fun q => g1 (Nat.eq_of_beq_eq_true q)), Bool.false_and]
              rfl
end FQC
