/-! joins by place, quicker -/
section FJ
noncomputable def fq_jn (JL : List (List (Nat × List Nat × List ap))) (k : Nat) (s t : ast) : Bool := Option.rec (motive := fun _ => Bool) true (fun c => Option.rec (motive := fun _ => Bool) true (fun l => fq_n s.1 (fun pc => Bool.rec (motive := fun _ => Bool) (not (fq_any (fun q => ap_one q s t) l.2)) false (fq_any (fun p => Nat.beq p pc) l.1))) (pm_fd c k)) (pm_nth JL (k / 16))
theorem fq_jn_eq (JL : List (List (Nat × List Nat × List ap))) : fq_jn JL = jn JL := by
  funext k s t
  unfold fq_jn jn
  cases pm_nth JL (k / 16) with
  | none => rfl
  | some c =>
    dsimp only
    cases pm_fd c k with
    | none => rfl
    | some l =>
      dsimp only
      rw [fq_n_eq, fq_any_eq, fq_any_eq]
      cases l.1.any (fun p => Nat.beq p s.1) <;> rfl
end FJ
