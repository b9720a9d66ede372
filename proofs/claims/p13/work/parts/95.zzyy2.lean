/-! the rule that isn't ruling, read from object 0 -/
section OTR
variable {n fr lo k pc sl p : Nat} {L : pm_L} {S : List Value} {h h' : pm_H} {R : pm_Rs}
def OTp (p : Nat) (h : pm_H) : Prop := ∃ fs, h 0 = .inr (10, fs) ∧ fs[9]? = some (.ref p)
theorem rn_g9 {j t : Nat} (ho : OTp p h) (e : h' 0 = h 0) (hi : pm_ins PT k pc = some (.getfield j, 3)) (hf : pm_fld PT (pm_o PT k) j = some (10, 9, t)) (hh : pm_run PT n fr lo k (pc, L, .ref 0 :: S, h', 198, sl) = some R) : ∃ m, pm_run PT m fr lo k (pc + 3, L, .ref p :: S, h', 198, sl) = some R := by
  obtain ⟨fs, r1, r2⟩ := ho
  exact rn_gfo hi hf (by decide) (e.trans r1) r2 hh
end OTR
