/-! what the ruling rule answers, whichever of both objects it is -/
section EVL
variable {n fr lo sl cc gc : Nat} {q : QT} {h : pm_H} {R : pm_Rs}
def v68 (q : QT) (cc gc : Nat) (h : pm_H) : Int32 × pm_H := if q.1 = 142 then v68a q cc gc h q.2.1 else v68b q cc gc h q.2.1
theorem v68_ok (hw : HC q cc gc h) (hh : pm_run PT n fr lo 68 (0, pm_l0 [.ref q.1, .ref 12] 6, [], h, 198, sl) = some R) : R = (some (.int ((v68 q cc gc h).1)), (v68 q cc gc h).2, 198, sl) ∧ HC q cc gc (v68 q cc gc h).2 ∧ frm [142, 144, 145, 147] [(142, 3), (145, 3)] h (v68 q cc gc h).2 := by
  have hr := hw.rs
  rcases hw.qq with e | e
  · rw [e] at hh hr
    have ev : v68 q cc gc h = v68a q cc gc h q.2.1 := if_pos e
    rw [ev]
    obtain ⟨a1, a2, a3⟩ := v68a_ok hw hw.zx hr hh
    exact ⟨a1, a2, fr_g rfl rfl a3 fr_0⟩
  · rw [e] at hh hr
    have ev : v68 q cc gc h = v68b q cc gc h q.2.1 := if_neg (by rw [e]; decide)
    rw [ev]
    obtain ⟨a1, a2, a3⟩ := v68b_ok hw hw.zx hr hh
    exact ⟨a1, a2, fr_g rfl rfl a3 fr_0⟩
theorem v68_fr (hw : HC q cc gc h) : HC q cc gc (v68 q cc gc h).2 ∧ frm [142, 144, 145, 147] [(142, 3), (145, 3)] h (v68 q cc gc h).2 := by
  unfold v68
  rcases hw.qq with e | e
  · rw [if_pos e]
    obtain ⟨a2, a3⟩ := v68a_fr (z := q.2.1) hw hw.zx
    exact ⟨a2, fr_g rfl rfl a3 fr_0⟩
  · rw [if_neg (by rw [e]; decide)]
    obtain ⟨a2, a3⟩ := v68b_fr (z := q.2.1) hw hw.zx
    exact ⟨a2, fr_g rfl rfl a3 fr_0⟩
end EVL
