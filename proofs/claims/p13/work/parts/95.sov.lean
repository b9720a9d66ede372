/-! a field known more closely than by its type -/
section OVR
variable {h : pm_H}
theorem ovf_out {a ci f : Nat} {as : List av} {x y : av} (hh : ah_ok bB 198 [(a, .inr (ci, as.set f x))] h) (ha : a < 198) (hlt : ci < 1000) (hb : bB a = .inr (ci, as)) (hy : as[f]? = some y) (hle : av_le x y = true) : ah_ok bB 198 [] h ∧ ∃ fs v, h a = .inr (ci, fs) ∧ fs[f]? = some v ∧ av_ok v x := by
  have hl : f < as.length := (List.getElem?_eq_some_iff.mp hy).1
  have e0 : ah_get bB [(a, .inr (ci, as.set f x))] a = .inr (ci, as.set f x) := by
    unfold ah_get pm_fd
    rw [Nat.beq_refl]
    rfl
  have h0 := hh a ha
  rw [e0] at h0
  obtain ⟨fs, ef, hlen, hg⟩ := aE_obj h0 hlt
  rw [List.length_set] at hlen
  have hlf : f < fs.length := by omega
  have ev : fs[f]? = some fs[f] := List.getElem?_eq_getElem hlf
  have hv := hg f _ x ev (List.getElem?_set_self hl)
  refine ⟨fun i hi => ?_, fs, fs[f], ef, ev, hv⟩
  by_cases z : i = a
  · subst z
    rw [show ah_get bB [] i = bB i from rfl, hb, ef]
    refine ⟨⟨rfl, hlt⟩, hlen, fun j w u hw hu => ?_⟩
    by_cases zj : f = j
    · subst zj
      rw [hy] at hu
      cases hu
      rw [ev] at hw
      cases hw
      exact av_le_ok hle hv
    · exact hg j w u hw (by rw [List.getElem?_set_ne zj]; exact hu)
  · have h1 := hh i hi
    have e1 : ah_get bB [(a, .inr (ci, as.set f x))] i = bB i := by
      unfold ah_get pm_fd
      rw [nb_ne (fun e => z e.symm)]
      rfl
    rw [e1] at h1
    exact h1
def asM : List av := match bB 162 with
  | .inr (_, as) => as
  | _ => []
theorem asM_eq : bB 162 = .inr (11, asM) := rfl
end OVR
