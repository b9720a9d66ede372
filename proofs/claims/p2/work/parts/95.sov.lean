/-! a field known more closely than by its type -/
section OVR
variable {h : pm_H}
/-- a field known more closely -/
theorem ovf_in {a ci f : Nat} {as : List av} {fs : List Value} {v : Value} {x : av} (hh : ah_ok bB 198 [] h) (ha : a < 198) (hb : bB a = .inr (ci, as)) (he : h a = .inr (ci, fs)) (hv : fs[f]? = some v) (hx : av_ok v x) : ah_ok bB 198 [(a, .inr (ci, as.set f x))] h := by
  intro i hi
  by_cases z : i = a
  · subst z
    have e0 : ah_get bB [(i, .inr (ci, as.set f x))] i = .inr (ci, as.set f x) := by
      unfold ah_get pm_fd
      rw [Nat.beq_refl]
      rfl
    have h0 := hh i hi
    rw [show ah_get bB [] i = bB i from rfl, hb, he] at h0
    rw [e0, he]
    obtain ⟨h1, h2, h3⟩ := h0
    refine ⟨h1, by rw [List.length_set]; exact h2, fun j w y hw hy => ?_⟩
    by_cases zj : f = j
    · subst zj
      rw [hv] at hw
      cases hw
      have hl : f < as.length := by rw [← h2]; exact (List.getElem?_eq_some_iff.mp hv).1
      rw [List.getElem?_set_self hl] at hy
      cases hy
      exact hx
    · rw [List.getElem?_set_ne zj] at hy
      exact h3 j w y hw hy
  · have e0 : ah_get bB [(a, .inr (ci, as.set f x))] i = bB i := by
      unfold ah_get pm_fd
      rw [nb_ne (fun e => z e.symm)]
      rfl
    rw [e0]
    exact hh i hi
theorem ovf_out {a ci f : Nat} {as : List av} {x y : av} (hh : ah_ok bB 198 [(a, .inr (ci, as.set f x))] h) (ha : a < 198) (hlt : ci < 1000) (hb : bB a = .inr (ci, as)) (hy : as[f]? = some y) (hle : av_le x y = true) : ah_ok bB 198 [] h ∧ ∃ fs v, h a = .inr (ci, fs) ∧ fs[f]? = some v ∧ av_ok v x := by
  have hl : f < as.length := (List.getElem?_eq_some_iff.mp hy).1
  have e0 : ah_get bB [(a, .inr (ci, as.set f x))] a = .inr (ci, as.set f x) := by
    unfold ah_get pm_fd
    rw [Nat.beq_refl]
    rfl
  have h0 := hh a ha
  rw [e0] at h0
  obtain ⟨fs, ef, hlen, hg⟩ := aE_obj h0 hlt
  rw [List.length_set] at hlen
  have hlf : f < fs.length := by omega
  have ev : fs[f]? = some fs[f] := List.getElem?_eq_getElem hlf
  have hv := hg f _ x ev (List.getElem?_set_self hl)
  refine ⟨fun i hi => ?_, fs, fs[f], ef, ev, hv⟩
  by_cases z : i = a
  · subst z
    rw [show ah_get bB [] i = bB i from rfl, hb, ef]
    refine ⟨⟨rfl, hlt⟩, hlen, fun j w u hw hu => ?_⟩
    by_cases zj : f = j
    · subst zj
      rw [hy] at hu
      cases hu
      rw [ev] at hw
      cases hw
      exact av_le_ok hle hv
    · exact hg j w u hw (by rw [List.getElem?_set_ne zj]; exact hu)
  · have h1 := hh i hi
    have e1 : ah_get bB [(a, .inr (ci, as.set f x))] i = bB i := by
      unfold ah_get pm_fd
      rw [nb_ne (fun e => z e.symm)]
      rfl
    rw [e1] at h1
    exact h1
def asM : List av := match bB 162 with
  | .inr (_, as) => as
  | _ => []
theorem asM_eq : bB 162 = .inr (11, asM) := rfl
def ho_J (_ : Nat) (_ _ : ast) : Bool := false
def ho_jo (_ : Nat) (_ _ : ar) : Bool := false
def ho_P (_ _ : Nat) : List sp := []
theorem nIof {x : Int32} {c : Nat} (hc : c ≤ 80) (h1 : (c : Int) ≤ x.toInt) (h2 : x.toInt ≤ (c : Int)) : x = nI c := Int32.toInt_inj.1 (by rw [nI_toInt (by omega)]; omega)
end OVR
