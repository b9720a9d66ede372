/-! the methods that write nothing -/
section NWC
def nw_L : List Nat := [2, 3, 4, 5, 7, 8, 9, 14, 21, 23, 24, 25, 28, 29, 30, 31, 32, 33, 34, 35, 36, 37, 38, 41, 49, 61, 63, 67, 71, 74, 75, 76, 77, 80, 81, 127, 134, 135, 136, 137, 139, 147, 148, 151, 152, 153, 154, 155, 156, 157, 158, 159, 160, 163, 164, 165, 166, 168, 169, 170, 171, 172, 173, 174, 175, 176, 177, 182, 186, 199, 202, 203, 204, 205, 216, 218, 248, 253, 254, 259, 260, 266, 269, 270]
def nw_K (k : Nat) : Bool := nw_L.any (fun x => Nat.beq x k)
def nw_c (k : Nat) (i : Instr) : Bool := nw_i i && ((match pm_callee PT k i with
  | some (_, t) => nw_K t
  | none => true) && (match i with
  | .invokestatic j | .invokespecial j => (match pm_mlk PT (pm_o PT k) j with
    | some (w, _) => !(Nat.beq w 9)
    | none => true)
  | _ => true))
def nw_b (k : Nat) : Bool := match pd_a2 k with
  | some e => e.2.all (fun c => c.all (fun x => nw_c k x.2.1))
  | none => true
theorem nw_all : nw_L.all nw_b = true := by decide +kernel
theorem nw_class : nw_ok PT nw_K := by
  intro k pc i len hk hi
  obtain ⟨x, hx, hxk⟩ := List.any_eq_true.mp hk
  have e0 := Nat.eq_of_beq_eq_true hxk
  subst e0
  have hb := List.all_eq_true.mp nw_all x hx
  have hi : pd_ins x pc = some (i, len) := hi
  unfold pd_ins at hi
  unfold nw_b at hb
  split at hi
  · rename_i e ee
    rw [ee] at hb
    dsimp only at hb
    unfold pm_ch at hi
    split at hi
    · rename_i c ec
      have h1 := List.all_eq_true.mp (List.all_eq_true.mp hb c (pm_nth_mem ec)) _ (pm_fd_mem hi)
      unfold nw_c at h1
      rw [Bool.and_eq_true, Bool.and_eq_true] at h1
      obtain ⟨a1, a2, a3⟩ := h1
      dsimp only at a1 a2 a3
      refine ⟨a1, fun w t ht => ?_, fun j w y hj hm => ?_⟩
      · rw [ht] at a2
        exact a2
      · rcases hj with rfl | rfl
        · dsimp only at a3
          rw [hm] at a3
          dsimp only at a3
          intro h9
          subst h9
          cases a3
        · dsimp only at a3
          rw [hm] at a3
          dsimp only at a3
          intro h9
          subst h9
          cases a3
    · cases hi
  · cases hi
end NWC
