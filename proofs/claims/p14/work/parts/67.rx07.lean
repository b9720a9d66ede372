/-! contracts -/
def rxt74 : con := (254, [(2, 162, 1)], [], [some (0, 0, 255)], [], 70, 3800, true)
theorem rxk74 : con_chk (kn_or (kl bB rxF [rxt73]) rk) PT bB 198 rxF0 rxJ rxjo rxP 5738 rxt74 = true := fq_chk2 (fq_jn_eq _) rfl (by decide +kernel)   -- X11_fitting
theorem rxo74 : con_ok PT bB 198 rxF rxQ rxt74 := con_chk_ok rxle rxpp (kn_or_ok (kl_ok (List.forall_mem_cons.mpr ⟨rxo73, fun _ h => (by cases h)⟩)) rk_ok) nw_class (fun _ => by decide) rxk74
def rxt75 : con := (259, [(0, 0, 9), (0, 0, 9), (0, 0, 20)], [], [some (0, (-20), 20)], [], 65, 3400, true)
theorem rxk75 : con_chk (kn_or (kl bB rxF []) rk) PT bB 198 rxF0 rxJ rxjo rxP 441 rxt75 = true := fq_chk2 (fq_jn_eq _) rfl (by decide +kernel)   -- X11_earns
theorem rxo75 : con_ok PT bB 198 rxF rxQ rxt75 := con_chk_ok rxle rxpp (kn_or_ok (kl_ok (fun _ h => (by cases h))) rk_ok) nw_class (fun _ => by decide) rxk75
def rxt76 : con := (260, [(0, 0, 9), (0, 0, 9), (0, 0, 20)], [], [some (0, 0, 1)], [], 70, 3800, true)
theorem rxk76 : con_chk (kn_or (kl bB rxF [rxt75]) rk) PT bB 198 rxF0 rxJ rxjo rxP 627 rxt76 = true := fq_chk2 (fq_jn_eq _) rfl (by decide +kernel)   -- X11_isRest
theorem rxo76 : con_ok PT bB 198 rxF rxQ rxt76 := con_chk_ok rxle rxpp (kn_or_ok (kl_ok (List.forall_mem_cons.mpr ⟨rxo75, fun _ h => (by cases h)⟩)) rk_ok) nw_class (fun _ => by decide) rxk76
def rxt77 : con := (266, [(2, 162, 1), (0, 0, 2)], [], [some (0, 0, 15)], [], 70, 3800, true)
theorem rxk77 : con_chk (kn_or (kl bB rxF [rxt2, rxt3]) rk) PT bB 198 rxF0 rxJ rxjo rxP 1498 rxt77 = true := fq_chk2 (fq_jn_eq _) rfl (by decide +kernel)   -- X11_pairMany
theorem rxo77 : con_ok PT bB 198 rxF rxQ rxt77 := con_chk_ok rxle rxpp (kn_or_ok (kl_ok (List.forall_mem_cons.mpr ⟨rxo2, List.forall_mem_cons.mpr ⟨rxo3, fun _ h => (by cases h)⟩⟩)) rk_ok) nw_class (fun _ => by decide) rxk77
def rxt78 : con := (269, [(0, (-2147483648), 2147483647)], [], [some (0, (-2147483648), 2147483647)], [], 65, 3400, true)
theorem rxk78 : con_chk (kn_or (kl bB rxF []) rk) PT bB 198 rxF0 rxJ rxjo rxP 468 rxt78 = true := fq_chk2 (fq_jn_eq _) rfl (by decide +kernel)   -- J6_numberOfTrailingZeros_0f7a4
theorem rxo78 : con_ok PT bB 198 rxF rxQ rxt78 := con_chk_ok rxle rxpp (kn_or_ok (kl_ok (fun _ h => (by cases h))) rk_ok) nw_class (fun _ => by decide) rxk78
