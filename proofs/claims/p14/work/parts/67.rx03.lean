section MG67rx03x0
/-! contracts -/
def rxt61 : con := (233, [(2, 162, 1), (0, 2, 2), (0, 4, 4), (0, 0, 256), (0, 0, 5), (0, 0, 5)], [], [none], [], 90, 5400, false)
theorem rxk61 : con_chk (kn_or (kl bB rxF [rxt60]) rk) PT bB 198 rxF0 rxJ rxjo rxP 930 rxt61 = true := fq_chk2 (fq_jn_eq _) rfl (by decide +kernel)   -- X11_winsBy
theorem rxo61 : con_ok PT bB 198 rxF rxQ rxt61 := con_chk_ok rxle rxpp (kn_or_ok (kl_ok (List.forall_mem_cons.mpr ⟨rxo60, fun _ h => (by cases h)⟩)) rk_ok) nw_class (fun h => by cases h) rxk61
def rxt62 : con := (233, [(2, 162, 1), (0, 1, 1), (0, 4, 4), (0, 1, 128), (0, 0, 5), (0, 0, 5)], [], [none], [], 95, 5800, false)
theorem rxk62 : con_chk (kn_or (kl bB rxF [rxt61]) rk) PT bB 198 rxF0 rxJ rxjo rxP 930 rxt62 = true := fq_chk2 (fq_jn_eq _) rfl (by decide +kernel)   -- X11_winsBy
theorem rxo62 : con_ok PT bB 198 rxF rxQ rxt62 := con_chk_ok rxle rxpp (kn_or_ok (kl_ok (List.forall_mem_cons.mpr ⟨rxo61, fun _ h => (by cases h)⟩)) rk_ok) nw_class (fun h => by cases h) rxk62
def rxt63 : con := (233, [(2, 162, 1), (0, 0, 0), (0, 4, 4), (0, 0, 0), (0, 0, 5), (0, 0, 5)], [], [none], [], 100, 6200, false)
theorem rxk63 : con_chk (kn_or (kl bB rxF [rxt62]) rk) PT bB 198 rxF0 rxJ rxjo rxP 914 rxt63 = true := fq_chk2 (fq_jn_eq _) rfl (by decide +kernel)   -- X11_winsBy
theorem rxo63 : con_ok PT bB 198 rxF rxQ rxt63 := con_chk_ok rxle rxpp (kn_or_ok (kl_ok (List.forall_mem_cons.mpr ⟨rxo62, fun _ h => (by cases h)⟩)) rk_ok) nw_class (fun h => by cases h) rxk63
end MG67rx03x0
section MG67rx03x1
/-! laysFar: by hand -/
theorem rx04_hand : True := trivial
end MG67rx03x1
