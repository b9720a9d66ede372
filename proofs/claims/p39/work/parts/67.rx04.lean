/-! contracts -/
def rxt64 : con := (237, [(2, 162, 1), (0, 0, 5)], [], [none], [], 65, 3400, false)
theorem rxk64 : con_chk (kn_or (kl bB rxF []) rk) PT bB 198 rxF0 rxJ rxjo rxP 11095 rxt64 = true := by decide +kernel   -- X11_laysFar
theorem rxo64 : con_ok PT bB 198 rxF rxQ rxt64 := con_chk_ok rxle rxpp (kn_or_ok (kl_ok (fun _ h => (by cases h))) rk_ok) nw_class (fun h => by cases h) rxk64
