/-! the relation of the whole states and every call -/
section RL8
variable {sl kx km : Nat} {h h1 h2 : pm_H} {R : pm_Rs} {vs : List Int32} {v w x y z k m e s r : Int32}
theorem SR_tw (q : twX h h1) (z : SR h) : SR h1 := by
  obtain ⟨q0, cc, gc, hc, s⟩ := z
  have f : frm [197] [] h h1 := ⟨fun i hi => q.1 i (fun e => by rw [e] at hi; cases hi), fun c g ho _ => Fi_e (q.1 c (fr_no rfl ho))⟩
  have k : srF [197] [] = true := by decide +kernel
  exact ⟨q0, cc, gc, HC_fr hc (wt_of q.2) f k, SR_fr hc s f k⟩
def REL8 (h : pm_H) : Prop := REL h ∧ SR h
def LI8 (h : pm_H) : Prop := mInv h ∧ REL8 h
theorem LI8_7 (hI : LI8 h) : LI h := ⟨hI.1, hI.2.1⟩
theorem LI8_6 (hI : LI8 h) : LI6 h := LI_6 (LI8_7 hI)
theorem LI8_56 (hI : LI8 h) : LI5 h := LI_56 (LI8_7 hI)
theorem twX_LI8 (hI : LI8 h) (q : twX h h1) : LI8 h1 := by
  have h7 := twX_LI (LI8_7 hI) q
  exact ⟨h7.1, h7.2, SR_tw q hI.2.2⟩
theorem rel8_w (sm : sMK km = true) (gm : sGK km = true) (tm : sKK km = true) (nm : nKK km = true) (om : roK km = true) (cm : sCK km = true) (k1 : sf_X wMRX km = true) (k2 : sf_X wMNX km = true) (k3 : sf_X wMCX km = true) (k4 : sf_X wMPX km = true) (k5 : sf_X wMKX km = true) (k6 : sf_X wMLX km = true) (k7 : sf_X wFX km = true) (i1 : mInv h1) (vs : List Int32) {mx m f l : Nat} (r2 : pm_run PT m f l km (0, pm_l0 (.ref 162 :: vs.map Value.int) mx, [], h1, 198, sl) = some R) (lo : ∀ i, i < 162 → R.2.1 i = h1 i) (i2 : mInv R.2.1) (r : REL8 h1) : REL8 R.2.1 := by
  refine ⟨rel_w sm gm tm nm om cm i1 vs r2 lo r.1, ?_⟩
  obtain ⟨rv, h2, s2⟩ := R
  exact SR_m k1 (now_keep k2 i1 r2) k3 k4 k5 k6 k7 i1 i2 lo r2 r.2
theorem rel8_answer (pr : prun sl 104 232 vs h h1 h2 v w) (hI : LI8 h) : REL8 h2 := ⟨rel_R rfl rfl rfl rfl rfl rfl rfl rfl rfl rfl pr (LI8_7 hI), sr_answer hI.1 pr hI.2.2⟩
theorem rel8_wins (pr : prun sl 105 234 vs h h1 h2 v w) (hI : LI8 h) : REL8 h2 := ⟨rel_R rfl rfl rfl rfl rfl rfl rfl rfl rfl rfl pr (LI8_7 hI), sr_wins hI.1 pr hI.2.2⟩
theorem rel8_unseen (pr : prun sl 106 235 vs h h1 h2 v w) (hI : LI8 h) : REL8 h2 := ⟨rel_R rfl rfl rfl rfl rfl rfl rfl rfl rfl rfl pr (LI8_7 hI), sr_unseen hI.1 pr hI.2.2⟩
theorem rel8_way (pr : prun sl 108 238 vs h h1 h2 v w) (hI : LI8 h) : REL8 h2 := ⟨rel_R rfl rfl rfl rfl rfl rfl rfl rfl rfl rfl pr (LI8_7 hI), sr_way hI.1 pr hI.2.2⟩
theorem rel8_walks (pr : prun sl 109 239 vs h h1 h2 v w) (hI : LI8 h) : REL8 h2 := ⟨rel_R rfl rfl rfl rfl rfl rfl rfl rfl rfl rfl pr (LI8_7 hI), sr_walks hI.1 pr hI.2.2⟩
theorem rel8_alive (pr : prun sl 110 240 vs h h1 h2 v w) (hI : LI8 h) : REL8 h2 := ⟨rel_R rfl rfl rfl rfl rfl rfl rfl rfl rfl rfl pr (LI8_7 hI), sr_alive hI.1 pr hI.2.2⟩
theorem rel8_net (pr : prun sl 113 244 vs h h1 h2 v w) (hI : LI8 h) : REL8 h2 := ⟨rel_R rfl rfl rfl rfl rfl rfl rfl rfl rfl rfl pr (LI8_7 hI), sr_net hI.1 pr hI.2.2⟩
theorem rel8_settle (pr : prun sl 114 245 vs h h1 h2 v w) (hI : LI8 h) : REL8 h2 := ⟨rel_R rfl rfl rfl rfl rfl rfl rfl rfl rfl rfl pr (LI8_7 hI), sr_settle hI.1 pr hI.2.2⟩
theorem rel8_ring (pr : prun sl 115 247 vs h h1 h2 v w) (hI : LI8 h) : REL8 h2 := ⟨rel_R rfl rfl rfl rfl rfl rfl rfl rfl rfl rfl pr (LI8_7 hI), sr_ring hI.1 pr hI.2.2⟩
theorem rel8_ranks (pr : prun sl 116 249 vs h h1 h2 v w) (hI : LI8 h) : REL8 h2 := ⟨rel_R rfl rfl rfl rfl rfl rfl rfl rfl rfl rfl pr (LI8_7 hI), sr_ranks hI.1 pr hI.2.2⟩
theorem rel8_league (pr : prun sl 117 250 vs h h1 h2 v w) (hI : LI8 h) : REL8 h2 := ⟨rel_R rfl rfl rfl rfl rfl rfl rfl rfl rfl rfl pr (LI8_7 hI), sr_league hI.1 pr hI.2.2⟩
theorem rel8_fits (pr : prun sl 120 255 vs h h1 h2 v w) (hI : LI8 h) : REL8 h2 := ⟨rel_R rfl rfl rfl rfl rfl rfl rfl rfl rfl rfl pr (LI8_7 hI), sr_fits hI.1 pr hI.2.2⟩
theorem rel8_ask (pr : prun sl 121 256 vs h h1 h2 v w) (hI : LI8 h) : REL8 h2 := ⟨rel_R rfl rfl rfl rfl rfl rfl rfl rfl rfl rfl pr (LI8_7 hI), sr_ask hI.1 pr hI.2.2⟩
theorem rel8_rests (pr : prun sl 123 261 vs h h1 h2 v w) (hI : LI8 h) : REL8 h2 := ⟨rel_R rfl rfl rfl rfl rfl rfl rfl rfl rfl rfl pr (LI8_7 hI), sr_rests hI.1 pr hI.2.2⟩
theorem rel8_count (pr : prun sl 127 267 vs h h1 h2 v w) (hI : LI8 h) : REL8 h2 := ⟨rel_R rfl rfl rfl rfl rfl rfl rfl rfl rfl rfl pr (LI8_7 hI), sr_count hI.1 pr hI.2.2⟩
theorem rel8_sign (pr : prun sl 86 178 [x] h h1 h2 v w) (hI : LI8 h) : REL8 h2 := ⟨rel_sign pr (LI8_7 hI), sr_sign hI.1 pr hI.2.2⟩
theorem rel8_end (pr : prun sl 87 179 [x] h h1 h2 v w) (hI : LI8 h) : REL8 h2 := ⟨rel_end pr (LI8_7 hI), sr_end hI.1 pr hI.2.2⟩
theorem rel8_courts (pr : prun sl 88 188 [] h h1 h2 v w) (hI : LI8 h) : REL8 h2 := ⟨rel_courts pr (LI8_7 hI), (sr_courts pr (LI8_56 hI) hI.2.2).2⟩
theorem rel8_gifts (pr : prun sl 89 192 [] h h1 h2 v w) (hI : LI8 h) : REL8 h2 := ⟨rel_gifts pr (LI8_7 hI), (sr_gifts pr (LI8_56 hI) hI.2.2).2⟩
theorem rel8_rule (pr : prun sl 90 198 [] h h1 h2 v w) (hI : LI8 h) : REL8 h2 := ⟨rel_rule pr (LI8_7 hI), sr_rule (LI8_56 hI) pr hI.2.2⟩
theorem rel8_year (pr : prun sl 100 228 [] h h1 h2 v w) (hI : LI8 h) : REL8 h2 := ⟨rel_year pr (LI8_7 hI), (sr_year (LI8_56 hI) pr hI.2.2).2⟩
theorem rel8_law (pr : prun sl 122 258 [] h h1 h2 v w) (hI : LI8 h) : REL8 h2 := ⟨rel_law pr (LI8_7 hI), sr_law (LI8_56 hI) pr hI.2.2⟩
theorem rel8_keep (pr : prun sl 125 264 [x] h h1 h2 v w) (hI : LI8 h) : REL8 h2 := ⟨rel_keep pr (LI8_7 hI), sr_keep pr (LI8_6 hI).2.2 hI.2.2⟩
theorem rel8_again (pr : prun sl 126 265 [x] h h1 h2 v w) (hI : LI8 h) : v = w ∧ REL8 h2 := ⟨(rel_again pr (LI8_7 hI)).1, (rel_again pr (LI8_7 hI)).2, sr_again pr (LI8_6 hI).2.2 hI.2.2⟩
theorem rel8_road (pr : prun sl 94 209 [x, y, z] h h1 h2 v w) (hI : LI8 h) : v = w ∧ REL8 h2 := ⟨(rel_road pr (LI8_7 hI)).1, (rel_road pr (LI8_7 hI)).2, sr_road hI.1 pr hI.2.2⟩
theorem rel8_send (pr : prun sl 96 222 [x, y] h h1 h2 v w) (hI : LI8 h) : REL8 h2 := ⟨rel_R rfl rfl rfl rfl rfl rfl rfl rfl rfl rfl pr (LI8_7 hI), (sr_send pr hI.1 hI.2.2).2⟩
theorem rel8_envoy (pr : prun sl 98 224 [x, y, z] h h1 h2 v w) (hI : LI8 h) : REL8 h2 := ⟨rel_R rfl rfl rfl rfl rfl rfl rfl rfl rfl rfl pr (LI8_7 hI), (sr_envoy pr hI.2.2).2⟩
theorem rel8_forgive (pr : prun sl 99 225 [x, y] h h1 h2 v w) (hI : LI8 h) : REL8 h2 := ⟨rel_R rfl rfl rfl rfl rfl rfl rfl rfl rfl rfl pr (LI8_7 hI), (sr_forgive pr hI.2.2).2⟩
theorem rel8_months (pr : prun sl 97 223 [x] h h1 h2 v w) (hI : LI8 h) : REL8 h2 := ⟨rel_R rfl rfl rfl rfl rfl rfl rfl rfl rfl rfl pr (LI8_7 hI), (sr_months pr hI.2.2).2⟩
theorem rel8_undo (pr : prun sl 101 214 [] h h1 h2 v w) (hI : LI8 h) : REL8 h2 := ⟨rel_R rfl rfl rfl rfl rfl rfl rfl rfl rfl rfl pr (LI8_7 hI), (sr_undo pr hI.2.2).2⟩
theorem rel8_value (pr : prun sl 102 230 [x, y] h h1 h2 v w) (hI : LI8 h) : REL8 h2 := ⟨rel_R rfl rfl rfl rfl rfl rfl rfl rfl rfl rfl pr (LI8_7 hI), (sr_value pr hI.2.2).2⟩
theorem rel8_where (pr : prun sl 103 231 [x] h h1 h2 v w) (hI : LI8 h) : REL8 h2 := ⟨rel_R rfl rfl rfl rfl rfl rfl rfl rfl rfl rfl pr (LI8_7 hI), (sr_where pr hI.2.2).2⟩
theorem rel8_swaps (pr : prun sl 107 236 [] h h1 h2 v w) (hI : LI8 h) : REL8 h2 := ⟨rel_R rfl rfl rfl rfl rfl rfl rfl rfl rfl rfl pr (LI8_7 hI), st_swaps pr hI.1 hI.2.2⟩
theorem rel8_feeds (pr : prun sl 111 242 [x] h h1 h2 v w) (hI : LI8 h) : REL8 h2 := ⟨rel_R rfl rfl rfl rfl rfl rfl rfl rfl rfl rfl pr (LI8_7 hI), st_feeds pr hI.2.2⟩
theorem rel8_starves (pr : prun sl 112 243 [x, y] h h1 h2 v w) (hI : LI8 h) : REL8 h2 := ⟨rel_R rfl rfl rfl rfl rfl rfl rfl rfl rfl rfl pr (LI8_7 hI), st_starves pr hI.2.2⟩
theorem rel8_sheet (pr : prun sl 95 210 [k, m, e, s] h h1 h2 v w) (hI : LI8 h) : REL8 h2 := ⟨rel_R rfl rfl rfl rfl rfl rfl rfl rfl rfl rfl pr (LI8_7 hI), sr_sheet pr hI.2.2⟩
theorem rel8_heard (pr : prun sl 118 251 [x, y] h h1 h2 v w) (hI : LI8 h) : REL8 h2 := ⟨rel_R rfl rfl rfl rfl rfl rfl rfl rfl rfl rfl pr (LI8_7 hI), sr_heard pr hI.2.2⟩
theorem rel8_forget (pr : prun sl 119 252 [] h h1 h2 v w) (hI : LI8 h) : REL8 h2 := ⟨rel_R rfl rfl rfl rfl rfl rfl rfl rfl rfl rfl pr (LI8_7 hI), sr_forget pr hI.2.2⟩
theorem rel8_years (pr : prun sl 124 263 [r, m] h h1 h2 v w) (hI : LI8 h) : REL8 h2 := ⟨rel_R rfl rfl rfl rfl rfl rfl rfl rfl rfl rfl pr (LI8_7 hI), st_years pr hI.1 hI.2.2⟩
theorem eq8_months (pr : prun sl 97 223 [x] h h1 h2 v w) (hI : LI8 h) : v = w := (sr_months pr hI.2.2).1
end RL8
