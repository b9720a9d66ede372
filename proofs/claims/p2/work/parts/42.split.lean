/-! states cut apart: by a local, a field, an element, a value on the stack, a set of references -/
section SPL
variable {B : Nat → ac} {sz sl : Nat}
def av_cut : List Int → av → List av
  | [], a => [a]
  | c :: r, a => if a.2.1 ≤ c ∧ c < a.2.2 then (a.1, a.2.1, c) :: av_cut r (a.1, c + 1, a.2.2) else av_cut r a
theorem av_cut_ok : ∀ (cs : List Int) (a : av) (v : Value), a.1 ≤ 1 → av_ok v a → ∃ w, w ∈ av_cut cs a ∧ av_ok v w
  | [], a, v, _, h => ⟨a, List.mem_singleton_self _, h⟩
  | c :: r, a, v, h1, h => by
    unfold av_cut
    by_cases q : a.2.1 ≤ c ∧ c < a.2.2
    · rw [if_pos q]
      by_cases q0 : a.1 = 0
      · obtain ⟨x, rfl, x1, x2⟩ := av_int q0 h
        by_cases hc : x.toInt ≤ c
        · exact ⟨_, List.mem_cons_self, ⟨q0, x1, hc⟩⟩
        · obtain ⟨w, hw, hok⟩ := av_cut_ok r (a.1, c + 1, a.2.2) (.int x) h1 ⟨q0, (by dsimp only; omega), x2⟩
          exact ⟨w, List.mem_cons_of_mem _ hw, hok⟩
      · have q1 : a.1 = 1 := by omega
        obtain ⟨x, rfl, x1, x2⟩ := av_long q1 h
        by_cases hc : x.toInt ≤ c
        · exact ⟨_, List.mem_cons_self, ⟨q1, x1, hc⟩⟩
        · obtain ⟨w, hw, hok⟩ := av_cut_ok r (a.1, c + 1, a.2.2) (.long x) h1 ⟨q1, (by dsimp only; omega), x2⟩
          exact ⟨w, List.mem_cons_of_mem _ hw, hok⟩
    · rw [if_neg q]
      exact av_cut_ok r a v h1 h
/-- a component of a cell -/
theorem ac_cut {e : pm_E} {c f : Nat} {as : List av} {a : av} (cs : List Int) (q : ac_ok e (.inr (c, as))) (ha : as[f]? = some a) (h1 : a.1 ≤ 1) : ∃ w, w ∈ av_cut cs a ∧ ac_ok e (.inr (c, as.set f w)) := by
  have hlt : f < as.length := (List.getElem?_eq_some_iff.mp ha).1
  obtain ⟨kd, m, g | g | g | g | g⟩ | ⟨ci, fs⟩ := e
  · obtain ⟨q1, q2, q3⟩ := q
    obtain ⟨w, hw, hok⟩ := av_cut_ok cs a _ h1 (q3 f a ha)
    refine ⟨w, hw, q1, by rw [List.length_set]; exact q2, fun j b hj => ?_⟩
    by_cases e : f = j
    · subst e
      rw [List.getElem?_set_self hlt] at hj
      cases hj
      exact hok
    · rw [List.getElem?_set_ne e] at hj
      exact q3 j b hj
  · exact q.elim
  · exact q.elim
  · exact q.elim
  · exact q.elim
  · obtain ⟨q1, q2, q3⟩ := q
    have hf : f < fs.length := by omega
    obtain ⟨w, hw, hok⟩ := av_cut_ok cs a fs[f] h1 (q3 f fs[f] a (List.getElem?_eq_getElem hf) ha)
    refine ⟨w, hw, q1, by rw [List.length_set]; exact q2, fun j v b hj hb => ?_⟩
    by_cases e : f = j
    · subst e
      rw [List.getElem?_set_self hlt] at hb
      rw [List.getElem?_eq_getElem hf] at hj
      cases hb
      cases hj
      exact hok
    · rw [List.getElem?_set_ne e] at hb
      exact q3 j v b hj hb
/-- component f of cell i -/
def sp_cel (B : Nat → ac) (sz i f : Nat) (cs : List Int) (s : ast) : List ast := match ah_get B s.2.2.2 i with
  | .inr (c, as) => (match as[f]? with
    | some a => if a.1 ≤ 1 ∧ i < sz then (av_cut cs a).map (fun w => (s.1, s.2.1, s.2.2.1, ah_put s.2.2.2 i (.inr (c, as.set f w)))) else [s]
    | none => [s])
  | _ => [s]
theorem ah_put_ok {o : ah} {h : pm_H} {i : Nat} {c : ac} (q : ah_ok B sz o h) (hc : ac_ok (h i) c) : ah_ok B sz (ah_put o i c) h := by
  intro j hj
  rw [ah_put_get]
  by_cases e : j = i
  · rw [if_pos e, e]; exact hc
  · rw [if_neg e]; exact q j hj
theorem sp_cel_ok {i f : Nat} {cs : List Int} {s : ast} {st : pm_St} (q : ast_ok B sz sl s st) : ∃ t, t ∈ sp_cel B sz i f cs s ∧ ast_ok B sz sl t st := by
  unfold sp_cel
  split
  · rename_i c as e
    split
    · rename_i a ea
      by_cases h1 : a.1 ≤ 1 ∧ i < sz
      · rw [if_pos h1]
        obtain ⟨p1, p2, p3, p4, p5⟩ := q
        have hc := p4 i h1.2
        rw [e] at hc
        obtain ⟨w, hw, hok⟩ := ac_cut cs hc ea h1.1
        exact ⟨_, List.mem_map_of_mem hw, p1, p2, p3, ah_put_ok p4 hok, p5⟩
      · rw [if_neg h1]
        exact ⟨s, List.mem_singleton_self _, q⟩
    · exact ⟨s, List.mem_singleton_self _, q⟩
  · exact ⟨s, List.mem_singleton_self _, q⟩
/-- local x -/
def sp_loc (x : Nat) (cs : List Int) (s : ast) : List ast := match s.2.1[x]? with
  | some (some a) => if a.1 ≤ 1 then (av_cut cs a).map (fun w => (s.1, s.2.1.set x (some w), s.2.2.1, s.2.2.2)) else [s]
  | _ => [s]
theorem sp_loc_ok {x : Nat} {cs : List Int} {s : ast} {st : pm_St} (q : ast_ok B sz sl s st) : ∃ t, t ∈ sp_loc x cs s ∧ ast_ok B sz sl t st := by
  unfold sp_loc
  split
  · rename_i a ea
    by_cases h1 : a.1 ≤ 1
    · rw [if_pos h1]
      obtain ⟨p1, ⟨p2, p2'⟩, p3, p4⟩ := q
      obtain ⟨v, hv, hok⟩ := p2' x a ea
      obtain ⟨w, hw, hok'⟩ := av_cut_ok cs a v h1 hok
      refine ⟨_, List.mem_map_of_mem hw, p1, ⟨by rw [List.length_set]; exact p2, fun j b hj => ?_⟩, p3, p4⟩
      by_cases e : x = j
      · subst e
        rw [List.getElem?_set_self (List.getElem?_eq_some_iff.mp ea).1] at hj
        cases hj
        exact ⟨v, hv, hok'⟩
      · rw [List.getElem?_set_ne e] at hj
        exact p2' j b hj
    · rw [if_neg h1]
      exact ⟨s, List.mem_singleton_self _, q⟩
  · exact ⟨s, List.mem_singleton_self _, q⟩
theorem as_get2 : ∀ {vs : List Value} {bx : List av} {i : Nat} {b : av}, as_ok vs bx → bx[i]? = some b → ∃ v, vs[i]? = some v ∧ av_ok v b
  | v :: r, a :: t, 0, b, q, h => by
    have h : some a = some b := h
    cases h
    exact ⟨v, rfl, q.1⟩
  | v :: r, a :: t, i + 1, b, q, h => as_get2 (vs := r) (bx := t) q.2 h
  | [], [], i, b, q, h => by simp at h
  | [], _ :: _, _, _, q, _ => q.elim
  | _ :: _, [], _, _, q, _ => q.elim
theorem as_set2 : ∀ {vs : List Value} {bx : List av} {i : Nat} {v : Value} {b : av}, as_ok vs bx → vs[i]? = some v → av_ok v b → as_ok vs (bx.set i b)
  | v :: r, a :: t, 0, v', b, q, h, hb => by
    have h : some v = some v' := h
    cases h
    exact ⟨hb, q.2⟩
  | v :: r, a :: t, i + 1, v', b, q, h, hb => ⟨q.1, as_set2 (vs := r) (bx := t) q.2 h hb⟩
  | [], [], i, v', b, q, h, hb => by simp at h
  | [], _ :: _, _, _, _, q, _, _ => q.elim
  | _ :: _, [], _, _, _, q, _, _ => q.elim
/-- place x of the stack; a set of references is forked -/
def sp_stk (x : Nat) (cs : List Int) (s : ast) : List ast := match s.2.2.1[x]? with
  | some a => if a.1 ≤ 1 then (av_cut cs a).map (fun w => (s.1, s.2.1, s.2.2.1.set x w, s.2.2.2)) else if a.1 = 2 then (av_ids a).map (fun p : Nat => (s.1, s.2.1, s.2.2.1.set x (2, (p : Int), 1), s.2.2.2)) else [s]
  | _ => [s]
theorem av_single (p : Nat) : av_ok (.ref p) (2, (p : Int), 1) := ⟨rfl, by simp [av_ids]⟩
theorem sp_stk_ok {x : Nat} {cs : List Int} {s : ast} {st : pm_St} (q : ast_ok B sz sl s st) : ∃ t, t ∈ sp_stk x cs s ∧ ast_ok B sz sl t st := by
  unfold sp_stk
  split
  · rename_i a ea
    obtain ⟨p1, p2, p3, p4⟩ := q
    obtain ⟨v, hv, hok⟩ := as_get2 p3 ea
    by_cases h1 : a.1 ≤ 1
    · rw [if_pos h1]
      obtain ⟨w, hw, hok'⟩ := av_cut_ok cs a v h1 hok
      exact ⟨_, List.mem_map_of_mem hw, p1, p2, as_set2 p3 hv hok', p4⟩
    · rw [if_neg h1]
      by_cases h2 : a.1 = 2
      · rw [if_pos h2]
        obtain ⟨p, rfl, hp⟩ := av_ref h2 hok
        exact ⟨_, List.mem_map_of_mem hp, p1, p2, as_set2 p3 hv (av_single p), p4⟩
      · rw [if_neg h2]
        exact ⟨s, List.mem_singleton_self _, p1, p2, p3, p4⟩
  · exact ⟨s, List.mem_singleton_self _, q⟩
/-- a single reference -/
def av_one1 (a : Option av) : Option Nat := match a with
  | some (2, p, 1) => some p.toNat
  | _ => none
def sp_fld (B : Nat → ac) (o : ah) (i f : Nat) : Option av := match ah_get B o i with
  | .inr (_, as) => as[f]?
  | _ => none
/-- what is cut: 0 local a; 1 field b of the object in local a; 2 field c of that in field b; 3 place a of the stack; 4 the element of the array in field b with the index in local c % 100, plus c / 100; 5 local c, where local a may be b or more -/
abbrev sp : Type := Nat × Nat × Nat × Nat × List Int
def sp_do (B : Nat → ac) (sz : Nat) (p : sp) (s : ast) : List ast := match p.1 with
  | 0 => sp_loc p.2.1 p.2.2.2.2 s
  | 1 => (match av_one1 (aA_get s.2.1 p.2.1) with
    | some i => sp_cel B sz i p.2.2.1 p.2.2.2.2 s
    | none => [s])
  | 2 => (match av_one1 (aA_get s.2.1 p.2.1) with
    | some i => (match av_one1 (sp_fld B s.2.2.2 i p.2.2.1) with
      | some i' => sp_cel B sz i' p.2.2.2.1 p.2.2.2.2 s
      | none => [s])
    | none => [s])
  | 3 => sp_stk p.2.1 p.2.2.2.2 s
  | 4 => (match av_one1 (aA_get s.2.1 p.2.1) with
    | some i => (match av_one1 (sp_fld B s.2.2.2 i p.2.2.1), aA_get s.2.1 (p.2.2.2.1 % 100) with
      | some i', some x => if x.2.1 = x.2.2 then sp_cel B sz i' (x.2.1.toNat + p.2.2.2.1 / 100) p.2.2.2.2 s else [s]
      | _, _ => [s])
    | none => [s])
  | 5 => (match aA_get s.2.1 p.2.1 with
    | some x => if (p.2.2.1 : Int) ≤ x.2.2 then sp_loc p.2.2.2.1 p.2.2.2.2 s else [s]
    | none => [s])
  | _ => [s]
theorem sp_do_ok {p : sp} {s : ast} {st : pm_St} (q : ast_ok B sz sl s st) : ∃ t, t ∈ sp_do B sz p s ∧ ast_ok B sz sl t st := by
  have triv : ∃ t, t ∈ [s] ∧ ast_ok B sz sl t st := ⟨s, List.mem_singleton_self _, q⟩
  unfold sp_do
  split
  · exact sp_loc_ok q
  · split
    · exact sp_cel_ok q
    · exact triv
  · split
    · split
      · exact sp_cel_ok q
      · exact triv
    · exact triv
  · exact sp_stk_ok q
  · split
    · split
      · split
        · exact sp_cel_ok q
        · exact triv
      · exact triv
    · exact triv
  · split
    · split
      · exact sp_loc_ok q
      · exact triv
    · exact triv
  · exact triv
def sp_all (B : Nat → ac) (sz : Nat) : List sp → List ast → List ast
  | [], ss => ss
  | p :: r, ss => sp_all B sz r (ss.flatMap (sp_do B sz p))
theorem sp_all_ok {st : pm_St} : ∀ (ps : List sp) (ss : List ast), (∃ s, s ∈ ss ∧ ast_ok B sz sl s st) → ∃ t, t ∈ sp_all B sz ps ss ∧ ast_ok B sz sl t st
  | [], _, h => h
  | p :: r, ss, ⟨s, hs, q⟩ => by
    obtain ⟨t, ht, hq⟩ := sp_do_ok (p := p) q
    exact sp_all_ok r _ ⟨t, List.mem_flatMap.mpr ⟨s, hs, ht⟩, hq⟩
end SPL
