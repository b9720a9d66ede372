/-! the simple instructions on the abstract machine -/
section ABS
def aa_n (s : ast) (n : Nat) (S : List av) : Option (List ast) := some [(s.1 + n, s.2.1, S, s.2.2.2)]
def aa_bi (g : av → av → Option av) (s : ast) : Option (List ast) := match s.2.2.1 with
  | b :: a :: r => if a.1 = 0 ∧ b.1 = 0 then (match g a b with
    | some c => aa_n s 1 (c :: r)
    | none => none) else none
  | _ => none
def aa_bl (g : av → av → Option av) (s : ast) : Option (List ast) := match s.2.2.1 with
  | b :: a :: r => if a.1 = 1 ∧ b.1 = 1 then (match g a b with
    | some c => aa_n s 1 (c :: r)
    | none => none) else none
  | _ => none
def aa_ui (g : av → av) (s : ast) : Option (List ast) := match s.2.2.1 with
  | a :: r => if a.1 = 0 then aa_n s 1 (g a :: r) else none
  | _ => none
def aa_lo (t n i : Nat) (s : ast) : Option (List ast) := match aA_get s.2.1 i with
  | some a => if a.1 = t then aa_n s n (a :: s.2.2.1) else none
  | none => none
def aa_so (t n mx i : Nat) (s : ast) : Option (List ast) := match s.2.2.1 with
  | a :: r => if a.1 = t ∧ i < mx ∧ i < s.2.1.length then some [(s.1 + n, aA_st1 s.2.1 i a, r, s.2.2.2)] else none
  | _ => none
def aa_sL (n mx i : Nat) (s : ast) : Option (List ast) := match s.2.2.1 with
  | a :: r => if a.1 = 1 ∧ i + 1 < mx ∧ i < s.2.1.length then some [(s.1 + n, aA_st2 s.2.1 i a, r, s.2.2.2)] else none
  | _ => none
def aa_jp (s : ast) (off : Int) (S : List av) : Option (List ast) := match pm_tgt s.1 off with
  | some t => some [(t, s.2.1, S, s.2.2.2)]
  | none => none
def aa_br (r : Option Bool) (s : ast) (off : Int) (S : List av) : Option (List ast) := match pm_tgt s.1 off with
  | some t => (match r with
    | some true => some [(t, s.2.1, S, s.2.2.2)]
    | some false => some [(s.1 + 3, s.2.1, S, s.2.2.2)]
    | none => some [(t, s.2.1, S, s.2.2.2), (s.1 + 3, s.2.1, S, s.2.2.2)])
  | none => none
def aa_all (s : ast) (S : List av) : List Int → Option (List ast)
  | [] => some []
  | off :: r => match pm_tgt s.1 off, aa_all s S r with
    | some t, some l => some ((t, s.2.1, S, s.2.2.2) :: l)
    | _, _ => none
/-- the join over some cells -/
def aa_over (f : Nat → Option av) : List Nat → Option av
  | [] => none
  | [i] => f i
  | i :: r => match f i, aa_over f r with
    | some a, some b => av_join a b
    | _, _ => none
theorem aa_over_ok {f : Nat → Option av} {p : Nat} : ∀ {is : List Nat} {a : av}, aa_over f is = some a → p ∈ is → ∃ b, f p = some b ∧ ∀ v, av_ok v b → av_ok v a
  | [], a, h, hm => by cases h
  | [i], a, h, hm => by
    have e : p = i := by simpa using hm
    subst e
    exact ⟨a, h, fun _ q => q⟩
  | i :: j :: r, a, h, hm => by
    unfold aa_over at h
    split at h
    · rename_i x y e1 e2
      rcases List.mem_cons.mp hm with rfl | hm
      · exact ⟨x, e1, fun v q => (av_join_ok h).1 q⟩
      · obtain ⟨b, h1, h2⟩ := aa_over_ok e2 hm
        exact ⟨b, h1, fun v q => (av_join_ok h).2 (h2 v q)⟩
    · cases h
def aa_fld (B : Nat → ac) (o : ah) (sz cj f i : Nat) : Option av := if i < sz then (match ah_get B o i with
  | .inr (ci, as) => if ci = cj ∧ ci < 1000 then as[f]? else none
  | _ => none) else none
def aa_gf (T : pm_Tab) (B : Nat → ac) (sz k j : Nat) (s : ast) : Option (List ast) := match s.2.2.1 with
  | a :: r => if a.1 = 2 then (match pm_fld T (pm_o T k) j with
    | some (cj, f, _) => (match aa_over (aa_fld B s.2.2.2 sz cj f) (av_ids a) with
      | some v => aa_n s 3 (v :: r)
      | none => none)
    | none => none) else none
  | _ => none
def aa_fits (t : Nat) (v : av) : Bool := match t with
  | 0 => decide (v.1 = 0)
  | 1 => decide (v.1 = 1)
  | 2 => decide (v.1 = 2)
  | 3 => decide (v.1 = 0 ∧ 0 ≤ v.2.1 ∧ v.2.2 ≤ 1)
  | _ => false
def aa_pfu (cj f : Nat) (v : av) (c : ac) : Option ac := match c with
  | .inr (ci, as) => if ci = cj ∧ f < as.length ∧ ci < 1000 then some (.inr (ci, as.set f v)) else none
  | _ => none
def aa_pf (T : pm_Tab) (B : Nat → ac) (sz k j : Nat) (s : ast) : Option (List ast) := match s.2.2.1 with
  | v :: a :: r => if a.1 = 2 then (match pm_fld T (pm_o T k) j with
    | some (cj, f, t) => if aa_fits (t % 10) v = true ∧ (t < 10 ∨ (t < 20 ∧ pm_init T k = true)) ∧ (av_ids a).all (fun i => decide (i < sz) && (aa_pfu cj f v (ah_get B s.2.2.2 i)).isSome) = true then (match ah_upd B (aa_pfu cj f v) (av_ids a) s.2.2.2 with
      | some o => some [(s.1 + 3, s.2.1, r, o)]
      | none => none) else none
    | none => none) else none
  | _ => none
/-- an element of an array: its type ty, its interval's kind t -/
def aa_elt (T : pm_Tab) (B : Nat → ac) (o : ah) (sz t : Nat) (ty : FieldType) (ix : av) (i : Nat) : Option av := if i < sz then (match ah_get B o i with
  | .inl (kd, n, a) => if (pm_ty T)[kd]? = some ty ∧ a.1 = t ∧ 0 ≤ ix.2.1 ∧ ix.2.2 < n then some a else none
  | _ => none) else none
def aa_ald (T : pm_Tab) (B : Nat → ac) (sz t : Nat) (ty : FieldType) (s : ast) : Option (List ast) := match s.2.2.1 with
  | ix :: a :: r => if ix.1 = 0 ∧ a.1 = 2 then (match aa_over (aa_elt T B s.2.2.2 sz t ty ix) (av_ids a) with
    | some v => aa_n s 1 (v :: r)
    | none => none) else none
  | _ => none
/-- an element of an array of references -/
def aa_qelt (T : pm_Tab) (B : Nat → ac) (o : ah) (sz : Nat) (ix : av) (i : Nat) : Option av := if i < sz then (match ah_get B o i with
  | .inl (kd, n, a) => if pm_isObj (pm_ty T)[kd]? = true ∧ a.1 = 2 ∧ 0 ≤ ix.2.1 ∧ ix.2.2 < n ∧ 0 ≤ a.2.1 ∧ ix.2.2 < 900 then some (2, a.2.1 + 6 * ix.2.1, ix.2.2 - ix.2.1 + 1) else none
  | _ => none) else none
def aa_qld (T : pm_Tab) (B : Nat → ac) (sz : Nat) (s : ast) : Option (List ast) := match s.2.2.1 with
  | ix :: a :: r => if ix.1 = 0 ∧ a.1 = 2 then (match aa_over (aa_qelt T B s.2.2.2 sz ix) (av_ids a) with
    | some v => aa_n s 1 (v :: r)
    | none => none) else none
  | _ => none
/-- the same of ints; an array may be known place by place (.inr, 1000 more than its type's number) -/
def aa_elti (T : pm_Tab) (B : Nat → ac) (o : ah) (sz : Nat) (ty : FieldType) (ix : av) (i : Nat) : Option av := if i < sz then (match ah_get B o i with
  | .inl (kd, n, a) => if (pm_ty T)[kd]? = some ty ∧ a.1 = 0 ∧ 0 ≤ ix.2.1 ∧ ix.2.2 < n then some a else none
  | .inr (c, as) => if 1000 ≤ c ∧ (pm_ty T)[c - 1000]? = some ty ∧ 0 ≤ ix.2.1 ∧ ix.2.2 < as.length then aa_over (fun j => as[j]?) ((List.range (ix.2.2 - ix.2.1 + 1).toNat).map (fun j => ix.2.1.toNat + j)) else none) else none
def aa_aldi (T : pm_Tab) (B : Nat → ac) (sz : Nat) (ty : FieldType) (s : ast) : Option (List ast) := match s.2.2.1 with
  | ix :: a :: r => if ix.1 = 0 ∧ a.1 = 2 then (match aa_over (aa_elti T B s.2.2.2 sz ty ix) (av_ids a) with
    | some v => aa_n s 1 (v :: r)
    | none => none) else none
  | _ => none
/-- the places lo .. hi (counted from i) are joined with v -/
def aa_wk (v : av) (lo hi : Int) : Nat → List av → Option (List av)
  | _, [] => some []
  | i, a :: r => match (if lo ≤ (i : Int) ∧ (i : Int) ≤ hi then av_join a v else some a), aa_wk v lo hi (i + 1) r with
    | some b, some t => some (b :: t)
    | _, _ => none
def aa_astui (T : pm_Tab) (ty : FieldType) (ix v : av) (c : ac) : Option ac := match c with
  | .inl (kd, n, a) => if (pm_ty T)[kd]? = some ty ∧ a.1 = 0 ∧ 0 ≤ ix.2.1 ∧ ix.2.2 < n then (match av_join a v with
    | some b => some (.inl (kd, n, b))
    | none => none) else none
  | .inr (c, as) => if 1000 ≤ c ∧ (pm_ty T)[c - 1000]? = some ty ∧ 0 ≤ ix.2.1 ∧ ix.2.2 < as.length then (if ix.2.1 = ix.2.2 then some (.inr (c, as.set ix.2.1.toNat v)) else (match aa_wk v ix.2.1 ix.2.2 0 as with
    | some bs => some (.inr (c, bs))
    | none => none)) else none
def aa_asti (T : pm_Tab) (B : Nat → ac) (sz : Nat) (ty : FieldType) (nr : av → av) (s : ast) : Option (List ast) := match s.2.2.1 with
  | v :: ix :: a :: r => if v.1 = 0 ∧ ix.1 = 0 ∧ a.1 = 2 ∧ (av_ids a).all (fun i => decide (i < sz) && (aa_astui T ty ix (nr v) (ah_get B s.2.2.2 i)).isSome) = true then (match ah_upd B (aa_astui T ty ix (nr v)) (av_ids a) s.2.2.2 with
      | some o => some [(s.1 + 1, s.2.1, r, o)]
      | none => none) else none
  | _ => none
def aa_astu (T : pm_Tab) (t : Nat) (ty : FieldType) (ix v : av) (c : ac) : Option ac := match c with
  | .inl (kd, n, a) => if (pm_ty T)[kd]? = some ty ∧ a.1 = t ∧ 0 ≤ ix.2.1 ∧ ix.2.2 < n then (match av_join a v with
    | some b => some (.inl (kd, n, b))
    | none => none) else none
  | _ => none
def aa_ast (T : pm_Tab) (B : Nat → ac) (sz t : Nat) (ty : FieldType) (nr : av → av) (s : ast) : Option (List ast) := match s.2.2.1 with
  | v :: ix :: a :: r => if v.1 = t ∧ ix.1 = 0 ∧ a.1 = 2 ∧ (av_ids a).all (fun i => decide (i < sz) && (aa_astu T t ty ix (nr v) (ah_get B s.2.2.2 i)).isSome) = true then (match ah_upd B (aa_astu T t ty ix (nr v)) (av_ids a) s.2.2.2 with
      | some o => some [(s.1 + 1, s.2.1, r, o)]
      | none => none) else none
  | _ => none
def aa_len (T : pm_Tab) (B : Nat → ac) (o : ah) (sz i : Nat) : Option av := if i < sz then (match ah_get B o i with
  | .inl (kd, n, _) => if ((pm_ty T)[kd]?).isSome = true then some (0, (Int32.ofNat n).toInt, (Int32.ofNat n).toInt) else none
  | .inr (c, as) => if 1000 ≤ c ∧ ((pm_ty T)[c - 1000]?).isSome = true then some (0, (Int32.ofNat as.length).toInt, (Int32.ofNat as.length).toInt) else none) else none
def aa_alen (T : pm_Tab) (B : Nat → ac) (sz : Nat) (s : ast) : Option (List ast) := match s.2.2.1 with
  | a :: r => if a.1 = 2 then (match aa_over (aa_len T B s.2.2.2 sz) (av_ids a) with
    | some v => aa_n s 1 (v :: r)
    | none => none) else none
  | _ => none
def aa_sum (S : List av) : Nat := (S.map fun a => cond (Nat.beq a.1 1) 2 1).sum
def aa_src (T : pm_Tab) (B : Nat → ac) (o : ah) (sz : Nat) (q : Int) (i : Nat) : Option av := if i < sz then (match ah_get B o i with
  | .inl (kd, n, a) => if (pm_ty T)[kd]? = some .int ∧ a.1 = 0 ∧ q ≤ n ∧ 0 < n then some a else none
  | _ => none) else none
def aa_cpu (T : pm_Tab) (q : Int) (v : av) (c : ac) : Option ac := match c with
  | .inl (kd, n, a) => if (pm_ty T)[kd]? = some .int ∧ a.1 = 0 ∧ q ≤ n ∧ 0 < n then (match av_join a v with
    | some b => some (.inl (kd, n, b))
    | none => none) else none
  | _ => none
def aa_lib (T : pm_Tab) (B : Nat → ac) (sz fr lo w : Nat) (s : ast) : Option (List ast) := match w, s.2.2.1 with
  | 6, a :: r => if a.1 = 2 ∧ 1 ≤ fr ∧ aa_sum r + 12 ≤ lo then aa_n s 3 r else none
  | 7, b :: a :: r => if a.1 = 0 ∧ b.1 = 0 ∧ 1 ≤ fr ∧ aa_sum r + 13 ≤ lo then aa_n s 3 ((0, min a.2.1 b.2.1, min a.2.2 b.2.2) :: r) else none
  | 8, b :: a :: r => if a.1 = 0 ∧ b.1 = 0 ∧ 1 ≤ fr ∧ aa_sum r + 13 ≤ lo then aa_n s 3 ((0, max a.2.1 b.2.1, max a.2.2 b.2.2) :: r) else none
  | 9, n :: dp :: a :: sp :: a0 :: r => if n.1 = 0 ∧ dp.1 = 0 ∧ a.1 = 2 ∧ sp.1 = 0 ∧ a0.1 = 2 ∧ 0 ≤ n.2.1 ∧ 0 ≤ dp.2.1 ∧ 0 ≤ sp.2.1 ∧ 1 ≤ fr ∧ aa_sum r + 60 ≤ lo then (match aa_over (aa_src T B s.2.2.2 sz (sp.2.2 + n.2.2)) (av_ids a0) with
    | some v => if (av_ids a).all (fun i => decide (i < sz) && (aa_cpu T (dp.2.2 + n.2.2) v (ah_get B s.2.2.2 i)).isSome) = true then (match ah_upd B (aa_cpu T (dp.2.2 + n.2.2) v) (av_ids a) s.2.2.2 with
      | some o => some [(s.1 + 3, s.2.1, r, o)]
      | none => none) else none
    | none => none) else none
  | _, _ => none
def aa_libW (T : pm_Tab) (B : Nat → ac) (sp : Bool) (sz fr lo k j : Nat) (s : ast) : Option (List ast) := match pm_mlk T (pm_o T k) j with
  | some (w, _) => if (w == 6) = sp then aa_lib T B sz fr lo w s else none
  | none => none
def ag_neg (a : av) : av := ai_mk (-a.2.2) (-a.2.1)
def ag_i2l (a : av) : av := (1, a.2.1, a.2.2)
def ag_cut (lo hi : Int) (a : av) : av := if lo ≤ a.2.1 ∧ a.2.2 ≤ hi then a else (0, lo, hi)
def ag_addL (a b : av) : Option av := some (al_mk (a.2.1 + b.2.1) (a.2.2 + b.2.2))
def ag_subL (a b : av) : Option av := some (al_mk (a.2.1 - b.2.2) (a.2.2 - b.2.1))
def ag_mulL (_ _ : av) : Option av := some al_top
def ag_divL (_ b : av) : Option av := if 0 < b.2.1 ∨ b.2.2 < 0 then some al_top else none
def ag_lcmp (a b : av) : Option av := if a.2.2 < b.2.1 then some (0, -1, -1) else if b.2.2 < a.2.1 then some (0, 1, 1) else if a.2.1 = a.2.2 ∧ b.2.1 = b.2.2 ∧ a.2.1 = b.2.1 then some (0, 0, 0) else if b.2.2 ≤ a.2.1 then some (0, 0, 1) else if a.2.2 ≤ b.2.1 then some (0, -1, 0) else some (0, -1, 1)
def aa_k (x : Int32) : av := (0, x.toInt, x.toInt)
/-- as g, but exact where both are known -/
def ag_gd (F : Int32 → Int32 → Int32) (g : av → av → Option av) (a b : av) : Option av := match g a b with
  | some _ => ab_ex F g a b
  | none => none
def aa_simple (T : pm_Tab) (B : Nat → ac) (sz fr lo k : Nat) (i : Instr) (s : ast) : Option (List ast) := match i with
  | .iconst n => aa_n s 1 (aa_k (Int32.ofInt n) :: s.2.2.1)
  | .bipush n => aa_n s 2 (aa_k (Int8.ofInt n).toInt32 :: s.2.2.1)
  | .sipush n => aa_n s 3 (aa_k (Int16.ofInt n).toInt32 :: s.2.2.1)
  | .lconst n => aa_n s 1 ((1, (Int64.ofNat n.val).toInt, (Int64.ofNat n.val).toInt) :: s.2.2.1)
  | .ldc j => (match pm_con T (pm_o T k) j with
    | some v => aa_n s 2 (aa_k v :: s.2.2.1)
    | none => (match st_str (pm_o T k) j with
      | some i => aa_n s 2 ((4, (i : Int), 0) :: s.2.2.1)
      | none => none))
  | .ldc_w j => (match pm_con T (pm_o T k) j with
    | some v => aa_n s 3 (aa_k v :: s.2.2.1)
    | none => (match st_str (pm_o T k) j with
      | some i => aa_n s 3 ((4, (i : Int), 0) :: s.2.2.1)
      | none => none))
  | .ldc2_w j => (match pm_conL T (pm_o T k) j with
    | some v => aa_n s 3 ((1, v.toInt, v.toInt) :: s.2.2.1)
    | none => none)
  | .iload j => aa_lo 0 2 j s
  | .iload_n j => aa_lo 0 1 j.val s
  | .lload j => aa_lo 1 2 j s
  | .lload_n j => aa_lo 1 1 j.val s
  | .aload j => aa_lo 2 2 j s
  | .aload_n j => aa_lo 2 1 j.val s
  | .istore j => aa_so 0 2 (pm_max T k) j s
  | .istore_n j => aa_so 0 1 (pm_max T k) j.val s
  | .astore j => aa_so 2 2 (pm_max T k) j s
  | .astore_n j => aa_so 2 1 (pm_max T k) j.val s
  | .lstore j => aa_sL 2 (pm_max T k) j s
  | .lstore_n j => aa_sL 1 (pm_max T k) j.val s
  | .iinc j n => (match aA_get s.2.1 j with
    | some a => if a.1 = 0 ∧ j < pm_max T k ∧ j < s.2.1.length then (match ab_ex (fun x y => x + y) ag_add a (aa_k (Int32.ofInt n)) with
      | some c => some [(s.1 + 3, aA_st1 s.2.1 j c, s.2.2.1, s.2.2.2)]
      | none => none) else none
    | none => none)
  | .iadd => aa_bi (ab_ex (fun x y => x + y) ag_add) s
  | .isub => aa_bi (ab_ex (fun x y => x - y) ag_sub) s
  | .imul => aa_bi (ab_ex (fun x y => x * y) ag_mul) s
  | .iand => aa_bi (ab_ex (fun x y => x &&& y) ag_and) s
  | .ior => aa_bi (ab_ex (fun x y => x ||| y) ag_or) s
  | .ixor => aa_bi (ab_ex (fun x y => x ^^^ y) ag_xor) s
  | .ishl => aa_bi (ab_ex (fun x y => x <<< (y &&& 31)) ag_shl) s
  | .ishr => aa_bi (ab_ex (fun x y => x >>> (y &&& 31)) ag_shr) s
  | .iushr => aa_bi (ab_ex (fun x y => (x.toUInt32 >>> (y.toUInt32 &&& Int32.toUInt32 31)).toInt32) ag_ushr) s
  | .idiv => aa_bi (ag_gd (fun x y => x / y) ag_div) s
  | .irem => aa_bi (ag_gd (fun x y => x - x / y * y) ag_rem) s
  | .ineg => aa_ui ag_neg s
  | .i2l => aa_ui ag_i2l s
  | .i2b => aa_ui (ag_cut (-128) 127) s
  | .i2s => aa_ui (ag_cut (-32768) 32767) s
  | .i2c => aa_ui (ag_cut 0 65535) s
  | .lmul => aa_bl ag_mulL s
  | .ladd => aa_bl ag_addL s
  | .lsub => aa_bl ag_subL s
  | .ldiv => aa_bl ag_divL s
  | .lrem => aa_bl ag_divL s
  | .lcmp => aa_bl ag_lcmp s
  | .dup => (match s.2.2.1 with
    | a :: r => if a.1 ≠ 1 then aa_n s 1 (a :: a :: r) else none
    | _ => none)
  | .pop => (match s.2.2.1 with
    | a :: r => if a.1 ≠ 1 then aa_n s 1 r else none
    | _ => none)
  | .dup_x1 => (match s.2.2.1 with
    | a :: b :: r => if a.1 ≠ 1 ∧ b.1 ≠ 1 then aa_n s 1 (a :: b :: a :: r) else none
    | _ => none)
  | .dup_x2 => (match s.2.2.1 with
    | a :: b :: c :: r => if a.1 ≠ 1 ∧ b.1 ≠ 1 ∧ c.1 ≠ 1 then aa_n s 1 (a :: b :: c :: a :: r) else none
    | _ => none)
  | .dup2 => (match s.2.2.1 with
    | a :: b :: r => if a.1 ≠ 1 ∧ b.1 ≠ 1 then aa_n s 1 (a :: b :: a :: b :: r) else none
    | _ => none)
  | .ifCond c off => (match s.2.2.1 with
    | a :: r => if a.1 = 0 then aa_br (ag_cmp c a (0, 0, 0)) s off r else none
    | _ => none)
  | .if_icmp c off => (match s.2.2.1 with
    | b :: a :: r => if a.1 = 0 ∧ b.1 = 0 then aa_br (ag_cmp c a b) s off r else none
    | _ => none)
  | .goto off => aa_jp s off s.2.2.1
  | .tableswitch d lo' hi offs => (match s.2.2.1 with
    | a :: r => if a.1 = 0 then (if a.2.2 < lo' ∨ hi < a.2.1 then aa_jp s d r else if a.2.1 = a.2.2 then (if a.2.1 < lo' ∨ hi < a.2.1 then aa_jp s d r else (match offs[(a.2.1 - lo').toNat]? with
      | some off => aa_jp s off r
      | none => none)) else if hi - lo' < offs.size then aa_all s r (d :: offs.toList) else none) else none
    | _ => none)
  | .lookupswitch d ps => (match s.2.2.1 with
    | a :: r => if a.1 = 0 ∧ pm_swOk ps.toList = true then (if ps.toList.all (fun q => decide (q.1 < a.2.1 ∨ a.2.2 < q.1)) = true then aa_jp s d r else if a.2.1 = a.2.2 then aa_jp s (Op.lookupswitch.offset ps.toList d a.2.1) r else aa_all s r (d :: ps.toList.map (fun q => q.2))) else none
    | _ => none)
  | .getfield j => aa_gf T B sz k j s
  | .putfield j => aa_pf T B sz k j s
  | .iaload => aa_aldi T B sz .int s
  | .caload => aa_aldi T B sz .char s
  | .baload => aa_aldi T B sz .boolean s
  | .laload => aa_ald T B sz 1 .long s
  | .aaload => aa_qld T B sz s
  | .iastore => aa_asti T B sz .int (fun v => v) s
  | .castore => aa_asti T B sz .char (ag_cut 0 65535) s
  | .bastore => aa_asti T B sz .boolean (ag_cut 0 1) s
  | .lastore => aa_ast T B sz 1 .long (fun v => v) s
  | .arraylength => aa_alen T B sz s
  | .invokespecial j => aa_libW T B true sz fr lo k j s
  | .invokestatic j => aa_libW T B false sz fr lo k j s
  | _ => none
end ABS
