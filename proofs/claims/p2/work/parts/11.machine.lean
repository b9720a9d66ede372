/-! A PURE MACHINE: the bytecode of the class, of its reference and of what they call, run on numbered cells. 'pm_run' is a plain function; 'pm_sound' (next part) says that what it answers the real machine answers too. The tables T are a parameter. -/
abbrev pm_E : Type := (Nat × vp_A) ⊕ (Nat × List Value)
abbrev pm_H : Type := Nat → pm_E
abbrev pm_L : Type := List (Option Value)
/-- a method: its name, code, locals, answer's type, owner of its constant pool, how many values it takes (this, too), its class's number -/
abbrev pm_M : Type := MethodName × ByteArray × Nat × Option FieldType × Nat × Nat × Nat
/-- classes of objects with their first fields; array types; owners of constant pools; methods; instructions by place; fields by (owner, index): class, place, kind; methods by (owner, index): way, number; classes by (owner, index); constants -/
abbrev pm_Tab : Type := (List vw_C) × (Nat → List Value) × (List FieldType) × (Nat → String) × (Nat → pm_M) × (Nat → Nat → Option (Instr × Nat)) × (Nat → Nat → Option (Nat × Nat × Nat)) × (Nat → Nat → Option (Nat × Nat)) × (Nat → Nat → Option Nat) × (Nat → Nat → Option Int32) × (Nat → Nat → Option Int64)
def pm_cl (T : pm_Tab) : List vw_C := T.1
def pm_df (T : pm_Tab) : Nat → List Value := T.2.1
def pm_ty (T : pm_Tab) : List FieldType := T.2.2.1
def pm_own (T : pm_Tab) : Nat → String := T.2.2.2.1
def pm_m (T : pm_Tab) : Nat → pm_M := T.2.2.2.2.1
def pm_y (T : pm_Tab) (k : Nat) : MethodName := (pm_m T k).1
def pm_code (T : pm_Tab) (k : Nat) : ByteArray := (pm_m T k).2.1
def pm_max (T : pm_Tab) (k : Nat) : Nat := (pm_m T k).2.2.1
def pm_ret (T : pm_Tab) (k : Nat) : Option FieldType := (pm_m T k).2.2.2.1
def pm_o (T : pm_Tab) (k : Nat) : Nat := (pm_m T k).2.2.2.2.1
def pm_na (T : pm_Tab) (k : Nat) : Nat := (pm_m T k).2.2.2.2.2.1
/-- its class's number; a constructor's entry is 100 more -/
def pm_ci (T : pm_Tab) (k : Nat) : Nat := (pm_m T k).2.2.2.2.2.2 % 100
def pm_init (T : pm_Tab) (k : Nat) : Bool := Nat.ble 100 (pm_m T k).2.2.2.2.2.2
def pm_ins (T : pm_Tab) : Nat → Nat → Option (Instr × Nat) := T.2.2.2.2.2.1
def pm_fld (T : pm_Tab) : Nat → Nat → Option (Nat × Nat × Nat) := T.2.2.2.2.2.2.1
def pm_mlk (T : pm_Tab) : Nat → Nat → Option (Nat × Nat) := T.2.2.2.2.2.2.2.1
def pm_clk (T : pm_Tab) : Nat → Nat → Option Nat := T.2.2.2.2.2.2.2.2.1
def pm_con (T : pm_Tab) : Nat → Nat → Option Int32 := T.2.2.2.2.2.2.2.2.2.1
def pm_conL (T : pm_Tab) : Nat → Nat → Option Int64 := T.2.2.2.2.2.2.2.2.2.2
/-- locals -/
def pm_get (L : pm_L) (i : Nat) : Option Value := match L[i]? with
  | some (some v) => some v
  | _ => none
def pm_cat2 (L : pm_L) (i : Nat) : Bool := match pm_get L i with
  | some v => v.category == 2
  | none => false
/-- a long just below i loses its second half -/
def pm_cut (L : pm_L) (i : Nat) : pm_L := match i with
  | 0 => L
  | j + 1 => if pm_cat2 L j = true then L.set j none else L
def pm_st1 (L : pm_L) (i : Nat) (v : Value) : pm_L := (pm_cut L i).set i (some v)
def pm_st2 (L : pm_L) (i : Nat) (v : Value) : pm_L := ((pm_cut L i).set i (some v)).set (i + 1) none
def pm_args : List Value → pm_L
  | [] => []
  | v :: vs => if v.category = 2 then some v :: none :: pm_args vs else some v :: pm_args vs
def pm_l0 (vs : List Value) (n : Nat) : pm_L := pm_args vs ++ List.replicate (n - (pm_args vs).length) none
abbrev pm_St : Type := Nat × pm_L × List Value × pm_H × Nat × Nat
def pm_tgt (pc : Nat) (off : Int) : Option Nat := if 0 ≤ (pc : Int) + off then some ((pc : Int) + off).toNat else none
def pm_cmp (c : Jvm.ClassFile.Cond) (x y : Int32) : Bool := match c with
  | .eq => decide (x = y)
  | .ne => decide (¬ x = y)
  | .lt => decide (x < y)
  | .ge => decide (y ≤ x)
  | .gt => decide (y < x)
  | .le => decide (x ≤ y)
def pm_in (i : Int32) (n : Nat) : Bool := decide (¬ (i < 0 ∨ n ≤ i.toNatClampNeg))
/-- kinds of a value: 0 int, 1 long, 2 a reference (.ref to a numbered cell; .retAddr i stands for a reference to the i-th of the cells outside) -/
def pm_isT (t : Nat) (v : Value) : Bool := match t, v with
  | 0, .int _ => true
  | 1, .long _ => true
  | 2, .ref _ => true
  | 2, .retAddr _ => true
  | _, _ => false
def pm_ld (t : Nat) (L : pm_L) (i : Nat) : Option Value := match pm_get L i with
  | some v => if pm_isT t v = true then some v else none
  | none => none
def pm_bi (f : Int32 → Int32 → Int32) (pc : Nat) (L : pm_L) (S : List Value) (h : pm_H) (sz sl : Nat) : Option pm_St := match S with
  | .int y :: .int x :: r => some (pc + 1, L, .int (f x y) :: r, h, sz, sl)
  | _ => none
/-- a division -/
def pm_bd (f : Int32 → Int32 → Int32) (pc : Nat) (L : pm_L) (S : List Value) (h : pm_H) (sz sl : Nat) : Option pm_St := match S with
  | .int y :: .int x :: r => if y = 0 then none else some (pc + 1, L, .int (f x y) :: r, h, sz, sl)
  | _ => none
def pm_bl (f : Int64 → Int64 → Int64) (pc : Nat) (L : pm_L) (S : List Value) (h : pm_H) (sz sl : Nat) : Option pm_St := match S with
  | .long y :: .long x :: r => some (pc + 1, L, .long (f x y) :: r, h, sz, sl)
  | _ => none
def pm_bdL (f : Int64 → Int64 → Int64) (pc : Nat) (L : pm_L) (S : List Value) (h : pm_H) (sz sl : Nat) : Option pm_St := match S with
  | .long y :: .long x :: r => if y = 0 then none else some (pc + 1, L, .long (f x y) :: r, h, sz, sl)
  | _ => none
def pm_ui (f : Int32 → Value) (pc : Nat) (L : pm_L) (S : List Value) (h : pm_H) (sz sl : Nat) : Option pm_St := match S with
  | .int x :: r => some (pc + 1, L, f x :: r, h, sz, sl)
  | _ => none
def pm_lo (t n pc i : Nat) (L : pm_L) (S : List Value) (h : pm_H) (sz sl : Nat) : Option pm_St := match pm_ld t L i with
  | some v => some (pc + n, L, v :: S, h, sz, sl)
  | none => none
def pm_so (t n mx pc i : Nat) (L : pm_L) (S : List Value) (h : pm_H) (sz sl : Nat) : Option pm_St := match S with
  | v :: r => if pm_isT t v = true ∧ i < mx then some (pc + n, pm_st1 L i v, r, h, sz, sl) else none
  | _ => none
def pm_sL (n mx pc i : Nat) (L : pm_L) (S : List Value) (h : pm_H) (sz sl : Nat) : Option pm_St := match S with
  | .long x :: r => if i + 1 < mx then some (pc + n, pm_st2 L i (.long x), r, h, sz, sl) else none
  | _ => none
def pm_jp (pc : Nat) (off : Int) (L : pm_L) (S : List Value) (h : pm_H) (sz sl : Nat) : Option pm_St := match pm_tgt pc off with
  | some t => some (t, L, S, h, sz, sl)
  | none => none
def pm_br (b : Bool) (pc : Nat) (off : Int) (L : pm_L) (S : List Value) (h : pm_H) (sz sl : Nat) : Option pm_St := match pm_tgt pc off with
  | some t => (match b with
    | true => some (t, L, S, h, sz, sl)
    | false => some (pc + 3, L, S, h, sz, sl))
  | none => none
def pm_iar (T : pm_Tab) (ty : FieldType) (h : pm_H) (sz a : Nat) : Option (Nat × Nat × (Nat → Int32)) := if a < sz then (match h a with
  | .inl (kd, n, .inl f) => if (pm_ty T)[kd]? = some ty then some (kd, n, f) else none
  | _ => none) else none
def pm_lar (T : pm_Tab) (h : pm_H) (sz a : Nat) : Option (Nat × Nat × (Nat → Int64)) := if a < sz then (match h a with
  | .inl (kd, n, .inr (.inl f)) => if (pm_ty T)[kd]? = some .long then some (kd, n, f) else none
  | _ => none) else none
def pm_qar (h : pm_H) (sz a : Nat) : Option (Nat × Nat × (Nat → Option Nat)) := if a < sz then (match h a with
  | .inl (kd, n, .inr (.inr (.inr (.inr f)))) => some (kd, n, f)
  | _ => none) else none
def pm_obj (h : pm_H) (sz a : Nat) : Option (Nat × List Value) := if a < sz then (match h a with
  | .inr o => some o
  | _ => none) else none
def pm_ia (T : pm_Tab) (ty : FieldType) (pc : Nat) (L : pm_L) (S : List Value) (h : pm_H) (sz sl : Nat) : Option pm_St := match S with
  | .int i :: .ref a :: r => (match pm_iar T ty h sz a with
    | some (_, n, f) => if pm_in i n = true then some (pc + 1, L, .int (f i.toNatClampNeg) :: r, h, sz, sl) else none
    | none => none)
  | _ => none
def pm_iS (T : pm_Tab) (ty : FieldType) (nr : Int32 → Int32) (pc : Nat) (L : pm_L) (S : List Value) (h : pm_H) (sz sl : Nat) : Option pm_St := match S with
  | .int x :: .int i :: .ref a :: r => (match pm_iar T ty h sz a with
    | some (kd, n, f) => if pm_in i n = true then some (pc + 1, L, r, va_up h a (.inl (kd, n, .inl (upd f i.toNatClampNeg (nr x)))), sz, sl) else none
    | none => none)
  | _ => none
def pm_la (T : pm_Tab) (pc : Nat) (L : pm_L) (S : List Value) (h : pm_H) (sz sl : Nat) : Option pm_St := match S with
  | .int i :: .ref a :: r => (match pm_lar T h sz a with
    | some (_, n, f) => if pm_in i n = true then some (pc + 1, L, .long (f i.toNatClampNeg) :: r, h, sz, sl) else none
    | none => none)
  | _ => none
def pm_lS (T : pm_Tab) (pc : Nat) (L : pm_L) (S : List Value) (h : pm_H) (sz sl : Nat) : Option pm_St := match S with
  | .long x :: .int i :: .ref a :: r => (match pm_lar T h sz a with
    | some (kd, n, f) => if pm_in i n = true then some (pc + 1, L, r, va_up h a (.inl (kd, n, .inr (.inl (vp_updL f i.toNatClampNeg x)))), sz, sl) else none
    | none => none)
  | _ => none
def pm_isObj (t : Option FieldType) : Bool := match t with
  | some (.object _) => true
  | _ => false
def pm_qa (T : pm_Tab) (pc : Nat) (L : pm_L) (S : List Value) (h : pm_H) (sz sl : Nat) : Option pm_St := match S with
  | .int i :: .ref a :: r => (match pm_qar h sz a with
    | some (kd, n, f) => if pm_in i n = true ∧ pm_isObj (pm_ty T)[kd]? = true then some (pc + 1, L, va_rf (f i.toNatClampNeg) :: r, h, sz, sl) else none
    | none => none)
  | _ => none
def pm_qS (T : pm_Tab) (pc : Nat) (L : pm_L) (S : List Value) (h : pm_H) (sz sl : Nat) : Option pm_St := match S with
  | .ref v :: .int i :: .ref a :: r => (match pm_qar h sz a with
    | some (kd, n, f) => (match pm_obj h sz v with
      | some (ci, _) => if pm_in i n = true ∧ (pm_ty T)[kd]? = ((pm_cl T)[ci]?).map (fun q => FieldType.object q.1) ∧ ci < (pm_cl T).length then some (pc + 1, L, r, va_up h a (.inl (kd, n, .inr (.inr (.inr (.inr (va_up f i.toNatClampNeg (some v))))))), sz, sl) else none
      | none => none)
    | none => none)
  | _ => none
def pm_al (T : pm_Tab) (pc : Nat) (L : pm_L) (S : List Value) (h : pm_H) (sz sl : Nat) : Option pm_St := match S with
  | .ref a :: r => if a < sz then (match h a with
    | .inl (kd, n, _) => if ((pm_ty T)[kd]?).isSome = true then some (pc + 1, L, .int (Int32.ofNat n) :: r, h, sz, sl) else none
    | _ => none) else none
  | _ => none
/-- does a value fit a field: 0 int, 1 long, 2 a reference, 3 boolean; 10 more: final, of the pool's owner; 20 more: final, not to be written -/
def pm_fits (t : Nat) (v : Value) : Bool := match t, v with
  | 0, .int _ => true
  | 1, .long _ => true
  | 2, .ref _ => true
  | 3, .int x => decide (x = 0 ∨ x = 1)
  | _, _ => false
def pm_gf (T : pm_Tab) (k idx pc : Nat) (L : pm_L) (S : List Value) (h : pm_H) (sz sl : Nat) : Option pm_St := match S with
  | .ref a :: r => (match pm_obj h sz a, pm_fld T (pm_o T k) idx with
    | some (ci, fs), some (cj, f, _) => if cj = ci then (match fs[f]? with
        | some v => some (pc + 3, L, v :: r, h, sz, sl)
        | none => none) else none
    | _, _ => none)
  | _ => none
def pm_pf (T : pm_Tab) (k idx pc : Nat) (L : pm_L) (S : List Value) (h : pm_H) (sz sl : Nat) : Option pm_St := match S with
  | v :: .ref a :: r => (match pm_obj h sz a, pm_fld T (pm_o T k) idx with
    | some (ci, fs), some (cj, f, t) => if cj = ci ∧ f < fs.length ∧ pm_fits (t % 10) v = true ∧ (t < 10 ∨ (t < 20 ∧ pm_init T k = true)) then some (pc + 3, L, r, va_up h a (.inr (ci, fs.set f v)), sz, sl) else none
    | _, _ => none)
  | _ => none
/-- a new cell -/
def pm_nw (e : pm_E) (n len pc : Nat) (L : pm_L) (S : List Value) (h : pm_H) (sz sl : Nat) : Option pm_St := some (pc + len, L, .ref sz :: S, va_up h sz e, sz + 1, sl + n)
def pm_tysAt (T : pm_Tab) (ty : FieldType) : Option Nat := (pm_ty T).findIdx? (fun t => t == ty)
def pm_newI (T : pm_Tab) (ty : FieldType) (pc : Nat) (L : pm_L) (S : List Value) (h : pm_H) (sz sl : Nat) : Option pm_St := match S with
  | .int n :: r => (match pm_tysAt T ty with
    | some kd => if ¬ n < 0 ∧ n.toNatClampNeg ≤ 65536 then pm_nw (.inl (kd, n.toNatClampNeg, .inl (fun _ => 0))) n.toNatClampNeg 2 pc L r h sz sl else none
    | none => none)
  | _ => none
def pm_newL (T : pm_Tab) (pc : Nat) (L : pm_L) (S : List Value) (h : pm_H) (sz sl : Nat) : Option pm_St := match S with
  | .int n :: r => (match pm_tysAt T .long with
    | some kd => if ¬ n < 0 ∧ n.toNatClampNeg ≤ 65536 then pm_nw (.inl (kd, n.toNatClampNeg, .inr (.inl (fun _ => 0)))) n.toNatClampNeg 2 pc L r h sz sl else none
    | none => none)
  | _ => none
/-- an array of references: the table of classes by (owner plus 100, index) tells the array type's number plus 1000 -/
def pm_newQ (T : pm_Tab) (k idx pc : Nat) (L : pm_L) (S : List Value) (h : pm_H) (sz sl : Nat) : Option pm_St := match S with
  | .int n :: r => (match pm_clk T (100 + pm_o T k) idx with
    | some q => if 1000 ≤ q ∧ ¬ n < 0 ∧ n.toNatClampNeg ≤ 65536 then pm_nw (.inl (q - 1000, n.toNatClampNeg, .inr (.inr (.inr (.inr (fun _ => none)))))) n.toNatClampNeg 3 pc L r h sz sl else none
    | none => none)
  | _ => none
def pm_newO (T : pm_Tab) (k idx pc : Nat) (L : pm_L) (S : List Value) (h : pm_H) (sz sl : Nat) : Option pm_St := match pm_clk T (pm_o T k) idx with
  | some ci => if ci < 1000 then pm_nw (.inr (ci, pm_df T ci)) (pm_df T ci).length 3 pc L S h sz sl else none
  | none => none
def pm_sum (S : List Value) : Nat := (S.map fun v => v.category).sum
/-- what the library does: 6 Object.<init>, 7 Math.min, 8 Math.max, 9 System.arraycopy of ints -/
def pm_lib (T : pm_Tab) (fr lo w pc : Nat) (L : pm_L) (S : List Value) (h : pm_H) (sz sl : Nat) : Option pm_St := match w, S with
  | 6, .ref _ :: r => if 1 ≤ fr ∧ pm_sum r + 12 ≤ lo then some (pc + 3, L, r, h, sz, sl) else none
  | 7, .int y :: .int x :: r => if 1 ≤ fr ∧ pm_sum r + 13 ≤ lo then some (pc + 3, L, .int (if y < x then y else x) :: r, h, sz, sl) else none
  | 8, .int y :: .int x :: r => if 1 ≤ fr ∧ pm_sum r + 13 ≤ lo then some (pc + 3, L, .int (if x < y then y else x) :: r, h, sz, sl) else none
  | 9, .int n :: .int dp :: .ref a :: .int sp :: .ref a0 :: r => (match pm_iar T .int h sz a0, pm_iar T .int h sz a with
    | some (_, n0, f), some (kd, n1, g) => if (1 ≤ fr ∧ pm_sum r + 60 ≤ lo) ∧ ¬ sp < 0 ∧ ¬ dp < 0 ∧ ¬ n < 0 ∧ sp.toNatClampNeg + n.toNatClampNeg ≤ n0 ∧ dp.toNatClampNeg + n.toNatClampNeg ≤ n1 then some (pc + 3, L, r, va_up h a (.inl (kd, n1, .inl (va_cpy f g sp.toNatClampNeg dp.toNatClampNeg n.toNatClampNeg))), sz, sl) else none
    | _, _ => none)
  | _, _ => none
def pm_libW (T : pm_Tab) (sp : Bool) (fr lo k idx pc : Nat) (L : pm_L) (S : List Value) (h : pm_H) (sz sl : Nat) : Option pm_St := match pm_mlk T (pm_o T k) idx with
  | some (w, _) => if (w == 6) = sp then pm_lib T fr lo w pc L S h sz sl else none
  | none => none
/-- on a String constant: 10 length(), 11 charAt(int) -/
def pm_libV (T : pm_Tab) (fr lo k idx pc : Nat) (L : pm_L) (S : List Value) (h : pm_H) (sz sl : Nat) : Option pm_St := match pm_mlk T (pm_o T k) idx, S with
  | some (10, _), .retAddr i :: r => if i < 5 ∧ 5 ≤ fr ∧ 200 ≤ lo ∧ pm_sum r ≤ 8 then some (pc + 3, L, .int (Int32.ofNat (st_tx i).length) :: r, h, sz, sl) else none
  | some (11, _), .int x :: .retAddr i :: r => if i < 5 ∧ 5 ≤ fr ∧ 200 ≤ lo ∧ pm_sum r ≤ 8 ∧ pm_in x (st_tx i).length = true then some (pc + 3, L, .int ((st_tx i).getD x.toNatClampNeg 0) :: r, h, sz, sl) else none
  | _, _ => none
def pm_lenOk (i : Instr) (len : Nat) : Bool := match i with
  | .bipush _ | .ldc _ | .iload _ | .lload _ | .aload _ | .istore _ | .lstore _ | .astore _ | .newarray _ => len == 2
  | .sipush _ | .ldc_w _ | .ldc2_w _ | .iinc _ _ | .ifCond _ _ | .if_icmp _ _ | .goto _ | .getfield _ | .putfield _ | .anewarray _ | .new _ | .invokevirtual _ | .invokestatic _ | .invokespecial _ => len == 3
  | .tableswitch _ _ _ _ | .lookupswitch _ _ => true
  | _ => len == 1
def pm_swOk (ps : List (Int × Int)) : Bool := (ps.zip (ps.drop 1)).all (fun (a, next) => a.1 < next.1)
def pm_simple (T : pm_Tab) (fr lo k : Nat) (i : Instr) (pc : Nat) (L : pm_L) (S : List Value) (h : pm_H) (sz sl : Nat) : Option pm_St := match i with
  | .iconst n => some (pc + 1, L, .int (Int32.ofInt n) :: S, h, sz, sl)
  | .bipush n => some (pc + 2, L, .int (Int8.ofInt n).toInt32 :: S, h, sz, sl)
  | .sipush n => some (pc + 3, L, .int (Int16.ofInt n).toInt32 :: S, h, sz, sl)
  | .lconst n => some (pc + 1, L, .long (Int64.ofNat n.val) :: S, h, sz, sl)
  | .ldc j => (match pm_con T (pm_o T k) j with
    | some v => some (pc + 2, L, .int v :: S, h, sz, sl)
    | none => (match st_str (pm_o T k) j with
      | some i => some (pc + 2, L, .retAddr i :: S, h, sz, sl)
      | none => none))
  | .ldc_w j => (match pm_con T (pm_o T k) j with
    | some v => some (pc + 3, L, .int v :: S, h, sz, sl)
    | none => (match st_str (pm_o T k) j with
      | some i => some (pc + 3, L, .retAddr i :: S, h, sz, sl)
      | none => none))
  | .ldc2_w j => (match pm_conL T (pm_o T k) j with
    | some v => some (pc + 3, L, .long v :: S, h, sz, sl)
    | none => none)
  | .iload j => pm_lo 0 2 pc j L S h sz sl
  | .iload_n j => pm_lo 0 1 pc j.val L S h sz sl
  | .lload j => pm_lo 1 2 pc j L S h sz sl
  | .lload_n j => pm_lo 1 1 pc j.val L S h sz sl
  | .aload j => pm_lo 2 2 pc j L S h sz sl
  | .aload_n j => pm_lo 2 1 pc j.val L S h sz sl
  | .istore j => pm_so 0 2 (pm_max T k) pc j L S h sz sl
  | .istore_n j => pm_so 0 1 (pm_max T k) pc j.val L S h sz sl
  | .astore j => pm_so 2 2 (pm_max T k) pc j L S h sz sl
  | .astore_n j => pm_so 2 1 (pm_max T k) pc j.val L S h sz sl
  | .lstore j => pm_sL 2 (pm_max T k) pc j L S h sz sl
  | .lstore_n j => pm_sL 1 (pm_max T k) pc j.val L S h sz sl
  | .iinc j n => (match pm_get L j with
    | some (.int x) => if j < pm_max T k then some (pc + 3, pm_st1 L j (.int (x + Int32.ofInt n)), S, h, sz, sl) else none
    | _ => none)
  | .iadd => pm_bi (fun x y => x + y) pc L S h sz sl
  | .isub => pm_bi (fun x y => x - y) pc L S h sz sl
  | .imul => pm_bi (fun x y => x * y) pc L S h sz sl
  | .iand => pm_bi (fun x y => x &&& y) pc L S h sz sl
  | .ior => pm_bi (fun x y => x ||| y) pc L S h sz sl
  | .ixor => pm_bi (fun x y => x ^^^ y) pc L S h sz sl
  | .ishl => pm_bi (fun x y => x <<< (y &&& 31)) pc L S h sz sl
  | .ishr => pm_bi (fun x y => x >>> (y &&& 31)) pc L S h sz sl
  | .iushr => pm_bi (fun x y => (x.toUInt32 >>> (y.toUInt32 &&& Int32.toUInt32 31)).toInt32) pc L S h sz sl
  | .idiv => pm_bd (fun x y => x / y) pc L S h sz sl
  | .irem => pm_bd (fun x y => x - x / y * y) pc L S h sz sl
  | .ineg => pm_ui (fun x => .int (-x)) pc L S h sz sl
  | .i2l => pm_ui (fun x => .long x.toInt64) pc L S h sz sl
  | .i2b => pm_ui (fun x => .int x.toInt8.toInt32) pc L S h sz sl
  | .i2s => pm_ui (fun x => .int x.toInt16.toInt32) pc L S h sz sl
  | .i2c => pm_ui (fun x => .int (x.toUInt32 % 65536).toInt32) pc L S h sz sl
  | .lmul => pm_bl (fun x y => x * y) pc L S h sz sl
  | .ladd => pm_bl (fun x y => x + y) pc L S h sz sl
  | .lsub => pm_bl (fun x y => x - y) pc L S h sz sl
  | .ldiv => pm_bdL (fun x y => x / y) pc L S h sz sl
  | .lrem => pm_bdL (fun x y => x - x / y * y) pc L S h sz sl
  | .lcmp => (match S with
    | .long y :: .long x :: r => some (pc + 1, L, .int (lg_cmp x y) :: r, h, sz, sl)
    | _ => none)
  | .dup => (match S with
    | v :: r => if v.category = 1 then some (pc + 1, L, v :: v :: r, h, sz, sl) else none
    | _ => none)
  | .pop => (match S with
    | v :: r => if v.category = 1 then some (pc + 1, L, r, h, sz, sl) else none
    | _ => none)
  | .dup_x1 => (match S with
    | v :: w :: r => if v.category = 1 ∧ w.category = 1 then some (pc + 1, L, v :: w :: v :: r, h, sz, sl) else none
    | _ => none)
  | .dup_x2 => (match S with
    | v :: w :: z :: r => if v.category = 1 ∧ w.category = 1 ∧ z.category = 1 then some (pc + 1, L, v :: w :: z :: v :: r, h, sz, sl) else none
    | _ => none)
  | .dup2 => (match S with
    | v :: w :: r => if v.category = 1 ∧ w.category = 1 then some (pc + 1, L, v :: w :: v :: w :: r, h, sz, sl) else none
    | _ => none)
  | .ifCond c off => (match S with
    | .int x :: r => pm_br (pm_cmp c x 0) pc off L r h sz sl
    | _ => none)
  | .if_icmp c off => (match S with
    | .int y :: .int x :: r => pm_br (pm_cmp c x y) pc off L r h sz sl
    | _ => none)
  | .goto off => pm_jp pc off L S h sz sl
  | .tableswitch d lo' hi offs => (match S with
    | .int x :: r => if x.toInt < lo' ∨ hi < x.toInt then pm_jp pc d L r h sz sl else (match offs[(x.toInt - lo').toNat]? with
      | some off => pm_jp pc off L r h sz sl
      | none => none)
    | _ => none)
  | .lookupswitch d ps => (match S with
    | .int x :: r => if pm_swOk ps.toList = true then pm_jp pc (Op.lookupswitch.offset ps.toList d x.toInt) L r h sz sl else none
    | _ => none)
  | .getfield j => pm_gf T k j pc L S h sz sl
  | .putfield j => pm_pf T k j pc L S h sz sl
  | .iaload => pm_ia T .int pc L S h sz sl
  | .caload => pm_ia T .char pc L S h sz sl
  | .baload => pm_ia T .boolean pc L S h sz sl
  | .laload => pm_la T pc L S h sz sl
  | .aaload => pm_qa T pc L S h sz sl
  | .iastore => pm_iS T .int (fun x => x) pc L S h sz sl
  | .castore => pm_iS T .char (fun x => vp_nar .char x) pc L S h sz sl
  | .bastore => pm_iS T .boolean (fun x => vp_nar .boolean x) pc L S h sz sl
  | .lastore => pm_lS T pc L S h sz sl
  | .aastore => pm_qS T pc L S h sz sl
  | .arraylength => pm_al T pc L S h sz sl
  | .newarray .int => pm_newI T .int pc L S h sz sl
  | .newarray .char => pm_newI T .char pc L S h sz sl
  | .newarray .boolean => pm_newI T .boolean pc L S h sz sl
  | .newarray .long => pm_newL T pc L S h sz sl
  | .anewarray j => pm_newQ T k j pc L S h sz sl
  | .new j => pm_newO T k j pc L S h sz sl
  | .invokespecial j => pm_libW T true fr lo k j pc L S h sz sl
  | .invokestatic j => pm_libW T false fr lo k j pc L S h sz sl
  | .invokevirtual j => pm_libV T fr lo k j pc L S h sz sl
  | _ => none
/-- a call of a method of the tables: 0 by the receiver's class, 1 the same of a nest mate, 2 static, 3 static of a nest mate, 4 a constructor, 5 one of a nest mate -/
def pm_callee (T : pm_Tab) (k : Nat) (i : Instr) : Option (Nat × Nat) := match i with
  | .invokevirtual j => (match pm_mlk T (pm_o T k) j with
    | some (0, t) => some (0, t)
    | some (1, t) => some (1, t)
    | _ => none)
  | .invokestatic j => (match pm_mlk T (pm_o T k) j with
    | some (2, t) => some (2, t)
    | some (3, t) => some (3, t)
    | _ => none)
  | .invokespecial j => (match pm_mlk T (pm_o T k) j with
    | some (4, t) => some (4, t)
    | some (5, t) => some (5, t)
    | _ => none)
  | _ => none
/-- the receiver is an object of the method's class -/
def pm_rcv (T : pm_Tab) (w t : Nat) (As : List Value) (h : pm_H) (sz : Nat) : Bool := if w = 2 ∨ w = 3 then true else (match As with
  | .ref a :: _ => (match pm_obj h sz a with
    | some (ci, _) => ci == pm_ci T t
    | none => false)
  | _ => false)
def pm_rets (T : pm_Tab) (k : Nat) (i : Instr) (S : List Value) : Option (Option Value) := match i, S with
  | .return_, [] => (match pm_ret T k with
    | none => some none
    | _ => none)
  | .ireturn, [.int v] => (match pm_ret T k with
    | some .int => some (some (.int v))
    | some .boolean => if v = 0 ∨ v = 1 then some (some (.int v)) else none
    | _ => none)
  | .lreturn, [.long v] => (match pm_ret T k with
    | some .long => some (some (.long v))
    | _ => none)
  | _, _ => none
abbrev pm_Rs : Type := Option Value × pm_H × Nat × Nat
/-- one step in method k; 'go' runs a callee -/
def pm_step (T : pm_Tab) (go : Nat → Nat → Nat → List Value → pm_H → Nat → Nat → Option pm_Rs) (fr lo k : Nat) (st : pm_St) : Option pm_St := match pm_ins T k st.1 with
  | none => none
  | some (i, len) => if pm_lenOk i len = true then (match pm_callee T k i with
    | some (w, t) => if pm_na T t ≤ st.2.2.1.length ∧ pm_rcv T w t (st.2.2.1.take (pm_na T t)).reverse st.2.2.2.1 st.2.2.2.2.1 = true ∧ pm_sum (st.2.2.1.drop (pm_na T t)) ≤ 8 ∧ 1 ≤ fr ∧ 19 + pm_max T t ≤ lo ∧ (pm_args (st.2.2.1.take (pm_na T t)).reverse).length ≤ pm_max T t then (match go (fr - 1) (lo - (19 + pm_max T t)) t (st.2.2.1.take (pm_na T t)).reverse st.2.2.2.1 st.2.2.2.2.1 st.2.2.2.2.2 with
      | some (rv, h1, sz1, sl1) => some (st.1 + 3, st.2.1, rv.toList ++ st.2.2.1.drop (pm_na T t), h1, sz1, sl1)
      | none => none) else none
    | none => pm_simple T fr lo k i st.1 st.2.1 st.2.2.1 st.2.2.2.1 st.2.2.2.2.1 st.2.2.2.2.2) else none
/-- does the step at st end the method: its answer -/
def pm_end (T : pm_Tab) (k : Nat) (st : pm_St) : Option pm_Rs := match pm_ins T k st.1 with
  | none => none
  | some (i, len) => if pm_lenOk i len = true then (match pm_rets T k i st.2.2.1 with
    | some rv => some (rv, st.2.2.2)
    | none => none) else none
/-- n steps at most -/
def pm_run (T : pm_Tab) : Nat → Nat → Nat → Nat → pm_St → Option pm_Rs
  | 0, _, _, _, _ => none
  | n + 1, fr, lo, k, st => match pm_end T k st with
    | some r => some r
    | none => match pm_step T (fun fr lo t as h sz sl => pm_run T n fr lo t (0, pm_l0 as (pm_max T t), [], h, sz, sl)) fr lo k st with
      | some st' => pm_run T n fr lo k st'
      | none => none
