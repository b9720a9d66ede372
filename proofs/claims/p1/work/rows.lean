section
/-! A PURE MACHINE: the bytecode of the class, of its reference and of what they call, run on numbered cells. 'pm_run' is a plain function; 'pm_sound' (next part) says that what it answers the real machine answers too. The tables T are a parameter. -/
abbrev pm_E : Type := (Nat × vp_A) ⊕ (Nat × List Value)
abbrev pm_H : Type := Nat → pm_E
abbrev pm_L : Type := List (Option Value)
/-- a method: its name, code, locals, answer's type, owner of its constant pool, how many values it takes (this, too), its class's number -/
abbrev pm_M : Type := MethodName × ByteArray × Nat × Option FieldType × Nat × Nat × Nat
/-- classes of objects with their first fields; array types; owners of constant pools; methods; instructions by place; fields by (owner, index): class, place, kind; methods by (owner, index): way, number; classes by (owner, index); constants -/
abbrev pm_Tab : Type := (List vw_C) × (Nat → List Value) × (List FieldType) × (Nat → String) × (Nat → pm_M) × (Nat → Nat → Option (Instr × Nat)) × (Nat → Nat → Option (Nat × Nat × Nat)) × (Nat → Nat → Option (Nat × Nat)) × (Nat → Nat → Option Nat) × (Nat → Nat → Option Int32) × (Nat → Nat → Option Int64)
def pm_cl (T : pm_Tab) : List vw_C := T.1
def pm_df (T : pm_Tab) : Nat → List Value := T.2.1
def pm_ty (T : pm_Tab) : List FieldType := T.2.2.1
def pm_own (T : pm_Tab) : Nat → String := T.2.2.2.1
def pm_m (T : pm_Tab) : Nat → pm_M := T.2.2.2.2.1
def pm_y (T : pm_Tab) (k : Nat) : MethodName := (pm_m T k).1
def pm_code (T : pm_Tab) (k : Nat) : ByteArray := (pm_m T k).2.1
def pm_max (T : pm_Tab) (k : Nat) : Nat := (pm_m T k).2.2.1
def pm_ret (T : pm_Tab) (k : Nat) : Option FieldType := (pm_m T k).2.2.2.1
def pm_o (T : pm_Tab) (k : Nat) : Nat := (pm_m T k).2.2.2.2.1
def pm_na (T : pm_Tab) (k : Nat) : Nat := (pm_m T k).2.2.2.2.2.1
/-- its class's number; a constructor's entry is 100 more -/
def pm_ci (T : pm_Tab) (k : Nat) : Nat := (pm_m T k).2.2.2.2.2.2 % 100
def pm_init (T : pm_Tab) (k : Nat) : Bool := Nat.ble 100 (pm_m T k).2.2.2.2.2.2
def pm_ins (T : pm_Tab) : Nat → Nat → Option (Instr × Nat) := T.2.2.2.2.2.1
def pm_fld (T : pm_Tab) : Nat → Nat → Option (Nat × Nat × Nat) := T.2.2.2.2.2.2.1
def pm_mlk (T : pm_Tab) : Nat → Nat → Option (Nat × Nat) := T.2.2.2.2.2.2.2.1
def pm_clk (T : pm_Tab) : Nat → Nat → Option Nat := T.2.2.2.2.2.2.2.2.1
def pm_con (T : pm_Tab) : Nat → Nat → Option Int32 := T.2.2.2.2.2.2.2.2.2.1
def pm_conL (T : pm_Tab) : Nat → Nat → Option Int64 := T.2.2.2.2.2.2.2.2.2.2
/-- locals -/
def pm_get (L : pm_L) (i : Nat) : Option Value := match L[i]? with
  | some (some v) => some v
  | _ => none
def pm_cat2 (L : pm_L) (i : Nat) : Bool := match pm_get L i with
  | some v => v.category == 2
  | none => false
/-- a long just below i loses its second half -/
def pm_cut (L : pm_L) (i : Nat) : pm_L := match i with
  | 0 => L
  | j + 1 => if pm_cat2 L j = true then L.set j none else L
def pm_st1 (L : pm_L) (i : Nat) (v : Value) : pm_L := (pm_cut L i).set i (some v)
def pm_st2 (L : pm_L) (i : Nat) (v : Value) : pm_L := ((pm_cut L i).set i (some v)).set (i + 1) none
def pm_args : List Value → pm_L
  | [] => []
  | v :: vs => if v.category = 2 then some v :: none :: pm_args vs else some v :: pm_args vs
def pm_l0 (vs : List Value) (n : Nat) : pm_L := pm_args vs ++ List.replicate (n - (pm_args vs).length) none
abbrev pm_St : Type := Nat × pm_L × List Value × pm_H × Nat × Nat
def pm_tgt (pc : Nat) (off : Int) : Option Nat := if 0 ≤ (pc : Int) + off then some ((pc : Int) + off).toNat else none
def pm_cmp (c : Jvm.ClassFile.Cond) (x y : Int32) : Bool := match c with
  | .eq => decide (x = y)
  | .ne => decide (¬ x = y)
  | .lt => decide (x < y)
  | .ge => decide (y ≤ x)
  | .gt => decide (y < x)
  | .le => decide (x ≤ y)
def pm_in (i : Int32) (n : Nat) : Bool := decide (¬ (i < 0 ∨ n ≤ i.toNatClampNeg))
/-- kinds of a value: 0 int, 1 long, 2 a reference -/
def pm_isT (t : Nat) (v : Value) : Bool := match t, v with
  | 0, .int _ => true
  | 1, .long _ => true
  | 2, .ref _ => true
  | _, _ => false
def pm_ld (t : Nat) (L : pm_L) (i : Nat) : Option Value := match pm_get L i with
  | some v => if pm_isT t v = true then some v else none
  | none => none
def pm_bi (f : Int32 → Int32 → Int32) (pc : Nat) (L : pm_L) (S : List Value) (h : pm_H) (sz sl : Nat) : Option pm_St := match S with
  | .int y :: .int x :: r => some (pc + 1, L, .int (f x y) :: r, h, sz, sl)
  | _ => none
/-- a division -/
def pm_bd (f : Int32 → Int32 → Int32) (pc : Nat) (L : pm_L) (S : List Value) (h : pm_H) (sz sl : Nat) : Option pm_St := match S with
  | .int y :: .int x :: r => if y = 0 then none else some (pc + 1, L, .int (f x y) :: r, h, sz, sl)
  | _ => none
def pm_bl (f : Int64 → Int64 → Int64) (pc : Nat) (L : pm_L) (S : List Value) (h : pm_H) (sz sl : Nat) : Option pm_St := match S with
  | .long y :: .long x :: r => some (pc + 1, L, .long (f x y) :: r, h, sz, sl)
  | _ => none
def pm_bdL (f : Int64 → Int64 → Int64) (pc : Nat) (L : pm_L) (S : List Value) (h : pm_H) (sz sl : Nat) : Option pm_St := match S with
  | .long y :: .long x :: r => if y = 0 then none else some (pc + 1, L, .long (f x y) :: r, h, sz, sl)
  | _ => none
def pm_ui (f : Int32 → Value) (pc : Nat) (L : pm_L) (S : List Value) (h : pm_H) (sz sl : Nat) : Option pm_St := match S with
  | .int x :: r => some (pc + 1, L, f x :: r, h, sz, sl)
  | _ => none
def pm_lo (t n pc i : Nat) (L : pm_L) (S : List Value) (h : pm_H) (sz sl : Nat) : Option pm_St := match pm_ld t L i with
  | some v => some (pc + n, L, v :: S, h, sz, sl)
  | none => none
def pm_so (t n mx pc i : Nat) (L : pm_L) (S : List Value) (h : pm_H) (sz sl : Nat) : Option pm_St := match S with
  | v :: r => if pm_isT t v = true ∧ i < mx then some (pc + n, pm_st1 L i v, r, h, sz, sl) else none
  | _ => none
def pm_sL (n mx pc i : Nat) (L : pm_L) (S : List Value) (h : pm_H) (sz sl : Nat) : Option pm_St := match S with
  | .long x :: r => if i + 1 < mx then some (pc + n, pm_st2 L i (.long x), r, h, sz, sl) else none
  | _ => none
def pm_jp (pc : Nat) (off : Int) (L : pm_L) (S : List Value) (h : pm_H) (sz sl : Nat) : Option pm_St := match pm_tgt pc off with
  | some t => some (t, L, S, h, sz, sl)
  | none => none
def pm_br (b : Bool) (pc : Nat) (off : Int) (L : pm_L) (S : List Value) (h : pm_H) (sz sl : Nat) : Option pm_St := match pm_tgt pc off with
  | some t => (match b with
    | true => some (t, L, S, h, sz, sl)
    | false => some (pc + 3, L, S, h, sz, sl))
  | none => none
def pm_iar (T : pm_Tab) (ty : FieldType) (h : pm_H) (sz a : Nat) : Option (Nat × Nat × (Nat → Int32)) := if a < sz then (match h a with
  | .inl (kd, n, .inl f) => if (pm_ty T)[kd]? = some ty then some (kd, n, f) else none
  | _ => none) else none
def pm_lar (T : pm_Tab) (h : pm_H) (sz a : Nat) : Option (Nat × Nat × (Nat → Int64)) := if a < sz then (match h a with
  | .inl (kd, n, .inr (.inl f)) => if (pm_ty T)[kd]? = some .long then some (kd, n, f) else none
  | _ => none) else none
def pm_qar (h : pm_H) (sz a : Nat) : Option (Nat × Nat × (Nat → Option Nat)) := if a < sz then (match h a with
  | .inl (kd, n, .inr (.inr (.inr (.inr f)))) => some (kd, n, f)
  | _ => none) else none
def pm_obj (h : pm_H) (sz a : Nat) : Option (Nat × List Value) := if a < sz then (match h a with
  | .inr o => some o
  | _ => none) else none
def pm_ia (T : pm_Tab) (ty : FieldType) (pc : Nat) (L : pm_L) (S : List Value) (h : pm_H) (sz sl : Nat) : Option pm_St := match S with
  | .int i :: .ref a :: r => (match pm_iar T ty h sz a with
    | some (_, n, f) => if pm_in i n = true then some (pc + 1, L, .int (f i.toNatClampNeg) :: r, h, sz, sl) else none
    | none => none)
  | _ => none
def pm_iS (T : pm_Tab) (ty : FieldType) (nr : Int32 → Int32) (pc : Nat) (L : pm_L) (S : List Value) (h : pm_H) (sz sl : Nat) : Option pm_St := match S with
  | .int x :: .int i :: .ref a :: r => (match pm_iar T ty h sz a with
    | some (kd, n, f) => if pm_in i n = true then some (pc + 1, L, r, va_up h a (.inl (kd, n, .inl (upd f i.toNatClampNeg (nr x)))), sz, sl) else none
    | none => none)
  | _ => none
def pm_la (T : pm_Tab) (pc : Nat) (L : pm_L) (S : List Value) (h : pm_H) (sz sl : Nat) : Option pm_St := match S with
  | .int i :: .ref a :: r => (match pm_lar T h sz a with
    | some (_, n, f) => if pm_in i n = true then some (pc + 1, L, .long (f i.toNatClampNeg) :: r, h, sz, sl) else none
    | none => none)
  | _ => none
def pm_lS (T : pm_Tab) (pc : Nat) (L : pm_L) (S : List Value) (h : pm_H) (sz sl : Nat) : Option pm_St := match S with
  | .long x :: .int i :: .ref a :: r => (match pm_lar T h sz a with
    | some (kd, n, f) => if pm_in i n = true then some (pc + 1, L, r, va_up h a (.inl (kd, n, .inr (.inl (vp_updL f i.toNatClampNeg x)))), sz, sl) else none
    | none => none)
  | _ => none
def pm_isObj (t : Option FieldType) : Bool := match t with
  | some (.object _) => true
  | _ => false
def pm_qa (T : pm_Tab) (pc : Nat) (L : pm_L) (S : List Value) (h : pm_H) (sz sl : Nat) : Option pm_St := match S with
  | .int i :: .ref a :: r => (match pm_qar h sz a with
    | some (kd, n, f) => if pm_in i n = true ∧ pm_isObj (pm_ty T)[kd]? = true then some (pc + 1, L, va_rf (f i.toNatClampNeg) :: r, h, sz, sl) else none
    | none => none)
  | _ => none
def pm_qS (T : pm_Tab) (pc : Nat) (L : pm_L) (S : List Value) (h : pm_H) (sz sl : Nat) : Option pm_St := match S with
  | .ref v :: .int i :: .ref a :: r => (match pm_qar h sz a with
    | some (kd, n, f) => (match pm_obj h sz v with
      | some (ci, _) => if pm_in i n = true ∧ (pm_ty T)[kd]? = ((pm_cl T)[ci]?).map (fun q => FieldType.object q.1) ∧ ci < (pm_cl T).length then some (pc + 1, L, r, va_up h a (.inl (kd, n, .inr (.inr (.inr (.inr (va_up f i.toNatClampNeg (some v))))))), sz, sl) else none
      | none => none)
    | none => none)
  | _ => none
def pm_al (T : pm_Tab) (pc : Nat) (L : pm_L) (S : List Value) (h : pm_H) (sz sl : Nat) : Option pm_St := match S with
  | .ref a :: r => if a < sz then (match h a with
    | .inl (kd, n, _) => if ((pm_ty T)[kd]?).isSome = true then some (pc + 1, L, .int (Int32.ofNat n) :: r, h, sz, sl) else none
    | _ => none) else none
  | _ => none
/-- does a value fit a field: 0 int, 1 long, 2 a reference, 3 boolean; 10 more: final, of the pool's owner; 20 more: final, not to be written -/
def pm_fits (t : Nat) (v : Value) : Bool := match t, v with
  | 0, .int _ => true
  | 1, .long _ => true
  | 2, .ref _ => true
  | 3, .int x => decide (x = 0 ∨ x = 1)
  | _, _ => false
def pm_gf (T : pm_Tab) (k idx pc : Nat) (L : pm_L) (S : List Value) (h : pm_H) (sz sl : Nat) : Option pm_St := match S with
  | .ref a :: r => (match pm_obj h sz a, pm_fld T (pm_o T k) idx with
    | some (ci, fs), some (cj, f, _) => if cj = ci then (match fs[f]? with
        | some v => some (pc + 3, L, v :: r, h, sz, sl)
        | none => none) else none
    | _, _ => none)
  | _ => none
def pm_pf (T : pm_Tab) (k idx pc : Nat) (L : pm_L) (S : List Value) (h : pm_H) (sz sl : Nat) : Option pm_St := match S with
  | v :: .ref a :: r => (match pm_obj h sz a, pm_fld T (pm_o T k) idx with
    | some (ci, fs), some (cj, f, t) => if cj = ci ∧ f < fs.length ∧ pm_fits (t % 10) v = true ∧ (t < 10 ∨ (t < 20 ∧ pm_init T k = true)) then some (pc + 3, L, r, va_up h a (.inr (ci, fs.set f v)), sz, sl) else none
    | _, _ => none)
  | _ => none
/-- a new cell -/
def pm_nw (e : pm_E) (n len pc : Nat) (L : pm_L) (S : List Value) (h : pm_H) (sz sl : Nat) : Option pm_St := some (pc + len, L, .ref sz :: S, va_up h sz e, sz + 1, sl + n)
def pm_tysAt (T : pm_Tab) (ty : FieldType) : Option Nat := (pm_ty T).findIdx? (fun t => t == ty)
def pm_newI (T : pm_Tab) (ty : FieldType) (pc : Nat) (L : pm_L) (S : List Value) (h : pm_H) (sz sl : Nat) : Option pm_St := match S with
  | .int n :: r => (match pm_tysAt T ty with
    | some kd => if ¬ n < 0 ∧ n.toNatClampNeg ≤ 65536 then pm_nw (.inl (kd, n.toNatClampNeg, .inl (fun _ => 0))) n.toNatClampNeg 2 pc L r h sz sl else none
    | none => none)
  | _ => none
def pm_newL (T : pm_Tab) (pc : Nat) (L : pm_L) (S : List Value) (h : pm_H) (sz sl : Nat) : Option pm_St := match S with
  | .int n :: r => (match pm_tysAt T .long with
    | some kd => if ¬ n < 0 ∧ n.toNatClampNeg ≤ 65536 then pm_nw (.inl (kd, n.toNatClampNeg, .inr (.inl (fun _ => 0)))) n.toNatClampNeg 2 pc L r h sz sl else none
    | none => none)
  | _ => none
/-- an array of references: the table of classes by (owner, index) tells the array type's number plus 1000 -/
def pm_newQ (T : pm_Tab) (k idx pc : Nat) (L : pm_L) (S : List Value) (h : pm_H) (sz sl : Nat) : Option pm_St := match S with
  | .int n :: r => (match pm_clk T (pm_o T k) idx with
    | some q => if 1000 ≤ q ∧ ¬ n < 0 ∧ n.toNatClampNeg ≤ 65536 then pm_nw (.inl (q - 1000, n.toNatClampNeg, .inr (.inr (.inr (.inr (fun _ => none)))))) n.toNatClampNeg 3 pc L r h sz sl else none
    | none => none)
  | _ => none
def pm_newO (T : pm_Tab) (k idx pc : Nat) (L : pm_L) (S : List Value) (h : pm_H) (sz sl : Nat) : Option pm_St := match pm_clk T (pm_o T k) idx with
  | some ci => if ci < 1000 then pm_nw (.inr (ci, pm_df T ci)) (pm_df T ci).length 3 pc L S h sz sl else none
  | none => none
def pm_sum (S : List Value) : Nat := (S.map fun v => v.category).sum
/-- what the library does: 6 Object.<init>, 7 Math.min, 8 Math.max, 9 System.arraycopy of ints -/
def pm_lib (T : pm_Tab) (fr lo w pc : Nat) (L : pm_L) (S : List Value) (h : pm_H) (sz sl : Nat) : Option pm_St := match w, S with
  | 6, .ref _ :: r => if 1 ≤ fr ∧ pm_sum r + 12 ≤ lo then some (pc + 3, L, r, h, sz, sl) else none
  | 7, .int y :: .int x :: r => if 1 ≤ fr ∧ pm_sum r + 13 ≤ lo then some (pc + 3, L, .int (if y < x then y else x) :: r, h, sz, sl) else none
  | 8, .int y :: .int x :: r => if 1 ≤ fr ∧ pm_sum r + 13 ≤ lo then some (pc + 3, L, .int (if x < y then y else x) :: r, h, sz, sl) else none
  | 9, .int n :: .int dp :: .ref a :: .int sp :: .ref a0 :: r => (match pm_iar T .int h sz a0, pm_iar T .int h sz a with
    | some (_, n0, f), some (kd, n1, g) => if (1 ≤ fr ∧ pm_sum r + 60 ≤ lo) ∧ ¬ sp < 0 ∧ ¬ dp < 0 ∧ ¬ n < 0 ∧ sp.toNatClampNeg + n.toNatClampNeg ≤ n0 ∧ dp.toNatClampNeg + n.toNatClampNeg ≤ n1 then some (pc + 3, L, r, va_up h a (.inl (kd, n1, .inl (va_cpy f g sp.toNatClampNeg dp.toNatClampNeg n.toNatClampNeg))), sz, sl) else none
    | _, _ => none)
  | _, _ => none
def pm_libW (T : pm_Tab) (sp : Bool) (fr lo k idx pc : Nat) (L : pm_L) (S : List Value) (h : pm_H) (sz sl : Nat) : Option pm_St := match pm_mlk T (pm_o T k) idx with
  | some (w, _) => if (w == 6) = sp then pm_lib T fr lo w pc L S h sz sl else none
  | none => none
def pm_lenOk (i : Instr) (len : Nat) : Bool := match i with
  | .bipush _ | .ldc _ | .iload _ | .lload _ | .aload _ | .istore _ | .lstore _ | .astore _ | .newarray _ => len == 2
  | .sipush _ | .ldc_w _ | .ldc2_w _ | .iinc _ _ | .ifCond _ _ | .if_icmp _ _ | .goto _ | .getfield _ | .putfield _ | .anewarray _ | .new _ | .invokevirtual _ | .invokestatic _ | .invokespecial _ => len == 3
  | .tableswitch _ _ _ _ | .lookupswitch _ _ => true
  | _ => len == 1
def pm_swOk (ps : List (Int × Int)) : Bool := (ps.zip (ps.drop 1)).all (fun (a, next) => a.1 < next.1)
def pm_simple (T : pm_Tab) (fr lo k : Nat) (i : Instr) (pc : Nat) (L : pm_L) (S : List Value) (h : pm_H) (sz sl : Nat) : Option pm_St := match i with
  | .iconst n => some (pc + 1, L, .int (Int32.ofInt n) :: S, h, sz, sl)
  | .bipush n => some (pc + 2, L, .int (Int8.ofInt n).toInt32 :: S, h, sz, sl)
  | .sipush n => some (pc + 3, L, .int (Int16.ofInt n).toInt32 :: S, h, sz, sl)
  | .lconst n => some (pc + 1, L, .long (Int64.ofNat n.val) :: S, h, sz, sl)
  | .ldc j => (match pm_con T (pm_o T k) j with
    | some v => some (pc + 2, L, .int v :: S, h, sz, sl)
    | none => none)
  | .ldc_w j => (match pm_con T (pm_o T k) j with
    | some v => some (pc + 3, L, .int v :: S, h, sz, sl)
    | none => none)
  | .ldc2_w j => (match pm_conL T (pm_o T k) j with
    | some v => some (pc + 3, L, .long v :: S, h, sz, sl)
    | none => none)
  | .iload j => pm_lo 0 2 pc j L S h sz sl
  | .iload_n j => pm_lo 0 1 pc j.val L S h sz sl
  | .lload j => pm_lo 1 2 pc j L S h sz sl
  | .lload_n j => pm_lo 1 1 pc j.val L S h sz sl
  | .aload j => pm_lo 2 2 pc j L S h sz sl
  | .aload_n j => pm_lo 2 1 pc j.val L S h sz sl
  | .istore j => pm_so 0 2 (pm_max T k) pc j L S h sz sl
  | .istore_n j => pm_so 0 1 (pm_max T k) pc j.val L S h sz sl
  | .astore j => pm_so 2 2 (pm_max T k) pc j L S h sz sl
  | .astore_n j => pm_so 2 1 (pm_max T k) pc j.val L S h sz sl
  | .lstore j => pm_sL 2 (pm_max T k) pc j L S h sz sl
  | .lstore_n j => pm_sL 1 (pm_max T k) pc j.val L S h sz sl
  | .iinc j n => (match pm_get L j with
    | some (.int x) => if j < pm_max T k then some (pc + 3, pm_st1 L j (.int (x + Int32.ofInt n)), S, h, sz, sl) else none
    | _ => none)
  | .iadd => pm_bi (fun x y => x + y) pc L S h sz sl
  | .isub => pm_bi (fun x y => x - y) pc L S h sz sl
  | .imul => pm_bi (fun x y => x * y) pc L S h sz sl
  | .iand => pm_bi (fun x y => x &&& y) pc L S h sz sl
  | .ior => pm_bi (fun x y => x ||| y) pc L S h sz sl
  | .ixor => pm_bi (fun x y => x ^^^ y) pc L S h sz sl
  | .ishl => pm_bi (fun x y => x <<< (y &&& 31)) pc L S h sz sl
  | .ishr => pm_bi (fun x y => x >>> (y &&& 31)) pc L S h sz sl
  | .iushr => pm_bi (fun x y => (x.toUInt32 >>> (y.toUInt32 &&& Int32.toUInt32 31)).toInt32) pc L S h sz sl
  | .idiv => pm_bd (fun x y => x / y) pc L S h sz sl
  | .irem => pm_bd (fun x y => x - x / y * y) pc L S h sz sl
  | .ineg => pm_ui (fun x => .int (-x)) pc L S h sz sl
  | .i2l => pm_ui (fun x => .long x.toInt64) pc L S h sz sl
  | .i2b => pm_ui (fun x => .int x.toInt8.toInt32) pc L S h sz sl
  | .i2s => pm_ui (fun x => .int x.toInt16.toInt32) pc L S h sz sl
  | .i2c => pm_ui (fun x => .int (x.toUInt32 % 65536).toInt32) pc L S h sz sl
  | .lmul => pm_bl (fun x y => x * y) pc L S h sz sl
  | .ladd => pm_bl (fun x y => x + y) pc L S h sz sl
  | .lsub => pm_bl (fun x y => x - y) pc L S h sz sl
  | .ldiv => pm_bdL (fun x y => x / y) pc L S h sz sl
  | .lrem => pm_bdL (fun x y => x - x / y * y) pc L S h sz sl
  | .lcmp => (match S with
    | .long y :: .long x :: r => some (pc + 1, L, .int (lg_cmp x y) :: r, h, sz, sl)
    | _ => none)
  | .dup => (match S with
    | v :: r => if v.category = 1 then some (pc + 1, L, v :: v :: r, h, sz, sl) else none
    | _ => none)
  | .pop => (match S with
    | v :: r => if v.category = 1 then some (pc + 1, L, r, h, sz, sl) else none
    | _ => none)
  | .dup_x1 => (match S with
    | v :: w :: r => if v.category = 1 ∧ w.category = 1 then some (pc + 1, L, v :: w :: v :: r, h, sz, sl) else none
    | _ => none)
  | .dup_x2 => (match S with
    | v :: w :: z :: r => if v.category = 1 ∧ w.category = 1 ∧ z.category = 1 then some (pc + 1, L, v :: w :: z :: v :: r, h, sz, sl) else none
    | _ => none)
  | .dup2 => (match S with
    | v :: w :: r => if v.category = 1 ∧ w.category = 1 then some (pc + 1, L, v :: w :: v :: w :: r, h, sz, sl) else none
    | _ => none)
  | .ifCond c off => (match S with
    | .int x :: r => pm_br (pm_cmp c x 0) pc off L r h sz sl
    | _ => none)
  | .if_icmp c off => (match S with
    | .int y :: .int x :: r => pm_br (pm_cmp c x y) pc off L r h sz sl
    | _ => none)
  | .goto off => pm_jp pc off L S h sz sl
  | .tableswitch d lo' hi offs => (match S with
    | .int x :: r => if x.toInt < lo' ∨ hi < x.toInt then pm_jp pc d L r h sz sl else (match offs[(x.toInt - lo').toNat]? with
      | some off => pm_jp pc off L r h sz sl
      | none => none)
    | _ => none)
  | .lookupswitch d ps => (match S with
    | .int x :: r => if pm_swOk ps.toList = true then pm_jp pc (Op.lookupswitch.offset ps.toList d x.toInt) L r h sz sl else none
    | _ => none)
  | .getfield j => pm_gf T k j pc L S h sz sl
  | .putfield j => pm_pf T k j pc L S h sz sl
  | .iaload => pm_ia T .int pc L S h sz sl
  | .caload => pm_ia T .char pc L S h sz sl
  | .baload => pm_ia T .boolean pc L S h sz sl
  | .laload => pm_la T pc L S h sz sl
  | .aaload => pm_qa T pc L S h sz sl
  | .iastore => pm_iS T .int (fun x => x) pc L S h sz sl
  | .castore => pm_iS T .char (fun x => vp_nar .char x) pc L S h sz sl
  | .bastore => pm_iS T .boolean (fun x => vp_nar .boolean x) pc L S h sz sl
  | .lastore => pm_lS T pc L S h sz sl
  | .aastore => pm_qS T pc L S h sz sl
  | .arraylength => pm_al T pc L S h sz sl
  | .newarray .int => pm_newI T .int pc L S h sz sl
  | .newarray .char => pm_newI T .char pc L S h sz sl
  | .newarray .boolean => pm_newI T .boolean pc L S h sz sl
  | .newarray .long => pm_newL T pc L S h sz sl
  | .anewarray j => pm_newQ T k j pc L S h sz sl
  | .new j => pm_newO T k j pc L S h sz sl
  | .invokespecial j => pm_libW T true fr lo k j pc L S h sz sl
  | .invokestatic j => pm_libW T false fr lo k j pc L S h sz sl
  | _ => none
/-- a call of a method of the tables: 0 by the receiver's class, 1 the same of a nest mate, 2 static, 3 static of a nest mate, 4 a constructor, 5 one of a nest mate -/
def pm_callee (T : pm_Tab) (k : Nat) (i : Instr) : Option (Nat × Nat) := match i with
  | .invokevirtual j => (match pm_mlk T (pm_o T k) j with
    | some (0, t) => some (0, t)
    | some (1, t) => some (1, t)
    | _ => none)
  | .invokestatic j => (match pm_mlk T (pm_o T k) j with
    | some (2, t) => some (2, t)
    | some (3, t) => some (3, t)
    | _ => none)
  | .invokespecial j => (match pm_mlk T (pm_o T k) j with
    | some (4, t) => some (4, t)
    | some (5, t) => some (5, t)
    | _ => none)
  | _ => none
/-- the receiver is an object of the method's class -/
def pm_rcv (T : pm_Tab) (w t : Nat) (As : List Value) (h : pm_H) (sz : Nat) : Bool := if w = 2 ∨ w = 3 then true else (match As with
  | .ref a :: _ => (match pm_obj h sz a with
    | some (ci, _) => ci == pm_ci T t
    | none => false)
  | _ => false)
def pm_rets (T : pm_Tab) (k : Nat) (i : Instr) (S : List Value) : Option (Option Value) := match i, S with
  | .return_, [] => (match pm_ret T k with
    | none => some none
    | _ => none)
  | .ireturn, [.int v] => (match pm_ret T k with
    | some .int => some (some (.int v))
    | some .boolean => if v = 0 ∨ v = 1 then some (some (.int v)) else none
    | _ => none)
  | .lreturn, [.long v] => (match pm_ret T k with
    | some .long => some (some (.long v))
    | _ => none)
  | _, _ => none
abbrev pm_Rs : Type := Option Value × pm_H × Nat × Nat
/-- one step in method k; 'go' runs a callee -/
def pm_step (T : pm_Tab) (go : Nat → Nat → Nat → List Value → pm_H → Nat → Nat → Option pm_Rs) (fr lo k : Nat) (st : pm_St) : Option pm_St := match pm_ins T k st.1 with
  | none => none
  | some (i, len) => if pm_lenOk i len = true then (match pm_callee T k i with
    | some (w, t) => if pm_na T t ≤ st.2.2.1.length ∧ pm_rcv T w t (st.2.2.1.take (pm_na T t)).reverse st.2.2.2.1 st.2.2.2.2.1 = true ∧ pm_sum (st.2.2.1.drop (pm_na T t)) ≤ 8 ∧ 1 ≤ fr ∧ 19 + pm_max T t ≤ lo ∧ (pm_args (st.2.2.1.take (pm_na T t)).reverse).length ≤ pm_max T t then (match go (fr - 1) (lo - (19 + pm_max T t)) t (st.2.2.1.take (pm_na T t)).reverse st.2.2.2.1 st.2.2.2.2.1 st.2.2.2.2.2 with
      | some (rv, h1, sz1, sl1) => some (st.1 + 3, st.2.1, rv.toList ++ st.2.2.1.drop (pm_na T t), h1, sz1, sl1)
      | none => none) else none
    | none => pm_simple T fr lo k i st.1 st.2.1 st.2.2.1 st.2.2.2.1 st.2.2.2.2.1 st.2.2.2.2.2) else none
/-- does the step at st end the method: its answer -/
def pm_end (T : pm_Tab) (k : Nat) (st : pm_St) : Option pm_Rs := match pm_ins T k st.1 with
  | none => none
  | some (i, len) => if pm_lenOk i len = true then (match pm_rets T k i st.2.2.1 with
    | some rv => some (rv, st.2.2.2)
    | none => none) else none
/-- n steps at most -/
def pm_run (T : pm_Tab) : Nat → Nat → Nat → Nat → pm_St → Option pm_Rs
  | 0, _, _, _, _ => none
  | n + 1, fr, lo, k, st => match pm_end T k st with
    | some r => some r
    | none => match pm_step T (fun fr lo t as h sz sl => pm_run T n fr lo t (0, pm_l0 as (pm_max T t), [], h, sz, sl)) fr lo k st with
      | some st' => pm_run T n fr lo k st'
      | none => none
end
section
/-! the pure machine's cells and locals as the kit's worlds: cell i lies at b + i -/
def pm_tr (b : Nat) (v : Value) : Value := match v with
  | .ref a => .ref (b + a)
  | v => v
def pm_trA (b : Nat) (a : vp_A) : vp_A := match a with
  | (n, .inr (.inr (.inr (.inr f)))) => (n, .inr (.inr (.inr (.inr (fun j => (f j).map (fun x => b + x))))))
  | a => a
def pm_trE (aC : Nat → ClassId) (b : Nat) (e : pm_E) : va_E := match e with
  | .inl a => .inl (aC a.1, pm_trA b a.2)
  | .inr o => .inr (o.1, o.2.map (pm_tr b))
def pm_w (aC : Nat → ClassId) (b : Nat) (h : pm_H) (sz : Nat) : va_W := (List.range sz).map (fun i => (b + i, pm_trE aC b (h i)))
theorem pm_w_len (aC : Nat → ClassId) (b : Nat) (h : pm_H) (sz : Nat) : (pm_w aC b h sz).length = sz := by simp [pm_w]
theorem pm_w_get {aC : Nat → ClassId} {b : Nat} {h : pm_H} {sz i : Nat} (hi : i < sz) : (pm_w aC b h sz)[i]? = some (b + i, pm_trE aC b (h i)) := by simp [pm_w, hi]
theorem pm_w_at {aC : Nat → ClassId} {b : Nat} {h : pm_H} {sz i : Nat} {q : Nat × va_E} (hq : (pm_w aC b h sz)[i]? = some q) : i < sz ∧ q = (b + i, pm_trE aC b (h i)) := by
  have hl : i < (pm_w aC b h sz).length := (List.getElem?_eq_some_iff.mp hq).1
  rw [pm_w_len] at hl
  rw [pm_w_get hl] at hq
  exact ⟨hl, (Option.some.inj hq).symm⟩
theorem pm_w_cong {aC : Nat → ClassId} {b : Nat} {h h' : pm_H} {sz : Nat} (e : ∀ i, i < sz → h i = h' i) : pm_w aC b h sz = pm_w aC b h' sz := by
  unfold pm_w
  exact List.map_congr_left (fun i hi => by rw [e i (List.mem_range.mp hi)])
theorem pm_w_set {aC : Nat → ClassId} {b : Nat} {h : pm_H} {sz a : Nat} {e : pm_E} {e' : va_E} (he : e' = pm_trE aC b e) : (pm_w aC b h sz).set a (b + a, e') = pm_w aC b (va_up h a e) sz := by
  subst he
  apply List.ext_getElem?
  intro i
  rw [List.getElem?_set, pm_w_len]
  by_cases hi : i < sz
  · rw [pm_w_get hi, pm_w_get hi]
    by_cases ha : a = i
    · subst ha
      simp [va_up, hi]
    · simp [va_up, ha, Ne.symm ha]
  · have h1 : (pm_w aC b h sz)[i]? = none := List.getElem?_eq_none (by rw [pm_w_len]; omega)
    have h2 : (pm_w aC b (va_up h a e) sz)[i]? = none := List.getElem?_eq_none (by rw [pm_w_len]; omega)
    rw [h1, h2]
    by_cases ha : a = i
    · subst ha; simp [hi]
    · simp [ha]
theorem pm_w_push {aC : Nat → ClassId} {b : Nat} {h : pm_H} {sz : Nat} {e : pm_E} {e' : va_E} (he : e' = pm_trE aC b e) : pm_w aC b h sz ++ [(b + sz, e')] = pm_w aC b (va_up h sz e) (sz + 1) := by
  subst he
  unfold pm_w
  rw [List.range_succ, List.map_append]
  congr 1
  · exact List.map_congr_left (fun i hi => by
      have := List.mem_range.mp hi
      simp [va_up, Nat.ne_of_lt this])
  · simp [va_up]
theorem pm_w_D (aC : Nat → ClassId) (b : Nat) (h : pm_H) (sz : Nat) : va_D (fun q => b ≤ q) (pm_w aC b h sz) := by
  refine ⟨fun i j p q hp hq e => ?_, fun k q hq => ?_⟩
  · obtain ⟨-, rfl⟩ := pm_w_at hp
    obtain ⟨-, rfl⟩ := pm_w_at hq
    dsimp only at e
    omega
  · obtain ⟨-, rfl⟩ := pm_w_at hq
    exact Nat.le_add_right b k
theorem pm_cat (b : Nat) (v : Value) : (pm_tr b v).category = v.category := by cases v <;> rfl
theorem pm_sum_tr (b : Nat) (S : List Value) : ((S.map (pm_tr b)).map fun v => v.category).sum = pm_sum S := by
  unfold pm_sum
  rw [List.map_map]
  congr 1
  exact List.map_congr_left (fun v _ => pm_cat b v)
/-! locals -/
def pm_loc (b : Nat) (ls : Array Slot) (n : Nat) (L : pm_L) : Prop := ls.size = n ∧ lv_wf ls ∧ ∀ i v, pm_get L i = some v → ls[i]? = some (.val (pm_tr b v))
def pm_ll (b : Nat) (L : pm_L) : List (Nat × Value) := (List.range L.length).filterMap (fun i => (pm_get L i).map (fun v => (i, pm_tr b v)))
theorem pm_get_lt {L : pm_L} {i : Nat} {v : Value} (h : pm_get L i = some v) : i < L.length := by
  unfold pm_get at h
  rcases Nat.lt_or_ge i L.length with q | q
  · exact q
  · rw [List.getElem?_eq_none q] at h
    cases h
theorem pm_ll_mem {b : Nat} {L : pm_L} {i : Nat} {v : Value} (h : pm_get L i = some v) : (i, pm_tr b v) ∈ pm_ll b L := by
  unfold pm_ll
  exact List.mem_filterMap.mpr ⟨i, List.mem_range.mpr (pm_get_lt h), by rw [h]; rfl⟩
theorem pm_ll_of {b : Nat} {L : pm_L} {q : Nat × Value} (h : q ∈ pm_ll b L) : ∃ v, pm_get L q.1 = some v ∧ q.2 = pm_tr b v := by
  unfold pm_ll at h
  obtain ⟨i, -, hi⟩ := List.mem_filterMap.mp h
  cases hg : pm_get L i with
  | none => rw [hg] at hi; cases hi
  | some v => rw [hg] at hi; cases hi; exact ⟨v, hg, rfl⟩
theorem pm_loc.has {b : Nat} {ls : Array Slot} {n : Nat} {L : pm_L} (h : pm_loc b ls n L) : lv_has ls n (pm_ll b L) := by
  refine ⟨h.1, h.2.1, fun q hq => ?_⟩
  obtain ⟨v, h1, h2⟩ := pm_ll_of hq
  rw [h2]
  exact h.2.2 _ _ h1
theorem pm_get_set {L : pm_L} {i j : Nat} {o : Option Value} {w : Value} (h : pm_get (L.set i o) j = some w) : (j = i ∧ o = some w) ∨ (j ≠ i ∧ pm_get L j = some w) := by
  unfold pm_get at h ⊢
  rw [List.getElem?_set] at h
  by_cases e : i = j
  · subst e
    rw [if_pos rfl] at h
    by_cases hl : i < L.length
    · rw [if_pos hl] at h
      cases o with
      | none => cases h
      | some x => exact Or.inl ⟨rfl, h⟩
    · rw [if_neg hl] at h; cases h
  · rw [if_neg e] at h
    exact Or.inr ⟨Ne.symm e, h⟩
theorem pm_get_cut {L : pm_L} {i j : Nat} {w : Value} (h : pm_get (pm_cut L i) j = some w) : pm_get L j = some w ∧ ¬ (j + 1 = i ∧ w.category = 2) := by
  unfold pm_cut at h
  cases i with
  | zero => exact ⟨h, fun q => by omega⟩
  | succ i =>
    dsimp only at h
    by_cases hc : pm_cat2 L i = true
    · rw [if_pos hc] at h
      rcases pm_get_set h with ⟨-, h2⟩ | ⟨h1, h2⟩
      · cases h2
      · exact ⟨h2, fun q => h1 (by omega)⟩
    · rw [if_neg hc] at h
      refine ⟨h, fun q => hc ?_⟩
      have e : j = i := by omega
      subst e
      unfold pm_cat2
      rw [h]
      simp [q.2]
theorem pm_get_st1 {L : pm_L} {i j : Nat} {v w : Value} (h : pm_get (pm_st1 L i v) j = some w) : (j = i ∧ w = v) ∨ (j ≠ i ∧ pm_get L j = some w ∧ ¬ (j + 1 = i ∧ w.category = 2)) := by
  rcases pm_get_set h with ⟨h1, h2⟩ | ⟨h1, h2⟩
  · exact Or.inl ⟨h1, (Option.some.inj h2).symm⟩
  · exact Or.inr ⟨h1, pm_get_cut h2⟩
theorem pm_get_st2 {L : pm_L} {i j : Nat} {v w : Value} (h : pm_get (pm_st2 L i v) j = some w) : (j = i ∧ w = v) ∨ (j ≠ i ∧ j ≠ i + 1 ∧ pm_get L j = some w ∧ ¬ (j + 1 = i ∧ w.category = 2)) := by
  rcases pm_get_set h with ⟨-, h2⟩ | ⟨h0, h2⟩
  · cases h2
  · rcases pm_get_st1 (L := L) (i := i) (v := v) h2 with ⟨h1, h3⟩ | ⟨h1, h3, h4⟩
    · exact Or.inl ⟨h1, h3⟩
    · exact Or.inr ⟨h1, h0, h3, h4⟩
theorem pm_loc.st1 {b : Nat} {ls : Array Slot} {n i : Nat} {L : pm_L} {v : Value} (h : lv_has ls n ((i, pm_tr b v) :: (pm_ll b L).filter (fun q => !(q.1 == i) && !(q.1 + 1 == i && q.2.category == 2)))) : pm_loc b ls n (pm_st1 L i v) := by
  refine ⟨h.1, h.2.1, fun j w hj => ?_⟩
  rcases pm_get_st1 hj with ⟨rfl, rfl⟩ | ⟨h1, h2, h3⟩
  · exact h.2.2 _ List.mem_cons_self
  · refine h.2.2 (j, pm_tr b w) (List.mem_cons_of_mem _ (List.mem_filter.mpr ⟨pm_ll_mem h2, ?_⟩))
    rw [pm_cat]
    simp only [Bool.and_eq_true, Bool.not_eq_true', beq_eq_false_iff_ne, ne_eq, Bool.and_eq_false_iff]
    refine ⟨h1, ?_⟩
    by_cases e : j + 1 = i
    · exact Or.inr (fun q => h3 ⟨e, q⟩)
    · exact Or.inl e
theorem pm_loc.st2 {b : Nat} {ls : Array Slot} {n i : Nat} {L : pm_L} {v : Value} (h : lv_has ls n ((i, pm_tr b v) :: (pm_ll b L).filter (fun q => !(q.1 == i) && (!(q.1 == i + 1) && !(q.1 + 1 == i && q.2.category == 2))))) : pm_loc b ls n (pm_st2 L i v) := by
  refine ⟨h.1, h.2.1, fun j w hj => ?_⟩
  rcases pm_get_st2 hj with ⟨rfl, rfl⟩ | ⟨h1, h0, h2, h3⟩
  · exact h.2.2 _ List.mem_cons_self
  · refine h.2.2 (j, pm_tr b w) (List.mem_cons_of_mem _ (List.mem_filter.mpr ⟨pm_ll_mem h2, ?_⟩))
    rw [pm_cat]
    simp only [Bool.and_eq_true, Bool.not_eq_true', beq_eq_false_iff_ne, ne_eq, Bool.and_eq_false_iff]
    refine ⟨h1, h0, ?_⟩
    by_cases e : j + 1 = i
    · exact Or.inr (fun q => h3 ⟨e, q⟩)
    · exact Or.inl e
theorem pm_args_mem (b : Nat) : ∀ (vs : List Value) (o i : Nat) (v : Value), pm_get (pm_args vs) i = some v → (o + i, pm_tr b v) ∈ lv_args o (vs.map (pm_tr b))
  | [], o, i, v, h => by simp [pm_args, pm_get] at h
  | x :: xs, o, i, v, h => by
    unfold pm_args at h
    rw [List.map_cons]
    unfold lv_args
    by_cases hc : x.category = 2
    · rw [if_pos hc] at h
      rw [pm_cat, if_pos hc]
      match i, h with
      | 0, h => cases (Option.some.inj h : x = v); exact List.mem_cons_self
      | 1, h => simp [pm_get] at h
      | i + 2, h =>
        have := pm_args_mem b xs (o + 2) i v h
        rw [show o + (i + 2) = o + 2 + i by omega]
        exact List.mem_cons_of_mem _ this
    · rw [if_neg hc] at h
      rw [pm_cat, if_neg hc]
      match i, h with
      | 0, h => cases (Option.some.inj h : x = v); exact List.mem_cons_self
      | i + 1, h =>
        have := pm_args_mem b xs (o + 1) i v h
        rw [show o + (i + 1) = o + 1 + i by omega]
        exact List.mem_cons_of_mem _ this
theorem pm_sl_len (b : Nat) : ∀ vs : List Value, (lg_sl (vs.map (pm_tr b))).length = (pm_args vs).length
  | [] => rfl
  | x :: xs => by
    have ih := pm_sl_len b xs
    unfold lg_sl at ih
    unfold lg_sl pm_args
    rw [List.map_cons, List.flatMap_cons, List.length_append, pm_cat, ih]
    by_cases hc : x.category = 2
    · simp [hc]; omega
    · simp [hc]; omega
theorem pm_l0_loc (b : Nat) (vs : List Value) {n : Nat} (hn : (pm_args vs).length ≤ n) : pm_loc b ((lg_sl (vs.map (pm_tr b)) ++ List.replicate (n - (lg_sl (vs.map (pm_tr b))).length) Slot.unset).toArray) n (pm_l0 vs n) := by
  have h := lv_entry (vs.map (pm_tr b)) (n := n) (by rw [pm_sl_len]; exact hn)
  refine ⟨h.1, h.2.1, fun i v hi => ?_⟩
  have h2 : pm_get (pm_args vs) i = some v := by
    unfold pm_l0 pm_get at hi
    unfold pm_get
    by_cases hl : i < (pm_args vs).length
    · rw [List.getElem?_append_left hl] at hi
      exact hi
    · rw [List.getElem?_append_right (by omega), List.getElem?_replicate] at hi
      by_cases hq : i - (pm_args vs).length < n - (pm_args vs).length
      · rw [if_pos hq] at hi; cases hi
      · rw [if_neg hq] at hi; cases hi
  have h3 := pm_args_mem b vs 0 i v h2
  rw [Nat.zero_add] at h3
  exact h.2.2 _ h3
end
section
/-! what the tables must say, and the soundness of one step -/
def pm_kindOk (t : Nat) (ty : FieldType) : Prop := (t = 0 ∧ ty = .int) ∨ (t = 1 ∧ ty = .long) ∨ (t = 2 ∧ ∀ a : Nat, narrow ty (.ref a) = .ref a ∧ fits ty (.ref a) = true) ∨ (t = 3 ∧ ty = .boolean)
def pm_okF (T : pm_Tab) (G : List Cond) : Prop := ∀ o j ci f t, pm_fld T o j = some (ci, f, t) → ∃ (C : String) (F : u_T) (N : Nat) (ty : Nat → FieldType), (pm_cl T)[ci]? = some (C, F, N) ∧ f < N ∧ (F f).1 = C ∧ (∀ w ∈ u_ws C F N, w ∈ G) ∧ Cond.fieldLink (pm_own T o) j C (F f).2.1 (F f).2.2.1 ∈ G ∧ (∀ a, a < N → ∀ b, b < N → a ≠ b → (F a).2.1 ≠ (F b).2.1) ∧ (∀ k, k < N → parseFieldDescriptor (F k).2.2.1 = some (ty k)) ∧ pm_kindOk (t % 10) (ty f) ∧ (t < 10 → (F f).2.2.2 = false) ∧ (10 ≤ t → (F f).2.2.2 = true) ∧ (10 ≤ t → t < 20 → pm_own T o = C)
def pm_okM (T : pm_Tab) (G : List Cond) (t : Nat) : Prop := plainName (pm_y T t).cls = true ∧ pm_own T (pm_o T t) = (pm_y T t).cls ∧ Cond.code (pm_y T t) (pm_code T t) (pm_max T t) (pm_ret T t) ∈ G ∧ Cond.initialized (pm_y T t).cls ∈ G ∧ ((pm_y T t).cls ≠ "java/lang/invoke/MethodHandle" ∧ (pm_y T t).cls ≠ "java/lang/invoke/VarHandle") ∧ (pm_init T t = true → (pm_y T t).name = "<init>")
def pm_pars (T : pm_Tab) (t n : Nat) : Prop := (parseMethodDescriptor (pm_y T t).desc).map (fun d => d.parameters.length) = some n
def pm_okW (T : pm_Tab) (G Ns : List Cond) (o j w t : Nat) : Prop := match w with
  | 0 => pm_okM T G t ∧ Cond.methodLink (pm_own T o) j (pm_y T t) ∈ G ∧ Cond.instanceMethod (pm_y T t) ∈ G ∧ Cond.selects (pm_y T t).cls (pm_y T t) (pm_y T t) ∈ G ∧ (∃ n, pm_na T t = n + 1 ∧ pm_pars T t n) ∧ ∃ F N, (pm_cl T)[pm_ci T t]? = some ((pm_y T t).cls, F, N)
  | 1 => False
  | 2 => pm_okM T G t ∧ Cond.methodLink (pm_own T o) j (pm_y T t) ∈ G ∧ Cond.static (pm_y T t) ∈ G ∧ pm_pars T t (pm_na T t)
  | 3 => pm_okM T G t ∧ (∃ host, Cond.methodLinkNest (pm_own T o) j (pm_y T t) host ∈ Ns) ∧ Cond.static (pm_y T t) ∈ G ∧ pm_pars T t (pm_na T t)
  | 4 => pm_okM T G t ∧ Cond.methodLink (pm_own T o) j (pm_y T t) ∈ G ∧ Cond.instanceMethod (pm_y T t) ∈ G ∧ (pm_y T t).name = "<init>" ∧ pm_ret T t = none ∧ ∃ n, pm_na T t = n + 1 ∧ pm_pars T t n
  | 5 => pm_okM T G t ∧ (∃ host, Cond.methodLinkNest (pm_own T o) j (pm_y T t) host ∈ Ns) ∧ Cond.instanceMethod (pm_y T t) ∈ G ∧ (pm_y T t).name = "<init>" ∧ pm_ret T t = none ∧ ∃ n, pm_na T t = n + 1 ∧ pm_pars T t n
  | 6 => Cond.methodLink (pm_own T o) j Lib.objectInit ∈ G ∧ Cond.instanceMethod Lib.objectInit ∈ G ∧ Cond.code Lib.objectInit ⟨#[0xb1]⟩ 1 none ∈ G
  | 7 => Cond.methodLink (pm_own T o) j Lib.Math.min.name ∈ G ∧ Cond.static Lib.Math.min.name ∈ G ∧ Cond.initialized "java/lang/Math" ∈ G ∧ Cond.code Lib.Math.min.name Lib.Math.min.code 2 (some .int) ∈ G
  | 8 => Cond.methodLink (pm_own T o) j Lib.Math.max.name ∈ G ∧ Cond.static Lib.Math.max.name ∈ G ∧ Cond.initialized "java/lang/Math" ∈ G ∧ Cond.code Lib.Math.max.name Lib.Math.max.code 2 (some .int) ∈ G
  | 9 => Cond.methodLink (pm_own T o) j arraycopyName ∈ G ∧ Cond.native arraycopyName ∈ G ∧ Cond.static arraycopyName ∈ G ∧ Cond.initialized "java/lang/System" ∈ G
  | _ => False
def pm_okC (T : pm_Tab) (G Ns : List Cond) : Prop := ∀ o j q, pm_clk T o j = some q → (q < 1000 → ∃ (C : String) (F : u_T) (N : Nat) (ty : Nat → FieldType), (pm_cl T)[q]? = some (C, F, N) ∧ (∀ w ∈ u_ws C F N, w ∈ G) ∧ (∀ k, k < N → parseFieldDescriptor (F k).2.2.1 = some (ty k)) ∧ Cond.classLink (pm_own T o) j C ∈ G ∧ Cond.instantiable C N ∈ G ∧ Cond.initialized C ∈ G ∧ (pm_df T q).length = N ∧ (∀ j, j < N → defaultValue (ty j) = vp_V (pm_df T q) j) ∧ ∀ b, (pm_df T q).map (pm_tr b) = pm_df T q) ∧ (1000 ≤ q → ∃ C : String, (pm_ty T)[q - 1000]? = some (.object C) ∧ Cond.classLink (pm_own T o) j C ∈ G ∧ Cond.arrayOver (.object C) ∈ Ns)
def pm_ok (T : pm_Tab) (G Ns : List Cond) : Prop :=
  (∀ k pc i len, pm_ins T k pc = some (i, len) → decode (pm_code T k) pc = .ok (i, len)) ∧
  (∀ w ∈ G, goodWord w = true) ∧
  (∀ w ∈ Ns, w.onTables = true ∧ ∀ (s U : State), s.WarmedH U.vm → va_Nw w s → va_Nw w U) ∧
  pm_okF T G ∧ (∀ o j w t, pm_mlk T o j = some (w, t) → pm_okW T G Ns o j w t) ∧ pm_okC T G Ns ∧
  (∀ ty, pm_tysAt T ty ≠ none → Cond.arrayClass ty ∈ G ∨ ∃ C, ty = .object C) ∧
  (∀ o j v, pm_con T o j = some v → Jvm.Cond.constant (pm_own T o) j v ∈ G) ∧ (∀ o j v, pm_conL T o j = some v → Jvm.Cond.constantLong (pm_own T o) j v ∈ G)
def pm_tys (T : pm_Tab) (aC : Nat → ClassId) : List (ClassId × FieldType) := (List.range (pm_ty T).length).map (fun i => (aC i, (pm_ty T).getD i .int))
theorem pm_tys_get {T : pm_Tab} {aC : Nat → ClassId} {kd : Nat} {ty : FieldType} (h : (pm_ty T)[kd]? = some ty) : (pm_tys T aC)[kd]? = some (aC kd, ty) := by
  have hl : kd < (pm_ty T).length := (List.getElem?_eq_some_iff.mp h).1
  have e := (List.getElem?_eq_some_iff.mp h).2
  simp [pm_tys, hl, List.getD, e]
theorem pm_tysAt_get {T : pm_Tab} {kd : Nat} {ty : FieldType} (h : pm_tysAt T ty = some kd) : (pm_ty T)[kd]? = some ty := by
  unfold pm_tysAt at h
  obtain ⟨hl, h1, -⟩ := List.findIdx?_eq_some_iff_getElem.mp h
  rw [List.getElem?_eq_getElem hl]
  exact congrArg some (eq_of_beq h1)
def pm_K (T : pm_Tab) (Ns : List Cond) (D : va_G) (aC : Nat → ClassId) (U : State) : Prop := va_K D (pm_cl T) (pm_tys T aC) U ∧ ∀ w ∈ Ns, va_Nw w U
/-- the method k is being walked -/
def pm_C (T : pm_Tab) (G Ns : List Cond) (D : va_G) (aC : Nat → ClassId) (k : Nat) (p : Program) (s : State) (m : MethodId) (args : Array Value) (meth : Method) (c : Code) : Prop :=
  p.tables.exec = Jvm.exec ∧ c.code = pm_code T k ∧ c.maxLocals = pm_max T k ∧ s.vm.findClass (pm_own T (pm_o T k)) = some m.cls ∧ (∀ w ∈ G, w.before args s = true) ∧ pm_K T Ns D aC s ∧ (pm_init T k = true → meth.name = "<init>")
section PMV
variable {p : Program} {l : Launch} {e : Env} {R : Room} {s : State} {m : MethodId} {args : Array Value} {below : List Frame} {meth : Method} {c : Code} {H : Heap} {locs : List Loc} {cells slots : Nat} {Q : State → Prop}
/-- the heap's size, by the walk's own account -/
theorem pm_sized {g : JFrame} (k : H.size ≤ s.heap.size + cells → W p l e R s m args below meth c H locs cells slots Q g) : W p l e R s m args below meth c H locs cells slots Q g := fun T hT X => k (by rw [← hT]; exact X.heapSize) T hT X
/-- from the pure state st the real machine comes to Q -/
def pm_V (p : Program) (l : Launch) (e : Env) (R : Room) (s : State) (m : MethodId) (args : Array Value) (below : List Frame) (meth : Method) (c : Code) (Q : State → Prop) (T : pm_Tab) (D : va_G) (aC : Nat → ClassId) (b k sz0 sl0 : Nat) (st : pm_St) : Prop :=
  ∀ (H : Heap) (locs : List Loc) (ls : Array Slot), va_P D (pm_cl T) (pm_w aC b st.2.2.2.1 st.2.2.2.2.1) H → va_S (fun q => b ≤ q) s.heap H locs → pm_loc b ls (pm_max T k) st.2.1 → W p l e R s m args below meth c H locs (st.2.2.2.2.1 - sz0) (st.2.2.2.2.2 - sl0) Q (F0 m st.1 ls (st.2.2.1.map (pm_tr b)))
variable {T : pm_Tab} {G Ns : List Cond} {D : va_G} {aC : Nat → ClassId} {b k fr lo pc sz sl sz0 sl0 : Nat} {L : pm_L} {S : List Value} {h : pm_H} {st' : pm_St}
theorem pm_bi_inv {f : Int32 → Int32 → Int32} (hh : pm_bi f pc L S h sz sl = some st') : ∃ x y r, S = .int y :: .int x :: r ∧ st' = (pc + 1, L, .int (f x y) :: r, h, sz, sl) := by
  unfold pm_bi at hh
  split at hh
  · cases hh; exact ⟨_, _, _, rfl, rfl⟩
  · cases hh
theorem pm_bd_inv {f : Int32 → Int32 → Int32} (hh : pm_bd f pc L S h sz sl = some st') : ∃ x y r, S = .int y :: .int x :: r ∧ ¬ y = 0 ∧ st' = (pc + 1, L, .int (f x y) :: r, h, sz, sl) := by
  unfold pm_bd at hh
  split at hh
  · split at hh
    · cases hh
    · rename_i hy; cases hh; exact ⟨_, _, _, rfl, hy, rfl⟩
  · cases hh
theorem pm_bl_inv {f : Int64 → Int64 → Int64} (hh : pm_bl f pc L S h sz sl = some st') : ∃ x y r, S = .long y :: .long x :: r ∧ st' = (pc + 1, L, .long (f x y) :: r, h, sz, sl) := by
  unfold pm_bl at hh
  split at hh
  · cases hh; exact ⟨_, _, _, rfl, rfl⟩
  · cases hh
theorem pm_bdL_inv {f : Int64 → Int64 → Int64} (hh : pm_bdL f pc L S h sz sl = some st') : ∃ x y r, S = .long y :: .long x :: r ∧ ¬ y = 0 ∧ st' = (pc + 1, L, .long (f x y) :: r, h, sz, sl) := by
  unfold pm_bdL at hh
  split at hh
  · split at hh
    · cases hh
    · rename_i hy; cases hh; exact ⟨_, _, _, rfl, hy, rfl⟩
  · cases hh
theorem pm_ui_inv {f : Int32 → Value} (hh : pm_ui f pc L S h sz sl = some st') : ∃ x r, S = .int x :: r ∧ st' = (pc + 1, L, f x :: r, h, sz, sl) := by
  unfold pm_ui at hh
  split at hh
  · cases hh; exact ⟨_, _, rfl, rfl⟩
  · cases hh
theorem pm_lo_inv {t n i : Nat} (hh : pm_lo t n pc i L S h sz sl = some st') : ∃ v, pm_get L i = some v ∧ pm_isT t v = true ∧ st' = (pc + n, L, v :: S, h, sz, sl) := by
  unfold pm_lo pm_ld at hh
  cases hg : pm_get L i with
  | none => rw [hg] at hh; cases hh
  | some v =>
    rw [hg] at hh
    dsimp only at hh
    by_cases ht : pm_isT t v = true
    · rw [if_pos ht] at hh; cases hh; exact ⟨v, rfl, ht, rfl⟩
    · rw [if_neg ht] at hh; cases hh
theorem pm_isT_0 {v : Value} (hh : pm_isT 0 v = true) : ∃ x, v = .int x := by cases v <;> first | exact ⟨_, rfl⟩ | cases hh
theorem pm_isT_1 {v : Value} (hh : pm_isT 1 v = true) : ∃ x, v = .long x := by cases v <;> first | exact ⟨_, rfl⟩ | cases hh
theorem pm_isT_2 {v : Value} (hh : pm_isT 2 v = true) : ∃ x, v = .ref x := by cases v <;> first | exact ⟨_, rfl⟩ | cases hh
theorem pm_so_inv {t n mx i : Nat} (hh : pm_so t n mx pc i L S h sz sl = some st') : ∃ v r, S = v :: r ∧ pm_isT t v = true ∧ i < mx ∧ st' = (pc + n, pm_st1 L i v, r, h, sz, sl) := by
  unfold pm_so at hh
  split at hh
  · split at hh
    · rename_i hc; cases hh; exact ⟨_, _, rfl, hc.1, hc.2, rfl⟩
    · cases hh
  · cases hh
theorem pm_sL_inv {n mx i : Nat} (hh : pm_sL n mx pc i L S h sz sl = some st') : ∃ x r, S = .long x :: r ∧ i + 1 < mx ∧ st' = (pc + n, pm_st2 L i (.long x), r, h, sz, sl) := by
  unfold pm_sL at hh
  split at hh
  · split at hh
    · rename_i hc; cases hh; exact ⟨_, _, rfl, hc, rfl⟩
    · cases hh
  · cases hh
theorem pm_jp_inv {off : Int} (hh : pm_jp pc off L S h sz sl = some st') : ∃ t : Nat, (pc : Int) + off = (t : Int) ∧ st' = (t, L, S, h, sz, sl) := by
  unfold pm_jp pm_tgt at hh
  by_cases hp : 0 ≤ (pc : Int) + off
  · rw [if_pos hp] at hh; cases hh; exact ⟨_, (Int.toNat_of_nonneg hp).symm, rfl⟩
  · rw [if_neg hp] at hh; cases hh
theorem pm_br_inv {x : Bool} {off : Int} (hh : pm_br x pc off L S h sz sl = some st') : ∃ t : Nat, (pc : Int) + off = (t : Int) ∧ ((x = true ∧ st' = (t, L, S, h, sz, sl)) ∨ (x = false ∧ st' = (pc + 3, L, S, h, sz, sl))) := by
  unfold pm_br pm_tgt at hh
  by_cases hp : 0 ≤ (pc : Int) + off
  · rw [if_pos hp] at hh
    refine ⟨_, (Int.toNat_of_nonneg hp).symm, ?_⟩
    cases x with
    | true => cases hh; exact Or.inl ⟨rfl, rfl⟩
    | false => cases hh; exact Or.inr ⟨rfl, rfl⟩
  · rw [if_neg hp] at hh; cases hh
theorem pm_iar_inv {ty : FieldType} {a kd n : Nat} {f : Nat → Int32} (hh : pm_iar T ty h sz a = some (kd, n, f)) : a < sz ∧ h a = .inl (kd, n, .inl f) ∧ (pm_ty T)[kd]? = some ty := by
  unfold pm_iar at hh
  split at hh
  · rename_i ha
    split at hh
    · rename_i e
      split at hh
      · rename_i hk; cases hh; exact ⟨ha, e, hk⟩
      · cases hh
    · cases hh
  · cases hh
theorem pm_lar_inv {a kd n : Nat} {f : Nat → Int64} (hh : pm_lar T h sz a = some (kd, n, f)) : a < sz ∧ h a = .inl (kd, n, .inr (.inl f)) ∧ (pm_ty T)[kd]? = some .long := by
  unfold pm_lar at hh
  split at hh
  · rename_i ha
    split at hh
    · rename_i e
      split at hh
      · rename_i hk; cases hh; exact ⟨ha, e, hk⟩
      · cases hh
    · cases hh
  · cases hh
theorem pm_qar_inv {a kd n : Nat} {f : Nat → Option Nat} (hh : pm_qar h sz a = some (kd, n, f)) : a < sz ∧ h a = .inl (kd, n, .inr (.inr (.inr (.inr f)))) := by
  unfold pm_qar at hh
  split at hh
  · rename_i ha
    split at hh
    · rename_i e; cases hh; exact ⟨ha, e⟩
    · cases hh
  · cases hh
theorem pm_obj_inv {a : Nat} {o : Nat × List Value} (hh : pm_obj h sz a = some o) : a < sz ∧ h a = .inr o := by
  unfold pm_obj at hh
  split at hh
  · rename_i ha
    split at hh
    · rename_i e; cases hh; exact ⟨ha, e⟩
    · cases hh
  · cases hh
theorem pm_in_of {i : Int32} {n : Nat} (hh : pm_in i n = true) : vp_in i n := by
  have h2 : ¬ (i < 0 ∨ n ≤ i.toNatClampNeg) := of_decide_eq_true hh
  exact h2
theorem pm_cmp_t {cc : Jvm.ClassFile.Cond} {x y : Int32} {P : Prop} [Decidable P] (e : pm_cmp cc x y = decide P) : (pm_cmp cc x y = true → P) ∧ (pm_cmp cc x y = false → ¬ P) := by
  rw [e]
  exact ⟨of_decide_eq_true, of_decide_eq_false⟩
end PMV
end
section
/-! one simple instruction -/
section PMS
variable {p : Program} {l : Launch} {e : Env} {R : Room} {s : State} {m : MethodId} {args : Array Value} {below : List Frame} {meth : Method} {c : Code} {Q : State → Prop}
variable {T : pm_Tab} {G Ns : List Cond} {D : va_G} {aC : Nat → ClassId} {b k fr lo pc sz sl sz0 sl0 : Nat} {L : pm_L} {S : List Value} {h : pm_H} {st' : pm_St}
theorem pm_stI (hC : pm_C T G Ns D aC k p s m args meth c) {i n : Nat} {v : Value} {r : List Value} (hv : pm_isT 0 v = true ∨ pm_isT 2 v = true) (hi : i < pm_max T k)
    (row : ∀ (H : Heap) (locs : List Loc) (ls : Array Slot), lv_has ls (pm_max T k) (pm_ll b L) → (∀ ls' : Array Slot, lv_has ls' (pm_max T k) ((i, pm_tr b v) :: (pm_ll b L).filter (fun q => !(q.1 == i) && !(q.1 + 1 == i && q.2.category == 2))) → W p l e R s m args below meth c H locs (sz - sz0) (sl - sl0) Q (F0 m (pc + n) ls' (r.map (pm_tr b)))) → W p l e R s m args below meth c H locs (sz - sz0) (sl - sl0) Q (F0 m pc ls ((v :: r).map (pm_tr b))))
    (kk : pm_V p l e R s m args below meth c Q T D aC b k sz0 sl0 (pc + n, pm_st1 L i v, r, h, sz, sl)) : pm_V p l e R s m args below meth c Q T D aC b k sz0 sl0 (pc, L, v :: r, h, sz, sl) := by
  intro H locs ls hP hS hl
  exact row H locs ls hl.has (fun ls' hl' => kk H locs ls' hP hS (pm_loc.st1 hl'))
theorem pm_w_P {H : Heap} {a : Nat} (hP : va_P D (pm_cl T) (pm_w aC b h sz) H) (ha : a < sz) {e : pm_E} (he : h a = e) : (pm_w aC b h sz)[a]? = some (b + a, pm_trE aC b e) := by rw [← he]; exact pm_w_get ha
theorem pm_setP {H1 : Heap} {a : Nat} {e : pm_E} {e' : va_E} (hP1 : va_P D (pm_cl T) ((pm_w aC b h sz).set a (b + a, e')) H1) (he : e' = pm_trE aC b e) : va_P D (pm_cl T) (pm_w aC b (va_up h a e) sz) H1 := by
  rw [pm_w_set he] at hP1
  exact hP1
theorem pm_set (f : Nat) (fs : List Value) (v : Value) : (fs.map (pm_tr b)).set f (pm_tr b v) = (fs.set f v).map (pm_tr b) := by rw [List.map_set]
theorem pm_getfield (OK : pm_ok T G Ns) (hC : pm_C T G Ns D aC k p s m args meth c) {j : Nat} (hd : decode (pm_code T k) pc = .ok (.getfield j, 3)) (hh : pm_gf T k j pc L S h sz sl = some st')
    (kk : pm_V p l e R s m args below meth c Q T D aC b k sz0 sl0 st') : pm_V p l e R s m args below meth c Q T D aC b k sz0 sl0 (pc, L, S, h, sz, sl) := by
  obtain ⟨hx, hb, -, hown, hts, hK, -⟩ := hC
  unfold pm_gf at hh
  split at hh
  case h_2 => cases hh
  case h_1 a r =>
  split at hh
  case h_2 => cases hh
  case h_1 ci fs cj f t e1 e2 =>
  split at hh
  case isFalse => cases hh
  case isTrue hci =>
  subst hci
  split at hh
  case h_2 => cases hh
  case h_1 v hv =>
  cases hh
  obtain ⟨ha, hcell⟩ := pm_obj_inv e1
  obtain ⟨C, F, N, ty, h1, h2, h3, h4, h5, -⟩ := OK.2.2.2.1 _ _ _ _ _ e2
  intro H locs ls hP hS hl
  refine va_get hx hb hts h4 hown hK.1 hP a (pm_w_P hP ha hcell) h1 f h2 (hts _ h5) (fun x hx => by rw [h3] at hx; exact hx) (v := pm_tr b v) ?_ hd (kk H locs ls hP hS hl)
  rw [List.getElem?_map, hv]
  rfl
theorem pm_fits_ok {t : Nat} {ty : FieldType} {v : Value} (hk : pm_kindOk t ty) (hf : pm_fits t v = true) : narrow ty (pm_tr b v) = pm_tr b v ∧ fits ty (pm_tr b v) = true := by
  rcases hk with ⟨rfl, rfl⟩ | ⟨rfl, rfl⟩ | ⟨rfl, hr⟩ | ⟨rfl, rfl⟩
  · cases v <;> first | exact ⟨rfl, rfl⟩ | cases hf
  · cases v <;> first | exact ⟨rfl, rfl⟩ | cases hf
  · cases v <;> first | exact hr _ | cases hf
  · cases v with
    | int x =>
      have hx : x = 0 ∨ x = 1 := of_decide_eq_true hf
      rcases hx with rfl | rfl
      · exact ⟨rfl, show fits .boolean (.int 0) = true by decide⟩
      · exact ⟨rfl, show fits .boolean (.int 1) = true by decide⟩
    | _ => cases hf
theorem pm_putfield (OK : pm_ok T G Ns) (hC : pm_C T G Ns D aC k p s m args meth c) {j : Nat} (hd : decode (pm_code T k) pc = .ok (.putfield j, 3)) (hh : pm_pf T k j pc L S h sz sl = some st')
    (kk : pm_V p l e R s m args below meth c Q T D aC b k sz0 sl0 st') : pm_V p l e R s m args below meth c Q T D aC b k sz0 sl0 (pc, L, S, h, sz, sl) := by
  obtain ⟨hx, hb, -, hown, hts, hK, hin⟩ := hC
  unfold pm_pf at hh
  split at hh
  case h_2 => cases hh
  case h_1 v a r =>
  split at hh
  case h_2 => cases hh
  case h_1 ci fs cj f t e1 e2 =>
  split at hh
  case isFalse => cases hh
  case isTrue hc =>
  cases hh
  obtain ⟨rfl, hf, hfit, hfin⟩ := hc
  obtain ⟨ha, hcell⟩ := pm_obj_inv e1
  obtain ⟨C, F, N, ty, h1, h2, h3, h4, h5, h6, h7, h8, h9, h10, h11⟩ := OK.2.2.2.1 _ _ _ _ _ e2
  intro H locs ls hP hS hl
  obtain ⟨hn, hft⟩ := pm_fits_ok (b := b) h8 hfit
  have fin : ∀ (H1 : Heap) (locs1 : List Loc), va_P D (pm_cl T) ((pm_w aC b h sz).set a (b + a, .inr (cj, (fs.map (pm_tr b)).set f (pm_tr b v)))) H1 → va_D (fun q => b ≤ q) ((pm_w aC b h sz).set a (b + a, .inr (cj, (fs.map (pm_tr b)).set f (pm_tr b v)))) → va_S (fun q => b ≤ q) s.heap H1 locs1 → W p l e R s m args below meth c H1 locs1 (sz - sz0) (sl - sl0) Q (F0 m (pc + 3) ls (r.map (pm_tr b))) := by
    intro H1 locs1 hP1 _ hS1
    exact kk H1 locs1 ls (pm_setP hP1 (by rw [pm_set]; rfl)) hS1 hl
  by_cases ht : t < 10
  · exact va_put hx hb hts h4 ty h7 h6 hown hK.1 hP (pm_w_D aC b h sz) hS a (pm_w_P hP ha hcell) h1 f h2 (hts _ h5) (fun x hx => by rw [h3] at hx; exact hx) (h9 ht) (h7 f h2) hn hft (by rw [List.length_map]; exact hf) hd fin
  · obtain ⟨ht2, hi⟩ := hfin.resolve_left ht
    exact va_putF hx hb hts h4 ty h7 h6 hown hK.1 hP (pm_w_D aC b h sz) hS a (pm_w_P hP ha hcell) h1 f h2 (hts _ h5) (fun x hx => by rw [h3] at hx; exact hx) (h10 (by omega)) (hin hi) (by rw [h3]; exact (h11 (by omega) ht2).symm) (h7 f h2) hn hft (by rw [List.length_map]; exact hf) hd fin
theorem pm_iald (hC : pm_C T G Ns D aC k p s m args meth c) {ty : FieldType}
    (row : ∀ (H : Heap) (locs : List Loc) (ls : Array Slot) (a kd n : Nat) (f : Nat → Int32) (i : Int32) (r : List Value), va_P D (pm_cl T) (pm_w aC b h sz) H → (pm_w aC b h sz)[a]? = some (b + a, .inl (aC kd, n, .inl f)) → (pm_tys T aC)[kd]? = some (aC kd, ty) → vp_in i n → W p l e R s m args below meth c H locs (sz - sz0) (sl - sl0) Q (F0 m (pc + 1) ls (.int (f i.toNatClampNeg) :: r)) → W p l e R s m args below meth c H locs (sz - sz0) (sl - sl0) Q (F0 m pc ls (.int i :: .ref (b + a) :: r)))
    (hh : pm_ia T ty pc L S h sz sl = some st') (kk : pm_V p l e R s m args below meth c Q T D aC b k sz0 sl0 st') : pm_V p l e R s m args below meth c Q T D aC b k sz0 sl0 (pc, L, S, h, sz, sl) := by
  unfold pm_ia at hh
  split at hh
  case h_2 => cases hh
  case h_1 i a r =>
  split at hh
  case h_2 => cases hh
  case h_1 kd n f e1 =>
  split at hh
  case isFalse => cases hh
  case isTrue hi =>
  cases hh
  obtain ⟨ha, hcell, hty⟩ := pm_iar_inv e1
  intro H locs ls hP hS hl
  exact row H locs ls a kd n f i (r.map (pm_tr b)) hP (pm_w_P hP ha hcell) (pm_tys_get hty) (pm_in_of hi) (kk H locs ls hP hS hl)
theorem pm_iast (hC : pm_C T G Ns D aC k p s m args meth c) {ty : FieldType} {nr : Int32 → Int32}
    (row : ∀ (H : Heap) (locs : List Loc) (ls : Array Slot) (a kd n : Nat) (f : Nat → Int32) (x i : Int32) (r : List Value), va_P D (pm_cl T) (pm_w aC b h sz) H → va_D (fun q => b ≤ q) (pm_w aC b h sz) → va_S (fun q => b ≤ q) s.heap H locs → (pm_w aC b h sz)[a]? = some (b + a, .inl (aC kd, n, .inl f)) → (pm_tys T aC)[kd]? = some (aC kd, ty) → vp_in i n → (∀ (H1 : Heap) (locs1 : List Loc), va_P D (pm_cl T) ((pm_w aC b h sz).set a (b + a, .inl (aC kd, n, .inl (upd f i.toNatClampNeg (nr x))))) H1 → va_D (fun q => b ≤ q) ((pm_w aC b h sz).set a (b + a, .inl (aC kd, n, .inl (upd f i.toNatClampNeg (nr x))))) → va_S (fun q => b ≤ q) s.heap H1 locs1 → W p l e R s m args below meth c H1 locs1 (sz - sz0) (sl - sl0) Q (F0 m (pc + 1) ls r)) → W p l e R s m args below meth c H locs (sz - sz0) (sl - sl0) Q (F0 m pc ls (.int x :: .int i :: .ref (b + a) :: r)))
    (hh : pm_iS T ty nr pc L S h sz sl = some st') (kk : pm_V p l e R s m args below meth c Q T D aC b k sz0 sl0 st') : pm_V p l e R s m args below meth c Q T D aC b k sz0 sl0 (pc, L, S, h, sz, sl) := by
  unfold pm_iS at hh
  split at hh
  case h_2 => cases hh
  case h_1 x i a r =>
  split at hh
  case h_2 => cases hh
  case h_1 kd n f e1 =>
  split at hh
  case isFalse => cases hh
  case isTrue hi =>
  cases hh
  obtain ⟨ha, hcell, hty⟩ := pm_iar_inv e1
  intro H locs ls hP hS hl
  refine row H locs ls a kd n f x i (r.map (pm_tr b)) hP (pm_w_D aC b h sz) hS (pm_w_P hP ha hcell) (pm_tys_get hty) (pm_in_of hi) (fun H1 locs1 hP1 _ hS1 => ?_)
  exact kk H1 locs1 ls (pm_setP hP1 rfl) hS1 hl
theorem pm_lald (hC : pm_C T G Ns D aC k p s m args meth c) (hd : decode (pm_code T k) pc = .ok (.laload, 1))
    (hh : pm_la T pc L S h sz sl = some st') (kk : pm_V p l e R s m args below meth c Q T D aC b k sz0 sl0 st') : pm_V p l e R s m args below meth c Q T D aC b k sz0 sl0 (pc, L, S, h, sz, sl) := by
  obtain ⟨hx, hb, -, -, -, hK, -⟩ := hC
  unfold pm_la at hh
  split at hh
  case h_2 => cases hh
  case h_1 i a r =>
  split at hh
  case h_2 => cases hh
  case h_1 kd n f e1 =>
  split at hh
  case isFalse => cases hh
  case isTrue hi =>
  cases hh
  obtain ⟨ha, hcell, hty⟩ := pm_lar_inv e1
  intro H locs ls hP hS hl
  exact va_lald hx hb hK.1 hP a kd (pm_w_P hP ha hcell) (pm_tys_get hty) (pm_in_of hi) hd (kk H locs ls hP hS hl)
theorem pm_last (hC : pm_C T G Ns D aC k p s m args meth c) (hd : decode (pm_code T k) pc = .ok (.lastore, 1))
    (hh : pm_lS T pc L S h sz sl = some st') (kk : pm_V p l e R s m args below meth c Q T D aC b k sz0 sl0 st') : pm_V p l e R s m args below meth c Q T D aC b k sz0 sl0 (pc, L, S, h, sz, sl) := by
  obtain ⟨hx, hb, -, -, -, hK, -⟩ := hC
  unfold pm_lS at hh
  split at hh
  case h_2 => cases hh
  case h_1 x i a r =>
  split at hh
  case h_2 => cases hh
  case h_1 kd n f e1 =>
  split at hh
  case isFalse => cases hh
  case isTrue hi =>
  cases hh
  obtain ⟨ha, hcell, hty⟩ := pm_lar_inv e1
  intro H locs ls hP hS hl
  refine va_last hx hb hK.1 hP (pm_w_D aC b h sz) hS a kd (pm_w_P hP ha hcell) (pm_tys_get hty) (pm_in_of hi) hd (fun H1 locs1 hP1 _ hS1 => ?_)
  exact kk H1 locs1 ls (pm_setP hP1 rfl) hS1 hl
theorem pm_rf (o : Option Nat) : va_rf (o.map (fun x => b + x)) = pm_tr b (va_rf o) := by cases o <;> rfl
theorem pm_isObj_ex {t : Option FieldType} (hh : pm_isObj t = true) : ∃ C, t = some (.object C) := by
  unfold pm_isObj at hh
  split at hh
  · exact ⟨_, rfl⟩
  · cases hh
theorem pm_aald (hC : pm_C T G Ns D aC k p s m args meth c) (hd : decode (pm_code T k) pc = .ok (.aaload, 1))
    (hh : pm_qa T pc L S h sz sl = some st') (kk : pm_V p l e R s m args below meth c Q T D aC b k sz0 sl0 st') : pm_V p l e R s m args below meth c Q T D aC b k sz0 sl0 (pc, L, S, h, sz, sl) := by
  obtain ⟨hx, hb, -, -, -, hK, -⟩ := hC
  unfold pm_qa at hh
  split at hh
  case h_2 => cases hh
  case h_1 i a r =>
  split at hh
  case h_2 => cases hh
  case h_1 kd n f e1 =>
  split at hh
  case isFalse => cases hh
  case isTrue hi =>
  cases hh
  obtain ⟨ha, hcell⟩ := pm_qar_inv e1
  obtain ⟨C, hty⟩ := pm_isObj_ex hi.2
  intro H locs ls hP hS hl
  refine va_aldq hx hb hK.1 hP a kd (pm_w_P hP ha hcell) (pm_tys_get hty) (pm_in_of hi.1) hd ?_
  rw [pm_rf]
  exact kk H locs ls hP hS hl
theorem pm_aast (hC : pm_C T G Ns D aC k p s m args meth c) (hd : decode (pm_code T k) pc = .ok (.aastore, 1))
    (hh : pm_qS T pc L S h sz sl = some st') (kk : pm_V p l e R s m args below meth c Q T D aC b k sz0 sl0 st') : pm_V p l e R s m args below meth c Q T D aC b k sz0 sl0 (pc, L, S, h, sz, sl) := by
  obtain ⟨hx, hb, -, -, -, hK, -⟩ := hC
  unfold pm_qS at hh
  split at hh
  case h_2 => cases hh
  case h_1 v i a r =>
  split at hh
  case h_2 => cases hh
  case h_1 kd n f e1 =>
  split at hh
  case h_2 => cases hh
  case h_1 ci fs e2 =>
  split at hh
  case isFalse => cases hh
  case isTrue hi =>
  cases hh
  obtain ⟨ha, hcell⟩ := pm_qar_inv e1
  obtain ⟨hv, hcellv⟩ := pm_obj_inv e2
  obtain ⟨hin, hty, hci⟩ := hi
  have hq := List.getElem?_eq_getElem hci
  rw [hq] at hty
  intro H locs ls hP hS hl
  refine va_astq hx hb hK.1 hP (pm_w_D aC b h sz) hS a kd v ci (pm_w_P hP ha hcell) (pm_tys_get hty) (pm_w_P hP hv hcellv) hq (pm_in_of hin) hd (fun H1 locs1 hP1 _ hS1 => ?_)
  refine kk H1 locs1 ls (pm_setP hP1 ?_) hS1 hl
  have e3 : (va_up (fun j => (f j).map (fun x => b + x)) i.toNatClampNeg (some (b + v))) = fun j => (va_up f i.toNatClampNeg (some v) j).map (fun x => b + x) := by
    funext j
    unfold va_up
    by_cases hj : j = i.toNatClampNeg
    · rw [if_pos hj, if_pos hj]; rfl
    · rw [if_neg hj, if_neg hj]
  exact congrArg (fun z => (Sum.inl (aC kd, n, Sum.inr (Sum.inr (Sum.inr (Sum.inr z)))) : va_E)) e3
theorem pm_alen (hC : pm_C T G Ns D aC k p s m args meth c) (hd : decode (pm_code T k) pc = .ok (.arraylength, 1))
    (hh : pm_al T pc L S h sz sl = some st') (kk : pm_V p l e R s m args below meth c Q T D aC b k sz0 sl0 st') : pm_V p l e R s m args below meth c Q T D aC b k sz0 sl0 (pc, L, S, h, sz, sl) := by
  obtain ⟨hx, hb, -, -, -, hK, -⟩ := hC
  unfold pm_al at hh
  split at hh
  case h_2 => cases hh
  case h_1 a r =>
  split at hh
  case isFalse => cases hh
  case isTrue ha =>
  split at hh
  case h_2 => cases hh
  case h_1 kd n x e1 =>
  split at hh
  case isFalse => cases hh
  case isTrue hty =>
  cases hh
  obtain ⟨ty, ht⟩ := Option.isSome_iff_exists.mp hty
  intro H locs ls hP hS hl
  refine va_alen hx hb hK.1 hP a kd (pm_w_P hP ha e1) (pm_tys_get ht) ?_ hd (kk H locs ls hP hS hl)
  obtain f | f | f | f | f := x <;> rfl
end PMS
end
section
/-! new cells, and what the library does -/
section PMA
variable {p : Program} {l : Launch} {e : Env} {R : Room} {s : State} {m : MethodId} {args : Array Value} {below : List Frame} {meth : Method} {c : Code} {Q : State → Prop}
variable {T : pm_Tab} {G Ns : List Cond} {D : va_G} {aC : Nat → ClassId} {b g k fr lo pc sz sl sz0 sl0 : Nat} {L : pm_L} {S : List Value} {h : pm_H} {st' : pm_St}
theorem pm_fresh {q : Nat} {x : va_E} {H1 : Heap} (hD : va_D (fun q => b ≤ q) (pm_w aC b h sz ++ [(q, x)])) (hP : va_P D (pm_cl T) (pm_w aC b h sz ++ [(q, x)]) H1) (hz : H1.size ≤ b + sz + 1) : q = b + sz := by
  have hg : (pm_w aC b h sz ++ [(q, x)])[sz]? = some (q, x) := by
    rw [List.getElem?_append_right (by rw [pm_w_len]; exact Nat.le_refl _), pm_w_len, Nat.sub_self]
    rfl
  have h1 : q < H1.size := (hP sz _ hg).lt
  have h2 : b ≤ q := hD.2 sz _ hg
  by_cases h3 : q < b + sz
  · have h4 : (pm_w aC b h sz ++ [(q, x)])[q - b]? = some (b + (q - b), pm_trE aC b (h (q - b))) := by
      rw [List.getElem?_append_left (by rw [pm_w_len]; omega)]
      exact pm_w_get (by omega)
    have h5 := hD.1 sz (q - b) _ _ hg h4 (by dsimp only; omega)
    omega
  · omega
theorem pm_pushP {H1 : Heap} {q : Nat} {e : pm_E} {e' : va_E} (hP1 : va_P D (pm_cl T) (pm_w aC b h sz ++ [(q, e')]) H1) (hq : q = b + sz) (he : e' = pm_trE aC b e) : va_P D (pm_cl T) (pm_w aC b (va_up h sz e) (sz + 1)) H1 := by
  rw [hq, pm_w_push he] at hP1
  exact hP1
theorem pm_newobj (OK : pm_ok T G Ns) (hC : pm_C T G Ns D aC k p s m args meth c) (hs0 : s.heap.size = b + sz0 + g) (hg : g = 0 ∨ st'.2.2.2.2.1 = sz0) (h0 : sz0 ≤ sz) (h1 : sl0 ≤ sl) {j : Nat} (hd : decode (pm_code T k) pc = .ok (.new j, 3)) (hh : pm_newO T k j pc L S h sz sl = some st') (hRc : st'.2.2.2.2.1 ≤ sz0 + R.cells) (hRs : st'.2.2.2.2.2 ≤ sl0 + R.slots)
    (kk : pm_V p l e R s m args below meth c Q T D aC b k sz0 sl0 st') : pm_V p l e R s m args below meth c Q T D aC b k sz0 sl0 (pc, L, S, h, sz, sl) := by
  obtain ⟨hx, hb, -, hown, hts, hK, -⟩ := hC
  unfold pm_newO at hh
  split at hh
  case h_2 => cases hh
  case h_1 ci e1 =>
  split at hh
  case isFalse => cases hh
  case isTrue hci =>
  obtain ⟨C, F, N, ty, q1, q2, q3, q4, q5, q6, q7, q8, q9⟩ := (OK.2.2.2.2.2.1 _ _ _ e1).1 hci
  unfold pm_nw at hh
  cases hh
  rw [q7] at hRs
  dsimp only at hRc hRs hg
  have hg0 : g = 0 := by omega
  subst hg0
  intro H locs ls hP hS hl
  refine va_new (ci := ci) (fs := pm_df T ci) hx hb hts q2 ty q3 hown (hts _ q4) (hts _ q5) (hts _ q6) hK.1 hP (pm_w_D aC b h sz) hS (fun q hq => by omega) q1 q8 (by dsimp only; omega) (by dsimp only; omega) hd (fun q H1 hP1 hD1 hS1 => ?_)
  refine pm_sized fun hz => ?_
  dsimp only at hz hP1 hD1
  have hq := pm_fresh hD1 hP1 (by omega)
  have hP2 := pm_pushP (e := .inr (ci, pm_df T ci)) hP1 hq (by show _ = Sum.inr (ci, (pm_df T ci).map (pm_tr b)); rw [q9])
  have hW := kk H1 locs ls hP2 hS1 hl
  rw [q7] at hW
  subst hq
  exact W.cs (by dsimp only; omega) (by dsimp only; omega) hW
theorem pm_aC_eq {tys : List (ClassId × FieldType)} {kd : Nat} {cA c2 : ClassId} {ty : FieldType} (h1 : va_K D (pm_cl T) tys s) (h2 : tys[kd]? = some (c2, ty)) (h3 : va_K D (pm_cl T) (tys ++ [(cA, ty)]) s) : cA = c2 := by
  have a1 := (h1.2 kd _ h2).2
  have a2 := (h3.2 tys.length (cA, ty) (by rw [List.getElem?_append_right (Nat.le_refl _), Nat.sub_self]; rfl)).2
  dsimp only at a1 a2
  unfold va_RA at a1 a2
  cases ty with
  | object C =>
    obtain ⟨_, _, _, _, _, x1⟩ := a1
    obtain ⟨_, _, _, _, _, x2⟩ := a2
    exact Option.some.inj (x2.symm.trans x1)
  | _ => exact Option.some.inj (a2.symm.trans a1)
theorem pm_newarr (OK : pm_ok T G Ns) (hC : pm_C T G Ns D aC k p s m args meth c) (hs0 : s.heap.size = b + sz0 + g) (hg : g = 0) (h0 : sz0 ≤ sz) (h1 : sl0 ≤ sl) {at_ : ArrayType} {ty : FieldType} (hty : newarray.typeOf at_ = ty) (hno : ∀ C, ty ≠ .object C) (hby : componentBytes ty ≤ 8) {n : Int32} {r : List Value} {kd : Nat} {a0 : vp_A} (ha0 : ∀ cA : ClassId, vp_cell cA a0 = arrV cA n.toNatClampNeg (fun _ => defaultValue ty)) (htr : pm_trA b a0 = a0) (hk : pm_tysAt T ty = some kd) (hn : ¬ n < 0) (hN : n.toNatClampNeg ≤ 65536)
    (hd : decode (pm_code T k) pc = .ok (.newarray at_, 2)) (hRc : sz + 1 ≤ sz0 + R.cells) (hRs : sl + n.toNatClampNeg ≤ sl0 + R.slots)
    (kk : pm_V p l e R s m args below meth c Q T D aC b k sz0 sl0 (pc + 2, L, .ref sz :: r, va_up h sz (.inl (kd, a0)), sz + 1, sl + n.toNatClampNeg)) : pm_V p l e R s m args below meth c Q T D aC b k sz0 sl0 (pc, L, .int n :: r, h, sz, sl) := by
  obtain ⟨hx, hb, -, hown, hts, hK, -⟩ := hC
  subst hg
  have harr : Cond.arrayClass ty ∈ G := (OK.2.2.2.2.2.2.1 ty (by rw [hk]; exact fun q => by cases q)).resolve_right (fun ⟨C, q⟩ => hno C q)
  intro H locs ls hP hS hl
  refine va_newa (a0 := a0) hx hb (by rw [hty]; exact hts _ harr) hty hK.1 hP (pm_w_D aC b h sz) hS (fun q hq => by omega) ha0 hn rfl (Nat.le_trans (Nat.mul_le_mul hN hby) (by decide)) (by dsimp only; omega) (by dsimp only; omega) hd (fun q cA H1 hK1 hP1 hD1 hS1 => ?_)
  have hc2 := pm_aC_eq hK.1 (pm_tys_get (pm_tysAt_get hk)) hK1
  subst hc2
  refine pm_sized fun hz => ?_
  dsimp only at hz hP1 hD1
  have hq := pm_fresh hD1 hP1 (by omega)
  have hW := kk H1 locs ls (pm_pushP hP1 hq (by show _ = Sum.inl (aC kd, pm_trA b a0); rw [htr])) hS1 hl
  subst hq
  exact W.cs (by dsimp only; omega) (by dsimp only; omega) hW
theorem pm_newqarr (OK : pm_ok T G Ns) (hC : pm_C T G Ns D aC k p s m args meth c) (hs0 : s.heap.size = b + sz0 + g) (hg : g = 0 ∨ st'.2.2.2.2.1 = sz0) (h0 : sz0 ≤ sz) (h1 : sl0 ≤ sl) {j : Nat} (hd : decode (pm_code T k) pc = .ok (.anewarray j, 3)) (hh : pm_newQ T k j pc L S h sz sl = some st') (hRc : st'.2.2.2.2.1 ≤ sz0 + R.cells) (hRs : st'.2.2.2.2.2 ≤ sl0 + R.slots)
    (kk : pm_V p l e R s m args below meth c Q T D aC b k sz0 sl0 st') : pm_V p l e R s m args below meth c Q T D aC b k sz0 sl0 (pc, L, S, h, sz, sl) := by
  obtain ⟨hx, hb, -, hown, hts, hK, -⟩ := hC
  unfold pm_newQ at hh
  split at hh
  case h_2 => cases hh
  case h_1 n r =>
  split at hh
  case h_2 => cases hh
  case h_1 q0 e1 =>
  split at hh
  case isFalse => cases hh
  case isTrue hci =>
  obtain ⟨hq0, hn, hN⟩ := hci
  obtain ⟨C, q1, q2, q3⟩ := (OK.2.2.2.2.2.1 _ _ _ e1).2 hq0
  unfold pm_nw at hh
  cases hh
  dsimp only at hRc hRs hg
  have hg0 : g = 0 := by omega
  subst hg0
  intro H locs ls hP hS hl
  refine va_newq hx hb hown (hts _ q2) (hK.2 _ q3) hK.1 hP (pm_w_D aC b h sz) hS (fun q hq => by omega) hn rfl (by omega) (by dsimp only; omega) (by dsimp only; omega) hd (fun q cA H1 hK1 hP1 hD1 hS1 => ?_)
  have hc2 := pm_aC_eq hK.1 (pm_tys_get q1) hK1
  subst hc2
  refine pm_sized fun hz => ?_
  dsimp only at hz hP1 hD1
  have hq := pm_fresh hD1 hP1 (by omega)
  have hW := kk H1 locs ls (pm_pushP hP1 hq rfl) hS1 hl
  subst hq
  exact W.cs (by dsimp only; omega) (by dsimp only; omega) hW
theorem pm_libOk (OK : pm_ok T G Ns) (hC : pm_C T G Ns D aC k p s m args meth c) (hfr : R.frames = fr) (hlo : R.locals = lo) (hcl : sz - sz0 ≤ R.cells) (hsl : sl - sl0 ≤ R.slots) {sp : Bool} {j : Nat} (hd : decode (pm_code T k) pc = .ok (if sp = true then .invokespecial j else .invokestatic j, 3)) (hh : pm_libW T sp fr lo k j pc L S h sz sl = some st')
    (kk : pm_V p l e R s m args below meth c Q T D aC b k sz0 sl0 st') : pm_V p l e R s m args below meth c Q T D aC b k sz0 sl0 (pc, L, S, h, sz, sl) := by
  obtain ⟨hx, hb, hml, hown, hts, hK, -⟩ := hC
  unfold pm_libW at hh
  split at hh
  case h_2 => cases hh
  case h_1 w t e1 =>
  have hw := OK.2.2.2.2.1 _ _ _ _ e1
  split at hh
  case isFalse => cases hh
  case isTrue hsp =>
  unfold pm_lib at hh
  split at hh
  case h_5 => cases hh
  case h_1 a r =>
    split at hh
    case isFalse => cases hh
    case isTrue hc =>
    cases hh
    obtain ⟨w1, w2, w3⟩ := hw
    have hsp' : sp = true := hsp.symm
    subst hsp'
    intro H locs ls hP hS hl
    refine W.objInit hx hb hown (hts _ w1) (hts _ w2) (hts _ w3) rfl (hl.1.trans hml.symm) (a := b + a) (rest := r.map (pm_tr b)) rfl hd (by omega) ?_ (kk H locs ls hP hS hl)
    show 2 * 0 + _ + 12 ≤ _
    rw [pm_sum_tr]
    omega
  case h_2 y x r =>
    split at hh
    case isFalse => cases hh
    case isTrue hc =>
    cases hh
    obtain ⟨w1, w2, w3, w4⟩ := hw
    have hsp' : sp = false := hsp.symm
    subst hsp'
    intro H locs ls hP hS hl
    exact va_mmin hx hb (hml.trans hl.1.symm) hown (hts _ w1) (hts _ w2) (hts _ w3) (hts _ w4) (by omega) (by rw [pm_sum_tr]; omega) hcl hsl hd (kk H locs ls hP hS hl)
  case h_3 y x r =>
    split at hh
    case isFalse => cases hh
    case isTrue hc =>
    cases hh
    obtain ⟨w1, w2, w3, w4⟩ := hw
    have hsp' : sp = false := hsp.symm
    subst hsp'
    intro H locs ls hP hS hl
    exact va_mmax hx hb (hml.trans hl.1.symm) hown (hts _ w1) (hts _ w2) (hts _ w3) (hts _ w4) (by omega) (by rw [pm_sum_tr]; omega) hcl hsl hd (kk H locs ls hP hS hl)
  case h_4 n dp a s0 a0 r =>
    split at hh
    case h_2 => cases hh
    case h_1 k0 n0 f kd n1 g ea eb =>
    split at hh
    case isFalse => cases hh
    case isTrue hc =>
    cases hh
    obtain ⟨⟨c1, c2⟩, c3, c4, c5, c6, c7⟩ := hc
    obtain ⟨w1, w2, w3, w4⟩ := hw
    have hsp' : sp = false := hsp.symm
    subst hsp'
    obtain ⟨ha0, hcell0, hty0⟩ := pm_iar_inv ea
    obtain ⟨ha, hcell, hty⟩ := pm_iar_inv eb
    intro H locs ls hP hS hl
    refine va_copyi hx hb (hml.trans hl.1.symm) hown (hts _ w1) (hts _ w2) (hts _ w3) (hts _ w4) hK.1 hP (pm_w_D aC b h sz) hS a0 a k0 kd (pm_w_P hP ha0 hcell0) (pm_w_P hP ha hcell) (pm_tys_get hty0) (pm_tys_get hty) rfl c3 c4 c5 c6 c7 (fun i _ => rfl) (by omega) ?_ hd (fun H1 locs1 hP1 _ hS1 => kk H1 locs1 ls (pm_setP hP1 rfl) hS1 hl)
    rw [pm_sum_tr]
    have hn : nativeFrameWords "java/lang/System" "arraycopy" 5 + 11 ≤ 60 := by decide +kernel
    omega
end PMA
end
section
/-! the soundness of every simple instruction -/
section PMO
variable {p : Program} {l : Launch} {e : Env} {R : Room} {s : State} {m : MethodId} {args : Array Value} {below : List Frame} {meth : Method} {c : Code} {Q : State → Prop}
variable {T : pm_Tab} {G Ns : List Cond} {D : va_G} {aC : Nat → ClassId} {b g k fr lo pc sz sl sz0 sl0 : Nat} {L : pm_L} {S : List Value} {h : pm_H} {st' : pm_St}
set_option maxHeartbeats 4000000 in
theorem pm_simple_ok (OK : pm_ok T G Ns) (hC : pm_C T G Ns D aC k p s m args meth c) (hfr : R.frames = fr) (hlo : R.locals = lo) (hs0 : s.heap.size = b + sz0 + g) (hg : g = 0 ∨ st'.2.2.2.2.1 = sz0) (h0 : sz0 ≤ sz) (h1 : sl0 ≤ sl) (hmc : sz ≤ st'.2.2.2.2.1) (hms : sl ≤ st'.2.2.2.2.2) (hRc : st'.2.2.2.2.1 ≤ sz0 + R.cells) (hRs : st'.2.2.2.2.2 ≤ sl0 + R.slots)
    {i : Instr} {len : Nat} (hlen : pm_lenOk i len = true) (hd : decode (pm_code T k) pc = .ok (i, len)) (hh : pm_simple T fr lo k i pc L S h sz sl = some st')
    (kk : pm_V p l e R s m args below meth c Q T D aC b k sz0 sl0 st') : pm_V p l e R s m args below meth c Q T D aC b k sz0 sl0 (pc, L, S, h, sz, sl) := by
  have hx := hC.1
  have hb := hC.2.1
  have hml := hC.2.2.1
  have hown := hC.2.2.2.1
  have hts := hC.2.2.2.2.1
  have hK := hC.2.2.2.2.2.1
  cases i
  case iconst n =>
    have hl : len = 1 := eq_of_beq hlen
    subst hl
    cases hh
    intro H locs ls hP hS hl
    exact lv_iconst hx hb hd rfl (kk H locs ls hP hS hl)
  case bipush n =>
    have hl : len = 2 := eq_of_beq hlen
    subst hl
    cases hh
    intro H locs ls hP hS hl
    exact lv_bipush hx hb hd rfl (kk H locs ls hP hS hl)
  case sipush n =>
    have hl : len = 3 := eq_of_beq hlen
    subst hl
    cases hh
    intro H locs ls hP hS hl
    exact lv_sipush hx hb hd rfl (kk H locs ls hP hS hl)
  case lconst n =>
    have hl : len = 1 := eq_of_beq hlen
    subst hl
    cases hh
    intro H locs ls hP hS hl
    exact lv_lconst hx hb hd rfl (kk H locs ls hP hS hl)
  case ldc j =>
    have hl : len = 2 := eq_of_beq hlen
    subst hl
    dsimp only [pm_simple] at hh
    split at hh
    case h_2 => cases hh
    case h_1 v e1 =>
    cases hh
    intro H locs ls hP hS hl
    exact lv_ldc hx hb hown (hts _ (OK.2.2.2.2.2.2.2.1 _ _ _ e1)) hd (kk H locs ls hP hS hl)
  case ldc_w j =>
    have hl : len = 3 := eq_of_beq hlen
    subst hl
    dsimp only [pm_simple] at hh
    split at hh
    case h_2 => cases hh
    case h_1 v e1 =>
    cases hh
    intro H locs ls hP hS hl
    exact lv_ldcw hx hb hown (hts _ (OK.2.2.2.2.2.2.2.1 _ _ _ e1)) hd (kk H locs ls hP hS hl)
  case ldc2_w j =>
    have hl : len = 3 := eq_of_beq hlen
    subst hl
    dsimp only [pm_simple] at hh
    split at hh
    case h_2 => cases hh
    case h_1 v e1 =>
    cases hh
    intro H locs ls hP hS hl
    exact lv_ldc2 hx hb hown (hts _ (OK.2.2.2.2.2.2.2.2 _ _ _ e1)) hd (kk H locs ls hP hS hl)
  case iload j =>
    have hl : len = 2 := eq_of_beq hlen
    subst hl
    obtain ⟨v, e1, e2, rfl⟩ := pm_lo_inv hh
    obtain ⟨x, rfl⟩ := pm_isT_0 e2
    intro H locs ls hP hS hl
    exact lv_iload hx hb hd (hl.2.2 _ _ e1) (kk H locs ls hP hS hl)
  case iload_n j =>
    have hl : len = 1 := eq_of_beq hlen
    subst hl
    obtain ⟨v, e1, e2, rfl⟩ := pm_lo_inv hh
    obtain ⟨x, rfl⟩ := pm_isT_0 e2
    intro H locs ls hP hS hl
    exact lv_iload_n hx hb hd rfl (hl.2.2 _ _ e1) (kk H locs ls hP hS hl)
  case lload j =>
    have hl : len = 2 := eq_of_beq hlen
    subst hl
    obtain ⟨v, e1, e2, rfl⟩ := pm_lo_inv hh
    obtain ⟨x, rfl⟩ := pm_isT_1 e2
    intro H locs ls hP hS hl
    exact lv_lload hx hb hd (hl.2.2 _ _ e1) (kk H locs ls hP hS hl)
  case lload_n j =>
    have hl : len = 1 := eq_of_beq hlen
    subst hl
    obtain ⟨v, e1, e2, rfl⟩ := pm_lo_inv hh
    obtain ⟨x, rfl⟩ := pm_isT_1 e2
    intro H locs ls hP hS hl
    exact lv_lload_n hx hb hd rfl (hl.2.2 _ _ e1) (kk H locs ls hP hS hl)
  case aload j =>
    have hl : len = 2 := eq_of_beq hlen
    subst hl
    obtain ⟨v, e1, e2, rfl⟩ := pm_lo_inv hh
    obtain ⟨x, rfl⟩ := pm_isT_2 e2
    intro H locs ls hP hS hl
    exact lv_aload hx hb hd (hl.2.2 _ _ e1) (kk H locs ls hP hS hl)
  case aload_n j =>
    have hl : len = 1 := eq_of_beq hlen
    subst hl
    obtain ⟨v, e1, e2, rfl⟩ := pm_lo_inv hh
    obtain ⟨x, rfl⟩ := pm_isT_2 e2
    intro H locs ls hP hS hl
    exact lv_aload_n hx hb hd rfl (hl.2.2 _ _ e1) (kk H locs ls hP hS hl)
  case istore j =>
    have hl : len = 2 := eq_of_beq hlen
    subst hl
    obtain ⟨v, r, rfl, e2, e3, rfl⟩ := pm_so_inv hh
    obtain ⟨x, rfl⟩ := pm_isT_0 e2
    intro H locs ls hP hS hl
    exact lv_istore hx hb hd hl.has e3 rfl (fun ls' hl' => kk H locs ls' hP hS (pm_loc.st1 hl'))
  case istore_n j =>
    have hl : len = 1 := eq_of_beq hlen
    subst hl
    obtain ⟨v, r, rfl, e2, e3, rfl⟩ := pm_so_inv hh
    obtain ⟨x, rfl⟩ := pm_isT_0 e2
    intro H locs ls hP hS hl
    exact lv_istore_n hx hb hd rfl hl.has e3 rfl (fun ls' hl' => kk H locs ls' hP hS (pm_loc.st1 hl'))
  case astore j =>
    have hl : len = 2 := eq_of_beq hlen
    subst hl
    obtain ⟨v, r, rfl, e2, e3, rfl⟩ := pm_so_inv hh
    obtain ⟨x, rfl⟩ := pm_isT_2 e2
    intro H locs ls hP hS hl
    exact lv_astore hx hb hd hl.has e3 rfl (fun ls' hl' => kk H locs ls' hP hS (pm_loc.st1 hl'))
  case astore_n j =>
    have hl : len = 1 := eq_of_beq hlen
    subst hl
    obtain ⟨v, r, rfl, e2, e3, rfl⟩ := pm_so_inv hh
    obtain ⟨x, rfl⟩ := pm_isT_2 e2
    intro H locs ls hP hS hl
    exact lv_astore_n hx hb hd rfl hl.has e3 rfl (fun ls' hl' => kk H locs ls' hP hS (pm_loc.st1 hl'))
  case lstore j =>
    have hl : len = 2 := eq_of_beq hlen
    subst hl
    obtain ⟨x, r, rfl, e3, rfl⟩ := pm_sL_inv hh
    intro H locs ls hP hS hl
    exact lv_lstore hx hb hd hl.has e3 rfl (fun ls' hl' => kk H locs ls' hP hS (pm_loc.st2 (v := .long x) hl'))
  case lstore_n j =>
    have hl : len = 1 := eq_of_beq hlen
    subst hl
    obtain ⟨x, r, rfl, e3, rfl⟩ := pm_sL_inv hh
    intro H locs ls hP hS hl
    exact lv_lstore_n hx hb hd rfl hl.has e3 rfl (fun ls' hl' => kk H locs ls' hP hS (pm_loc.st2 (v := .long x) hl'))
  case iinc j n =>
    have hl : len = 3 := eq_of_beq hlen
    subst hl
    dsimp only [pm_simple] at hh
    split at hh
    case h_2 => cases hh
    case h_1 x e1 =>
    split at hh
    case isFalse => cases hh
    case isTrue e3 =>
    cases hh
    intro H locs ls hP hS hl
    obtain ⟨q, hq, hq2⟩ := List.getElem_of_mem (pm_ll_mem (b := b) e1)
    exact lv_iinc (k := q) (x := x) hx hb hd hl.has (by rw [List.getElem?_eq_getElem hq, hq2]; rfl) rfl e3 rfl (fun ls' hl' => kk H locs ls' hP hS (pm_loc.st1 (v := .int (x + Int32.ofInt n)) hl'))
  case iadd =>
    have hl : len = 1 := eq_of_beq hlen
    subst hl
    obtain ⟨x, y, r, rfl, rfl⟩ := pm_bi_inv hh
    intro H locs ls hP hS hl
    exact lv_iadd hx hb hd (kk H locs ls hP hS hl)
  case isub =>
    have hl : len = 1 := eq_of_beq hlen
    subst hl
    obtain ⟨x, y, r, rfl, rfl⟩ := pm_bi_inv hh
    intro H locs ls hP hS hl
    exact lv_isub hx hb hd (kk H locs ls hP hS hl)
  case imul =>
    have hl : len = 1 := eq_of_beq hlen
    subst hl
    obtain ⟨x, y, r, rfl, rfl⟩ := pm_bi_inv hh
    intro H locs ls hP hS hl
    exact lv_imul hx hb hd (kk H locs ls hP hS hl)
  case iand =>
    have hl : len = 1 := eq_of_beq hlen
    subst hl
    obtain ⟨x, y, r, rfl, rfl⟩ := pm_bi_inv hh
    intro H locs ls hP hS hl
    exact lv_iand hx hb hd (kk H locs ls hP hS hl)
  case ior =>
    have hl : len = 1 := eq_of_beq hlen
    subst hl
    obtain ⟨x, y, r, rfl, rfl⟩ := pm_bi_inv hh
    intro H locs ls hP hS hl
    exact lv_ior hx hb hd (kk H locs ls hP hS hl)
  case ixor =>
    have hl : len = 1 := eq_of_beq hlen
    subst hl
    obtain ⟨x, y, r, rfl, rfl⟩ := pm_bi_inv hh
    intro H locs ls hP hS hl
    exact lv_ixor hx hb hd (kk H locs ls hP hS hl)
  case ishl =>
    have hl : len = 1 := eq_of_beq hlen
    subst hl
    obtain ⟨x, y, r, rfl, rfl⟩ := pm_bi_inv hh
    intro H locs ls hP hS hl
    exact lv_ishl hx hb hd (kk H locs ls hP hS hl)
  case ishr =>
    have hl : len = 1 := eq_of_beq hlen
    subst hl
    obtain ⟨x, y, r, rfl, rfl⟩ := pm_bi_inv hh
    intro H locs ls hP hS hl
    exact lv_ishr hx hb hd (kk H locs ls hP hS hl)
  case iushr =>
    have hl : len = 1 := eq_of_beq hlen
    subst hl
    obtain ⟨x, y, r, rfl, rfl⟩ := pm_bi_inv hh
    intro H locs ls hP hS hl
    exact lv_iushr hx hb hd rfl (kk H locs ls hP hS hl)
  case idiv =>
    have hl : len = 1 := eq_of_beq hlen
    subst hl
    obtain ⟨x, y, r, rfl, hy, rfl⟩ := pm_bd_inv hh
    intro H locs ls hP hS hl
    exact lv_idiv hx hb hd hy (kk H locs ls hP hS hl)
  case irem =>
    have hl : len = 1 := eq_of_beq hlen
    subst hl
    obtain ⟨x, y, r, rfl, hy, rfl⟩ := pm_bd_inv hh
    intro H locs ls hP hS hl
    exact lv_irem hx hb hd hy (kk H locs ls hP hS hl)
  case ineg =>
    have hl : len = 1 := eq_of_beq hlen
    subst hl
    obtain ⟨x, r, rfl, rfl⟩ := pm_ui_inv hh
    intro H locs ls hP hS hl
    exact lv_ineg hx hb hd (kk H locs ls hP hS hl)
  case i2l =>
    have hl : len = 1 := eq_of_beq hlen
    subst hl
    obtain ⟨x, r, rfl, rfl⟩ := pm_ui_inv hh
    intro H locs ls hP hS hl
    exact lv_i2l hx hb hd rfl (kk H locs ls hP hS hl)
  case i2b =>
    have hl : len = 1 := eq_of_beq hlen
    subst hl
    obtain ⟨x, r, rfl, rfl⟩ := pm_ui_inv hh
    intro H locs ls hP hS hl
    exact lv_i2b hx hb hd rfl (kk H locs ls hP hS hl)
  case i2s =>
    have hl : len = 1 := eq_of_beq hlen
    subst hl
    obtain ⟨x, r, rfl, rfl⟩ := pm_ui_inv hh
    intro H locs ls hP hS hl
    exact lv_i2s hx hb hd rfl (kk H locs ls hP hS hl)
  case i2c =>
    have hl : len = 1 := eq_of_beq hlen
    subst hl
    obtain ⟨x, r, rfl, rfl⟩ := pm_ui_inv hh
    intro H locs ls hP hS hl
    exact lv_i2c hx hb hd rfl (kk H locs ls hP hS hl)
  case lmul =>
    have hl : len = 1 := eq_of_beq hlen
    subst hl
    obtain ⟨x, y, r, rfl, rfl⟩ := pm_bl_inv hh
    intro H locs ls hP hS hl
    exact lv_lmul hx hb hd (kk H locs ls hP hS hl)
  case ladd =>
    have hl : len = 1 := eq_of_beq hlen
    subst hl
    obtain ⟨x, y, r, rfl, rfl⟩ := pm_bl_inv hh
    intro H locs ls hP hS hl
    exact lv_ladd hx hb hd (kk H locs ls hP hS hl)
  case lsub =>
    have hl : len = 1 := eq_of_beq hlen
    subst hl
    obtain ⟨x, y, r, rfl, rfl⟩ := pm_bl_inv hh
    intro H locs ls hP hS hl
    exact lv_lsub hx hb hd (kk H locs ls hP hS hl)
  case ldiv =>
    have hl : len = 1 := eq_of_beq hlen
    subst hl
    obtain ⟨x, y, r, rfl, hy, rfl⟩ := pm_bdL_inv hh
    intro H locs ls hP hS hl
    exact lv_ldiv hx hb hd hy (kk H locs ls hP hS hl)
  case lrem =>
    have hl : len = 1 := eq_of_beq hlen
    subst hl
    obtain ⟨x, y, r, rfl, hy, rfl⟩ := pm_bdL_inv hh
    intro H locs ls hP hS hl
    exact lv_lrem hx hb hd hy (kk H locs ls hP hS hl)
  case lcmp =>
    have hl : len = 1 := eq_of_beq hlen
    subst hl
    dsimp only [pm_simple] at hh
    split at hh
    case h_2 => cases hh
    case h_1 y x r =>
    cases hh
    intro H locs ls hP hS hl
    exact W.lcmp hx hb hd (kk H locs ls hP hS hl)
  case dup =>
    have hl : len = 1 := eq_of_beq hlen
    subst hl
    dsimp only [pm_simple] at hh
    split at hh
    case h_2 => cases hh
    case h_1 v r =>
    split at hh
    case isFalse => cases hh
    case isTrue e1 =>
    cases hh
    intro H locs ls hP hS hl
    exact lv_dup hx hb hd (by rw [pm_cat]; exact e1) (kk H locs ls hP hS hl)
  case pop =>
    have hl : len = 1 := eq_of_beq hlen
    subst hl
    dsimp only [pm_simple] at hh
    split at hh
    case h_2 => cases hh
    case h_1 v r =>
    split at hh
    case isFalse => cases hh
    case isTrue e1 =>
    cases hh
    intro H locs ls hP hS hl
    exact lv_pop hx hb hd (by rw [pm_cat]; exact e1) (kk H locs ls hP hS hl)
  case dup_x1 =>
    have hl : len = 1 := eq_of_beq hlen
    subst hl
    dsimp only [pm_simple] at hh
    split at hh
    case h_2 => cases hh
    case h_1 v w r =>
    split at hh
    case isFalse => cases hh
    case isTrue e1 =>
    cases hh
    intro H locs ls hP hS hl
    exact lv_dup_x1 hx hb hd (by rw [pm_cat]; exact e1.1) (by rw [pm_cat]; exact e1.2) (kk H locs ls hP hS hl)
  case dup_x2 =>
    have hl : len = 1 := eq_of_beq hlen
    subst hl
    dsimp only [pm_simple] at hh
    split at hh
    case h_2 => cases hh
    case h_1 v w z r =>
    split at hh
    case isFalse => cases hh
    case isTrue e1 =>
    cases hh
    intro H locs ls hP hS hl
    exact lv_dup_x2 hx hb hd (by rw [pm_cat]; exact e1.1) (by rw [pm_cat]; exact e1.2.1) (by rw [pm_cat]; exact e1.2.2) (kk H locs ls hP hS hl)
  case dup2 =>
    have hl : len = 1 := eq_of_beq hlen
    subst hl
    dsimp only [pm_simple] at hh
    split at hh
    case h_2 => cases hh
    case h_1 v w r =>
    split at hh
    case isFalse => cases hh
    case isTrue e1 =>
    cases hh
    intro H locs ls hP hS hl
    exact lv_dup2_11 hx hb hd (by rw [pm_cat]; exact e1.1) (by rw [pm_cat]; exact e1.2) (kk H locs ls hP hS hl)
  case ifCond cd off =>
    have hl : len = 3 := eq_of_beq hlen
    subst hl
    dsimp only [pm_simple] at hh
    split at hh
    case h_2 => cases hh
    case h_1 x r =>
    obtain ⟨t, e2, ⟨e1, rfl⟩ | ⟨e1, rfl⟩⟩ := pm_br_inv hh
    · intro H locs ls hP hS hl
      cases cd with
      | eq => exact lv_if_eq hx hb hd e2 (fun _ => kk H locs ls hP hS hl) (fun q => absurd (of_decide_eq_true e1) q)
      | ne => exact lv_if_ne hx hb hd e2 (fun _ => kk H locs ls hP hS hl) (fun q => absurd q (of_decide_eq_true e1))
      | lt => exact lv_if_lt hx hb hd e2 (fun _ => kk H locs ls hP hS hl) (fun q => absurd (of_decide_eq_true e1) q)
      | ge => exact lv_if_ge hx hb hd e2 (fun _ => kk H locs ls hP hS hl) (fun q => absurd (of_decide_eq_true e1) q)
      | gt => exact lv_if_gt hx hb hd e2 (fun _ => kk H locs ls hP hS hl) (fun q => absurd (of_decide_eq_true e1) q)
      | le => exact lv_if_le hx hb hd e2 (fun _ => kk H locs ls hP hS hl) (fun q => absurd (of_decide_eq_true e1) q)
    · intro H locs ls hP hS hl
      cases cd with
      | eq => exact lv_if_eq hx hb hd e2 (fun q => absurd q (of_decide_eq_false e1)) (fun _ => kk H locs ls hP hS hl)
      | ne => exact lv_if_ne hx hb hd e2 (fun q => absurd q (of_decide_eq_false e1)) (fun _ => kk H locs ls hP hS hl)
      | lt => exact lv_if_lt hx hb hd e2 (fun q => absurd q (of_decide_eq_false e1)) (fun _ => kk H locs ls hP hS hl)
      | ge => exact lv_if_ge hx hb hd e2 (fun q => absurd q (of_decide_eq_false e1)) (fun _ => kk H locs ls hP hS hl)
      | gt => exact lv_if_gt hx hb hd e2 (fun q => absurd q (of_decide_eq_false e1)) (fun _ => kk H locs ls hP hS hl)
      | le => exact lv_if_le hx hb hd e2 (fun q => absurd q (of_decide_eq_false e1)) (fun _ => kk H locs ls hP hS hl)
  case if_icmp cd off =>
    have hl : len = 3 := eq_of_beq hlen
    subst hl
    dsimp only [pm_simple] at hh
    split at hh
    case h_2 => cases hh
    case h_1 y x r =>
    obtain ⟨t, e2, ⟨e1, rfl⟩ | ⟨e1, rfl⟩⟩ := pm_br_inv hh
    · intro H locs ls hP hS hl
      cases cd with
      | eq => exact lv_icmp_eq hx hb hd e2 (fun _ => kk H locs ls hP hS hl) (fun q => absurd (of_decide_eq_true e1) q)
      | ne => exact lv_icmp_ne hx hb hd e2 (fun _ => kk H locs ls hP hS hl) (fun q => absurd q (of_decide_eq_true e1))
      | lt => exact lv_icmp_lt hx hb hd e2 (fun _ => kk H locs ls hP hS hl) (fun q => absurd (of_decide_eq_true e1) q)
      | ge => exact lv_icmp_ge hx hb hd e2 (fun _ => kk H locs ls hP hS hl) (fun q => absurd (of_decide_eq_true e1) q)
      | gt => exact lv_icmp_gt hx hb hd e2 (fun _ => kk H locs ls hP hS hl) (fun q => absurd (of_decide_eq_true e1) q)
      | le => exact lv_icmp_le hx hb hd e2 (fun _ => kk H locs ls hP hS hl) (fun q => absurd (of_decide_eq_true e1) q)
    · intro H locs ls hP hS hl
      cases cd with
      | eq => exact lv_icmp_eq hx hb hd e2 (fun q => absurd q (of_decide_eq_false e1)) (fun _ => kk H locs ls hP hS hl)
      | ne => exact lv_icmp_ne hx hb hd e2 (fun q => absurd q (of_decide_eq_false e1)) (fun _ => kk H locs ls hP hS hl)
      | lt => exact lv_icmp_lt hx hb hd e2 (fun q => absurd q (of_decide_eq_false e1)) (fun _ => kk H locs ls hP hS hl)
      | ge => exact lv_icmp_ge hx hb hd e2 (fun q => absurd q (of_decide_eq_false e1)) (fun _ => kk H locs ls hP hS hl)
      | gt => exact lv_icmp_gt hx hb hd e2 (fun q => absurd q (of_decide_eq_false e1)) (fun _ => kk H locs ls hP hS hl)
      | le => exact lv_icmp_le hx hb hd e2 (fun q => absurd q (of_decide_eq_false e1)) (fun _ => kk H locs ls hP hS hl)
  case goto off =>
    have hl : len = 3 := eq_of_beq hlen
    subst hl
    obtain ⟨t, e2, rfl⟩ := pm_jp_inv hh
    intro H locs ls hP hS hl
    exact lv_goto hx hb hd e2 (kk H locs ls hP hS hl)
  case tableswitch d lo1 hi1 offs =>
    dsimp only [pm_simple] at hh
    split at hh
    case h_2 => cases hh
    case h_1 x r =>
    split at hh
    case isTrue e1 =>
      obtain ⟨t, e2, rfl⟩ := pm_jp_inv hh
      intro H locs ls hP hS hl
      exact lv_tableOut hx hb hd e1 e2 (kk H locs ls hP hS hl)
    case isFalse e1 =>
      split at hh
      case h_2 => cases hh
      case h_1 off e3 =>
      obtain ⟨t, e2, rfl⟩ := pm_jp_inv hh
      intro H locs ls hP hS hl
      exact lv_tableIn hx hb hd (fun q => e1 (Or.inl q)) (fun q => e1 (Or.inr q)) e3 e2 (kk H locs ls hP hS hl)
  case lookupswitch d ps =>
    dsimp only [pm_simple] at hh
    split at hh
    case h_2 => cases hh
    case h_1 x r =>
    split at hh
    case isFalse => cases hh
    case isTrue e1 =>
      obtain ⟨t, e2, rfl⟩ := pm_jp_inv hh
      intro H locs ls hP hS hl
      exact lv_lookup hx hb hd e1 rfl e2 (kk H locs ls hP hS hl)
  case getfield j =>
    have hl : len = 3 := eq_of_beq hlen
    subst hl
    exact pm_getfield OK hC hd hh kk
  case putfield j =>
    have hl : len = 3 := eq_of_beq hlen
    subst hl
    exact pm_putfield OK hC hd hh kk
  case iaload =>
    have hl : len = 1 := eq_of_beq hlen
    subst hl
    exact pm_iald hC (fun H locs ls a kd n f i r q1 q2 q3 q4 q5 => va_iald hx hb hK.1 q1 a kd q2 q3 q4 hd q5) hh kk
  case caload =>
    have hl : len = 1 := eq_of_beq hlen
    subst hl
    exact pm_iald hC (fun H locs ls a kd n f i r q1 q2 q3 q4 q5 => va_cald hx hb hK.1 q1 a kd q2 q3 q4 hd q5) hh kk
  case baload =>
    have hl : len = 1 := eq_of_beq hlen
    subst hl
    exact pm_iald hC (fun H locs ls a kd n f i r q1 q2 q3 q4 q5 => va_zald hx hb hK.1 q1 a kd q2 q3 q4 hd q5) hh kk
  case bastore =>
    have hl : len = 1 := eq_of_beq hlen
    subst hl
    exact pm_iast hC (fun H locs ls a kd n f x i r q1 q2 q3 q4 q5 q6 q7 => va_zast hx hb hK.1 q1 q2 q3 a kd q4 q5 q6 hd q7) hh kk
  case laload =>
    have hl : len = 1 := eq_of_beq hlen
    subst hl
    exact pm_lald hC hd hh kk
  case aaload =>
    have hl : len = 1 := eq_of_beq hlen
    subst hl
    exact pm_aald hC hd hh kk
  case iastore =>
    have hl : len = 1 := eq_of_beq hlen
    subst hl
    exact pm_iast hC (fun H locs ls a kd n f x i r q1 q2 q3 q4 q5 q6 q7 => va_iast hx hb hK.1 q1 q2 q3 a kd q4 q5 q6 hd q7) hh kk
  case castore =>
    have hl : len = 1 := eq_of_beq hlen
    subst hl
    exact pm_iast hC (fun H locs ls a kd n f x i r q1 q2 q3 q4 q5 q6 q7 => va_cast hx hb hK.1 q1 q2 q3 a kd q4 q5 q6 hd q7) hh kk
  case lastore =>
    have hl : len = 1 := eq_of_beq hlen
    subst hl
    exact pm_last hC hd hh kk
  case aastore =>
    have hl : len = 1 := eq_of_beq hlen
    subst hl
    exact pm_aast hC hd hh kk
  case arraylength =>
    have hl : len = 1 := eq_of_beq hlen
    subst hl
    exact pm_alen hC hd hh kk
  case newarray at_ =>
    have hl : len = 2 := eq_of_beq hlen
    subst hl
    cases at_
    case float => cases hh
    case double => cases hh
    case byte => cases hh
    case short => cases hh
    case int =>
      dsimp only [pm_simple, pm_newI] at hh
      split at hh
      case h_2 => cases hh
      case h_1 n r =>
      split at hh
      case h_2 => cases hh
      case h_1 kd e1 =>
      split at hh
      case isFalse => cases hh
      case isTrue e2 =>
      unfold pm_nw at hh
      cases hh
      exact pm_newarr (at_ := .int) (ty := .int) OK hC hs0 (by dsimp only at hg; omega) h0 h1 rfl (fun C q => by cases q) (by decide) (fun cA => rfl) rfl e1 e2.1 e2.2 hd hRc hRs kk
    case char =>
      dsimp only [pm_simple, pm_newI] at hh
      split at hh
      case h_2 => cases hh
      case h_1 n r =>
      split at hh
      case h_2 => cases hh
      case h_1 kd e1 =>
      split at hh
      case isFalse => cases hh
      case isTrue e2 =>
      unfold pm_nw at hh
      cases hh
      exact pm_newarr (at_ := .char) (ty := .char) OK hC hs0 (by dsimp only at hg; omega) h0 h1 rfl (fun C q => by cases q) (by decide) (fun cA => rfl) rfl e1 e2.1 e2.2 hd hRc hRs kk
    case boolean =>
      dsimp only [pm_simple, pm_newI] at hh
      split at hh
      case h_2 => cases hh
      case h_1 n r =>
      split at hh
      case h_2 => cases hh
      case h_1 kd e1 =>
      split at hh
      case isFalse => cases hh
      case isTrue e2 =>
      unfold pm_nw at hh
      cases hh
      exact pm_newarr (at_ := .boolean) (ty := .boolean) OK hC hs0 (by dsimp only at hg; omega) h0 h1 rfl (fun C q => by cases q) (by decide) (fun cA => rfl) rfl e1 e2.1 e2.2 hd hRc hRs kk
    case long =>
      dsimp only [pm_simple, pm_newL] at hh
      split at hh
      case h_2 => cases hh
      case h_1 n r =>
      split at hh
      case h_2 => cases hh
      case h_1 kd e1 =>
      split at hh
      case isFalse => cases hh
      case isTrue e2 =>
      unfold pm_nw at hh
      cases hh
      exact pm_newarr (at_ := .long) (ty := .long) OK hC hs0 (by dsimp only at hg; omega) h0 h1 rfl (fun C q => by cases q) (by decide) (fun cA => rfl) rfl e1 e2.1 e2.2 hd hRc hRs kk
  case anewarray j =>
    have hl : len = 3 := eq_of_beq hlen
    subst hl
    exact pm_newqarr OK hC hs0 hg h0 h1 hd hh hRc hRs kk
  case new j =>
    have hl : len = 3 := eq_of_beq hlen
    subst hl
    exact pm_newobj OK hC hs0 hg h0 h1 hd hh hRc hRs kk
  case invokespecial j =>
    have hl : len = 3 := eq_of_beq hlen
    subst hl
    exact pm_libOk (sp := true) OK hC hfr hlo (by omega) (by omega) hd hh kk
  case invokestatic j =>
    have hl : len = 3 := eq_of_beq hlen
    subst hl
    exact pm_libOk (sp := false) OK hC hfr hlo (by omega) (by omega) hd hh kk
  all_goals cases hh
end PMO
end
section
/-! calls, and the soundness of a whole run -/
section PMM
variable {T : pm_Tab} {k fr lo pc sz sl : Nat} {L : pm_L} {S : List Value} {h : pm_H} {st' : pm_St}
set_option maxHeartbeats 4000000 in
theorem pm_simple_mono {i : Instr} (hh : pm_simple T fr lo k i pc L S h sz sl = some st') : sz ≤ st'.2.2.2.2.1 ∧ sl ≤ st'.2.2.2.2.2 := by
  unfold pm_simple at hh
  split at hh
  all_goals (try simp only [pm_bi, pm_bd, pm_bl, pm_bdL, pm_ui, pm_lo, pm_so, pm_sL, pm_jp, pm_br, pm_ia, pm_iS, pm_la, pm_lS, pm_qa, pm_qS, pm_al, pm_gf, pm_pf, pm_nw, pm_newI, pm_newL, pm_newQ, pm_newO, pm_libW, pm_lib] at hh)
  all_goals (repeat' split at hh)
  all_goals (first | (cases hh; done) | (cases hh; dsimp only; omega))
end PMM
section PMR
variable {p : Program} {l : Launch} {e : Env} {R : Room} {s : State} {m : MethodId} {args : Array Value} {below : List Frame} {meth : Method} {c : Code} {H : Heap} {locs : List Loc} {cells slots : Nat} {Q : State → Prop}
variable {T : pm_Tab} {G Ns : List Cond} {D : va_G} {aC : Nat → ClassId} {b g k fr lo pc sz sl sz0 sl0 : Nat} {L : pm_L} {S : List Value} {h : pm_H} {st' : pm_St}
def pm_ws (T : pm_Tab) (G : List Cond) (t : Nat) : List Cond := Cond.code (pm_y T t) (pm_code T t) (pm_max T t) (pm_ret T t) :: G
def pm_Pc (T : pm_Tab) (Ns : List Cond) (D : va_G) (aC : Nat → ClassId) (b g : Nat) (As : List Value) (h : pm_H) (sz : Nat) : Array Value → State → Prop := va_Pc (As.map (pm_tr b)) (fun U => U.heap.size = b + sz + g ∧ va_P D (pm_cl T) (pm_w aC b h sz) U.heap ∧ pm_K T Ns D aC U)
def pm_Qc (T : pm_Tab) (D : va_G) (aC : Nat → ClassId) (b : Nat) (rv : Option Value) (h : pm_H) (sz : Nat) : Array Value → State → Outcome → State → Prop := fun _ st o t => o = .returned (rv.map (pm_tr b)) ∧ va_P D (pm_cl T) (pm_w aC b h sz) t.heap ∧ va_F (fun q => b ≤ q) st t
abbrev pm_rm (fr lo mc ms : Nat) : Room := { frames := fr, cells := mc, slots := ms, locals := lo }
/-- what a method of the tables does, as the pure machine tells it -/
def pm_Met (T : pm_Tab) (G Ns : List Cond) (l : Launch) (D : va_G) (aC : Nat → ClassId) (b g fr lo t : Nat) (As : List Value) (h : pm_H) (sz sl : Nat) (r : pm_Rs) : Prop := Met l (pm_y T t) (pm_ws T G t) (pm_rm fr lo (r.2.2.1 - sz) (r.2.2.2 - sl)) (pm_Pc T Ns D aC b g As h sz) (pm_Qc T D aC b r.1 r.2.1 r.2.2.1) (r.2.2.1 - sz) (r.2.2.2 - sl) (fun q => b ≤ q)
theorem pm_blind (OK : pm_ok T G Ns) {As : List Value} : FrameBlind (pm_Pc T Ns D aC b g As h sz) := by
  intro a U g mk hp
  obtain ⟨q1, q2, q3, q4, q5⟩ := hp
  exact ⟨q1, q2, q3, va_K.moved (u := U) (U := U.calling g mk a) (Vm.Alike.refl U.vm) q4, fun w hw => va_Nw.same (u := U) (OK.2.2.1 w hw).1 rfl (q5 w hw)⟩
theorem pm_size {H0 : Heap} (hS : va_S (fun q => b ≤ q) H0 H locs) (hP : va_P D (pm_cl T) (pm_w aC b h sz) H) (hs0 : H0.size = b + sz0 + g) (hg : g = 0 ∨ sz = sz0) (h0 : sz0 ≤ sz) (hz : H.size ≤ H0.size + (sz - sz0)) : H.size = b + sz + g := by
  by_cases he : sz = sz0
  · have := hS.1
    omega
  · have h1 : sz - 1 < sz := by omega
    have h2 := (hP (sz - 1) _ (pm_w_get h1)).lt
    dsimp only at h2
    omega
theorem pm_good (OK : pm_ok T G Ns) {ws : List Cond} (hs : ∀ w ∈ ws, w ∈ G) : GoodIn G ws := fun w hw => ⟨hs w hw, good_of_word (OK.2.1 w (hs w hw))⟩
theorem pm_K.warm (OK : pm_ok T G Ns) {U : State} (hW : s.WarmedH U.vm) (hK : pm_K T Ns D aC s) : pm_K T Ns D aC U := ⟨va_K.moved hW.alike hK.1, fun w hw => (OK.2.2.1 w hw).2 s U hW (hK.2 w hw)⟩
theorem pm_after {mc ms : Nat} {rest st0 : List Value} {ls : Array Slot} {rv : Option Value} {h1 : pm_H} {sz1 : Nat} {a : Array Value} (hr : va_Run p l e R s m args below meth c H locs cells slots mc ms (F0 m pc ls st0) rest (pm_Qc T D aC b rv h1 sz1 a) (fun q => b ≤ q)) (hS : va_S (fun q => b ≤ q) s.heap H locs)
    (kk : ∀ (H1 : Heap) (locs1 : List Loc), va_P D (pm_cl T) (pm_w aC b h1 sz1) H1 → va_S (fun q => b ≤ q) s.heap H1 locs1 → W p l e R s m args below meth c H1 locs1 (cells + mc) (slots + ms) Q (F0 m (pc + 3) ls ((rv.map (pm_tr b)).toList ++ rest))) : W p l e R s m args below meth c H locs cells slots Q (F0 m pc ls st0) := by
  intro T' hT X
  obtain ⟨v, st₀, t, T2, L2, h0, X', hL, e1, e2, ⟨hv, hP, hz, hk⟩, st⟩ := hr T' hT X
  cases hv
  rw [h0] at hz hk
  obtain ⟨t2, a1, b1⟩ := kk T2.heap (locs ++ L2) (by rw [e1]; exact hP)
    ⟨Nat.le_trans hS.1 (by rw [e1]; exact hz), fun q q1 q2 => by rw [e1, hk q (Nat.lt_of_lt_of_le q1 hS.1) q2]; exact hS.2.1 q q1 q2, fun q hq => by
      rcases List.mem_append.mp hq with h | h
      · exact hS.2.2 q h
      · exact hL q h⟩ T2 rfl X'
  exact ⟨t2, st t2 a1, b1⟩
theorem pm_take (S : List Value) (n : Nat) : S = ((S.take n).reverse).reverse ++ S.drop n := by rw [List.reverse_reverse, List.take_append_drop]
theorem pm_stackS (S : List Value) (n : Nat) : S.map (pm_tr b) = ((S.take n).reverse.map (pm_tr b)).reverse ++ (S.drop n).map (pm_tr b) := by
  rw [← List.map_reverse, ← List.map_append, ← pm_take]
theorem pm_stackV {S A1 : List Value} {n a : Nat} (hA : (S.take n).reverse = .ref a :: A1) : S.map (pm_tr b) = (A1.map (pm_tr b)).reverse ++ .ref (b + a) :: (S.drop n).map (pm_tr b) := by
  have e := pm_stackS (b := b) S n
  rw [hA, List.map_cons, List.reverse_cons, List.append_assoc] at e
  exact e
/-- a call of a method of the tables -/
theorem pm_call (OK : pm_ok T G Ns) (hC : pm_C T G Ns D aC k p s m args meth c) (hfr : R.frames = fr) (hlo : R.locals = lo) (hs0 : s.heap.size = b + sz0 + g) (hg : g = 0 ∨ sz = sz0) (h0 : sz0 ≤ sz) (h1 : sl0 ≤ sl) {i : Instr} (hd : decode (pm_code T k) pc = .ok (i, 3)) {w t : Nat} (hw : pm_callee T k i = some (w, t)) {r : pm_Rs} (hmc : sz ≤ r.2.2.1) (hms : sl ≤ r.2.2.2) (hRc : r.2.2.1 ≤ sz0 + R.cells) (hRs : r.2.2.2 ≤ sl0 + R.slots)
    (hna : pm_na T t ≤ S.length) (hrc : pm_rcv T w t (S.take (pm_na T t)).reverse h sz = true) (hsum : pm_sum (S.drop (pm_na T t)) ≤ 8) (hf1 : 1 ≤ fr) (hl1 : 19 + pm_max T t ≤ lo)
    (hM : pm_Met T G Ns l D aC b g (fr - 1) (lo - (19 + pm_max T t)) t (S.take (pm_na T t)).reverse h sz sl r)
    (kk : pm_V p l e R s m args below meth c Q T D aC b k sz0 sl0 (pc + 3, L, r.1.toList ++ S.drop (pm_na T t), r.2)) : pm_V p l e R s m args below meth c Q T D aC b k sz0 sl0 (pc, L, S, h, sz, sl) := by
  obtain ⟨hx, hb, hml, hown, hts, hK, -⟩ := hC
  intro H locs ls hP hS hl
  refine pm_sized fun hz => ?_
  dsimp only at hz hP hl
  have hsz := pm_size hS hP hs0 hg h0 hz
  have hbl : FrameBlind (pm_Pc T Ns D aC b g (S.take (pm_na T t)).reverse h sz) := pm_blind OK
  have hpre : ∀ U : State, U.heap = H → s.WarmedH U.vm → pm_Pc T Ns D aC b g (S.take (pm_na T t)).reverse h sz ((S.take (pm_na T t)).reverse.map (pm_tr b)).toArray U := fun U hU hW => ⟨rfl, by rw [hU]; exact hsz, by rw [hU]; exact hP, hK.warm OK hW⟩
  have hroom : 2 * (F0 m pc ls (S.map (pm_tr b))).monitorRoom + (((S.drop (pm_na T t)).map (pm_tr b)).map fun v => v.category).sum ≤ 8 := lv_room (by rw [pm_sum_tr]; exact hsum)
  have hcs : sz - sz0 + (r.2.2.1 - sz) ≤ R.cells ∧ sl - sl0 + (r.2.2.2 - sl) ≤ R.slots := ⟨by omega, by omega⟩
  have hRR : (pm_rm (fr - 1) (lo - (19 + pm_max T t)) (r.2.2.1 - sz) (r.2.2.2 - sl)).frames + 1 ≤ R.frames ∧ 8 + (pm_max T t + 11) + (pm_rm (fr - 1) (lo - (19 + pm_max T t)) (r.2.2.1 - sz) (r.2.2.2 - sl)).locals ≤ R.locals := by
    dsimp only
    omega
  have hlen : (S.take (pm_na T t)).reverse.length = pm_na T t := by rw [List.length_reverse, List.length_take]; omega
  have fin : ∀ (H1 : Heap) (locs1 : List Loc), va_P D (pm_cl T) (pm_w aC b r.2.1 r.2.2.1) H1 → va_S (fun q => b ≤ q) s.heap H1 locs1 → W p l e R s m args below meth c H1 locs1 (sz - sz0 + (r.2.2.1 - sz)) (sl - sl0 + (r.2.2.2 - sl)) Q (F0 m (pc + 3) ls ((r.1.map (pm_tr b)).toList ++ (S.drop (pm_na T t)).map (pm_tr b))) := by
    intro H1 locs1 hP1 hS1
    have hW := kk H1 locs1 ls hP1 hS1 hl
    dsimp only at hW
    rw [List.map_append] at hW
    have e1 : (r.1.toList).map (pm_tr b) = (r.1.map (pm_tr b)).toList := by cases r.1 <;> rfl
    rw [e1] at hW
    exact W.cs (by omega) (by omega) hW
  unfold pm_callee at hw
  split at hw
  case h_4 => cases hw
  case h_1 j =>
    split at hw
    case h_3 => cases hw
    case h_2 t' e1 => cases hw; exact absurd (OK.2.2.2.2.1 _ _ _ _ e1) (fun q => q)
    case h_1 t' e1 =>
    cases hw
    obtain ⟨⟨m1, m2, m3, m4, m5, m6⟩, w1, w2, w3, ⟨n, w4, w5⟩, F, N, w6⟩ := OK.2.2.2.2.1 _ _ _ _ e1
    unfold pm_rcv at hrc
    rw [if_neg (by omega)] at hrc
    split at hrc
    case h_2 => cases hrc
    case h_1 a A1 hA =>
    split at hrc
    case h_2 => cases hrc
    case h_1 ci fs e2 =>
    have hci := eq_of_beq hrc
    subst hci
    obtain ⟨ha, hcell⟩ := pm_obj_inv e2
    rw [hA] at hM hpre hbl
    refine pm_after (va_runV (As := A1.map (pm_tr b)) (rest := (S.drop (pm_na T t)).map (pm_tr b)) ⟨hx, hb, hml, hown, hts⟩ hM (cwV n hts (pm_good OK ?_) rfl rfl rfl ⟨rfl, m5.1, m5.2, w5⟩ hRR) ⟨hbl, va_recv hK.1 hP w6 (pm_w_P hP ha hcell), hpre⟩ rfl ?_ hl.1 (pm_stackV hA) hroom hd hcs) hS fin
    · intro w hw
      simp only [wsV, pm_ws, List.mem_append, List.mem_cons, List.not_mem_nil, or_false] at hw
      rcases hw with (rfl | rfl | rfl | rfl) | rfl | hw
      · exact w1
      · exact w2
      · exact w3
      · exact m4
      · exact m3
      · exact hw
    · rw [hA, List.length_cons] at hlen
      rw [List.length_map]
      omega
  case h_2 j =>
    split at hw
    case h_3 => cases hw
    case h_1 t' e1 =>
      cases hw
      obtain ⟨⟨m1, m2, m3, m4, m5, m6⟩, w1, w2, w3⟩ := OK.2.2.2.2.1 _ _ _ _ e1
      refine pm_after (va_runS (As := (S.take (pm_na T t)).reverse.map (pm_tr b)) (rest := (S.drop (pm_na T t)).map (pm_tr b)) ⟨hx, hb, hml, hown, hts⟩ hM (va_cwS (pm_na T t) hts (pm_good OK ?_) rfl rfl rfl ⟨m5.1, m5.2, w3⟩ hRR) ⟨hbl, hpre⟩ rfl (by rw [List.length_map]; exact hlen) hl.1 (pm_stackS S _) hroom hd hcs) hS fin
      intro w hw
      simp only [va_wsS, pm_ws, List.mem_append, List.mem_cons, List.not_mem_nil, or_false] at hw
      rcases hw with (rfl | rfl | rfl) | rfl | hw
      · exact w1
      · exact w2
      · exact m4
      · exact m3
      · exact hw
    case h_2 t' e1 =>
      cases hw
      obtain ⟨⟨m1, m2, m3, m4, m5, m6⟩, ⟨host, w1⟩, w2, w3⟩ := OK.2.2.2.2.1 _ _ _ _ e1
      refine pm_after (va_runSN (As := (S.take (pm_na T t)).reverse.map (pm_tr b)) (rest := (S.drop (pm_na T t)).map (pm_tr b)) ⟨hx, hb, hml, hown, hts⟩ hM ⟨va_cnB (pm_na T t) hts (pm_good OK ?_) rfl rfl rfl (hK.2 _ w1) (hts _ m4) ⟨m5.1, m5.2, w3⟩ hRR, hts _ w2, trivial⟩ ⟨hbl, hpre⟩ rfl (by rw [List.length_map]; exact hlen) hl.1 (pm_stackS S _) hroom hd hcs) hS fin
      intro w hw
      simp only [pm_ws, List.mem_cons] at hw
      rcases hw with rfl | hw
      · exact m3
      · exact hw
  case h_3 j =>
    have hA : ∃ a A1, (S.take (pm_na T t)).reverse = .ref a :: A1 := by
      unfold pm_rcv at hrc
      split at hrc
      · split at hw
        · rename_i q _ _ _; cases hw; omega
        · rename_i q _ _ _; cases hw; omega
        · cases hw
      · split at hrc
        · rename_i a A1 hA; exact ⟨a, A1, hA⟩
        · cases hrc
    obtain ⟨a, A1, hA⟩ := hA
    rw [hA] at hM hpre hbl
    have hl2 : ∀ n, pm_na T t = n + 1 → (A1.map (pm_tr b)).length = n := by
      intro n hn
      rw [hA, List.length_cons] at hlen
      rw [List.length_map]
      omega
    have hgd : pm_okM T G t → GoodIn G (pm_ws T G t) := fun hm => pm_good OK (fun w hw => by
      simp only [pm_ws, List.mem_cons] at hw
      rcases hw with rfl | hw
      · exact hm.2.2.1
      · exact hw)
    split at hw
    case h_3 => cases hw
    case h_1 t' e1 =>
      cases hw
      obtain ⟨hm, w1, w2, w3, w0, n, w4, w5⟩ := OK.2.2.2.2.1 _ _ _ _ e1
      have hg := hgd hm
      obtain ⟨m1, m2, m3, m4, m5, m6⟩ := hm
      exact pm_after (va_runI (b := b + a) (As := A1.map (pm_tr b)) (rest := (S.drop (pm_na T t)).map (pm_tr b)) ⟨hx, hb, hml, hown, hts⟩ hM (cwI n hts hg (by rw [← w0]; rfl) rfl rfl (hts _ m4) (hts _ w1) (hts _ w2) w3 ⟨m5.1, m5.2, w5⟩ hRR) ⟨hbl, hpre⟩ rfl (hl2 n w4) hl.1 (pm_stackV hA) hroom hd hcs) hS fin
    case h_2 t' e1 =>
      cases hw
      obtain ⟨hm, ⟨host, w1⟩, w2, w3, w0, n, w4, w5⟩ := OK.2.2.2.2.1 _ _ _ _ e1
      have hg := hgd hm
      obtain ⟨m1, m2, m3, m4, m5, m6⟩ := hm
      exact pm_after (va_runIN (b := b + a) (As := A1.map (pm_tr b)) (rest := (S.drop (pm_na T t)).map (pm_tr b)) ⟨hx, hb, hml, hown, hts⟩ hM ⟨va_cnB n hts hg (by rw [← w0]; rfl) rfl rfl (hK.2 _ w1) (hts _ m4) ⟨m5.1, m5.2, w5⟩ hRR, w3, hts _ w2⟩ ⟨hbl, hpre⟩ rfl (hl2 n w4) hl.1 (pm_stackV hA) hroom hd hcs) hS fin
end PMR
end
section
/-! the soundness of a whole run -/
section PMX
variable {p : Program} {l : Launch} {e : Env} {R : Room} {s : State} {m : MethodId} {args : Array Value} {below : List Frame} {meth : Method} {c : Code} {Q : State → Prop}
variable {T : pm_Tab} {G Ns : List Cond} {D : va_G} {aC : Nat → ClassId} {b g k fr lo sz0 sl0 : Nat} {st st' : pm_St}
theorem pm_step_mono {go : Nat → Nat → Nat → List Value → pm_H → Nat → Nat → Option pm_Rs} (hgo : ∀ fr lo t as h sz sl r, go fr lo t as h sz sl = some r → sz ≤ r.2.2.1 ∧ sl ≤ r.2.2.2) (e2 : pm_step T go fr lo k st = some st') : st.2.2.2.2.1 ≤ st'.2.2.2.2.1 ∧ st.2.2.2.2.2 ≤ st'.2.2.2.2.2 := by
  unfold pm_step at e2
  split at e2
  · cases e2
  · split at e2
    · split at e2
      · split at e2
        · split at e2
          · rename_i e3
            cases e2
            exact hgo _ _ _ _ _ _ _ _ e3
          · cases e2
        · cases e2
      · exact pm_simple_mono e2
    · cases e2
theorem pm_mono : ∀ (n fr lo k : Nat) (st : pm_St) (r : pm_Rs), pm_run T n fr lo k st = some r → st.2.2.2.2.1 ≤ r.2.2.1 ∧ st.2.2.2.2.2 ≤ r.2.2.2
  | 0, _, _, _, _, _, h => by cases h
  | n + 1, fr, lo, k, st, r, h => by
    unfold pm_run at h
    split at h
    · rename_i r' e1
      cases h
      unfold pm_end at e1
      split at e1
      · cases e1
      · split at e1
        · split at e1
          · cases e1; exact ⟨Nat.le_refl _, Nat.le_refl _⟩
          · cases e1
        · cases e1
    · split at h
      · rename_i st' e2
        have ih := pm_mono n fr lo k st' r h
        have h2 := pm_step_mono (fun fr lo t as h sz sl r q => pm_mono n _ _ _ _ _ q) e2
        omega
      · cases h
theorem pm_okM_of (OK : pm_ok T G Ns) {o j w t : Nat} (h : pm_mlk T o j = some (w, t)) (hw : w < 6) : pm_okM T G t := by
  have hk := OK.2.2.2.2.1 _ _ _ _ h
  match w, hw, hk with
  | 0, _, hk => exact hk.1
  | 1, _, hk => exact hk.elim
  | 2, _, hk => exact hk.1
  | 3, _, hk => exact hk.1
  | 4, _, hk => exact hk.1
  | 5, _, hk => exact hk.1
/-- one step, given that callees are sound -/
theorem pm_step_ok (OK : pm_ok T G Ns) (hC : pm_C T G Ns D aC k p s m args meth c) (hfr : R.frames = fr) (hlo : R.locals = lo) (hs0 : s.heap.size = b + sz0 + g) (hg : g = 0 ∨ st'.2.2.2.2.1 = sz0) (h0 : sz0 ≤ st.2.2.2.2.1) (h1 : sl0 ≤ st.2.2.2.2.2) (hRc : st'.2.2.2.2.1 ≤ sz0 + R.cells) (hRs : st'.2.2.2.2.2 ≤ sl0 + R.slots)
    {go : Nat → Nat → Nat → List Value → pm_H → Nat → Nat → Option pm_Rs} (hgo : ∀ fr lo t as h sz sl r, pm_okM T G t → (pm_args as).length ≤ pm_max T t → go fr lo t as h sz sl = some r → sz ≤ r.2.2.1 ∧ sl ≤ r.2.2.2 ∧ ((g = 0 ∨ r.2.2.1 = sz) → pm_Met T G Ns l D aC b g fr lo t as h sz sl r))
    (hh : pm_step T go fr lo k st = some st')
    (kk : pm_V p l e R s m args below meth c Q T D aC b k sz0 sl0 st') : pm_V p l e R s m args below meth c Q T D aC b k sz0 sl0 st := by
  obtain ⟨pc, L, S, h, sz, sl⟩ := st
  unfold pm_step at hh
  dsimp only at hh h0 h1
  split at hh
  case h_1 => cases hh
  case h_2 i len e1 =>
  have hd := OK.1 _ _ _ _ e1
  split at hh
  case isFalse => cases hh
  case isTrue hlen =>
  split at hh
  case h_2 e2 =>
    have hm := pm_simple_mono hh
    exact pm_simple_ok OK hC hfr hlo hs0 hg h0 h1 hm.1 hm.2 hRc hRs hlen hd hh kk
  case h_1 w t e2 =>
  split at hh
  case isFalse => cases hh
  case isTrue hc =>
  obtain ⟨c1, c2, c3, c4, c5, c6⟩ := hc
  split at hh
  case h_2 => cases hh
  case h_1 rv h1' sz1 sl1 e3 =>
  cases hh
  dsimp only at hRc hRs
  have hx : ∃ o j, pm_mlk T o j = some (w, t) ∧ w < 6 ∧ len = 3 := by
    unfold pm_callee at e2
    split at e2
    case h_4 => cases e2
    case h_1 j =>
      split at e2
      case h_1 e3 => cases e2; exact ⟨_, _, e3, by omega, eq_of_beq hlen⟩
      case h_2 e3 => cases e2; exact ⟨_, _, e3, by omega, eq_of_beq hlen⟩
      case h_3 => cases e2
    case h_2 j =>
      split at e2
      case h_1 e3 => cases e2; exact ⟨_, _, e3, by omega, eq_of_beq hlen⟩
      case h_2 e3 => cases e2; exact ⟨_, _, e3, by omega, eq_of_beq hlen⟩
      case h_3 => cases e2
    case h_3 j =>
      split at e2
      case h_1 e3 => cases e2; exact ⟨_, _, e3, by omega, eq_of_beq hlen⟩
      case h_2 e3 => cases e2; exact ⟨_, _, e3, by omega, eq_of_beq hlen⟩
      case h_3 => cases e2
  obtain ⟨o, j, e4, hw6, rfl⟩ := hx
  obtain ⟨g1, g2, hM⟩ := hgo _ _ t _ _ _ _ _ (pm_okM_of OK e4 hw6) c6 e3
  dsimp only at g1 g2 hg
  exact pm_call (r := (rv, h1', sz1, sl1)) OK hC hfr hlo hs0 (by omega) h0 h1 hd e2 g1 g2 hRc hRs c1 c2 c3 c4 c5 (hM (by dsimp only; omega)) kk
/-- the method's end -/
theorem pm_end_ok (OK : pm_ok T G Ns) (hC : pm_C T G Ns D aC k p s m args meth c) (hr : meth.sig.returnType = pm_ret T k) (hlocks : meth.locks = false) {r : pm_Rs} (hh : pm_end T k st = some r) : pm_V p l e R s m args below meth c (MQ below (pm_Qc T D aC b r.1 r.2.1 r.2.2.1) args s (r.2.2.1 - sz0) (r.2.2.2 - sl0) (fun q => b ≤ q)) T D aC b k sz0 sl0 st := by
  obtain ⟨pc, L, S, h, sz, sl⟩ := st
  unfold pm_end at hh
  dsimp only at hh
  split at hh
  case h_1 => cases hh
  case h_2 i len e1 =>
  have hd := OK.1 _ _ _ _ e1
  split at hh
  case isFalse => cases hh
  case isTrue hlen =>
  split at hh
  case h_2 => cases hh
  case h_1 rv e2 =>
  cases hh
  have hx := hC.1
  have hb := hC.2.1
  intro H locs ls hP hS hl
  unfold pm_rets at e2
  split at e2
  case h_4 => cases e2
  case h_1 =>
    have hl1 : len = 1 := eq_of_beq hlen
    subst hl1
    split at e2
    case h_2 => cases e2
    case h_1 e3 =>
    cases e2
    exact W.vret hx hb (by rw [hr]; exact e3) (fun t ht hW => ⟨rfl, by rw [ht]; exact hP, hS.F ht⟩) hS.2.2 hd hlocks
  case h_2 v =>
    have hl1 : len = 1 := eq_of_beq hlen
    subst hl1
    split at e2
    case h_3 => cases e2
    case h_1 e3 =>
      cases e2
      exact W.iret hx hb (by rw [hr]; exact e3) (fun t ht hW => ⟨rfl, by rw [ht]; exact hP, hS.F ht⟩) hS.2.2 hd hlocks
    case h_2 e3 =>
      split at e2
      case isFalse => cases e2
      case isTrue e4 =>
      cases e2
      exact W.zret hx hb (by rw [hr]; exact e3) (by rcases e4 with rfl | rfl <;> rfl) (fun t ht hW => ⟨rfl, by rw [ht]; exact hP, hS.F ht⟩) hS.2.2 hd hlocks
  case h_3 v =>
    have hl1 : len = 1 := eq_of_beq hlen
    subst hl1
    split at e2
    case h_2 => cases e2
    case h_1 e3 =>
    cases e2
    exact W.lret hx hb (by rw [hr]; exact e3) (fun t ht hW => ⟨rfl, by rw [ht]; exact hP, hS.F ht⟩) hS.2.2 hd hlocks
/-- callees with n steps are sound -/
def pm_Sd (T : pm_Tab) (G Ns : List Cond) (l : Launch) (D : va_G) (aC : Nat → ClassId) (b g n : Nat) : Prop := ∀ fr lo t as h sz sl r, pm_okM T G t → (g = 0 ∨ r.2.2.1 = sz) → (pm_args as).length ≤ pm_max T t → pm_run T n fr lo t (0, pm_l0 as (pm_max T t), [], h, sz, sl) = some r → pm_Met T G Ns l D aC b g fr lo t as h sz sl r
/-- a run, in any method that stands -/
theorem pm_run_ok (OK : pm_ok T G Ns) (hC : pm_C T G Ns D aC k p s m args meth c) (hr : meth.sig.returnType = pm_ret T k) (hlk : meth.locks = false) (hfr : R.frames = fr) (hlo : R.locals = lo) (hs0 : s.heap.size = b + sz0 + g) {r : pm_Rs} (hg : g = 0 ∨ r.2.2.1 = sz0) (hRc : r.2.2.1 ≤ sz0 + R.cells) (hRs : r.2.2.2 ≤ sl0 + R.slots)
    (hQ : ∀ st, pm_V p l e R s m args below meth c (MQ below (pm_Qc T D aC b r.1 r.2.1 r.2.2.1) args s (r.2.2.1 - sz0) (r.2.2.2 - sl0) (fun q => b ≤ q)) T D aC b k sz0 sl0 st → pm_V p l e R s m args below meth c Q T D aC b k sz0 sl0 st) :
    ∀ (n : Nat), (∀ n', n' < n → pm_Sd T G Ns l D aC b g n') → ∀ st : pm_St, sz0 ≤ st.2.2.2.2.1 → sl0 ≤ st.2.2.2.2.2 → pm_run T n fr lo k st = some r → pm_V p l e R s m args below meth c Q T D aC b k sz0 sl0 st := by
  intro n
  induction n with
  | zero => intro _ st _ _ h; cases h
  | succ n ih2 =>
    intro ih st h0 h1 h
    unfold pm_run at h
    split at h
    · rename_i r' e1
      cases h
      exact hQ st (pm_end_ok OK hC hr hlk e1)
    · split at h
      · rename_i st' e2
        have hm := pm_mono _ _ _ _ _ _ h
        have hm2 := pm_step_mono (fun fr lo t as h sz sl r q => pm_mono n _ _ _ _ _ q) e2
        refine pm_step_ok OK hC hfr hlo hs0 (by omega) h0 h1 (by omega) (by omega) (fun fr lo t as h sz sl r q1 q2 q3 => ?_) e2 (ih2 (fun n' hn' => ih n' (by omega)) st' (by omega) (by omega) h)
        have hm3 := pm_mono _ _ _ _ _ _ q3
        exact ⟨hm3.1, hm3.2, fun hg => ih n (by omega) fr lo t as h sz sl r q1 hg q2 q3⟩
      · cases h
/-- THE PURE MACHINE IS SOUND -/
theorem pm_sound (OK : pm_ok T G Ns) : ∀ n, pm_Sd T G Ns l D aC b g n := by
  intro n
  induction n using Nat.strongRecOn with
  | _ n ih =>
    intro fr lo t as h sz sl r hm hg hlen hrun
    have hmn := pm_mono _ _ _ _ _ _ hrun
    dsimp only at hmn
    obtain ⟨m1, m2, m3, m4, m5, m6⟩ := hm
    refine Met.ofW (cc := pm_code T t) (maxL := pm_max T t) (ret := pm_ret T t) m1 rfl ?_
    intro p e s m args below meth c s₁ B hml hv
    obtain ⟨rfl, hsz, hP, hK⟩ := hv
    have hts := atoms_spec (ws := pm_ws T G t) B.pre
    have hown : s.vm.findClass (pm_y T t).cls = some m.cls := findClass_of_methodNamed B.named
    have hC : pm_C T G Ns D aC t p s m (as.map (pm_tr b)).toArray meth c := ⟨B.exec, B.bytes, hml, by rw [m2]; exact hown, fun w hw => hts w (List.mem_cons_of_mem _ hw), hK, fun q => by rw [(name_of_methodNamed B.named B.method).1]; exact m6 q⟩
    have key := pm_run_ok (p := p) (l := l) (e := e) (R := (headSpec (pm_ws T G t) (pm_rm fr lo (r.2.2.1 - sz) (r.2.2.2 - sl))).room) (below := below) (b := b) (sz0 := sz) (sl0 := sl) (Q := MQ below (pm_Qc T D aC b r.1 r.2.1 r.2.2.1) (as.map (pm_tr b)).toArray s (r.2.2.1 - sz) (r.2.2.2 - sl) (fun q => b ≤ q)) OK hC B.returns B.notSynchronized rfl rfl hsz (r := r) hg (by show r.2.2.1 ≤ sz + (r.2.2.1 - sz); omega) (by show r.2.2.2 ≤ sl + (r.2.2.2 - sl); omega) (fun _ q => q) n ih (0, pm_l0 as (pm_max T t), [], h, sz, sl) (Nat.le_refl _) (Nat.le_refl _) hrun
    have hW := key s.heap [] _ hP va_S.rf (pm_l0_loc b as hlen)
    rw [lg_entry_eq]
    dsimp only at hW
    rw [Nat.sub_self, Nat.sub_self] at hW
    exact hW
end PMX
end
