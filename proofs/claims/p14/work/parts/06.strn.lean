section MG06strnx0
/-! the String constants, and the methods of the JDK that they reach -/
def st_yL : MethodName := ⟨"java/lang/String", "length", "()I"⟩
abbrev st_cL : ByteArray := prog_21_method_54_code
theorem st_dL_0 : decode st_cL 0 = .ok (.aload_n 0, 1) := by decide +kernel
theorem st_dL_1 : decode st_cL 1 = .ok (.getfield 9, 3) := by decide +kernel
theorem st_dL_4 : decode st_cL 4 = .ok (.arraylength, 1) := by decide +kernel
theorem st_dL_5 : decode st_cL 5 = .ok (.aload_n 0, 1) := by decide +kernel
theorem st_dL_6 : decode st_cL 6 = .ok (.invokevirtual 335, 3) := by decide +kernel
theorem st_dL_9 : decode st_cL 9 = .ok (.ishr, 1) := by decide +kernel
theorem st_dL_10 : decode st_cL 10 = .ok (.ireturn, 1) := by decide +kernel
def st_yC : MethodName := ⟨"java/lang/String", "coder", "()B"⟩
abbrev st_cC : ByteArray := prog_21_method_152_code
theorem st_dC_0 : decode st_cC 0 = .ok (.getstatic 38, 3) := by decide +kernel
theorem st_dC_3 : decode st_cC 3 = .ok (.ifCond .eq 10, 3) := by decide +kernel
theorem st_dC_6 : decode st_cC 6 = .ok (.aload_n 0, 1) := by decide +kernel
theorem st_dC_7 : decode st_cC 7 = .ok (.getfield 15, 3) := by decide +kernel
theorem st_dC_10 : decode st_cC 10 = .ok (.goto 4, 3) := by decide +kernel
theorem st_dC_13 : decode st_cC 13 = .ok (.iconst 1, 1) := by decide +kernel
theorem st_dC_14 : decode st_cC 14 = .ok (.ireturn, 1) := by decide +kernel
def st_yA : MethodName := ⟨"java/lang/String", "charAt", "(I)C"⟩
abbrev st_cA : ByteArray := prog_21_method_56_code
theorem st_dA_0 : decode st_cA 0 = .ok (.aload_n 0, 1) := by decide +kernel
theorem st_dA_1 : decode st_cA 1 = .ok (.invokevirtual 492, 3) := by decide +kernel
theorem st_dA_4 : decode st_cA 4 = .ok (.ifCond .eq 12, 3) := by decide +kernel
theorem st_dA_7 : decode st_cA 7 = .ok (.aload_n 0, 1) := by decide +kernel
theorem st_dA_8 : decode st_cA 8 = .ok (.getfield 9, 3) := by decide +kernel
theorem st_dA_11 : decode st_cA 11 = .ok (.iload_n 1, 1) := by decide +kernel
theorem st_dA_12 : decode st_cA 12 = .ok (.invokestatic 495, 3) := by decide +kernel
theorem st_dA_15 : decode st_cA 15 = .ok (.ireturn, 1) := by decide +kernel
theorem st_dA_16 : decode st_cA 16 = .ok (.aload_n 0, 1) := by decide +kernel
theorem st_dA_17 : decode st_cA 17 = .ok (.getfield 9, 3) := by decide +kernel
theorem st_dA_20 : decode st_cA 20 = .ok (.iload_n 1, 1) := by decide +kernel
theorem st_dA_21 : decode st_cA 21 = .ok (.invokestatic 498, 3) := by decide +kernel
theorem st_dA_24 : decode st_cA 24 = .ok (.ireturn, 1) := by decide +kernel
def st_yI : MethodName := ⟨"java/lang/String", "isLatin1", "()Z"⟩
abbrev st_cI : ByteArray := prog_21_method_154_code
theorem st_dI_0 : decode st_cI 0 = .ok (.getstatic 38, 3) := by decide +kernel
theorem st_dI_3 : decode st_cI 3 = .ok (.ifCond .eq 14, 3) := by decide +kernel
theorem st_dI_6 : decode st_cI 6 = .ok (.aload_n 0, 1) := by decide +kernel
theorem st_dI_7 : decode st_cI 7 = .ok (.getfield 15, 3) := by decide +kernel
theorem st_dI_10 : decode st_cI 10 = .ok (.ifCond .ne 7, 3) := by decide +kernel
theorem st_dI_13 : decode st_cI 13 = .ok (.iconst 1, 1) := by decide +kernel
theorem st_dI_14 : decode st_cI 14 = .ok (.goto 4, 3) := by decide +kernel
theorem st_dI_17 : decode st_cI 17 = .ok (.iconst 0, 1) := by decide +kernel
theorem st_dI_18 : decode st_cI 18 = .ok (.ireturn, 1) := by decide +kernel
def st_yB : MethodName := ⟨"java/lang/StringLatin1", "charAt", "([BI)C"⟩
abbrev st_cB : ByteArray := prog_22_method_2_code
theorem st_dB_0 : decode st_cB 0 = .ok (.iload_n 1, 1) := by decide +kernel
theorem st_dB_1 : decode st_cB 1 = .ok (.aload_n 0, 1) := by decide +kernel
theorem st_dB_2 : decode st_cB 2 = .ok (.arraylength, 1) := by decide +kernel
theorem st_dB_3 : decode st_cB 3 = .ok (.invokestatic 9, 3) := by decide +kernel
theorem st_dB_6 : decode st_cB 6 = .ok (.aload_n 0, 1) := by decide +kernel
theorem st_dB_7 : decode st_cB 7 = .ok (.iload_n 1, 1) := by decide +kernel
theorem st_dB_8 : decode st_cB 8 = .ok (.baload, 1) := by decide +kernel
theorem st_dB_9 : decode st_cB 9 = .ok (.sipush 255, 3) := by decide +kernel
theorem st_dB_12 : decode st_cB 12 = .ok (.iand, 1) := by decide +kernel
theorem st_dB_13 : decode st_cB 13 = .ok (.i2c, 1) := by decide +kernel
theorem st_dB_14 : decode st_cB 14 = .ok (.ireturn, 1) := by decide +kernel
def st_yK : MethodName := ⟨"java/lang/String", "checkIndex", "(II)V"⟩
abbrev st_cK : ByteArray := prog_21_method_155_code
theorem st_dK_0 : decode st_cK 0 = .ok (.iload_n 0, 1) := by decide +kernel
theorem st_dK_1 : decode st_cK 1 = .ok (.iload_n 1, 1) := by decide +kernel
theorem st_dK_2 : decode st_cK 2 = .ok (.getstatic 1053, 3) := by decide +kernel
theorem st_dK_5 : decode st_cK 5 = .ok (.invokestatic 1059, 3) := by decide +kernel
theorem st_dK_8 : decode st_cK 8 = .ok (.pop, 1) := by decide +kernel
theorem st_dK_9 : decode st_cK 9 = .ok (.return_, 1) := by decide +kernel
def st_yP : MethodName := ⟨"jdk/internal/util/Preconditions", "checkIndex", "(IILjava/util/function/BiFunction;)I"⟩
abbrev st_cP : ByteArray := prog_29_method_11_code
theorem st_dP_0 : decode st_cP 0 = .ok (.iload_n 0, 1) := by decide +kernel
theorem st_dP_1 : decode st_cP 1 = .ok (.ifCond .lt 8, 3) := by decide +kernel
theorem st_dP_4 : decode st_cP 4 = .ok (.iload_n 0, 1) := by decide +kernel
theorem st_dP_5 : decode st_cP 5 = .ok (.iload_n 1, 1) := by decide +kernel
theorem st_dP_6 : decode st_cP 6 = .ok (.if_icmp .lt 10, 3) := by decide +kernel
theorem st_dP_9 : decode st_cP 9 = .ok (.aload_n 2, 1) := by decide +kernel
theorem st_dP_10 : decode st_cP 10 = .ok (.iload_n 0, 1) := by decide +kernel
theorem st_dP_11 : decode st_cP 11 = .ok (.iload_n 1, 1) := by decide +kernel
theorem st_dP_12 : decode st_cP 12 = .ok (.invokestatic 95, 3) := by decide +kernel
theorem st_dP_16 : decode st_cP 16 = .ok (.iload_n 0, 1) := by decide +kernel
theorem st_dP_17 : decode st_cP 17 = .ok (.ireturn, 1) := by decide +kernel
def st_ws : List Cond := [.code st_yL st_cL 1 (some .int), .code st_yC st_cC 1 (some .byte), .code st_yA st_cA 2 (some .char), .code st_yI st_cI 1 (some .boolean), .code st_yB st_cB 2 (some .char), .code st_yK st_cK 2 (none), .code st_yP st_cP 3 (some .int), .methodLink "java/lang/String" 335 st_yC, .methodLink "java/lang/String" 492 st_yI, .methodLink "java/lang/String" 495 st_yB, .methodLink "java/lang/StringLatin1" 9 st_yK, .methodLink "java/lang/String" 1059 st_yP, .fieldLink "java/lang/String" 9 "java/lang/String" "value" "[B", .fieldLink "java/lang/String" 15 "java/lang/String" "coder" "B", .fieldLink "java/lang/String" 38 "java/lang/String" "COMPACT_STRINGS" "Z", .fieldLink "java/lang/String" 1053 "jdk/internal/util/Preconditions" "SIOOBE_FORMATTER" "Ljava/util/function/BiFunction;", .instanceMethod st_yL, .selects "java/lang/String" st_yL st_yL, .instanceMethod st_yC, .selects "java/lang/String" st_yC st_yC, .instanceMethod st_yA, .selects "java/lang/String" st_yA st_yA, .instanceMethod st_yI, .selects "java/lang/String" st_yI st_yI, .static st_yB, .static st_yK, .static st_yP, .initialized "java/lang/String", .initialized "java/lang/StringLatin1", .initialized "jdk/internal/util/Preconditions"]
def st_ps : List Nat := [1409, 1413, 1419, 1423, 1426, 1429, 1434, 1410, 1420, 1424, 1427, 1432, 1822, 1823, 1414, 1430, 1407, 1408, 1411, 1412, 1417, 1418, 1421, 1422, 1425, 1428, 1433, 104, 105, 106]
def st_L : List (List Int32) := [[119, 107, 114, 115, 104, 101, 100], [60, 62, 61], [43, 45], [42, 47], [115, 109, 102, 112, 113]]
def st_tx (i : Nat) : List Int32 := match pm_nth st_L i with
  | some l => l
  | none => []
def st_T : List String := ["wkrshed", "<>=", "+-", "*/", "smfpq"]
/-- by the owner of the pool and the place: which -/
def st_str (o j : Nat) : Option Nat := cond (Nat.beq o 11) (pm_fd [(236, 0), (245, 1), (247, 2), (249, 3), (380, 4)] j) none
end MG06strnx0
section MG06strnx1
/-! A PURE MACHINE: the bytecode of the class, of its reference and of what they call, run on numbered cells. 'pm_run' is a plain function; 'pm_sound' (next part) says that what it answers the real machine answers too. The tables T are a parameter. -/
abbrev pm_E : Type := (Nat × vp_A) ⊕ (Nat × List Value)
abbrev pm_H : Type := Nat → pm_E
abbrev pm_L : Type := List (Option Value)
/-- a method: its name, code, locals, answer's type, owner of its constant pool, how many values it takes (this, too), its class's number -/
abbrev pm_M : Type := MethodName × ByteArray × Nat × Option FieldType × Nat × Nat × Nat
/-- classes of objects with their first fields; array types; owners of constant pools; methods; instructions by place; fields by (owner, index): class, place, kind; methods by (owner, index): way, number; classes by (owner, index); constants -/
abbrev pm_Tab : Type := (List vw_C) × (Nat → List Value) × (List FieldType) × (Nat → String) × (Nat → pm_M) × (Nat → Nat → Option (Instr × Nat)) × (Nat → Nat → Option (Nat × Nat × Nat)) × (Nat → Nat → Option (Nat × Nat)) × (Nat → Nat → Option Nat) × (Nat → Nat → Option Int32) × (Nat → Nat → Option Int64)
def pm_cl (T : pm_Tab) : List vw_C := T.1
def pm_df (T : pm_Tab) : Nat → List Value := T.2.1
def pm_ty (T : pm_Tab) : List FieldType := T.2.2.1
def pm_own (T : pm_Tab) : Nat → String := T.2.2.2.1
def pm_m (T : pm_Tab) : Nat → pm_M := T.2.2.2.2.1
def pm_y (T : pm_Tab) (k : Nat) : MethodName := (pm_m T k).1
def pm_code (T : pm_Tab) (k : Nat) : ByteArray := (pm_m T k).2.1
def pm_max (T : pm_Tab) (k : Nat) : Nat := (pm_m T k).2.2.1
def pm_ret (T : pm_Tab) (k : Nat) : Option FieldType := (pm_m T k).2.2.2.1
def pm_o (T : pm_Tab) (k : Nat) : Nat := (pm_m T k).2.2.2.2.1
def pm_na (T : pm_Tab) (k : Nat) : Nat := (pm_m T k).2.2.2.2.2.1
/-- its class's number; a constructor's entry is 100 more -/
def pm_ci (T : pm_Tab) (k : Nat) : Nat := (pm_m T k).2.2.2.2.2.2 % 100
def pm_init (T : pm_Tab) (k : Nat) : Bool := Nat.ble 100 (pm_m T k).2.2.2.2.2.2
def pm_ins (T : pm_Tab) : Nat → Nat → Option (Instr × Nat) := T.2.2.2.2.2.1
def pm_fld (T : pm_Tab) : Nat → Nat → Option (Nat × Nat × Nat) := T.2.2.2.2.2.2.1
def pm_mlk (T : pm_Tab) : Nat → Nat → Option (Nat × Nat) := T.2.2.2.2.2.2.2.1
def pm_clk (T : pm_Tab) : Nat → Nat → Option Nat := T.2.2.2.2.2.2.2.2.1
def pm_con (T : pm_Tab) : Nat → Nat → Option Int32 := T.2.2.2.2.2.2.2.2.2.1
def pm_conL (T : pm_Tab) : Nat → Nat → Option Int64 := T.2.2.2.2.2.2.2.2.2.2
/-- locals -/
def pm_get (L : pm_L) (i : Nat) : Option Value := match L[i]? with
  | some (some v) => some v
  | _ => none
def pm_cat2 (L : pm_L) (i : Nat) : Bool := match pm_get L i with
  | some v => v.category == 2
  | none => false
/-- a long just below i loses its second half -/
def pm_cut (L : pm_L) (i : Nat) : pm_L := match i with
  | 0 => L
  | j + 1 => if pm_cat2 L j = true then L.set j none else L
def pm_st1 (L : pm_L) (i : Nat) (v : Value) : pm_L := (pm_cut L i).set i (some v)
def pm_st2 (L : pm_L) (i : Nat) (v : Value) : pm_L := ((pm_cut L i).set i (some v)).set (i + 1) none
def pm_args : List Value → pm_L
  | [] => []
  | v :: vs => if v.category = 2 then some v :: none :: pm_args vs else some v :: pm_args vs
def pm_l0 (vs : List Value) (n : Nat) : pm_L := pm_args vs ++ List.replicate (n - (pm_args vs).length) none
abbrev pm_St : Type := Nat × pm_L × List Value × pm_H × Nat × Nat
def pm_tgt (pc : Nat) (off : Int) : Option Nat := if 0 ≤ (pc : Int) + off then some ((pc : Int) + off).toNat else none
def pm_cmp (c : Jvm.ClassFile.Cond) (x y : Int32) : Bool := match c with
  | .eq => decide (x = y)
  | .ne => decide (¬ x = y)
  | .lt => decide (x < y)
  | .ge => decide (y ≤ x)
  | .gt => decide (y < x)
  | .le => decide (x ≤ y)
def pm_in (i : Int32) (n : Nat) : Bool := decide (¬ (i < 0 ∨ n ≤ i.toNatClampNeg))
/-- kinds of a value: 0 int, 1 long, 2 a reference (.ref to a numbered cell; .retAddr i stands for a reference to the i-th of the cells outside) -/
def pm_isT (t : Nat) (v : Value) : Bool := match t, v with
  | 0, .int _ => true
  | 1, .long _ => true
  | 2, .ref _ => true
  | 2, .retAddr _ => true
  | _, _ => false
def pm_ld (t : Nat) (L : pm_L) (i : Nat) : Option Value := match pm_get L i with
  | some v => if pm_isT t v = true then some v else none
  | none => none
def pm_bi (f : Int32 → Int32 → Int32) (pc : Nat) (L : pm_L) (S : List Value) (h : pm_H) (sz sl : Nat) : Option pm_St := match S with
  | .int y :: .int x :: r => some (pc + 1, L, .int (f x y) :: r, h, sz, sl)
  | _ => none
/-- a division -/
def pm_bd (f : Int32 → Int32 → Int32) (pc : Nat) (L : pm_L) (S : List Value) (h : pm_H) (sz sl : Nat) : Option pm_St := match S with
  | .int y :: .int x :: r => if y = 0 then none else some (pc + 1, L, .int (f x y) :: r, h, sz, sl)
  | _ => none
def pm_bl (f : Int64 → Int64 → Int64) (pc : Nat) (L : pm_L) (S : List Value) (h : pm_H) (sz sl : Nat) : Option pm_St := match S with
  | .long y :: .long x :: r => some (pc + 1, L, .long (f x y) :: r, h, sz, sl)
  | _ => none
def pm_bdL (f : Int64 → Int64 → Int64) (pc : Nat) (L : pm_L) (S : List Value) (h : pm_H) (sz sl : Nat) : Option pm_St := match S with
  | .long y :: .long x :: r => if y = 0 then none else some (pc + 1, L, .long (f x y) :: r, h, sz, sl)
  | _ => none
def pm_ui (f : Int32 → Value) (pc : Nat) (L : pm_L) (S : List Value) (h : pm_H) (sz sl : Nat) : Option pm_St := match S with
  | .int x :: r => some (pc + 1, L, f x :: r, h, sz, sl)
  | _ => none
def pm_lo (t n pc i : Nat) (L : pm_L) (S : List Value) (h : pm_H) (sz sl : Nat) : Option pm_St := match pm_ld t L i with
  | some v => some (pc + n, L, v :: S, h, sz, sl)
  | none => none
def pm_so (t n mx pc i : Nat) (L : pm_L) (S : List Value) (h : pm_H) (sz sl : Nat) : Option pm_St := match S with
  | v :: r => if pm_isT t v = true ∧ i < mx then some (pc + n, pm_st1 L i v, r, h, sz, sl) else none
  | _ => none
def pm_sL (n mx pc i : Nat) (L : pm_L) (S : List Value) (h : pm_H) (sz sl : Nat) : Option pm_St := match S with
  | .long x :: r => if i + 1 < mx then some (pc + n, pm_st2 L i (.long x), r, h, sz, sl) else none
  | _ => none
def pm_jp (pc : Nat) (off : Int) (L : pm_L) (S : List Value) (h : pm_H) (sz sl : Nat) : Option pm_St := match pm_tgt pc off with
  | some t => some (t, L, S, h, sz, sl)
  | none => none
def pm_br (b : Bool) (pc : Nat) (off : Int) (L : pm_L) (S : List Value) (h : pm_H) (sz sl : Nat) : Option pm_St := match pm_tgt pc off with
  | some t => (match b with
    | true => some (t, L, S, h, sz, sl)
    | false => some (pc + 3, L, S, h, sz, sl))
  | none => none
def pm_iar (T : pm_Tab) (ty : FieldType) (h : pm_H) (sz a : Nat) : Option (Nat × Nat × (Nat → Int32)) := if a < sz then (match h a with
  | .inl (kd, n, .inl f) => if (pm_ty T)[kd]? = some ty then some (kd, n, f) else none
  | _ => none) else none
def pm_lar (T : pm_Tab) (h : pm_H) (sz a : Nat) : Option (Nat × Nat × (Nat → Int64)) := if a < sz then (match h a with
  | .inl (kd, n, .inr (.inl f)) => if (pm_ty T)[kd]? = some .long then some (kd, n, f) else none
  | _ => none) else none
def pm_qar (h : pm_H) (sz a : Nat) : Option (Nat × Nat × (Nat → Option Nat)) := if a < sz then (match h a with
  | .inl (kd, n, .inr (.inr (.inr (.inr f)))) => some (kd, n, f)
  | _ => none) else none
def pm_obj (h : pm_H) (sz a : Nat) : Option (Nat × List Value) := if a < sz then (match h a with
  | .inr o => some o
  | _ => none) else none
def pm_ia (T : pm_Tab) (ty : FieldType) (pc : Nat) (L : pm_L) (S : List Value) (h : pm_H) (sz sl : Nat) : Option pm_St := match S with
  | .int i :: .ref a :: r => (match pm_iar T ty h sz a with
    | some (_, n, f) => if pm_in i n = true then some (pc + 1, L, .int (f i.toNatClampNeg) :: r, h, sz, sl) else none
    | none => none)
  | _ => none
def pm_iS (T : pm_Tab) (ty : FieldType) (nr : Int32 → Int32) (pc : Nat) (L : pm_L) (S : List Value) (h : pm_H) (sz sl : Nat) : Option pm_St := match S with
  | .int x :: .int i :: .ref a :: r => (match pm_iar T ty h sz a with
    | some (kd, n, f) => if pm_in i n = true then some (pc + 1, L, r, va_up h a (.inl (kd, n, .inl (upd f i.toNatClampNeg (nr x)))), sz, sl) else none
    | none => none)
  | _ => none
def pm_la (T : pm_Tab) (pc : Nat) (L : pm_L) (S : List Value) (h : pm_H) (sz sl : Nat) : Option pm_St := match S with
  | .int i :: .ref a :: r => (match pm_lar T h sz a with
    | some (_, n, f) => if pm_in i n = true then some (pc + 1, L, .long (f i.toNatClampNeg) :: r, h, sz, sl) else none
    | none => none)
  | _ => none
def pm_lS (T : pm_Tab) (pc : Nat) (L : pm_L) (S : List Value) (h : pm_H) (sz sl : Nat) : Option pm_St := match S with
  | .long x :: .int i :: .ref a :: r => (match pm_lar T h sz a with
    | some (kd, n, f) => if pm_in i n = true then some (pc + 1, L, r, va_up h a (.inl (kd, n, .inr (.inl (vp_updL f i.toNatClampNeg x)))), sz, sl) else none
    | none => none)
  | _ => none
def pm_isObj (t : Option FieldType) : Bool := match t with
  | some (.object _) => true
  | _ => false
def pm_qa (T : pm_Tab) (pc : Nat) (L : pm_L) (S : List Value) (h : pm_H) (sz sl : Nat) : Option pm_St := match S with
  | .int i :: .ref a :: r => (match pm_qar h sz a with
    | some (kd, n, f) => if pm_in i n = true ∧ pm_isObj (pm_ty T)[kd]? = true then some (pc + 1, L, va_rf (f i.toNatClampNeg) :: r, h, sz, sl) else none
    | none => none)
  | _ => none
def pm_qS (T : pm_Tab) (pc : Nat) (L : pm_L) (S : List Value) (h : pm_H) (sz sl : Nat) : Option pm_St := match S with
  | .ref v :: .int i :: .ref a :: r => (match pm_qar h sz a with
    | some (kd, n, f) => (match pm_obj h sz v with
      | some (ci, _) => if pm_in i n = true ∧ (pm_ty T)[kd]? = ((pm_cl T)[ci]?).map (fun q => FieldType.object q.1) ∧ ci < (pm_cl T).length then some (pc + 1, L, r, va_up h a (.inl (kd, n, .inr (.inr (.inr (.inr (va_up f i.toNatClampNeg (some v))))))), sz, sl) else none
      | none => none)
    | none => none)
  | _ => none
def pm_al (T : pm_Tab) (pc : Nat) (L : pm_L) (S : List Value) (h : pm_H) (sz sl : Nat) : Option pm_St := match S with
  | .ref a :: r => if a < sz then (match h a with
    | .inl (kd, n, _) => if ((pm_ty T)[kd]?).isSome = true then some (pc + 1, L, .int (Int32.ofNat n) :: r, h, sz, sl) else none
    | _ => none) else none
  | _ => none
/-- does a value fit a field: 0 int, 1 long, 2 a reference, 3 boolean; 10 more: final, of the pool's owner; 20 more: final, not to be written -/
def pm_fits (t : Nat) (v : Value) : Bool := match t, v with
  | 0, .int _ => true
  | 1, .long _ => true
  | 2, .ref _ => true
  | 3, .int x => decide (x = 0 ∨ x = 1)
  | _, _ => false
def pm_gf (T : pm_Tab) (k idx pc : Nat) (L : pm_L) (S : List Value) (h : pm_H) (sz sl : Nat) : Option pm_St := match S with
  | .ref a :: r => (match pm_obj h sz a, pm_fld T (pm_o T k) idx with
    | some (ci, fs), some (cj, f, _) => if cj = ci then (match fs[f]? with
        | some v => some (pc + 3, L, v :: r, h, sz, sl)
        | none => none) else none
    | _, _ => none)
  | _ => none
def pm_pf (T : pm_Tab) (k idx pc : Nat) (L : pm_L) (S : List Value) (h : pm_H) (sz sl : Nat) : Option pm_St := match S with
  | v :: .ref a :: r => (match pm_obj h sz a, pm_fld T (pm_o T k) idx with
    | some (ci, fs), some (cj, f, t) => if cj = ci ∧ f < fs.length ∧ pm_fits (t % 10) v = true ∧ (t < 10 ∨ (t < 20 ∧ pm_init T k = true)) then some (pc + 3, L, r, va_up h a (.inr (ci, fs.set f v)), sz, sl) else none
    | _, _ => none)
  | _ => none
/-- a new cell -/
def pm_nw (e : pm_E) (n len pc : Nat) (L : pm_L) (S : List Value) (h : pm_H) (sz sl : Nat) : Option pm_St := some (pc + len, L, .ref sz :: S, va_up h sz e, sz + 1, sl + n)
def pm_tysAt (T : pm_Tab) (ty : FieldType) : Option Nat := (pm_ty T).findIdx? (fun t => t == ty)
def pm_newI (T : pm_Tab) (ty : FieldType) (pc : Nat) (L : pm_L) (S : List Value) (h : pm_H) (sz sl : Nat) : Option pm_St := match S with
  | .int n :: r => (match pm_tysAt T ty with
    | some kd => if ¬ n < 0 ∧ n.toNatClampNeg ≤ 65536 then pm_nw (.inl (kd, n.toNatClampNeg, .inl (fun _ => 0))) n.toNatClampNeg 2 pc L r h sz sl else none
    | none => none)
  | _ => none
def pm_newL (T : pm_Tab) (pc : Nat) (L : pm_L) (S : List Value) (h : pm_H) (sz sl : Nat) : Option pm_St := match S with
  | .int n :: r => (match pm_tysAt T .long with
    | some kd => if ¬ n < 0 ∧ n.toNatClampNeg ≤ 65536 then pm_nw (.inl (kd, n.toNatClampNeg, .inr (.inl (fun _ => 0)))) n.toNatClampNeg 2 pc L r h sz sl else none
    | none => none)
  | _ => none
/-- an array of references: the table of classes by (owner plus 100, index) tells the array type's number plus 1000 -/
def pm_newQ (T : pm_Tab) (k idx pc : Nat) (L : pm_L) (S : List Value) (h : pm_H) (sz sl : Nat) : Option pm_St := match S with
  | .int n :: r => (match pm_clk T (100 + pm_o T k) idx with
    | some q => if 1000 ≤ q ∧ ¬ n < 0 ∧ n.toNatClampNeg ≤ 65536 then pm_nw (.inl (q - 1000, n.toNatClampNeg, .inr (.inr (.inr (.inr (fun _ => none)))))) n.toNatClampNeg 3 pc L r h sz sl else none
    | none => none)
  | _ => none
def pm_newO (T : pm_Tab) (k idx pc : Nat) (L : pm_L) (S : List Value) (h : pm_H) (sz sl : Nat) : Option pm_St := match pm_clk T (pm_o T k) idx with
  | some ci => if ci < 1000 then pm_nw (.inr (ci, pm_df T ci)) (pm_df T ci).length 3 pc L S h sz sl else none
  | none => none
def pm_sum (S : List Value) : Nat := (S.map fun v => v.category).sum
/-- what the library does: 6 Object.<init>, 7 Math.min, 8 Math.max, 9 System.arraycopy of ints -/
def pm_lib (T : pm_Tab) (fr lo w pc : Nat) (L : pm_L) (S : List Value) (h : pm_H) (sz sl : Nat) : Option pm_St := match w, S with
  | 6, .ref _ :: r => if 1 ≤ fr ∧ pm_sum r + 12 ≤ lo then some (pc + 3, L, r, h, sz, sl) else none
  | 7, .int y :: .int x :: r => if 1 ≤ fr ∧ pm_sum r + 13 ≤ lo then some (pc + 3, L, .int (if y < x then y else x) :: r, h, sz, sl) else none
  | 8, .int y :: .int x :: r => if 1 ≤ fr ∧ pm_sum r + 13 ≤ lo then some (pc + 3, L, .int (if x < y then y else x) :: r, h, sz, sl) else none
  | 9, .int n :: .int dp :: .ref a :: .int sp :: .ref a0 :: r => (match pm_iar T .int h sz a0, pm_iar T .int h sz a with
    | some (_, n0, f), some (kd, n1, g) => if (1 ≤ fr ∧ pm_sum r + 60 ≤ lo) ∧ ¬ sp < 0 ∧ ¬ dp < 0 ∧ ¬ n < 0 ∧ sp.toNatClampNeg + n.toNatClampNeg ≤ n0 ∧ dp.toNatClampNeg + n.toNatClampNeg ≤ n1 then some (pc + 3, L, r, va_up h a (.inl (kd, n1, .inl (va_cpy f g sp.toNatClampNeg dp.toNatClampNeg n.toNatClampNeg))), sz, sl) else none
    | _, _ => none)
  | _, _ => none
def pm_libW (T : pm_Tab) (sp : Bool) (fr lo k idx pc : Nat) (L : pm_L) (S : List Value) (h : pm_H) (sz sl : Nat) : Option pm_St := match pm_mlk T (pm_o T k) idx with
  | some (w, _) => if (w == 6) = sp then pm_lib T fr lo w pc L S h sz sl else none
  | none => none
/-- on a String constant: 10 length(), 11 charAt(int) -/
def pm_libV (T : pm_Tab) (fr lo k idx pc : Nat) (L : pm_L) (S : List Value) (h : pm_H) (sz sl : Nat) : Option pm_St := match pm_mlk T (pm_o T k) idx, S with
  | some (10, _), .retAddr i :: r => if i < 5 ∧ 5 ≤ fr ∧ 200 ≤ lo ∧ pm_sum r ≤ 8 then some (pc + 3, L, .int (Int32.ofNat (st_tx i).length) :: r, h, sz, sl) else none
  | some (11, _), .int x :: .retAddr i :: r => if i < 5 ∧ 5 ≤ fr ∧ 200 ≤ lo ∧ pm_sum r ≤ 8 ∧ pm_in x (st_tx i).length = true then some (pc + 3, L, .int ((st_tx i).getD x.toNatClampNeg 0) :: r, h, sz, sl) else none
  | _, _ => none
def pm_lenOk (i : Instr) (len : Nat) : Bool := match i with
  | .bipush _ | .ldc _ | .iload _ | .lload _ | .aload _ | .istore _ | .lstore _ | .astore _ | .newarray _ => len == 2
  | .sipush _ | .ldc_w _ | .ldc2_w _ | .iinc _ _ | .ifCond _ _ | .if_icmp _ _ | .goto _ | .getfield _ | .putfield _ | .anewarray _ | .new _ | .invokevirtual _ | .invokestatic _ | .invokespecial _ => len == 3
  | .tableswitch _ _ _ _ | .lookupswitch _ _ => true
  | _ => len == 1
def pm_swOk (ps : List (Int × Int)) : Bool := (ps.zip (ps.drop 1)).all (fun (a, next) => a.1 < next.1)
def pm_simple (T : pm_Tab) (fr lo k : Nat) (i : Instr) (pc : Nat) (L : pm_L) (S : List Value) (h : pm_H) (sz sl : Nat) : Option pm_St := match i with
  | .iconst n => some (pc + 1, L, .int (Int32.ofInt n) :: S, h, sz, sl)
  | .bipush n => some (pc + 2, L, .int (Int8.ofInt n).toInt32 :: S, h, sz, sl)
  | .sipush n => some (pc + 3, L, .int (Int16.ofInt n).toInt32 :: S, h, sz, sl)
  | .lconst n => some (pc + 1, L, .long (Int64.ofNat n.val) :: S, h, sz, sl)
  | .ldc j => (match pm_con T (pm_o T k) j with
    | some v => some (pc + 2, L, .int v :: S, h, sz, sl)
    | none => (match st_str (pm_o T k) j with
      | some i => some (pc + 2, L, .retAddr i :: S, h, sz, sl)
      | none => none))
  | .ldc_w j => (match pm_con T (pm_o T k) j with
    | some v => some (pc + 3, L, .int v :: S, h, sz, sl)
    | none => (match st_str (pm_o T k) j with
      | some i => some (pc + 3, L, .retAddr i :: S, h, sz, sl)
      | none => none))
  | .ldc2_w j => (match pm_conL T (pm_o T k) j with
    | some v => some (pc + 3, L, .long v :: S, h, sz, sl)
    | none => none)
  | .iload j => pm_lo 0 2 pc j L S h sz sl
  | .iload_n j => pm_lo 0 1 pc j.val L S h sz sl
  | .lload j => pm_lo 1 2 pc j L S h sz sl
  | .lload_n j => pm_lo 1 1 pc j.val L S h sz sl
  | .aload j => pm_lo 2 2 pc j L S h sz sl
  | .aload_n j => pm_lo 2 1 pc j.val L S h sz sl
  | .istore j => pm_so 0 2 (pm_max T k) pc j L S h sz sl
  | .istore_n j => pm_so 0 1 (pm_max T k) pc j.val L S h sz sl
  | .astore j => pm_so 2 2 (pm_max T k) pc j L S h sz sl
  | .astore_n j => pm_so 2 1 (pm_max T k) pc j.val L S h sz sl
  | .lstore j => pm_sL 2 (pm_max T k) pc j L S h sz sl
  | .lstore_n j => pm_sL 1 (pm_max T k) pc j.val L S h sz sl
  | .iinc j n => (match pm_get L j with
    | some (.int x) => if j < pm_max T k then some (pc + 3, pm_st1 L j (.int (x + Int32.ofInt n)), S, h, sz, sl) else none
    | _ => none)
  | .iadd => pm_bi (fun x y => x + y) pc L S h sz sl
  | .isub => pm_bi (fun x y => x - y) pc L S h sz sl
  | .imul => pm_bi (fun x y => x * y) pc L S h sz sl
  | .iand => pm_bi (fun x y => x &&& y) pc L S h sz sl
  | .ior => pm_bi (fun x y => x ||| y) pc L S h sz sl
  | .ixor => pm_bi (fun x y => x ^^^ y) pc L S h sz sl
  | .ishl => pm_bi (fun x y => x <<< (y &&& 31)) pc L S h sz sl
  | .ishr => pm_bi (fun x y => x >>> (y &&& 31)) pc L S h sz sl
  | .iushr => pm_bi (fun x y => (x.toUInt32 >>> (y.toUInt32 &&& Int32.toUInt32 31)).toInt32) pc L S h sz sl
  | .idiv => pm_bd (fun x y => x / y) pc L S h sz sl
  | .irem => pm_bd (fun x y => x - x / y * y) pc L S h sz sl
  | .ineg => pm_ui (fun x => .int (-x)) pc L S h sz sl
  | .i2l => pm_ui (fun x => .long x.toInt64) pc L S h sz sl
  | .i2b => pm_ui (fun x => .int x.toInt8.toInt32) pc L S h sz sl
  | .i2s => pm_ui (fun x => .int x.toInt16.toInt32) pc L S h sz sl
  | .i2c => pm_ui (fun x => .int (x.toUInt32 % 65536).toInt32) pc L S h sz sl
  | .lmul => pm_bl (fun x y => x * y) pc L S h sz sl
  | .ladd => pm_bl (fun x y => x + y) pc L S h sz sl
  | .lsub => pm_bl (fun x y => x - y) pc L S h sz sl
  | .ldiv => pm_bdL (fun x y => x / y) pc L S h sz sl
  | .lrem => pm_bdL (fun x y => x - x / y * y) pc L S h sz sl
  | .lcmp => (match S with
    | .long y :: .long x :: r => some (pc + 1, L, .int (lg_cmp x y) :: r, h, sz, sl)
    | _ => none)
  | .dup => (match S with
    | v :: r => if v.category = 1 then some (pc + 1, L, v :: v :: r, h, sz, sl) else none
    | _ => none)
  | .pop => (match S with
    | v :: r => if v.category = 1 then some (pc + 1, L, r, h, sz, sl) else none
    | _ => none)
  | .dup_x1 => (match S with
    | v :: w :: r => if v.category = 1 ∧ w.category = 1 then some (pc + 1, L, v :: w :: v :: r, h, sz, sl) else none
    | _ => none)
  | .dup_x2 => (match S with
    | v :: w :: z :: r => if v.category = 1 ∧ w.category = 1 ∧ z.category = 1 then some (pc + 1, L, v :: w :: z :: v :: r, h, sz, sl) else none
    | _ => none)
  | .dup2 => (match S with
    | v :: w :: r => if v.category = 1 ∧ w.category = 1 then some (pc + 1, L, v :: w :: v :: w :: r, h, sz, sl) else none
    | _ => none)
  | .ifCond c off => (match S with
    | .int x :: r => pm_br (pm_cmp c x 0) pc off L r h sz sl
    | _ => none)
  | .if_icmp c off => (match S with
    | .int y :: .int x :: r => pm_br (pm_cmp c x y) pc off L r h sz sl
    | _ => none)
  | .goto off => pm_jp pc off L S h sz sl
  | .tableswitch d lo' hi offs => (match S with
    | .int x :: r => if x.toInt < lo' ∨ hi < x.toInt then pm_jp pc d L r h sz sl else (match offs[(x.toInt - lo').toNat]? with
      | some off => pm_jp pc off L r h sz sl
      | none => none)
    | _ => none)
  | .lookupswitch d ps => (match S with
    | .int x :: r => if pm_swOk ps.toList = true then pm_jp pc (Op.lookupswitch.offset ps.toList d x.toInt) L r h sz sl else none
    | _ => none)
  | .getfield j => pm_gf T k j pc L S h sz sl
  | .putfield j => pm_pf T k j pc L S h sz sl
  | .iaload => pm_ia T .int pc L S h sz sl
  | .caload => pm_ia T .char pc L S h sz sl
  | .baload => pm_ia T .boolean pc L S h sz sl
  | .laload => pm_la T pc L S h sz sl
  | .aaload => pm_qa T pc L S h sz sl
  | .iastore => pm_iS T .int (fun x => x) pc L S h sz sl
  | .castore => pm_iS T .char (fun x => vp_nar .char x) pc L S h sz sl
  | .bastore => pm_iS T .boolean (fun x => vp_nar .boolean x) pc L S h sz sl
  | .lastore => pm_lS T pc L S h sz sl
  | .aastore => pm_qS T pc L S h sz sl
  | .arraylength => pm_al T pc L S h sz sl
  | .newarray .int => pm_newI T .int pc L S h sz sl
  | .newarray .char => pm_newI T .char pc L S h sz sl
  | .newarray .boolean => pm_newI T .boolean pc L S h sz sl
  | .newarray .long => pm_newL T pc L S h sz sl
  | .anewarray j => pm_newQ T k j pc L S h sz sl
  | .new j => pm_newO T k j pc L S h sz sl
  | .invokespecial j => pm_libW T true fr lo k j pc L S h sz sl
  | .invokestatic j => pm_libW T false fr lo k j pc L S h sz sl
  | .invokevirtual j => pm_libV T fr lo k j pc L S h sz sl
  | _ => none
/-- a call of a method of the tables: 0 by the receiver's class, 1 the same of a nest mate, 2 static, 3 static of a nest mate, 4 a constructor, 5 one of a nest mate -/
def pm_callee (T : pm_Tab) (k : Nat) (i : Instr) : Option (Nat × Nat) := match i with
  | .invokevirtual j => (match pm_mlk T (pm_o T k) j with
    | some (0, t) => some (0, t)
    | some (1, t) => some (1, t)
    | _ => none)
  | .invokestatic j => (match pm_mlk T (pm_o T k) j with
    | some (2, t) => some (2, t)
    | some (3, t) => some (3, t)
    | _ => none)
  | .invokespecial j => (match pm_mlk T (pm_o T k) j with
    | some (4, t) => some (4, t)
    | some (5, t) => some (5, t)
    | _ => none)
  | _ => none
/-- the receiver is an object of the method's class -/
def pm_rcv (T : pm_Tab) (w t : Nat) (As : List Value) (h : pm_H) (sz : Nat) : Bool := if w = 2 ∨ w = 3 then true else (match As with
  | .ref a :: _ => (match pm_obj h sz a with
    | some (ci, _) => ci == pm_ci T t
    | none => false)
  | _ => false)
def pm_rets (T : pm_Tab) (k : Nat) (i : Instr) (S : List Value) : Option (Option Value) := match i, S with
  | .return_, [] => (match pm_ret T k with
    | none => some none
    | _ => none)
  | .ireturn, [.int v] => (match pm_ret T k with
    | some .int => some (some (.int v))
    | some .boolean => if v = 0 ∨ v = 1 then some (some (.int v)) else none
    | _ => none)
  | .lreturn, [.long v] => (match pm_ret T k with
    | some .long => some (some (.long v))
    | _ => none)
  | _, _ => none
abbrev pm_Rs : Type := Option Value × pm_H × Nat × Nat
/-- one step in method k; 'go' runs a callee -/
def pm_step (T : pm_Tab) (go : Nat → Nat → Nat → List Value → pm_H → Nat → Nat → Option pm_Rs) (fr lo k : Nat) (st : pm_St) : Option pm_St := match pm_ins T k st.1 with
  | none => none
  | some (i, len) => if pm_lenOk i len = true then (match pm_callee T k i with
    | some (w, t) => if pm_na T t ≤ st.2.2.1.length ∧ pm_rcv T w t (st.2.2.1.take (pm_na T t)).reverse st.2.2.2.1 st.2.2.2.2.1 = true ∧ pm_sum (st.2.2.1.drop (pm_na T t)) ≤ 8 ∧ 1 ≤ fr ∧ 19 + pm_max T t ≤ lo ∧ (pm_args (st.2.2.1.take (pm_na T t)).reverse).length ≤ pm_max T t then (match go (fr - 1) (lo - (19 + pm_max T t)) t (st.2.2.1.take (pm_na T t)).reverse st.2.2.2.1 st.2.2.2.2.1 st.2.2.2.2.2 with
      | some (rv, h1, sz1, sl1) => some (st.1 + 3, st.2.1, rv.toList ++ st.2.2.1.drop (pm_na T t), h1, sz1, sl1)
      | none => none) else none
    | none => pm_simple T fr lo k i st.1 st.2.1 st.2.2.1 st.2.2.2.1 st.2.2.2.2.1 st.2.2.2.2.2) else none
/-- does the step at st end the method: its answer -/
def pm_end (T : pm_Tab) (k : Nat) (st : pm_St) : Option pm_Rs := match pm_ins T k st.1 with
  | none => none
  | some (i, len) => if pm_lenOk i len = true then (match pm_rets T k i st.2.2.1 with
    | some rv => some (rv, st.2.2.2)
    | none => none) else none
/-- n steps at most -/
def pm_run (T : pm_Tab) : Nat → Nat → Nat → Nat → pm_St → Option pm_Rs
  | 0, _, _, _, _ => none
  | n + 1, fr, lo, k, st => match pm_end T k st with
    | some r => some r
    | none => match pm_step T (fun fr lo t as h sz sl => pm_run T n fr lo t (0, pm_l0 as (pm_max T t), [], h, sz, sl)) fr lo k st with
      | some st' => pm_run T n fr lo k st'
      | none => none
end MG06strnx1
section MG06strnx2
/-! the pure machine's cells and locals as the kit's worlds: cell i lies at b + i -/
/-- aC: the classes of arrays; from 1000 on, the addresses of the cells outside -/
def pm_tr (aC : Nat → ClassId) (b : Nat) (v : Value) : Value := match v with
  | .ref a => .ref (b + a)
  | .retAddr a => .ref (aC (1000 + a))
  | v => v
def pm_trA (b : Nat) (a : vp_A) : vp_A := match a with
  | (n, .inr (.inr (.inr (.inr f)))) => (n, .inr (.inr (.inr (.inr (fun j => (f j).map (fun x => b + x))))))
  | a => a
def pm_trE (aC : Nat → ClassId) (b : Nat) (e : pm_E) : va_E := match e with
  | .inl a => .inl (aC a.1, pm_trA b a.2)
  | .inr o => .inr (o.1, o.2.map (pm_tr aC b))
def pm_w (aC : Nat → ClassId) (b : Nat) (h : pm_H) (sz : Nat) : va_W := (List.range sz).map (fun i => (b + i, pm_trE aC b (h i)))
theorem pm_w_len (aC : Nat → ClassId) (b : Nat) (h : pm_H) (sz : Nat) : (pm_w aC b h sz).length = sz := by simp [pm_w]
theorem pm_w_get {aC : Nat → ClassId} {b : Nat} {h : pm_H} {sz i : Nat} (hi : i < sz) : (pm_w aC b h sz)[i]? = some (b + i, pm_trE aC b (h i)) := by simp [pm_w, hi]
theorem pm_w_at {aC : Nat → ClassId} {b : Nat} {h : pm_H} {sz i : Nat} {q : Nat × va_E} (hq : (pm_w aC b h sz)[i]? = some q) : i < sz ∧ q = (b + i, pm_trE aC b (h i)) := by
  have hl : i < (pm_w aC b h sz).length := (List.getElem?_eq_some_iff.mp hq).1
  rw [pm_w_len] at hl
  rw [pm_w_get hl] at hq
  exact ⟨hl, (Option.some.inj hq).symm⟩
theorem pm_w_cong {aC : Nat → ClassId} {b : Nat} {h h' : pm_H} {sz : Nat} (e : ∀ i, i < sz → h i = h' i) : pm_w aC b h sz = pm_w aC b h' sz := by
  unfold pm_w
  exact List.map_congr_left (fun i hi => by rw [e i (List.mem_range.mp hi)])
theorem pm_w_set {aC : Nat → ClassId} {b : Nat} {h : pm_H} {sz a : Nat} {e : pm_E} {e' : va_E} (he : e' = pm_trE aC b e) : (pm_w aC b h sz).set a (b + a, e') = pm_w aC b (va_up h a e) sz := by
  subst he
  apply List.ext_getElem?
  intro i
  rw [List.getElem?_set, pm_w_len]
  by_cases hi : i < sz
  · rw [pm_w_get hi, pm_w_get hi]
    by_cases ha : a = i
    · subst ha
      simp [va_up, hi]
    · simp [va_up, ha, Ne.symm ha]
  · have h1 : (pm_w aC b h sz)[i]? = none := List.getElem?_eq_none (by rw [pm_w_len]; omega)
    have h2 : (pm_w aC b (va_up h a e) sz)[i]? = none := List.getElem?_eq_none (by rw [pm_w_len]; omega)
    rw [h1, h2]
    by_cases ha : a = i
    · subst ha; simp [hi]
    · simp [ha]
theorem pm_w_push {aC : Nat → ClassId} {b : Nat} {h : pm_H} {sz : Nat} {e : pm_E} {e' : va_E} (he : e' = pm_trE aC b e) : pm_w aC b h sz ++ [(b + sz, e')] = pm_w aC b (va_up h sz e) (sz + 1) := by
  subst he
  unfold pm_w
  rw [List.range_succ, List.map_append]
  congr 1
  · exact List.map_congr_left (fun i hi => by
      have := List.mem_range.mp hi
      simp [va_up, Nat.ne_of_lt this])
  · simp [va_up]
theorem pm_w_D (aC : Nat → ClassId) (b : Nat) (h : pm_H) (sz : Nat) : va_D (fun q => b ≤ q) (pm_w aC b h sz) := by
  refine ⟨fun i j p q hp hq e => ?_, fun k q hq => ?_⟩
  · obtain ⟨-, rfl⟩ := pm_w_at hp
    obtain ⟨-, rfl⟩ := pm_w_at hq
    dsimp only at e
    omega
  · obtain ⟨-, rfl⟩ := pm_w_at hq
    exact Nat.le_add_right b k
theorem pm_cat (aC : Nat → ClassId) (b : Nat) (v : Value) : (pm_tr aC b v).category = v.category := by cases v <;> rfl
theorem pm_sum_tr (aC : Nat → ClassId) (b : Nat) (S : List Value) : ((S.map (pm_tr aC b)).map fun v => v.category).sum = pm_sum S := by
  unfold pm_sum
  rw [List.map_map]
  congr 1
  exact List.map_congr_left (fun v _ => pm_cat aC b v)
/-! locals -/
def pm_loc (aC : Nat → ClassId) (b : Nat) (ls : Array Slot) (n : Nat) (L : pm_L) : Prop := ls.size = n ∧ lv_wf ls ∧ ∀ i v, pm_get L i = some v → ls[i]? = some (.val (pm_tr aC b v))
def pm_ll (aC : Nat → ClassId) (b : Nat) (L : pm_L) : List (Nat × Value) := (List.range L.length).filterMap (fun i => (pm_get L i).map (fun v => (i, pm_tr aC b v)))
theorem pm_get_lt {L : pm_L} {i : Nat} {v : Value} (h : pm_get L i = some v) : i < L.length := by
  unfold pm_get at h
  rcases Nat.lt_or_ge i L.length with q | q
  · exact q
  · rw [List.getElem?_eq_none q] at h
    cases h
theorem pm_ll_mem {aC : Nat → ClassId} {b : Nat} {L : pm_L} {i : Nat} {v : Value} (h : pm_get L i = some v) : (i, pm_tr aC b v) ∈ pm_ll aC b L := by
  unfold pm_ll
  exact List.mem_filterMap.mpr ⟨i, List.mem_range.mpr (pm_get_lt h), by rw [h]; rfl⟩
theorem pm_ll_of {aC : Nat → ClassId} {b : Nat} {L : pm_L} {q : Nat × Value} (h : q ∈ pm_ll aC b L) : ∃ v, pm_get L q.1 = some v ∧ q.2 = pm_tr aC b v := by
  unfold pm_ll at h
  obtain ⟨i, -, hi⟩ := List.mem_filterMap.mp h
  cases hg : pm_get L i with
  | none => rw [hg] at hi; cases hi
  | some v => rw [hg] at hi; cases hi; exact ⟨v, hg, rfl⟩
theorem pm_loc.has {aC : Nat → ClassId} {b : Nat} {ls : Array Slot} {n : Nat} {L : pm_L} (h : pm_loc aC b ls n L) : lv_has ls n (pm_ll aC b L) := by
  refine ⟨h.1, h.2.1, fun q hq => ?_⟩
  obtain ⟨v, h1, h2⟩ := pm_ll_of hq
  rw [h2]
  exact h.2.2 _ _ h1
theorem pm_get_set {L : pm_L} {i j : Nat} {o : Option Value} {w : Value} (h : pm_get (L.set i o) j = some w) : (j = i ∧ o = some w) ∨ (j ≠ i ∧ pm_get L j = some w) := by
  unfold pm_get at h ⊢
  rw [List.getElem?_set] at h
  by_cases e : i = j
  · subst e
    rw [if_pos rfl] at h
    by_cases hl : i < L.length
    · rw [if_pos hl] at h
      cases o with
      | none => cases h
      | some x => exact Or.inl ⟨rfl, h⟩
    · rw [if_neg hl] at h; cases h
  · rw [if_neg e] at h
    exact Or.inr ⟨Ne.symm e, h⟩
theorem pm_get_cut {L : pm_L} {i j : Nat} {w : Value} (h : pm_get (pm_cut L i) j = some w) : pm_get L j = some w ∧ ¬ (j + 1 = i ∧ w.category = 2) := by
  unfold pm_cut at h
  cases i with
  | zero => exact ⟨h, fun q => by omega⟩
  | succ i =>
    dsimp only at h
    by_cases hc : pm_cat2 L i = true
    · rw [if_pos hc] at h
      rcases pm_get_set h with ⟨-, h2⟩ | ⟨h1, h2⟩
      · cases h2
      · exact ⟨h2, fun q => h1 (by omega)⟩
    · rw [if_neg hc] at h
      refine ⟨h, fun q => hc ?_⟩
      have e : j = i := by omega
      subst e
      unfold pm_cat2
      rw [h]
      simp [q.2]
theorem pm_get_st1 {L : pm_L} {i j : Nat} {v w : Value} (h : pm_get (pm_st1 L i v) j = some w) : (j = i ∧ w = v) ∨ (j ≠ i ∧ pm_get L j = some w ∧ ¬ (j + 1 = i ∧ w.category = 2)) := by
  rcases pm_get_set h with ⟨h1, h2⟩ | ⟨h1, h2⟩
  · exact Or.inl ⟨h1, (Option.some.inj h2).symm⟩
  · exact Or.inr ⟨h1, pm_get_cut h2⟩
theorem pm_get_st2 {L : pm_L} {i j : Nat} {v w : Value} (h : pm_get (pm_st2 L i v) j = some w) : (j = i ∧ w = v) ∨ (j ≠ i ∧ j ≠ i + 1 ∧ pm_get L j = some w ∧ ¬ (j + 1 = i ∧ w.category = 2)) := by
  rcases pm_get_set h with ⟨-, h2⟩ | ⟨h0, h2⟩
  · cases h2
  · rcases pm_get_st1 (L := L) (i := i) (v := v) h2 with ⟨h1, h3⟩ | ⟨h1, h3, h4⟩
    · exact Or.inl ⟨h1, h3⟩
    · exact Or.inr ⟨h1, h0, h3, h4⟩
theorem pm_loc.st1 {aC : Nat → ClassId} {b : Nat} {ls : Array Slot} {n i : Nat} {L : pm_L} {v : Value} (h : lv_has ls n ((i, pm_tr aC b v) :: (pm_ll aC b L).filter (fun q => !(q.1 == i) && !(q.1 + 1 == i && q.2.category == 2)))) : pm_loc aC b ls n (pm_st1 L i v) := by
  refine ⟨h.1, h.2.1, fun j w hj => ?_⟩
  rcases pm_get_st1 hj with ⟨rfl, rfl⟩ | ⟨h1, h2, h3⟩
  · exact h.2.2 _ List.mem_cons_self
  · refine h.2.2 (j, pm_tr aC b w) (List.mem_cons_of_mem _ (List.mem_filter.mpr ⟨pm_ll_mem h2, ?_⟩))
    rw [pm_cat]
    simp only [Bool.and_eq_true, Bool.not_eq_true', beq_eq_false_iff_ne, ne_eq, Bool.and_eq_false_iff]
    refine ⟨h1, ?_⟩
    by_cases e : j + 1 = i
    · exact Or.inr (fun q => h3 ⟨e, q⟩)
    · exact Or.inl e
theorem pm_loc.st2 {aC : Nat → ClassId} {b : Nat} {ls : Array Slot} {n i : Nat} {L : pm_L} {v : Value} (h : lv_has ls n ((i, pm_tr aC b v) :: (pm_ll aC b L).filter (fun q => !(q.1 == i) && (!(q.1 == i + 1) && !(q.1 + 1 == i && q.2.category == 2))))) : pm_loc aC b ls n (pm_st2 L i v) := by
  refine ⟨h.1, h.2.1, fun j w hj => ?_⟩
  rcases pm_get_st2 hj with ⟨rfl, rfl⟩ | ⟨h1, h0, h2, h3⟩
  · exact h.2.2 _ List.mem_cons_self
  · refine h.2.2 (j, pm_tr aC b w) (List.mem_cons_of_mem _ (List.mem_filter.mpr ⟨pm_ll_mem h2, ?_⟩))
    rw [pm_cat]
    simp only [Bool.and_eq_true, Bool.not_eq_true', beq_eq_false_iff_ne, ne_eq, Bool.and_eq_false_iff]
    refine ⟨h1, h0, ?_⟩
    by_cases e : j + 1 = i
    · exact Or.inr (fun q => h3 ⟨e, q⟩)
    · exact Or.inl e
theorem pm_args_mem (aC : Nat → ClassId) (b : Nat) : ∀ (vs : List Value) (o i : Nat) (v : Value), pm_get (pm_args vs) i = some v → (o + i, pm_tr aC b v) ∈ lv_args o (vs.map (pm_tr aC b))
  | [], o, i, v, h => by simp [pm_args, pm_get] at h
  | x :: xs, o, i, v, h => by
    unfold pm_args at h
    rw [List.map_cons]
    unfold lv_args
    by_cases hc : x.category = 2
    · rw [if_pos hc] at h
      rw [pm_cat, if_pos hc]
      match i, h with
      | 0, h => cases (Option.some.inj h : x = v); exact List.mem_cons_self
      | 1, h => simp [pm_get] at h
      | i + 2, h =>
        have := pm_args_mem aC b xs (o + 2) i v h
        rw [show o + (i + 2) = o + 2 + i by omega]
        exact List.mem_cons_of_mem _ this
    · rw [if_neg hc] at h
      rw [pm_cat, if_neg hc]
      match i, h with
      | 0, h => cases (Option.some.inj h : x = v); exact List.mem_cons_self
      | i + 1, h =>
        have := pm_args_mem aC b xs (o + 1) i v h
        rw [show o + (i + 1) = o + 1 + i by omega]
        exact List.mem_cons_of_mem _ this
theorem pm_sl_len (aC : Nat → ClassId) (b : Nat) : ∀ vs : List Value, (lg_sl (vs.map (pm_tr aC b))).length = (pm_args vs).length
  | [] => rfl
  | x :: xs => by
    have ih := pm_sl_len aC b xs
    unfold lg_sl at ih
    unfold lg_sl pm_args
    rw [List.map_cons, List.flatMap_cons, List.length_append, pm_cat, ih]
    by_cases hc : x.category = 2
    · simp [hc]; omega
    · simp [hc]; omega
theorem pm_l0_loc (aC : Nat → ClassId) (b : Nat) (vs : List Value) {n : Nat} (hn : (pm_args vs).length ≤ n) : pm_loc aC b ((lg_sl (vs.map (pm_tr aC b)) ++ List.replicate (n - (lg_sl (vs.map (pm_tr aC b))).length) Slot.unset).toArray) n (pm_l0 vs n) := by
  have h := lv_entry (vs.map (pm_tr aC b)) (n := n) (by rw [pm_sl_len]; exact hn)
  refine ⟨h.1, h.2.1, fun i v hi => ?_⟩
  have h2 : pm_get (pm_args vs) i = some v := by
    unfold pm_l0 pm_get at hi
    unfold pm_get
    by_cases hl : i < (pm_args vs).length
    · rw [List.getElem?_append_left hl] at hi
      exact hi
    · rw [List.getElem?_append_right (by omega), List.getElem?_replicate] at hi
      by_cases hq : i - (pm_args vs).length < n - (pm_args vs).length
      · rw [if_pos hq] at hi; cases hi
      · rw [if_neg hq] at hi; cases hi
  have h3 := pm_args_mem aC b vs 0 i v h2
  rw [Nat.zero_add] at h3
  exact h.2.2 _ h3
end MG06strnx2
section MG06strnx3
/-! what the tables must say, and the soundness of one step -/
def pm_kindOk (t : Nat) (ty : FieldType) : Prop := (t = 0 ∧ ty = .int) ∨ (t = 1 ∧ ty = .long) ∨ (t = 2 ∧ ∀ a : Nat, narrow ty (.ref a) = .ref a ∧ fits ty (.ref a) = true) ∨ (t = 3 ∧ ty = .boolean)
def pm_okF (T : pm_Tab) (G : List Cond) : Prop := ∀ o j ci f t, pm_fld T o j = some (ci, f, t) → ∃ (C : String) (F : u_T) (N : Nat) (ty : Nat → FieldType), (pm_cl T)[ci]? = some (C, F, N) ∧ f < N ∧ (F f).1 = C ∧ (∀ w ∈ u_ws C F N, w ∈ G) ∧ Cond.fieldLink (pm_own T o) j C (F f).2.1 (F f).2.2.1 ∈ G ∧ (∀ a, a < N → ∀ b, b < N → a ≠ b → (F a).2.1 ≠ (F b).2.1) ∧ (∀ k, k < N → parseFieldDescriptor (F k).2.2.1 = some (ty k)) ∧ pm_kindOk (t % 10) (ty f) ∧ (t < 10 → (F f).2.2.2 = false) ∧ (10 ≤ t → (F f).2.2.2 = true) ∧ (10 ≤ t → t < 20 → pm_own T o = C)
def pm_okM (T : pm_Tab) (G : List Cond) (t : Nat) : Prop := plainName (pm_y T t).cls = true ∧ pm_own T (pm_o T t) = (pm_y T t).cls ∧ Cond.code (pm_y T t) (pm_code T t) (pm_max T t) (pm_ret T t) ∈ G ∧ Cond.initialized (pm_y T t).cls ∈ G ∧ ((pm_y T t).cls ≠ "java/lang/invoke/MethodHandle" ∧ (pm_y T t).cls ≠ "java/lang/invoke/VarHandle") ∧ (pm_init T t = true → (pm_y T t).name = "<init>")
def pm_pars (T : pm_Tab) (t n : Nat) : Prop := (parseMethodDescriptor (pm_y T t).desc).map (fun d => d.parameters.length) = some n
def pm_okW (T : pm_Tab) (G Ns : List Cond) (o j w t : Nat) : Prop := match w with
  | 0 => pm_okM T G t ∧ Cond.methodLink (pm_own T o) j (pm_y T t) ∈ G ∧ Cond.instanceMethod (pm_y T t) ∈ G ∧ Cond.selects (pm_y T t).cls (pm_y T t) (pm_y T t) ∈ G ∧ (∃ n, pm_na T t = n + 1 ∧ pm_pars T t n) ∧ ∃ F N, (pm_cl T)[pm_ci T t]? = some ((pm_y T t).cls, F, N)
  | 1 => False
  | 2 => pm_okM T G t ∧ Cond.methodLink (pm_own T o) j (pm_y T t) ∈ G ∧ Cond.static (pm_y T t) ∈ G ∧ pm_pars T t (pm_na T t)
  | 3 => pm_okM T G t ∧ (∃ host, Cond.methodLinkNest (pm_own T o) j (pm_y T t) host ∈ Ns) ∧ Cond.static (pm_y T t) ∈ G ∧ pm_pars T t (pm_na T t)
  | 4 => pm_okM T G t ∧ Cond.methodLink (pm_own T o) j (pm_y T t) ∈ G ∧ Cond.instanceMethod (pm_y T t) ∈ G ∧ (pm_y T t).name = "<init>" ∧ pm_ret T t = none ∧ ∃ n, pm_na T t = n + 1 ∧ pm_pars T t n
  | 5 => pm_okM T G t ∧ (∃ host, Cond.methodLinkNest (pm_own T o) j (pm_y T t) host ∈ Ns) ∧ Cond.instanceMethod (pm_y T t) ∈ G ∧ (pm_y T t).name = "<init>" ∧ pm_ret T t = none ∧ ∃ n, pm_na T t = n + 1 ∧ pm_pars T t n
  | 6 => Cond.methodLink (pm_own T o) j Lib.objectInit ∈ G ∧ Cond.instanceMethod Lib.objectInit ∈ G ∧ Cond.code Lib.objectInit ⟨#[0xb1]⟩ 1 none ∈ G
  | 7 => Cond.methodLink (pm_own T o) j Lib.Math.min.name ∈ G ∧ Cond.static Lib.Math.min.name ∈ G ∧ Cond.initialized "java/lang/Math" ∈ G ∧ Cond.code Lib.Math.min.name Lib.Math.min.code 2 (some .int) ∈ G
  | 8 => Cond.methodLink (pm_own T o) j Lib.Math.max.name ∈ G ∧ Cond.static Lib.Math.max.name ∈ G ∧ Cond.initialized "java/lang/Math" ∈ G ∧ Cond.code Lib.Math.max.name Lib.Math.max.code 2 (some .int) ∈ G
  | 9 => Cond.methodLink (pm_own T o) j arraycopyName ∈ G ∧ Cond.native arraycopyName ∈ G ∧ Cond.static arraycopyName ∈ G ∧ Cond.initialized "java/lang/System" ∈ G
  | 10 => Cond.methodLink (pm_own T o) j st_yL ∈ G ∧ ∀ w ∈ st_ws, w ∈ G
  | 11 => Cond.methodLink (pm_own T o) j st_yA ∈ G ∧ ∀ w ∈ st_ws, w ∈ G
  | _ => False
def pm_okC (T : pm_Tab) (G Ns : List Cond) : Prop := ∀ o j q, pm_clk T o j = some q → (q < 1000 → ∃ (C : String) (F : u_T) (N : Nat) (ty : Nat → FieldType), (pm_cl T)[q]? = some (C, F, N) ∧ (∀ w ∈ u_ws C F N, w ∈ G) ∧ (∀ k, k < N → parseFieldDescriptor (F k).2.2.1 = some (ty k)) ∧ Cond.classLink (pm_own T o) j C ∈ G ∧ Cond.instantiable C N ∈ G ∧ Cond.initialized C ∈ G ∧ (pm_df T q).length = N ∧ (∀ j, j < N → defaultValue (ty j) = vp_V (pm_df T q) j) ∧ ∀ (aC : Nat → ClassId) (b : Nat), (pm_df T q).map (pm_tr aC b) = pm_df T q) ∧ (1000 ≤ q → ∀ o', o = 100 + o' → ∃ C : String, (pm_ty T)[q - 1000]? = some (.object C) ∧ Cond.classLink (pm_own T o') j C ∈ G ∧ Cond.arrayOver (.object C) ∈ Ns)
def pm_ok (T : pm_Tab) (G Ns : List Cond) : Prop :=
  (∀ k pc i len, pm_ins T k pc = some (i, len) → decode (pm_code T k) pc = .ok (i, len)) ∧
  (∀ w ∈ G, goodWord w = true) ∧
  (∀ w ∈ Ns, (∀ (s U : State), s.vm = U.vm → va_Nw w s → va_Nw w U) ∧ ∀ (s U : State), s.WarmedH U.vm → va_Nw w s → va_Nw w U) ∧
  pm_okF T G ∧ (∀ o j w t, pm_mlk T o j = some (w, t) → pm_okW T G Ns o j w t) ∧ pm_okC T G Ns ∧
  (∀ ty, pm_tysAt T ty ≠ none → Cond.arrayClass ty ∈ G ∨ ∃ C, ty = .object C) ∧
  (∀ o j v, pm_con T o j = some v → Jvm.Cond.constant (pm_own T o) j v ∈ G) ∧ (∀ o j v, pm_conL T o j = some v → Jvm.Cond.constantLong (pm_own T o) j v ∈ G)
def pm_tys (T : pm_Tab) (aC : Nat → ClassId) : List (ClassId × FieldType) := (List.range (pm_ty T).length).map (fun i => (aC i, (pm_ty T).getD i .int))
theorem pm_tys_get {T : pm_Tab} {aC : Nat → ClassId} {kd : Nat} {ty : FieldType} (h : (pm_ty T)[kd]? = some ty) : (pm_tys T aC)[kd]? = some (aC kd, ty) := by
  have hl : kd < (pm_ty T).length := (List.getElem?_eq_some_iff.mp h).1
  have e := (List.getElem?_eq_some_iff.mp h).2
  simp [pm_tys, hl, List.getD, e]
theorem pm_tysAt_get {T : pm_Tab} {kd : Nat} {ty : FieldType} (h : pm_tysAt T ty = some kd) : (pm_ty T)[kd]? = some ty := by
  unfold pm_tysAt at h
  obtain ⟨hl, h1, -⟩ := List.findIdx?_eq_some_iff_getElem.mp h
  rw [List.getElem?_eq_getElem hl]
  exact congrArg some (eq_of_beq h1)
/-- the String constants: each an object of String with its bytes, outside of A -/
def pm_ZS (aC : Nat → ClassId) (adV : Nat → Nat) (A : Nat → Prop) (U : State) (H : Heap) : Prop := ∀ i : Nat, i < 5 → va_O "java/lang/String" (aC (1000 + i)) A U H ∧ va_OF "java/lang/String" "coder" "B" (.int 0) (aC (1000 + i)) A U H ∧ va_OF "java/lang/String" "value" "[B" (.ref (adV i)) (aC (1000 + i)) A U H ∧ va_T .byte (adV i) (st_tx i).length (fun j => .int ((st_tx i).getD j 0)) A U H
def pm_Z (T : pm_Tab) (aC : Nat → ClassId) (b : Nat) (U : State) : Prop := (∀ o j i, st_str o j = some i → ∃ tx, vk_R (pm_own T o) j tx (aC (1000 + i)) U) ∧ va_Z "java/lang/String" "COMPACT_STRINGS" "Z" (.int 1) (fun q => b ≤ q) U U.heap ∧ (∃ v, va_Z "jdk/internal/util/Preconditions" "SIOOBE_FORMATTER" "Ljava/util/function/BiFunction;" v (fun q => b ≤ q) U U.heap ∧ v.category = 1) ∧ ∃ adV, pm_ZS aC adV (fun q => b ≤ q) U U.heap
theorem pm_Z.same {T : pm_Tab} {aC : Nat → ClassId} {b : Nat} {u U : State} (hv : U.vm = u.vm) (hh : U.heap = u.heap) (h : pm_Z T aC b u) : pm_Z T aC b U := by
  have ha : u.vm.Alike U.vm := by rw [hv]; exact Vm.Alike.refl u.vm
  obtain ⟨h1, h2, ⟨v, h3, h4⟩, adV, h5⟩ := h
  refine ⟨fun o j i e => ?_, ?_, ⟨v, ?_, h4⟩, adV, fun i hi => ?_⟩
  · obtain ⟨tx, q⟩ := h1 o j i e
    exact ⟨tx, vk_R.same hv q⟩
  · rw [hh]; exact va_Z.moved ha h2
  · rw [hh]; exact va_Z.moved ha h3
  · rw [hh]
    obtain ⟨q1, q2, q3, q4⟩ := h5 i hi
    exact ⟨va_O.moved ha q1, va_OF.moved ha q2, va_OF.moved ha q3, va_T.moved ha q4⟩
theorem pm_Z.warm {T : pm_Tab} {aC : Nat → ClassId} {b : Nat} {s U : State} {locs : List Loc} (hW : s.WarmedH U.vm) (hS : va_S (fun q => b ≤ q) s.heap U.heap locs) (h : pm_Z T aC b s) : pm_Z T aC b U := by
  have ha : s.vm.Alike U.vm := hW.alike
  obtain ⟨h1, h2, ⟨v, h3, h4⟩, adV, h5⟩ := h
  refine ⟨fun o j i e => ?_, ?_, ⟨v, ?_, h4⟩, adV, fun i hi => ?_⟩
  · obtain ⟨tx, q⟩ := h1 o j i e
    exact ⟨tx, vk_R.warm hW q⟩
  · exact va_Z.moved ha (h2.kept hS.2.1)
  · exact va_Z.moved ha (h3.kept hS.2.1)
  · obtain ⟨q1, q2, q3, q4⟩ := h5 i hi
    exact ⟨va_O.moved ha (q1.kept hS.2.1), va_OF.moved ha (q2.kept hS.2.1), va_OF.moved ha (q3.kept hS.2.1), va_T.moved ha (q4.kept hS.2.1)⟩
def pm_K (T : pm_Tab) (Ns : List Cond) (D : va_G) (aC : Nat → ClassId) (b : Nat) (U : State) : Prop := va_K D (pm_cl T) (pm_tys T aC) U ∧ (∀ w ∈ Ns, va_Nw w U) ∧ pm_Z T aC b U
/-- the method k is being walked -/
def pm_C (T : pm_Tab) (G Ns : List Cond) (D : va_G) (aC : Nat → ClassId) (b k : Nat) (p : Program) (s : State) (m : MethodId) (args : Array Value) (meth : Method) (c : Code) : Prop :=
  p.tables.exec = Jvm.exec ∧ c.code = pm_code T k ∧ c.maxLocals = pm_max T k ∧ s.vm.findClass (pm_own T (pm_o T k)) = some m.cls ∧ (∀ w ∈ G, w.before args s = true) ∧ pm_K T Ns D aC b s ∧ (pm_init T k = true → meth.name = "<init>")
section PMV
variable {p : Program} {l : Launch} {e : Env} {R : Room} {s : State} {m : MethodId} {args : Array Value} {below : List Frame} {meth : Method} {c : Code} {H : Heap} {locs : List Loc} {cells slots : Nat} {Q : State → Prop}
/-- the heap's size, by the walk's own account -/
theorem pm_sized {g : JFrame} (k : H.size ≤ s.heap.size + cells → W p l e R s m args below meth c H locs cells slots Q g) : W p l e R s m args below meth c H locs cells slots Q g := fun T hT X => k (by rw [← hT]; exact X.heapSize) T hT X
/-- from the pure state st the real machine comes to Q -/
def pm_V (p : Program) (l : Launch) (e : Env) (R : Room) (s : State) (m : MethodId) (args : Array Value) (below : List Frame) (meth : Method) (c : Code) (Q : State → Prop) (T : pm_Tab) (D : va_G) (aC : Nat → ClassId) (b k sz0 sl0 : Nat) (st : pm_St) : Prop :=
  ∀ (H : Heap) (locs : List Loc) (ls : Array Slot), va_P D (pm_cl T) (pm_w aC b st.2.2.2.1 st.2.2.2.2.1) H → va_S (fun q => b ≤ q) s.heap H locs → pm_loc aC b ls (pm_max T k) st.2.1 → W p l e R s m args below meth c H locs (st.2.2.2.2.1 - sz0) (st.2.2.2.2.2 - sl0) Q (F0 m st.1 ls (st.2.2.1.map (pm_tr aC b)))
variable {T : pm_Tab} {G Ns : List Cond} {D : va_G} {aC : Nat → ClassId} {b k fr lo pc sz sl sz0 sl0 : Nat} {L : pm_L} {S : List Value} {h : pm_H} {st' : pm_St}
theorem pm_bi_inv {f : Int32 → Int32 → Int32} (hh : pm_bi f pc L S h sz sl = some st') : ∃ x y r, S = .int y :: .int x :: r ∧ st' = (pc + 1, L, .int (f x y) :: r, h, sz, sl) := by
  unfold pm_bi at hh
  split at hh
  · cases hh; exact ⟨_, _, _, rfl, rfl⟩
  · cases hh
theorem pm_bd_inv {f : Int32 → Int32 → Int32} (hh : pm_bd f pc L S h sz sl = some st') : ∃ x y r, S = .int y :: .int x :: r ∧ ¬ y = 0 ∧ st' = (pc + 1, L, .int (f x y) :: r, h, sz, sl) := by
  unfold pm_bd at hh
  split at hh
  · split at hh
    · cases hh
    · rename_i hy; cases hh; exact ⟨_, _, _, rfl, hy, rfl⟩
  · cases hh
theorem pm_bl_inv {f : Int64 → Int64 → Int64} (hh : pm_bl f pc L S h sz sl = some st') : ∃ x y r, S = .long y :: .long x :: r ∧ st' = (pc + 1, L, .long (f x y) :: r, h, sz, sl) := by
  unfold pm_bl at hh
  split at hh
  · cases hh; exact ⟨_, _, _, rfl, rfl⟩
  · cases hh
theorem pm_bdL_inv {f : Int64 → Int64 → Int64} (hh : pm_bdL f pc L S h sz sl = some st') : ∃ x y r, S = .long y :: .long x :: r ∧ ¬ y = 0 ∧ st' = (pc + 1, L, .long (f x y) :: r, h, sz, sl) := by
  unfold pm_bdL at hh
  split at hh
  · split at hh
    · cases hh
    · rename_i hy; cases hh; exact ⟨_, _, _, rfl, hy, rfl⟩
  · cases hh
theorem pm_ui_inv {f : Int32 → Value} (hh : pm_ui f pc L S h sz sl = some st') : ∃ x r, S = .int x :: r ∧ st' = (pc + 1, L, f x :: r, h, sz, sl) := by
  unfold pm_ui at hh
  split at hh
  · cases hh; exact ⟨_, _, rfl, rfl⟩
  · cases hh
theorem pm_lo_inv {t n i : Nat} (hh : pm_lo t n pc i L S h sz sl = some st') : ∃ v, pm_get L i = some v ∧ pm_isT t v = true ∧ st' = (pc + n, L, v :: S, h, sz, sl) := by
  unfold pm_lo pm_ld at hh
  cases hg : pm_get L i with
  | none => rw [hg] at hh; cases hh
  | some v =>
    rw [hg] at hh
    dsimp only at hh
    by_cases ht : pm_isT t v = true
    · rw [if_pos ht] at hh; cases hh; exact ⟨v, rfl, ht, rfl⟩
    · rw [if_neg ht] at hh; cases hh
theorem pm_isT_0 {v : Value} (hh : pm_isT 0 v = true) : ∃ x, v = .int x := by cases v <;> first | exact ⟨_, rfl⟩ | cases hh
theorem pm_isT_1 {v : Value} (hh : pm_isT 1 v = true) : ∃ x, v = .long x := by cases v <;> first | exact ⟨_, rfl⟩ | cases hh
theorem pm_isT_2 {v : Value} (hh : pm_isT 2 v = true) : ∃ x, v = .ref x ∨ v = .retAddr x := by cases v <;> first | exact ⟨_, Or.inl rfl⟩ | exact ⟨_, Or.inr rfl⟩ | cases hh
theorem pm_so_inv {t n mx i : Nat} (hh : pm_so t n mx pc i L S h sz sl = some st') : ∃ v r, S = v :: r ∧ pm_isT t v = true ∧ i < mx ∧ st' = (pc + n, pm_st1 L i v, r, h, sz, sl) := by
  unfold pm_so at hh
  split at hh
  · split at hh
    · rename_i hc; cases hh; exact ⟨_, _, rfl, hc.1, hc.2, rfl⟩
    · cases hh
  · cases hh
theorem pm_sL_inv {n mx i : Nat} (hh : pm_sL n mx pc i L S h sz sl = some st') : ∃ x r, S = .long x :: r ∧ i + 1 < mx ∧ st' = (pc + n, pm_st2 L i (.long x), r, h, sz, sl) := by
  unfold pm_sL at hh
  split at hh
  · split at hh
    · rename_i hc; cases hh; exact ⟨_, _, rfl, hc, rfl⟩
    · cases hh
  · cases hh
theorem pm_jp_inv {off : Int} (hh : pm_jp pc off L S h sz sl = some st') : ∃ t : Nat, (pc : Int) + off = (t : Int) ∧ st' = (t, L, S, h, sz, sl) := by
  unfold pm_jp pm_tgt at hh
  by_cases hp : 0 ≤ (pc : Int) + off
  · rw [if_pos hp] at hh; cases hh; exact ⟨_, (Int.toNat_of_nonneg hp).symm, rfl⟩
  · rw [if_neg hp] at hh; cases hh
theorem pm_br_inv {x : Bool} {off : Int} (hh : pm_br x pc off L S h sz sl = some st') : ∃ t : Nat, (pc : Int) + off = (t : Int) ∧ ((x = true ∧ st' = (t, L, S, h, sz, sl)) ∨ (x = false ∧ st' = (pc + 3, L, S, h, sz, sl))) := by
  unfold pm_br pm_tgt at hh
  by_cases hp : 0 ≤ (pc : Int) + off
  · rw [if_pos hp] at hh
    refine ⟨_, (Int.toNat_of_nonneg hp).symm, ?_⟩
    cases x with
    | true => cases hh; exact Or.inl ⟨rfl, rfl⟩
    | false => cases hh; exact Or.inr ⟨rfl, rfl⟩
  · rw [if_neg hp] at hh; cases hh
theorem pm_iar_inv {ty : FieldType} {a kd n : Nat} {f : Nat → Int32} (hh : pm_iar T ty h sz a = some (kd, n, f)) : a < sz ∧ h a = .inl (kd, n, .inl f) ∧ (pm_ty T)[kd]? = some ty := by
  unfold pm_iar at hh
  split at hh
  · rename_i ha
    split at hh
    · rename_i e
      split at hh
      · rename_i hk; cases hh; exact ⟨ha, e, hk⟩
      · cases hh
    · cases hh
  · cases hh
theorem pm_lar_inv {a kd n : Nat} {f : Nat → Int64} (hh : pm_lar T h sz a = some (kd, n, f)) : a < sz ∧ h a = .inl (kd, n, .inr (.inl f)) ∧ (pm_ty T)[kd]? = some .long := by
  unfold pm_lar at hh
  split at hh
  · rename_i ha
    split at hh
    · rename_i e
      split at hh
      · rename_i hk; cases hh; exact ⟨ha, e, hk⟩
      · cases hh
    · cases hh
  · cases hh
theorem pm_qar_inv {a kd n : Nat} {f : Nat → Option Nat} (hh : pm_qar h sz a = some (kd, n, f)) : a < sz ∧ h a = .inl (kd, n, .inr (.inr (.inr (.inr f)))) := by
  unfold pm_qar at hh
  split at hh
  · rename_i ha
    split at hh
    · rename_i e; cases hh; exact ⟨ha, e⟩
    · cases hh
  · cases hh
theorem pm_obj_inv {a : Nat} {o : Nat × List Value} (hh : pm_obj h sz a = some o) : a < sz ∧ h a = .inr o := by
  unfold pm_obj at hh
  split at hh
  · rename_i ha
    split at hh
    · rename_i e; cases hh; exact ⟨ha, e⟩
    · cases hh
  · cases hh
theorem pm_in_of {i : Int32} {n : Nat} (hh : pm_in i n = true) : vp_in i n := by
  have h2 : ¬ (i < 0 ∨ n ≤ i.toNatClampNeg) := of_decide_eq_true hh
  exact h2
theorem pm_cmp_t {cc : Jvm.ClassFile.Cond} {x y : Int32} {P : Prop} [Decidable P] (e : pm_cmp cc x y = decide P) : (pm_cmp cc x y = true → P) ∧ (pm_cmp cc x y = false → ¬ P) := by
  rw [e]
  exact ⟨of_decide_eq_true, of_decide_eq_false⟩
end PMV
end MG06strnx3
section MG06strnx4
/-! one simple instruction -/
section PMS
variable {p : Program} {l : Launch} {e : Env} {R : Room} {s : State} {m : MethodId} {args : Array Value} {below : List Frame} {meth : Method} {c : Code} {Q : State → Prop}
variable {T : pm_Tab} {G Ns : List Cond} {D : va_G} {aC : Nat → ClassId} {b k fr lo pc sz sl sz0 sl0 : Nat} {L : pm_L} {S : List Value} {h : pm_H} {st' : pm_St}
theorem pm_w_P {H : Heap} {a : Nat} (hP : va_P D (pm_cl T) (pm_w aC b h sz) H) (ha : a < sz) {e : pm_E} (he : h a = e) : (pm_w aC b h sz)[a]? = some (b + a, pm_trE aC b e) := by rw [← he]; exact pm_w_get ha
theorem pm_setP {H1 : Heap} {a : Nat} {e : pm_E} {e' : va_E} (hP1 : va_P D (pm_cl T) ((pm_w aC b h sz).set a (b + a, e')) H1) (he : e' = pm_trE aC b e) : va_P D (pm_cl T) (pm_w aC b (va_up h a e) sz) H1 := by
  rw [pm_w_set he] at hP1
  exact hP1
theorem pm_set (f : Nat) (fs : List Value) (v : Value) : (fs.map (pm_tr aC b)).set f (pm_tr aC b v) = (fs.set f v).map (pm_tr aC b) := by rw [List.map_set]
theorem pm_getfield (OK : pm_ok T G Ns) (hC : pm_C T G Ns D aC b k p s m args meth c) {j : Nat} (hd : decode (pm_code T k) pc = .ok (.getfield j, 3)) (hh : pm_gf T k j pc L S h sz sl = some st')
    (kk : pm_V p l e R s m args below meth c Q T D aC b k sz0 sl0 st') : pm_V p l e R s m args below meth c Q T D aC b k sz0 sl0 (pc, L, S, h, sz, sl) := by
  obtain ⟨hx, hb, -, hown, hts, hK, -⟩ := hC
  unfold pm_gf at hh
  split at hh
  case h_2 => cases hh
  case h_1 a r =>
  split at hh
  case h_2 => cases hh
  case h_1 ci fs cj f t e1 e2 =>
  split at hh
  case isFalse => cases hh
  case isTrue hci =>
  subst hci
  split at hh
  case h_2 => cases hh
  case h_1 v hv =>
  cases hh
  obtain ⟨ha, hcell⟩ := pm_obj_inv e1
  obtain ⟨C, F, N, ty, h1, h2, h3, h4, h5, -⟩ := OK.2.2.2.1 _ _ _ _ _ e2
  intro H locs ls hP hS hl
  refine va_get hx hb hts h4 hown hK.1 hP a (pm_w_P hP ha hcell) h1 f h2 (hts _ h5) (fun x hx => by rw [h3] at hx; exact hx) (v := pm_tr aC b v) ?_ hd (kk H locs ls hP hS hl)
  rw [List.getElem?_map, hv]
  rfl
theorem pm_fits_ok {t : Nat} {ty : FieldType} {v : Value} (hk : pm_kindOk t ty) (hf : pm_fits t v = true) : narrow ty (pm_tr aC b v) = pm_tr aC b v ∧ fits ty (pm_tr aC b v) = true := by
  rcases hk with ⟨rfl, rfl⟩ | ⟨rfl, rfl⟩ | ⟨rfl, hr⟩ | ⟨rfl, rfl⟩
  · cases v <;> first | exact ⟨rfl, rfl⟩ | cases hf
  · cases v <;> first | exact ⟨rfl, rfl⟩ | cases hf
  · cases v <;> first | exact hr _ | cases hf
  · cases v with
    | int x =>
      have hx : x = 0 ∨ x = 1 := of_decide_eq_true hf
      rcases hx with rfl | rfl
      · exact ⟨rfl, show fits .boolean (.int 0) = true by decide⟩
      · exact ⟨rfl, show fits .boolean (.int 1) = true by decide⟩
    | _ => cases hf
theorem pm_putfield (OK : pm_ok T G Ns) (hC : pm_C T G Ns D aC b k p s m args meth c) {j : Nat} (hd : decode (pm_code T k) pc = .ok (.putfield j, 3)) (hh : pm_pf T k j pc L S h sz sl = some st')
    (kk : pm_V p l e R s m args below meth c Q T D aC b k sz0 sl0 st') : pm_V p l e R s m args below meth c Q T D aC b k sz0 sl0 (pc, L, S, h, sz, sl) := by
  obtain ⟨hx, hb, -, hown, hts, hK, hin⟩ := hC
  unfold pm_pf at hh
  split at hh
  case h_2 => cases hh
  case h_1 v a r =>
  split at hh
  case h_2 => cases hh
  case h_1 ci fs cj f t e1 e2 =>
  split at hh
  case isFalse => cases hh
  case isTrue hc =>
  cases hh
  obtain ⟨rfl, hf, hfit, hfin⟩ := hc
  obtain ⟨ha, hcell⟩ := pm_obj_inv e1
  obtain ⟨C, F, N, ty, h1, h2, h3, h4, h5, h6, h7, h8, h9, h10, h11⟩ := OK.2.2.2.1 _ _ _ _ _ e2
  intro H locs ls hP hS hl
  obtain ⟨hn, hft⟩ := pm_fits_ok (b := b) h8 hfit
  have fin : ∀ (H1 : Heap) (locs1 : List Loc), va_P D (pm_cl T) ((pm_w aC b h sz).set a (b + a, .inr (cj, (fs.map (pm_tr aC b)).set f (pm_tr aC b v)))) H1 → va_D (fun q => b ≤ q) ((pm_w aC b h sz).set a (b + a, .inr (cj, (fs.map (pm_tr aC b)).set f (pm_tr aC b v)))) → va_S (fun q => b ≤ q) s.heap H1 locs1 → W p l e R s m args below meth c H1 locs1 (sz - sz0) (sl - sl0) Q (F0 m (pc + 3) ls (r.map (pm_tr aC b))) := by
    intro H1 locs1 hP1 _ hS1
    exact kk H1 locs1 ls (pm_setP hP1 (by rw [pm_set]; rfl)) hS1 hl
  by_cases ht : t < 10
  · exact va_put hx hb hts h4 ty h7 h6 hown hK.1 hP (pm_w_D aC b h sz) hS a (pm_w_P hP ha hcell) h1 f h2 (hts _ h5) (fun x hx => by rw [h3] at hx; exact hx) (h9 ht) (h7 f h2) hn hft (by rw [List.length_map]; exact hf) hd fin
  · obtain ⟨ht2, hi⟩ := hfin.resolve_left ht
    exact va_putF hx hb hts h4 ty h7 h6 hown hK.1 hP (pm_w_D aC b h sz) hS a (pm_w_P hP ha hcell) h1 f h2 (hts _ h5) (fun x hx => by rw [h3] at hx; exact hx) (h10 (by omega)) (hin hi) (by rw [h3]; exact (h11 (by omega) ht2).symm) (h7 f h2) hn hft (by rw [List.length_map]; exact hf) hd fin
theorem pm_iald (hC : pm_C T G Ns D aC b k p s m args meth c) {ty : FieldType}
    (row : ∀ (H : Heap) (locs : List Loc) (ls : Array Slot) (a kd n : Nat) (f : Nat → Int32) (i : Int32) (r : List Value), va_P D (pm_cl T) (pm_w aC b h sz) H → (pm_w aC b h sz)[a]? = some (b + a, .inl (aC kd, n, .inl f)) → (pm_tys T aC)[kd]? = some (aC kd, ty) → vp_in i n → W p l e R s m args below meth c H locs (sz - sz0) (sl - sl0) Q (F0 m (pc + 1) ls (.int (f i.toNatClampNeg) :: r)) → W p l e R s m args below meth c H locs (sz - sz0) (sl - sl0) Q (F0 m pc ls (.int i :: .ref (b + a) :: r)))
    (hh : pm_ia T ty pc L S h sz sl = some st') (kk : pm_V p l e R s m args below meth c Q T D aC b k sz0 sl0 st') : pm_V p l e R s m args below meth c Q T D aC b k sz0 sl0 (pc, L, S, h, sz, sl) := by
  unfold pm_ia at hh
  split at hh
  case h_2 => cases hh
  case h_1 i a r =>
  split at hh
  case h_2 => cases hh
  case h_1 kd n f e1 =>
  split at hh
  case isFalse => cases hh
  case isTrue hi =>
  cases hh
  obtain ⟨ha, hcell, hty⟩ := pm_iar_inv e1
  intro H locs ls hP hS hl
  exact row H locs ls a kd n f i (r.map (pm_tr aC b)) hP (pm_w_P hP ha hcell) (pm_tys_get hty) (pm_in_of hi) (kk H locs ls hP hS hl)
theorem pm_iast (hC : pm_C T G Ns D aC b k p s m args meth c) {ty : FieldType} {nr : Int32 → Int32}
    (row : ∀ (H : Heap) (locs : List Loc) (ls : Array Slot) (a kd n : Nat) (f : Nat → Int32) (x i : Int32) (r : List Value), va_P D (pm_cl T) (pm_w aC b h sz) H → va_D (fun q => b ≤ q) (pm_w aC b h sz) → va_S (fun q => b ≤ q) s.heap H locs → (pm_w aC b h sz)[a]? = some (b + a, .inl (aC kd, n, .inl f)) → (pm_tys T aC)[kd]? = some (aC kd, ty) → vp_in i n → (∀ (H1 : Heap) (locs1 : List Loc), va_P D (pm_cl T) ((pm_w aC b h sz).set a (b + a, .inl (aC kd, n, .inl (upd f i.toNatClampNeg (nr x))))) H1 → va_D (fun q => b ≤ q) ((pm_w aC b h sz).set a (b + a, .inl (aC kd, n, .inl (upd f i.toNatClampNeg (nr x))))) → va_S (fun q => b ≤ q) s.heap H1 locs1 → W p l e R s m args below meth c H1 locs1 (sz - sz0) (sl - sl0) Q (F0 m (pc + 1) ls r)) → W p l e R s m args below meth c H locs (sz - sz0) (sl - sl0) Q (F0 m pc ls (.int x :: .int i :: .ref (b + a) :: r)))
    (hh : pm_iS T ty nr pc L S h sz sl = some st') (kk : pm_V p l e R s m args below meth c Q T D aC b k sz0 sl0 st') : pm_V p l e R s m args below meth c Q T D aC b k sz0 sl0 (pc, L, S, h, sz, sl) := by
  unfold pm_iS at hh
  split at hh
  case h_2 => cases hh
  case h_1 x i a r =>
  split at hh
  case h_2 => cases hh
  case h_1 kd n f e1 =>
  split at hh
  case isFalse => cases hh
  case isTrue hi =>
  cases hh
  obtain ⟨ha, hcell, hty⟩ := pm_iar_inv e1
  intro H locs ls hP hS hl
  refine row H locs ls a kd n f x i (r.map (pm_tr aC b)) hP (pm_w_D aC b h sz) hS (pm_w_P hP ha hcell) (pm_tys_get hty) (pm_in_of hi) (fun H1 locs1 hP1 _ hS1 => ?_)
  exact kk H1 locs1 ls (pm_setP hP1 rfl) hS1 hl
theorem pm_lald (hC : pm_C T G Ns D aC b k p s m args meth c) (hd : decode (pm_code T k) pc = .ok (.laload, 1))
    (hh : pm_la T pc L S h sz sl = some st') (kk : pm_V p l e R s m args below meth c Q T D aC b k sz0 sl0 st') : pm_V p l e R s m args below meth c Q T D aC b k sz0 sl0 (pc, L, S, h, sz, sl) := by
  obtain ⟨hx, hb, -, -, -, hK, -⟩ := hC
  unfold pm_la at hh
  split at hh
  case h_2 => cases hh
  case h_1 i a r =>
  split at hh
  case h_2 => cases hh
  case h_1 kd n f e1 =>
  split at hh
  case isFalse => cases hh
  case isTrue hi =>
  cases hh
  obtain ⟨ha, hcell, hty⟩ := pm_lar_inv e1
  intro H locs ls hP hS hl
  exact va_lald hx hb hK.1 hP a kd (pm_w_P hP ha hcell) (pm_tys_get hty) (pm_in_of hi) hd (kk H locs ls hP hS hl)
theorem pm_last (hC : pm_C T G Ns D aC b k p s m args meth c) (hd : decode (pm_code T k) pc = .ok (.lastore, 1))
    (hh : pm_lS T pc L S h sz sl = some st') (kk : pm_V p l e R s m args below meth c Q T D aC b k sz0 sl0 st') : pm_V p l e R s m args below meth c Q T D aC b k sz0 sl0 (pc, L, S, h, sz, sl) := by
  obtain ⟨hx, hb, -, -, -, hK, -⟩ := hC
  unfold pm_lS at hh
  split at hh
  case h_2 => cases hh
  case h_1 x i a r =>
  split at hh
  case h_2 => cases hh
  case h_1 kd n f e1 =>
  split at hh
  case isFalse => cases hh
  case isTrue hi =>
  cases hh
  obtain ⟨ha, hcell, hty⟩ := pm_lar_inv e1
  intro H locs ls hP hS hl
  refine va_last hx hb hK.1 hP (pm_w_D aC b h sz) hS a kd (pm_w_P hP ha hcell) (pm_tys_get hty) (pm_in_of hi) hd (fun H1 locs1 hP1 _ hS1 => ?_)
  exact kk H1 locs1 ls (pm_setP hP1 rfl) hS1 hl
theorem pm_rf (o : Option Nat) : va_rf (o.map (fun x => b + x)) = pm_tr aC b (va_rf o) := by cases o <;> rfl
theorem pm_isObj_ex {t : Option FieldType} (hh : pm_isObj t = true) : ∃ C, t = some (.object C) := by
  unfold pm_isObj at hh
  split at hh
  · exact ⟨_, rfl⟩
  · cases hh
theorem pm_aald (hC : pm_C T G Ns D aC b k p s m args meth c) (hd : decode (pm_code T k) pc = .ok (.aaload, 1))
    (hh : pm_qa T pc L S h sz sl = some st') (kk : pm_V p l e R s m args below meth c Q T D aC b k sz0 sl0 st') : pm_V p l e R s m args below meth c Q T D aC b k sz0 sl0 (pc, L, S, h, sz, sl) := by
  obtain ⟨hx, hb, -, -, -, hK, -⟩ := hC
  unfold pm_qa at hh
  split at hh
  case h_2 => cases hh
  case h_1 i a r =>
  split at hh
  case h_2 => cases hh
  case h_1 kd n f e1 =>
  split at hh
  case isFalse => cases hh
  case isTrue hi =>
  cases hh
  obtain ⟨ha, hcell⟩ := pm_qar_inv e1
  obtain ⟨C, hty⟩ := pm_isObj_ex hi.2
  intro H locs ls hP hS hl
  refine va_aldq hx hb hK.1 hP a kd (pm_w_P hP ha hcell) (pm_tys_get hty) (pm_in_of hi.1) hd ?_
  rw [pm_rf]
  exact kk H locs ls hP hS hl
theorem pm_aast (hC : pm_C T G Ns D aC b k p s m args meth c) (hd : decode (pm_code T k) pc = .ok (.aastore, 1))
    (hh : pm_qS T pc L S h sz sl = some st') (kk : pm_V p l e R s m args below meth c Q T D aC b k sz0 sl0 st') : pm_V p l e R s m args below meth c Q T D aC b k sz0 sl0 (pc, L, S, h, sz, sl) := by
  obtain ⟨hx, hb, -, -, -, hK, -⟩ := hC
  unfold pm_qS at hh
  split at hh
  case h_2 => cases hh
  case h_1 v i a r =>
  split at hh
  case h_2 => cases hh
  case h_1 kd n f e1 =>
  split at hh
  case h_2 => cases hh
  case h_1 ci fs e2 =>
  split at hh
  case isFalse => cases hh
  case isTrue hi =>
  cases hh
  obtain ⟨ha, hcell⟩ := pm_qar_inv e1
  obtain ⟨hv, hcellv⟩ := pm_obj_inv e2
  obtain ⟨hin, hty, hci⟩ := hi
  have hq := List.getElem?_eq_getElem hci
  rw [hq] at hty
  intro H locs ls hP hS hl
  refine va_astq hx hb hK.1 hP (pm_w_D aC b h sz) hS a kd v ci (pm_w_P hP ha hcell) (pm_tys_get hty) (pm_w_P hP hv hcellv) hq (pm_in_of hin) hd (fun H1 locs1 hP1 _ hS1 => ?_)
  refine kk H1 locs1 ls (pm_setP hP1 ?_) hS1 hl
  have e3 : (va_up (fun j => (f j).map (fun x => b + x)) i.toNatClampNeg (some (b + v))) = fun j => (va_up f i.toNatClampNeg (some v) j).map (fun x => b + x) := by
    funext j
    unfold va_up
    by_cases hj : j = i.toNatClampNeg
    · rw [if_pos hj, if_pos hj]; rfl
    · rw [if_neg hj, if_neg hj]
  exact congrArg (fun z => (Sum.inl (aC kd, n, Sum.inr (Sum.inr (Sum.inr (Sum.inr z)))) : va_E)) e3
theorem pm_alen (hC : pm_C T G Ns D aC b k p s m args meth c) (hd : decode (pm_code T k) pc = .ok (.arraylength, 1))
    (hh : pm_al T pc L S h sz sl = some st') (kk : pm_V p l e R s m args below meth c Q T D aC b k sz0 sl0 st') : pm_V p l e R s m args below meth c Q T D aC b k sz0 sl0 (pc, L, S, h, sz, sl) := by
  obtain ⟨hx, hb, -, -, -, hK, -⟩ := hC
  unfold pm_al at hh
  split at hh
  case h_2 => cases hh
  case h_1 a r =>
  split at hh
  case isFalse => cases hh
  case isTrue ha =>
  split at hh
  case h_2 => cases hh
  case h_1 kd n x e1 =>
  split at hh
  case isFalse => cases hh
  case isTrue hty =>
  cases hh
  obtain ⟨ty, ht⟩ := Option.isSome_iff_exists.mp hty
  intro H locs ls hP hS hl
  refine va_alen hx hb hK.1 hP a kd (pm_w_P hP ha e1) (pm_tys_get ht) ?_ hd (kk H locs ls hP hS hl)
  obtain f | f | f | f | f := x <;> rfl
end PMS
end MG06strnx4
section MG06strnx5
/-! new cells, and what the library does -/
section PMA
variable {p : Program} {l : Launch} {e : Env} {R : Room} {s : State} {m : MethodId} {args : Array Value} {below : List Frame} {meth : Method} {c : Code} {Q : State → Prop}
variable {T : pm_Tab} {G Ns : List Cond} {D : va_G} {aC : Nat → ClassId} {b g k fr lo pc sz sl sz0 sl0 : Nat} {L : pm_L} {S : List Value} {h : pm_H} {st' : pm_St}
theorem pm_fresh {q : Nat} {x : va_E} {H1 : Heap} (hD : va_D (fun q => b ≤ q) (pm_w aC b h sz ++ [(q, x)])) (hP : va_P D (pm_cl T) (pm_w aC b h sz ++ [(q, x)]) H1) (hz : H1.size ≤ b + sz + 1) : q = b + sz := by
  have hg : (pm_w aC b h sz ++ [(q, x)])[sz]? = some (q, x) := by
    rw [List.getElem?_append_right (by rw [pm_w_len]; exact Nat.le_refl _), pm_w_len, Nat.sub_self]
    rfl
  have h1 : q < H1.size := (hP sz _ hg).lt
  have h2 : b ≤ q := hD.2 sz _ hg
  by_cases h3 : q < b + sz
  · have h4 : (pm_w aC b h sz ++ [(q, x)])[q - b]? = some (b + (q - b), pm_trE aC b (h (q - b))) := by
      rw [List.getElem?_append_left (by rw [pm_w_len]; omega)]
      exact pm_w_get (by omega)
    have h5 := hD.1 sz (q - b) _ _ hg h4 (by dsimp only; omega)
    omega
  · omega
theorem pm_pushP {H1 : Heap} {q : Nat} {e : pm_E} {e' : va_E} (hP1 : va_P D (pm_cl T) (pm_w aC b h sz ++ [(q, e')]) H1) (hq : q = b + sz) (he : e' = pm_trE aC b e) : va_P D (pm_cl T) (pm_w aC b (va_up h sz e) (sz + 1)) H1 := by
  rw [hq, pm_w_push he] at hP1
  exact hP1
theorem pm_newobj (OK : pm_ok T G Ns) (hC : pm_C T G Ns D aC b k p s m args meth c) (hs0 : s.heap.size = b + sz0 + g) (hg : g = 0 ∨ st'.2.2.2.2.1 = sz0) (h0 : sz0 ≤ sz) (h1 : sl0 ≤ sl) {j : Nat} (hd : decode (pm_code T k) pc = .ok (.new j, 3)) (hh : pm_newO T k j pc L S h sz sl = some st') (hRc : st'.2.2.2.2.1 ≤ sz0 + R.cells) (hRs : st'.2.2.2.2.2 ≤ sl0 + R.slots)
    (kk : pm_V p l e R s m args below meth c Q T D aC b k sz0 sl0 st') : pm_V p l e R s m args below meth c Q T D aC b k sz0 sl0 (pc, L, S, h, sz, sl) := by
  obtain ⟨hx, hb, -, hown, hts, hK, -⟩ := hC
  unfold pm_newO at hh
  split at hh
  case h_2 => cases hh
  case h_1 ci e1 =>
  split at hh
  case isFalse => cases hh
  case isTrue hci =>
  obtain ⟨C, F, N, ty, q1, q2, q3, q4, q5, q6, q7, q8, q9⟩ := (OK.2.2.2.2.2.1 _ _ _ e1).1 hci
  unfold pm_nw at hh
  cases hh
  rw [q7] at hRs
  dsimp only at hRc hRs hg
  have hg0 : g = 0 := by omega
  subst hg0
  intro H locs ls hP hS hl
  refine va_new (ci := ci) (fs := pm_df T ci) hx hb hts q2 ty q3 hown (hts _ q4) (hts _ q5) (hts _ q6) hK.1 hP (pm_w_D aC b h sz) hS (fun q hq => by omega) q1 q8 (by dsimp only; omega) (by dsimp only; omega) hd (fun q H1 hP1 hD1 hS1 => ?_)
  refine pm_sized fun hz => ?_
  dsimp only at hz hP1 hD1
  have hq := pm_fresh hD1 hP1 (by omega)
  have hP2 := pm_pushP (e := .inr (ci, pm_df T ci)) hP1 hq (by show _ = Sum.inr (ci, (pm_df T ci).map (pm_tr aC b)); rw [q9])
  have hW := kk H1 locs ls hP2 hS1 hl
  rw [q7] at hW
  subst hq
  exact W.cs (by dsimp only; omega) (by dsimp only; omega) hW
theorem pm_aC_eq {tys : List (ClassId × FieldType)} {kd : Nat} {cA c2 : ClassId} {ty : FieldType} (h1 : va_K D (pm_cl T) tys s) (h2 : tys[kd]? = some (c2, ty)) (h3 : va_K D (pm_cl T) (tys ++ [(cA, ty)]) s) : cA = c2 := by
  have a1 := (h1.2 kd _ h2).2
  have a2 := (h3.2 tys.length (cA, ty) (by rw [List.getElem?_append_right (Nat.le_refl _), Nat.sub_self]; rfl)).2
  dsimp only at a1 a2
  unfold va_RA at a1 a2
  cases ty with
  | object C =>
    obtain ⟨_, _, _, _, _, x1⟩ := a1
    obtain ⟨_, _, _, _, _, x2⟩ := a2
    exact Option.some.inj (x2.symm.trans x1)
  | _ => exact Option.some.inj (a2.symm.trans a1)
theorem pm_newarr (OK : pm_ok T G Ns) (hC : pm_C T G Ns D aC b k p s m args meth c) (hs0 : s.heap.size = b + sz0 + g) (hg : g = 0) (h0 : sz0 ≤ sz) (h1 : sl0 ≤ sl) {at_ : ArrayType} {ty : FieldType} (hty : newarray.typeOf at_ = ty) (hno : ∀ C, ty ≠ .object C) (hby : componentBytes ty ≤ 8) {n : Int32} {r : List Value} {kd : Nat} {a0 : vp_A} (ha0 : ∀ cA : ClassId, vp_cell cA a0 = arrV cA n.toNatClampNeg (fun _ => defaultValue ty)) (htr : pm_trA b a0 = a0) (hk : pm_tysAt T ty = some kd) (hn : ¬ n < 0) (hN : n.toNatClampNeg ≤ 65536)
    (hd : decode (pm_code T k) pc = .ok (.newarray at_, 2)) (hRc : sz + 1 ≤ sz0 + R.cells) (hRs : sl + n.toNatClampNeg ≤ sl0 + R.slots)
    (kk : pm_V p l e R s m args below meth c Q T D aC b k sz0 sl0 (pc + 2, L, .ref sz :: r, va_up h sz (.inl (kd, a0)), sz + 1, sl + n.toNatClampNeg)) : pm_V p l e R s m args below meth c Q T D aC b k sz0 sl0 (pc, L, .int n :: r, h, sz, sl) := by
  obtain ⟨hx, hb, -, hown, hts, hK, -⟩ := hC
  subst hg
  have harr : Cond.arrayClass ty ∈ G := (OK.2.2.2.2.2.2.1 ty (by rw [hk]; exact fun q => by cases q)).resolve_right (fun ⟨C, q⟩ => hno C q)
  intro H locs ls hP hS hl
  refine va_newa (a0 := a0) hx hb (by rw [hty]; exact hts _ harr) hty hK.1 hP (pm_w_D aC b h sz) hS (fun q hq => by omega) ha0 hn rfl (Nat.le_trans (Nat.mul_le_mul hN hby) (by decide)) (by dsimp only; omega) (by dsimp only; omega) hd (fun q cA H1 hK1 hP1 hD1 hS1 => ?_)
  have hc2 := pm_aC_eq hK.1 (pm_tys_get (pm_tysAt_get hk)) hK1
  subst hc2
  refine pm_sized fun hz => ?_
  dsimp only at hz hP1 hD1
  have hq := pm_fresh hD1 hP1 (by omega)
  have hW := kk H1 locs ls (pm_pushP hP1 hq (by show _ = Sum.inl (aC kd, pm_trA b a0); rw [htr])) hS1 hl
  subst hq
  exact W.cs (by dsimp only; omega) (by dsimp only; omega) hW
theorem pm_newqarr (OK : pm_ok T G Ns) (hC : pm_C T G Ns D aC b k p s m args meth c) (hs0 : s.heap.size = b + sz0 + g) (hg : g = 0 ∨ st'.2.2.2.2.1 = sz0) (h0 : sz0 ≤ sz) (h1 : sl0 ≤ sl) {j : Nat} (hd : decode (pm_code T k) pc = .ok (.anewarray j, 3)) (hh : pm_newQ T k j pc L S h sz sl = some st') (hRc : st'.2.2.2.2.1 ≤ sz0 + R.cells) (hRs : st'.2.2.2.2.2 ≤ sl0 + R.slots)
    (kk : pm_V p l e R s m args below meth c Q T D aC b k sz0 sl0 st') : pm_V p l e R s m args below meth c Q T D aC b k sz0 sl0 (pc, L, S, h, sz, sl) := by
  obtain ⟨hx, hb, -, hown, hts, hK, -⟩ := hC
  unfold pm_newQ at hh
  split at hh
  case h_2 => cases hh
  case h_1 n r =>
  split at hh
  case h_2 => cases hh
  case h_1 q0 e1 =>
  split at hh
  case isFalse => cases hh
  case isTrue hci =>
  obtain ⟨hq0, hn, hN⟩ := hci
  obtain ⟨C, q1, q2, q3⟩ := (OK.2.2.2.2.2.1 _ _ _ e1).2 hq0 _ rfl
  unfold pm_nw at hh
  cases hh
  dsimp only at hRc hRs hg
  have hg0 : g = 0 := by omega
  subst hg0
  intro H locs ls hP hS hl
  refine va_newq hx hb hown (hts _ q2) (hK.2.1 _ q3) hK.1 hP (pm_w_D aC b h sz) hS (fun q hq => by omega) hn rfl (by omega) (by dsimp only; omega) (by dsimp only; omega) hd (fun q cA H1 hK1 hP1 hD1 hS1 => ?_)
  have hc2 := pm_aC_eq hK.1 (pm_tys_get q1) hK1
  subst hc2
  refine pm_sized fun hz => ?_
  dsimp only at hz hP1 hD1
  have hq := pm_fresh hD1 hP1 (by omega)
  have hW := kk H1 locs ls (pm_pushP hP1 hq rfl) hS1 hl
  subst hq
  exact W.cs (by dsimp only; omega) (by dsimp only; omega) hW
theorem pm_libOk (OK : pm_ok T G Ns) (hC : pm_C T G Ns D aC b k p s m args meth c) (hfr : R.frames = fr) (hlo : R.locals = lo) (hcl : sz - sz0 ≤ R.cells) (hsl : sl - sl0 ≤ R.slots) {sp : Bool} {j : Nat} (hd : decode (pm_code T k) pc = .ok (if sp = true then .invokespecial j else .invokestatic j, 3)) (hh : pm_libW T sp fr lo k j pc L S h sz sl = some st')
    (kk : pm_V p l e R s m args below meth c Q T D aC b k sz0 sl0 st') : pm_V p l e R s m args below meth c Q T D aC b k sz0 sl0 (pc, L, S, h, sz, sl) := by
  obtain ⟨hx, hb, hml, hown, hts, hK, -⟩ := hC
  unfold pm_libW at hh
  split at hh
  case h_2 => cases hh
  case h_1 w t e1 =>
  have hw := OK.2.2.2.2.1 _ _ _ _ e1
  split at hh
  case isFalse => cases hh
  case isTrue hsp =>
  unfold pm_lib at hh
  split at hh
  case h_5 => cases hh
  case h_1 a r =>
    split at hh
    case isFalse => cases hh
    case isTrue hc =>
    cases hh
    obtain ⟨w1, w2, w3⟩ := hw
    have hsp' : sp = true := hsp.symm
    subst hsp'
    intro H locs ls hP hS hl
    refine W.objInit hx hb hown (hts _ w1) (hts _ w2) (hts _ w3) rfl (hl.1.trans hml.symm) (a := b + a) (rest := r.map (pm_tr aC b)) rfl hd (by omega) ?_ (kk H locs ls hP hS hl)
    show 2 * 0 + _ + 12 ≤ _
    rw [pm_sum_tr]
    omega
  case h_2 y x r =>
    split at hh
    case isFalse => cases hh
    case isTrue hc =>
    cases hh
    obtain ⟨w1, w2, w3, w4⟩ := hw
    have hsp' : sp = false := hsp.symm
    subst hsp'
    intro H locs ls hP hS hl
    exact va_mmin hx hb (hml.trans hl.1.symm) hown (hts _ w1) (hts _ w2) (hts _ w3) (hts _ w4) (by omega) (by rw [pm_sum_tr]; omega) hcl hsl hd (kk H locs ls hP hS hl)
  case h_3 y x r =>
    split at hh
    case isFalse => cases hh
    case isTrue hc =>
    cases hh
    obtain ⟨w1, w2, w3, w4⟩ := hw
    have hsp' : sp = false := hsp.symm
    subst hsp'
    intro H locs ls hP hS hl
    exact va_mmax hx hb (hml.trans hl.1.symm) hown (hts _ w1) (hts _ w2) (hts _ w3) (hts _ w4) (by omega) (by rw [pm_sum_tr]; omega) hcl hsl hd (kk H locs ls hP hS hl)
  case h_4 n dp a s0 a0 r =>
    split at hh
    case h_2 => cases hh
    case h_1 k0 n0 f kd n1 g ea eb =>
    split at hh
    case isFalse => cases hh
    case isTrue hc =>
    cases hh
    obtain ⟨⟨c1, c2⟩, c3, c4, c5, c6, c7⟩ := hc
    obtain ⟨w1, w2, w3, w4⟩ := hw
    have hsp' : sp = false := hsp.symm
    subst hsp'
    obtain ⟨ha0, hcell0, hty0⟩ := pm_iar_inv ea
    obtain ⟨ha, hcell, hty⟩ := pm_iar_inv eb
    intro H locs ls hP hS hl
    refine va_copyi hx hb (hml.trans hl.1.symm) hown (hts _ w1) (hts _ w2) (hts _ w3) (hts _ w4) hK.1 hP (pm_w_D aC b h sz) hS a0 a k0 kd (pm_w_P hP ha0 hcell0) (pm_w_P hP ha hcell) (pm_tys_get hty0) (pm_tys_get hty) rfl c3 c4 c5 c6 c7 (fun i _ => rfl) (by omega) ?_ hd (fun H1 locs1 hP1 _ hS1 => kk H1 locs1 ls (pm_setP hP1 rfl) hS1 hl)
    rw [pm_sum_tr]
    have hn : nativeFrameWords "java/lang/System" "arraycopy" 5 + 11 ≤ 60 := by decide +kernel
    omega
end PMA
end MG06strnx5
section MG06strnx6
/-! calls: what they ask and give -/
section PMR
variable {p : Program} {l : Launch} {e : Env} {R : Room} {s : State} {m : MethodId} {args : Array Value} {below : List Frame} {meth : Method} {c : Code} {H : Heap} {locs : List Loc} {cells slots : Nat} {Q : State → Prop}
variable {T : pm_Tab} {G Ns : List Cond} {D : va_G} {aC : Nat → ClassId} {b g k fr lo pc sz sl sz0 sl0 : Nat} {L : pm_L} {S : List Value} {h : pm_H} {st' : pm_St}
def pm_ws (T : pm_Tab) (G : List Cond) (t : Nat) : List Cond := Cond.code (pm_y T t) (pm_code T t) (pm_max T t) (pm_ret T t) :: G
def pm_Pc (T : pm_Tab) (Ns : List Cond) (D : va_G) (aC : Nat → ClassId) (b g : Nat) (As : List Value) (h : pm_H) (sz : Nat) : Array Value → State → Prop := va_Pc (As.map (pm_tr aC b)) (fun U => U.heap.size = b + sz + g ∧ va_P D (pm_cl T) (pm_w aC b h sz) U.heap ∧ pm_K T Ns D aC b U)
def pm_Qc (T : pm_Tab) (D : va_G) (aC : Nat → ClassId) (b : Nat) (rv : Option Value) (h : pm_H) (sz : Nat) : Array Value → State → Outcome → State → Prop := fun _ st o t => o = .returned (rv.map (pm_tr aC b)) ∧ va_P D (pm_cl T) (pm_w aC b h sz) t.heap ∧ va_F (fun q => b ≤ q) st t
abbrev pm_rm (fr lo mc ms : Nat) : Room := { frames := fr, cells := mc, slots := ms, locals := lo }
/-- what a method of the tables does, as the pure machine tells it -/
def pm_Met (T : pm_Tab) (G Ns : List Cond) (l : Launch) (D : va_G) (aC : Nat → ClassId) (b g fr lo t : Nat) (As : List Value) (h : pm_H) (sz sl : Nat) (r : pm_Rs) : Prop := Met l (pm_y T t) (pm_ws T G t) (pm_rm fr lo (r.2.2.1 - sz) (r.2.2.2 - sl)) (pm_Pc T Ns D aC b g As h sz) (pm_Qc T D aC b r.1 r.2.1 r.2.2.1) (r.2.2.1 - sz) (r.2.2.2 - sl) (fun q => b ≤ q)
theorem pm_blind (OK : pm_ok T G Ns) {As : List Value} : FrameBlind (pm_Pc T Ns D aC b g As h sz) := by
  intro a U g mk hp
  obtain ⟨q1, q2, q3, q4, q5, q6⟩ := hp
  exact ⟨q1, q2, q3, va_K.moved (u := U) (U := U.calling g mk a) (Vm.Alike.refl U.vm) q4, fun w hw => (OK.2.2.1 w hw).1 U (U.calling g mk a) rfl (q5 w hw), q6.same rfl rfl⟩
theorem pm_size {H0 : Heap} (hS : va_S (fun q => b ≤ q) H0 H locs) (hP : va_P D (pm_cl T) (pm_w aC b h sz) H) (hs0 : H0.size = b + sz0 + g) (hg : g = 0 ∨ sz = sz0) (h0 : sz0 ≤ sz) (hz : H.size ≤ H0.size + (sz - sz0)) : H.size = b + sz + g := by
  by_cases he : sz = sz0
  · have := hS.1
    omega
  · have h1 : sz - 1 < sz := by omega
    have h2 := (hP (sz - 1) _ (pm_w_get h1)).lt
    dsimp only at h2
    omega
theorem pm_good (OK : pm_ok T G Ns) {ws : List Cond} (hs : ∀ w ∈ ws, w ∈ G) : GoodIn G ws := fun w hw => ⟨hs w hw, good_of_word (OK.2.1 w (hs w hw))⟩
theorem pm_K.warm (OK : pm_ok T G Ns) {U : State} (hW : s.WarmedH U.vm) (hS : va_S (fun q => b ≤ q) s.heap U.heap locs) (hK : pm_K T Ns D aC b s) : pm_K T Ns D aC b U := ⟨va_K.moved hW.alike hK.1, fun w hw => (OK.2.2.1 w hw).2 s U hW (hK.2.1 w hw), hK.2.2.warm hW hS⟩
theorem pm_after {mc ms : Nat} {rest st0 : List Value} {ls : Array Slot} {rv : Option Value} {h1 : pm_H} {sz1 : Nat} {a : Array Value} (hr : va_Run p l e R s m args below meth c H locs cells slots mc ms (F0 m pc ls st0) rest (pm_Qc T D aC b rv h1 sz1 a) (fun q => b ≤ q)) (hS : va_S (fun q => b ≤ q) s.heap H locs)
    (kk : ∀ (H1 : Heap) (locs1 : List Loc), va_P D (pm_cl T) (pm_w aC b h1 sz1) H1 → va_S (fun q => b ≤ q) s.heap H1 locs1 → W p l e R s m args below meth c H1 locs1 (cells + mc) (slots + ms) Q (F0 m (pc + 3) ls ((rv.map (pm_tr aC b)).toList ++ rest))) : W p l e R s m args below meth c H locs cells slots Q (F0 m pc ls st0) := by
  intro T' hT X
  obtain ⟨v, st₀, t, T2, L2, h0, X', hL, e1, e2, ⟨hv, hP, hz, hk⟩, st⟩ := hr T' hT X
  cases hv
  rw [h0] at hz hk
  obtain ⟨t2, a1, b1⟩ := kk T2.heap (locs ++ L2) (by rw [e1]; exact hP)
    ⟨Nat.le_trans hS.1 (by rw [e1]; exact hz), fun q q1 q2 => by rw [e1, hk q (Nat.lt_of_lt_of_le q1 hS.1) q2]; exact hS.2.1 q q1 q2, fun q hq => by
      rcases List.mem_append.mp hq with h | h
      · exact hS.2.2 q h
      · exact hL q h⟩ T2 rfl X'
  exact ⟨t2, st t2 a1, b1⟩
theorem pm_take (S : List Value) (n : Nat) : S = ((S.take n).reverse).reverse ++ S.drop n := by rw [List.reverse_reverse, List.take_append_drop]
theorem pm_stackS (S : List Value) (n : Nat) : S.map (pm_tr aC b) = ((S.take n).reverse.map (pm_tr aC b)).reverse ++ (S.drop n).map (pm_tr aC b) := by
  rw [← List.map_reverse, ← List.map_append, ← pm_take]
theorem pm_stackV {S A1 : List Value} {n a : Nat} (hA : (S.take n).reverse = .ref a :: A1) : S.map (pm_tr aC b) = (A1.map (pm_tr aC b)).reverse ++ .ref (b + a) :: (S.drop n).map (pm_tr aC b) := by
  have e := pm_stackS (aC := aC) (b := b) S n
  rw [hA, List.map_cons, List.reverse_cons, List.append_assoc] at e
  exact e
end PMR
end MG06strnx6
