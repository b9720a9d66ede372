section MH06strnx0
section MG06strnx0
/-! the String constants, and the methods of the JDK that they reach -/
def st_yL : MethodName := ⟨"java/lang/String", "length", "()I"⟩
abbrev st_cL : ByteArray := prog_21_method_54_code
theorem st_dL_0 : decode st_cL 0 = .ok (.aload_n 0, 1) := by decide +kernel
theorem st_dL_1 : decode st_cL 1 = .ok (.getfield 9, 3) := by decide +kernel
theorem st_dL_4 : decode st_cL 4 = .ok (.arraylength, 1) := by decide +kernel
theorem st_dL_5 : decode st_cL 5 = .ok (.aload_n 0, 1) := by decide +kernel
theorem st_dL_6 : decode st_cL 6 = .ok (.invokevirtual 335, 3) := by decide +kernel
theorem st_dL_9 : decode st_cL 9 = .ok (.ishr, 1) := by decide +kernel
theorem st_dL_10 : decode st_cL 10 = .ok (.ireturn, 1) := by decide +kernel
def st_yC : MethodName := ⟨"java/lang/String", "coder", "()B"⟩
abbrev st_cC : ByteArray := prog_21_method_152_code
theorem st_dC_0 : decode st_cC 0 = .ok (.getstatic 38, 3) := by decide +kernel
theorem st_dC_3 : decode st_cC 3 = .ok (.ifCond .eq 10, 3) := by decide +kernel
theorem st_dC_6 : decode st_cC 6 = .ok (.aload_n 0, 1) := by decide +kernel
theorem st_dC_7 : decode st_cC 7 = .ok (.getfield 15, 3) := by decide +kernel
theorem st_dC_10 : decode st_cC 10 = .ok (.goto 4, 3) := by decide +kernel
theorem st_dC_13 : decode st_cC 13 = .ok (.iconst 1, 1) := by decide +kernel
theorem st_dC_14 : decode st_cC 14 = .ok (.ireturn, 1) := by decide +kernel
def st_yA : MethodName := ⟨"java/lang/String", "charAt", "(I)C"⟩
abbrev st_cA : ByteArray := prog_21_method_56_code
theorem st_dA_0 : decode st_cA 0 = .ok (.aload_n 0, 1) := by decide +kernel
theorem st_dA_1 : decode st_cA 1 = .ok (.invokevirtual 492, 3) := by decide +kernel
theorem st_dA_4 : decode st_cA 4 = .ok (.ifCond .eq 12, 3) := by decide +kernel
theorem st_dA_7 : decode st_cA 7 = .ok (.aload_n 0, 1) := by decide +kernel
theorem st_dA_8 : decode st_cA 8 = .ok (.getfield 9, 3) := by decide +kernel
theorem st_dA_11 : decode st_cA 11 = .ok (.iload_n 1, 1) := by decide +kernel
theorem st_dA_12 : decode st_cA 12 = .ok (.invokestatic 495, 3) := by decide +kernel
theorem st_dA_15 : decode st_cA 15 = .ok (.ireturn, 1) := by decide +kernel
theorem st_dA_16 : decode st_cA 16 = .ok (.aload_n 0, 1) := by decide +kernel
theorem st_dA_17 : decode st_cA 17 = .ok (.getfield 9, 3) := by decide +kernel
theorem st_dA_20 : decode st_cA 20 = .ok (.iload_n 1, 1) := by decide +kernel
theorem st_dA_21 : decode st_cA 21 = .ok (.invokestatic 498, 3) := by decide +kernel
theorem st_dA_24 : decode st_cA 24 = .ok (.ireturn, 1) := by decide +kernel
def st_yI : MethodName := ⟨"java/lang/String", "isLatin1", "()Z"⟩
abbrev st_cI : ByteArray := prog_21_method_154_code
theorem st_dI_0 : decode st_cI 0 = .ok (.getstatic 38, 3) := by decide +kernel
theorem st_dI_3 : decode st_cI 3 = .ok (.ifCond .eq 14, 3) := by decide +kernel
theorem st_dI_6 : decode st_cI 6 = .ok (.aload_n 0, 1) := by decide +kernel
theorem st_dI_7 : decode st_cI 7 = .ok (.getfield 15, 3) := by decide +kernel
theorem st_dI_10 : decode st_cI 10 = .ok (.ifCond .ne 7, 3) := by decide +kernel
theorem st_dI_13 : decode st_cI 13 = .ok (.iconst 1, 1) := by decide +kernel
theorem st_dI_14 : decode st_cI 14 = .ok (.goto 4, 3) := by decide +kernel
theorem st_dI_17 : decode st_cI 17 = .ok (.iconst 0, 1) := by decide +kernel
theorem st_dI_18 : decode st_cI 18 = .ok (.ireturn, 1) := by decide +kernel
def st_yB : MethodName := ⟨"java/lang/StringLatin1", "charAt", "([BI)C"⟩
abbrev st_cB : ByteArray := prog_22_method_2_code
theorem st_dB_0 : decode st_cB 0 = .ok (.iload_n 1, 1) := by decide +kernel
theorem st_dB_1 : decode st_cB 1 = .ok (.aload_n 0, 1) := by decide +kernel
theorem st_dB_2 : decode st_cB 2 = .ok (.arraylength, 1) := by decide +kernel
theorem st_dB_3 : decode st_cB 3 = .ok (.invokestatic 9, 3) := by decide +kernel
theorem st_dB_6 : decode st_cB 6 = .ok (.aload_n 0, 1) := by decide +kernel
theorem st_dB_7 : decode st_cB 7 = .ok (.iload_n 1, 1) := by decide +kernel
theorem st_dB_8 : decode st_cB 8 = .ok (.baload, 1) := by decide +kernel
theorem st_dB_9 : decode st_cB 9 = .ok (.sipush 255, 3) := by decide +kernel
theorem st_dB_12 : decode st_cB 12 = .ok (.iand, 1) := by decide +kernel
theorem st_dB_13 : decode st_cB 13 = .ok (.i2c, 1) := by decide +kernel
theorem st_dB_14 : decode st_cB 14 = .ok (.ireturn, 1) := by decide +kernel
def st_yK : MethodName := ⟨"java/lang/String", "checkIndex", "(II)V"⟩
abbrev st_cK : ByteArray := prog_21_method_155_code
theorem st_dK_0 : decode st_cK 0 = .ok (.iload_n 0, 1) := by decide +kernel
theorem st_dK_1 : decode st_cK 1 = .ok (.iload_n 1, 1) := by decide +kernel
theorem st_dK_2 : decode st_cK 2 = .ok (.getstatic 1053, 3) := by decide +kernel
theorem st_dK_5 : decode st_cK 5 = .ok (.invokestatic 1059, 3) := by decide +kernel
theorem st_dK_8 : decode st_cK 8 = .ok (.pop, 1) := by decide +kernel
theorem st_dK_9 : decode st_cK 9 = .ok (.return_, 1) := by decide +kernel
def st_yP : MethodName := ⟨"jdk/internal/util/Preconditions", "checkIndex", "(IILjava/util/function/BiFunction;)I"⟩
abbrev st_cP : ByteArray := prog_29_method_11_code
theorem st_dP_0 : decode st_cP 0 = .ok (.iload_n 0, 1) := by decide +kernel
theorem st_dP_1 : decode st_cP 1 = .ok (.ifCond .lt 8, 3) := by decide +kernel
theorem st_dP_4 : decode st_cP 4 = .ok (.iload_n 0, 1) := by decide +kernel
theorem st_dP_5 : decode st_cP 5 = .ok (.iload_n 1, 1) := by decide +kernel
theorem st_dP_6 : decode st_cP 6 = .ok (.if_icmp .lt 10, 3) := by decide +kernel
theorem st_dP_9 : decode st_cP 9 = .ok (.aload_n 2, 1) := by decide +kernel
theorem st_dP_10 : decode st_cP 10 = .ok (.iload_n 0, 1) := by decide +kernel
theorem st_dP_11 : decode st_cP 11 = .ok (.iload_n 1, 1) := by decide +kernel
theorem st_dP_12 : decode st_cP 12 = .ok (.invokestatic 95, 3) := by decide +kernel
theorem st_dP_16 : decode st_cP 16 = .ok (.iload_n 0, 1) := by decide +kernel
theorem st_dP_17 : decode st_cP 17 = .ok (.ireturn, 1) := by decide +kernel
def st_ws : List Cond := [.code st_yL st_cL 1 (some .int), .code st_yC st_cC 1 (some .byte), .code st_yA st_cA 2 (some .char), .code st_yI st_cI 1 (some .boolean), .code st_yB st_cB 2 (some .char), .code st_yK st_cK 2 (none), .code st_yP st_cP 3 (some .int), .methodLink "java/lang/String" 335 st_yC, .methodLink "java/lang/String" 492 st_yI, .methodLink "java/lang/String" 495 st_yB, .methodLink "java/lang/StringLatin1" 9 st_yK, .methodLink "java/lang/String" 1059 st_yP, .fieldLink "java/lang/String" 9 "java/lang/String" "value" "[B", .fieldLink "java/lang/String" 15 "java/lang/String" "coder" "B", .fieldLink "java/lang/String" 38 "java/lang/String" "COMPACT_STRINGS" "Z", .fieldLink "java/lang/String" 1053 "jdk/internal/util/Preconditions" "SIOOBE_FORMATTER" "Ljava/util/function/BiFunction;", .instanceMethod st_yL, .selects "java/lang/String" st_yL st_yL, .instanceMethod st_yC, .selects "java/lang/String" st_yC st_yC, .instanceMethod st_yA, .selects "java/lang/String" st_yA st_yA, .instanceMethod st_yI, .selects "java/lang/String" st_yI st_yI, .static st_yB, .static st_yK, .static st_yP, .initialized "java/lang/String", .initialized "java/lang/StringLatin1", .initialized "jdk/internal/util/Preconditions"]
def st_ps : List Nat := [1409, 1413, 1419, 1423, 1426, 1429, 1434, 1410, 1420, 1424, 1427, 1432, 1822, 1823, 1414, 1430, 1407, 1408, 1411, 1412, 1417, 1418, 1421, 1422, 1425, 1428, 1433, 104, 105, 106]
def st_L : List (List Int32) := [[119, 107, 114, 115, 104, 101, 100], [60, 62, 61], [43, 45], [42, 47], [115, 109, 102, 112, 113]]
def st_tx (i : Nat) : List Int32 := match pm_nth st_L i with
  | some l => l
  | none => []
def st_T : List String := ["wkrshed", "<>=", "+-", "*/", "smfpq"]
/-- by the owner of the pool and the place: which -/
def st_str (o j : Nat) : Option Nat := cond (Nat.beq o 11) (pm_fd [(236, 0), (245, 1), (247, 2), (249, 3), (380, 4)] j) none
end MG06strnx0
section MG06strnx1
/-! A PURE MACHINE: the bytecode of the class, of its reference and of what they call, run on numbered cells. 'pm_run' is a plain function; 'pm_sound' (next part) says that what it answers the real machine answers too. The tables T are a parameter. -/
abbrev pm_E : Type := (Nat × vp_A) ⊕ (Nat × List Value)
abbrev pm_H : Type := Nat → pm_E
abbrev pm_L : Type := List (Option Value)
/-- a method: its name, code, locals, answer's type, owner of its constant pool, how many values it takes (this, too), its class's number -/
abbrev pm_M : Type := MethodName × ByteArray × Nat × Option FieldType × Nat × Nat × Nat
/-- classes of objects with their first fields; array types; owners of constant pools; methods; instructions by place; fields by (owner, index): class, place, kind; methods by (owner, index): way, number; classes by (owner, index); constants -/
abbrev pm_Tab : Type := (List vw_C) × (Nat → List Value) × (List FieldType) × (Nat → String) × (Nat → pm_M) × (Nat → Nat → Option (Instr × Nat)) × (Nat → Nat → Option (Nat × Nat × Nat)) × (Nat → Nat → Option (Nat × Nat)) × (Nat → Nat → Option Nat) × (Nat → Nat → Option Int32) × (Nat → Nat → Option Int64)
def pm_cl (T : pm_Tab) : List vw_C := T.1
def pm_df (T : pm_Tab) : Nat → List Value := T.2.1
def pm_ty (T : pm_Tab) : List FieldType := T.2.2.1
def pm_own (T : pm_Tab) : Nat → String := T.2.2.2.1
def pm_m (T : pm_Tab) : Nat → pm_M := T.2.2.2.2.1
def pm_y (T : pm_Tab) (k : Nat) : MethodName := (pm_m T k).1
def pm_code (T : pm_Tab) (k : Nat) : ByteArray := (pm_m T k).2.1
def pm_max (T : pm_Tab) (k : Nat) : Nat := (pm_m T k).2.2.1
def pm_ret (T : pm_Tab) (k : Nat) : Option FieldType := (pm_m T k).2.2.2.1
def pm_o (T : pm_Tab) (k : Nat) : Nat := (pm_m T k).2.2.2.2.1
def pm_na (T : pm_Tab) (k : Nat) : Nat := (pm_m T k).2.2.2.2.2.1
/-- its class's number; a constructor's entry is 100 more -/
def pm_ci (T : pm_Tab) (k : Nat) : Nat := (pm_m T k).2.2.2.2.2.2 % 100
def pm_init (T : pm_Tab) (k : Nat) : Bool := Nat.ble 100 (pm_m T k).2.2.2.2.2.2
def pm_ins (T : pm_Tab) : Nat → Nat → Option (Instr × Nat) := T.2.2.2.2.2.1
def pm_fld (T : pm_Tab) : Nat → Nat → Option (Nat × Nat × Nat) := T.2.2.2.2.2.2.1
def pm_mlk (T : pm_Tab) : Nat → Nat → Option (Nat × Nat) := T.2.2.2.2.2.2.2.1
def pm_clk (T : pm_Tab) : Nat → Nat → Option Nat := T.2.2.2.2.2.2.2.2.1
def pm_con (T : pm_Tab) : Nat → Nat → Option Int32 := T.2.2.2.2.2.2.2.2.2.1
def pm_conL (T : pm_Tab) : Nat → Nat → Option Int64 := T.2.2.2.2.2.2.2.2.2.2
/-- locals -/
def pm_get (L : pm_L) (i : Nat) : Option Value := match L[i]? with
  | some (some v) => some v
  | _ => none
def pm_cat2 (L : pm_L) (i : Nat) : Bool := match pm_get L i with
  | some v => v.category == 2
  | none => false
/-- a long just below i loses its second half -/
def pm_cut (L : pm_L) (i : Nat) : pm_L := match i with
  | 0 => L
  | j + 1 => if pm_cat2 L j = true then L.set j none else L
def pm_st1 (L : pm_L) (i : Nat) (v : Value) : pm_L := (pm_cut L i).set i (some v)
def pm_st2 (L : pm_L) (i : Nat) (v : Value) : pm_L := ((pm_cut L i).set i (some v)).set (i + 1) none
def pm_args : List Value → pm_L
  | [] => []
  | v :: vs => if v.category = 2 then some v :: none :: pm_args vs else some v :: pm_args vs
def pm_l0 (vs : List Value) (n : Nat) : pm_L := pm_args vs ++ List.replicate (n - (pm_args vs).length) none
abbrev pm_St : Type := Nat × pm_L × List Value × pm_H × Nat × Nat
def pm_tgt (pc : Nat) (off : Int) : Option Nat := if 0 ≤ (pc : Int) + off then some ((pc : Int) + off).toNat else none
def pm_cmp (c : Jvm.ClassFile.Cond) (x y : Int32) : Bool := match c with
  | .eq => decide (x = y)
  | .ne => decide (¬ x = y)
  | .lt => decide (x < y)
  | .ge => decide (y ≤ x)
  | .gt => decide (y < x)
  | .le => decide (x ≤ y)
def pm_in (i : Int32) (n : Nat) : Bool := decide (¬ (i < 0 ∨ n ≤ i.toNatClampNeg))
/-- kinds of a value: 0 int, 1 long, 2 a reference (.ref to a numbered cell; .retAddr i stands for a reference to the i-th of the cells outside) -/
def pm_isT (t : Nat) (v : Value) : Bool := match t, v with
  | 0, .int _ => true
  | 1, .long _ => true
  | 2, .ref _ => true
  | 2, .retAddr _ => true
  | _, _ => false
def pm_ld (t : Nat) (L : pm_L) (i : Nat) : Option Value := match pm_get L i with
  | some v => if pm_isT t v = true then some v else none
  | none => none
def pm_bi (f : Int32 → Int32 → Int32) (pc : Nat) (L : pm_L) (S : List Value) (h : pm_H) (sz sl : Nat) : Option pm_St := match S with
  | .int y :: .int x :: r => some (pc + 1, L, .int (f x y) :: r, h, sz, sl)
  | _ => none
/-- a division -/
def pm_bd (f : Int32 → Int32 → Int32) (pc : Nat) (L : pm_L) (S : List Value) (h : pm_H) (sz sl : Nat) : Option pm_St := match S with
  | .int y :: .int x :: r => if y = 0 then none else some (pc + 1, L, .int (f x y) :: r, h, sz, sl)
  | _ => none
def pm_bl (f : Int64 → Int64 → Int64) (pc : Nat) (L : pm_L) (S : List Value) (h : pm_H) (sz sl : Nat) : Option pm_St := match S with
  | .long y :: .long x :: r => some (pc + 1, L, .long (f x y) :: r, h, sz, sl)
  | _ => none
def pm_bdL (f : Int64 → Int64 → Int64) (pc : Nat) (L : pm_L) (S : List Value) (h : pm_H) (sz sl : Nat) : Option pm_St := match S with
  | .long y :: .long x :: r => if y = 0 then none else some (pc + 1, L, .long (f x y) :: r, h, sz, sl)
  | _ => none
def pm_ui (f : Int32 → Value) (pc : Nat) (L : pm_L) (S : List Value) (h : pm_H) (sz sl : Nat) : Option pm_St := match S with
  | .int x :: r => some (pc + 1, L, f x :: r, h, sz, sl)
  | _ => none
def pm_lo (t n pc i : Nat) (L : pm_L) (S : List Value) (h : pm_H) (sz sl : Nat) : Option pm_St := match pm_ld t L i with
  | some v => some (pc + n, L, v :: S, h, sz, sl)
  | none => none
def pm_so (t n mx pc i : Nat) (L : pm_L) (S : List Value) (h : pm_H) (sz sl : Nat) : Option pm_St := match S with
  | v :: r => if pm_isT t v = true ∧ i < mx then some (pc + n, pm_st1 L i v, r, h, sz, sl) else none
  | _ => none
def pm_sL (n mx pc i : Nat) (L : pm_L) (S : List Value) (h : pm_H) (sz sl : Nat) : Option pm_St := match S with
  | .long x :: r => if i + 1 < mx then some (pc + n, pm_st2 L i (.long x), r, h, sz, sl) else none
  | _ => none
def pm_jp (pc : Nat) (off : Int) (L : pm_L) (S : List Value) (h : pm_H) (sz sl : Nat) : Option pm_St := match pm_tgt pc off with
  | some t => some (t, L, S, h, sz, sl)
  | none => none
def pm_br (b : Bool) (pc : Nat) (off : Int) (L : pm_L) (S : List Value) (h : pm_H) (sz sl : Nat) : Option pm_St := match pm_tgt pc off with
  | some t => (match b with
    | true => some (t, L, S, h, sz, sl)
    | false => some (pc + 3, L, S, h, sz, sl))
  | none => none
def pm_iar (T : pm_Tab) (ty : FieldType) (h : pm_H) (sz a : Nat) : Option (Nat × Nat × (Nat → Int32)) := if a < sz then (match h a with
  | .inl (kd, n, .inl f) => if (pm_ty T)[kd]? = some ty then some (kd, n, f) else none
  | _ => none) else none
def pm_lar (T : pm_Tab) (h : pm_H) (sz a : Nat) : Option (Nat × Nat × (Nat → Int64)) := if a < sz then (match h a with
  | .inl (kd, n, .inr (.inl f)) => if (pm_ty T)[kd]? = some .long then some (kd, n, f) else none
  | _ => none) else none
def pm_qar (h : pm_H) (sz a : Nat) : Option (Nat × Nat × (Nat → Option Nat)) := if a < sz then (match h a with
  | .inl (kd, n, .inr (.inr (.inr (.inr f)))) => some (kd, n, f)
  | _ => none) else none
def pm_obj (h : pm_H) (sz a : Nat) : Option (Nat × List Value) := if a < sz then (match h a with
  | .inr o => some o
  | _ => none) else none
def pm_ia (T : pm_Tab) (ty : FieldType) (pc : Nat) (L : pm_L) (S : List Value) (h : pm_H) (sz sl : Nat) : Option pm_St := match S with
  | .int i :: .ref a :: r => (match pm_iar T ty h sz a with
    | some (_, n, f) => if pm_in i n = true then some (pc + 1, L, .int (f i.toNatClampNeg) :: r, h, sz, sl) else none
    | none => none)
  | _ => none
def pm_iS (T : pm_Tab) (ty : FieldType) (nr : Int32 → Int32) (pc : Nat) (L : pm_L) (S : List Value) (h : pm_H) (sz sl : Nat) : Option pm_St := match S with
  | .int x :: .int i :: .ref a :: r => (match pm_iar T ty h sz a with
    | some (kd, n, f) => if pm_in i n = true then some (pc + 1, L, r, va_up h a (.inl (kd, n, .inl (upd f i.toNatClampNeg (nr x)))), sz, sl) else none
    | none => none)
  | _ => none
def pm_la (T : pm_Tab) (pc : Nat) (L : pm_L) (S : List Value) (h : pm_H) (sz sl : Nat) : Option pm_St := match S with
  | .int i :: .ref a :: r => (match pm_lar T h sz a with
    | some (_, n, f) => if pm_in i n = true then some (pc + 1, L, .long (f i.toNatClampNeg) :: r, h, sz, sl) else none
    | none => none)
  | _ => none
def pm_lS (T : pm_Tab) (pc : Nat) (L : pm_L) (S : List Value) (h : pm_H) (sz sl : Nat) : Option pm_St := match S with
  | .long x :: .int i :: .ref a :: r => (match pm_lar T h sz a with
    | some (kd, n, f) => if pm_in i n = true then some (pc + 1, L, r, va_up h a (.inl (kd, n, .inr (.inl (vp_updL f i.toNatClampNeg x)))), sz, sl) else none
    | none => none)
  | _ => none
def pm_isObj (t : Option FieldType) : Bool := match t with
  | some (.object _) => true
  | _ => false
def pm_qa (T : pm_Tab) (pc : Nat) (L : pm_L) (S : List Value) (h : pm_H) (sz sl : Nat) : Option pm_St := match S with
  | .int i :: .ref a :: r => (match pm_qar h sz a with
    | some (kd, n, f) => if pm_in i n = true ∧ pm_isObj (pm_ty T)[kd]? = true then some (pc + 1, L, va_rf (f i.toNatClampNeg) :: r, h, sz, sl) else none
    | none => none)
  | _ => none
def pm_qS (T : pm_Tab) (pc : Nat) (L : pm_L) (S : List Value) (h : pm_H) (sz sl : Nat) : Option pm_St := match S with
  | .ref v :: .int i :: .ref a :: r => (match pm_qar h sz a with
    | some (kd, n, f) => (match pm_obj h sz v with
      | some (ci, _) => if pm_in i n = true ∧ (pm_ty T)[kd]? = ((pm_cl T)[ci]?).map (fun q => FieldType.object q.1) ∧ ci < (pm_cl T).length then some (pc + 1, L, r, va_up h a (.inl (kd, n, .inr (.inr (.inr (.inr (va_up f i.toNatClampNeg (some v))))))), sz, sl) else none
      | none => none)
    | none => none)
  | _ => none
def pm_al (T : pm_Tab) (pc : Nat) (L : pm_L) (S : List Value) (h : pm_H) (sz sl : Nat) : Option pm_St := match S with
  | .ref a :: r => if a < sz then (match h a with
    | .inl (kd, n, _) => if ((pm_ty T)[kd]?).isSome = true then some (pc + 1, L, .int (Int32.ofNat n) :: r, h, sz, sl) else none
    | _ => none) else none
  | _ => none
/-- does a value fit a field: 0 int, 1 long, 2 a reference, 3 boolean; 10 more: final, of the pool's owner; 20 more: final, not to be written -/
def pm_fits (t : Nat) (v : Value) : Bool := match t, v with
  | 0, .int _ => true
  | 1, .long _ => true
  | 2, .ref _ => true
  | 3, .int x => decide (x = 0 ∨ x = 1)
  | _, _ => false
def pm_gf (T : pm_Tab) (k idx pc : Nat) (L : pm_L) (S : List Value) (h : pm_H) (sz sl : Nat) : Option pm_St := match S with
  | .ref a :: r => (match pm_obj h sz a, pm_fld T (pm_o T k) idx with
    | some (ci, fs), some (cj, f, _) => if cj = ci then (match fs[f]? with
        | some v => some (pc + 3, L, v :: r, h, sz, sl)
        | none => none) else none
    | _, _ => none)
  | _ => none
def pm_pf (T : pm_Tab) (k idx pc : Nat) (L : pm_L) (S : List Value) (h : pm_H) (sz sl : Nat) : Option pm_St := match S with
  | v :: .ref a :: r => (match pm_obj h sz a, pm_fld T (pm_o T k) idx with
    | some (ci, fs), some (cj, f, t) => if cj = ci ∧ f < fs.length ∧ pm_fits (t % 10) v = true ∧ (t < 10 ∨ (t < 20 ∧ pm_init T k = true)) then some (pc + 3, L, r, va_up h a (.inr (ci, fs.set f v)), sz, sl) else none
    | _, _ => none)
  | _ => none
/-- a new cell -/
def pm_nw (e : pm_E) (n len pc : Nat) (L : pm_L) (S : List Value) (h : pm_H) (sz sl : Nat) : Option pm_St := some (pc + len, L, .ref sz :: S, va_up h sz e, sz + 1, sl + n)
def pm_tysAt (T : pm_Tab) (ty : FieldType) : Option Nat := (pm_ty T).findIdx? (fun t => t == ty)
def pm_newI (T : pm_Tab) (ty : FieldType) (pc : Nat) (L : pm_L) (S : List Value) (h : pm_H) (sz sl : Nat) : Option pm_St := match S with
  | .int n :: r => (match pm_tysAt T ty with
    | some kd => if ¬ n < 0 ∧ n.toNatClampNeg ≤ 65536 then pm_nw (.inl (kd, n.toNatClampNeg, .inl (fun _ => 0))) n.toNatClampNeg 2 pc L r h sz sl else none
    | none => none)
  | _ => none
def pm_newL (T : pm_Tab) (pc : Nat) (L : pm_L) (S : List Value) (h : pm_H) (sz sl : Nat) : Option pm_St := match S with
  | .int n :: r => (match pm_tysAt T .long with
    | some kd => if ¬ n < 0 ∧ n.toNatClampNeg ≤ 65536 then pm_nw (.inl (kd, n.toNatClampNeg, .inr (.inl (fun _ => 0)))) n.toNatClampNeg 2 pc L r h sz sl else none
    | none => none)
  | _ => none
/-- an array of references: the table of classes by (owner plus 100, index) tells the array type's number plus 1000 -/
def pm_newQ (T : pm_Tab) (k idx pc : Nat) (L : pm_L) (S : List Value) (h : pm_H) (sz sl : Nat) : Option pm_St := match S with
  | .int n :: r => (match pm_clk T (100 + pm_o T k) idx with
    | some q => if 1000 ≤ q ∧ ¬ n < 0 ∧ n.toNatClampNeg ≤ 65536 then pm_nw (.inl (q - 1000, n.toNatClampNeg, .inr (.inr (.inr (.inr (fun _ => none)))))) n.toNatClampNeg 3 pc L r h sz sl else none
    | none => none)
  | _ => none
def pm_newO (T : pm_Tab) (k idx pc : Nat) (L : pm_L) (S : List Value) (h : pm_H) (sz sl : Nat) : Option pm_St := match pm_clk T (pm_o T k) idx with
  | some ci => if ci < 1000 then pm_nw (.inr (ci, pm_df T ci)) (pm_df T ci).length 3 pc L S h sz sl else none
  | none => none
def pm_sum (S : List Value) : Nat := (S.map fun v => v.category).sum
/-- what the library does: 6 Object.<init>, 7 Math.min, 8 Math.max, 9 System.arraycopy of ints -/
def pm_lib (T : pm_Tab) (fr lo w pc : Nat) (L : pm_L) (S : List Value) (h : pm_H) (sz sl : Nat) : Option pm_St := match w, S with
  | 6, .ref _ :: r => if 1 ≤ fr ∧ pm_sum r + 12 ≤ lo then some (pc + 3, L, r, h, sz, sl) else none
  | 7, .int y :: .int x :: r => if 1 ≤ fr ∧ pm_sum r + 13 ≤ lo then some (pc + 3, L, .int (if y < x then y else x) :: r, h, sz, sl) else none
  | 8, .int y :: .int x :: r => if 1 ≤ fr ∧ pm_sum r + 13 ≤ lo then some (pc + 3, L, .int (if x < y then y else x) :: r, h, sz, sl) else none
  | 9, .int n :: .int dp :: .ref a :: .int sp :: .ref a0 :: r => (match pm_iar T .int h sz a0, pm_iar T .int h sz a with
    | some (_, n0, f), some (kd, n1, g) => if (1 ≤ fr ∧ pm_sum r + 60 ≤ lo) ∧ ¬ sp < 0 ∧ ¬ dp < 0 ∧ ¬ n < 0 ∧ sp.toNatClampNeg + n.toNatClampNeg ≤ n0 ∧ dp.toNatClampNeg + n.toNatClampNeg ≤ n1 then some (pc + 3, L, r, va_up h a (.inl (kd, n1, .inl (va_cpy f g sp.toNatClampNeg dp.toNatClampNeg n.toNatClampNeg))), sz, sl) else none
    | _, _ => none)
  | _, _ => none
def pm_libW (T : pm_Tab) (sp : Bool) (fr lo k idx pc : Nat) (L : pm_L) (S : List Value) (h : pm_H) (sz sl : Nat) : Option pm_St := match pm_mlk T (pm_o T k) idx with
  | some (w, _) => if (w == 6) = sp then pm_lib T fr lo w pc L S h sz sl else none
  | none => none
/-- on a String constant: 10 length(), 11 charAt(int) -/
def pm_libV (T : pm_Tab) (fr lo k idx pc : Nat) (L : pm_L) (S : List Value) (h : pm_H) (sz sl : Nat) : Option pm_St := match pm_mlk T (pm_o T k) idx, S with
  | some (10, _), .retAddr i :: r => if i < 5 ∧ 5 ≤ fr ∧ 200 ≤ lo ∧ pm_sum r ≤ 8 then some (pc + 3, L, .int (Int32.ofNat (st_tx i).length) :: r, h, sz, sl) else none
  | some (11, _), .int x :: .retAddr i :: r => if i < 5 ∧ 5 ≤ fr ∧ 200 ≤ lo ∧ pm_sum r ≤ 8 ∧ pm_in x (st_tx i).length = true then some (pc + 3, L, .int ((st_tx i).getD x.toNatClampNeg 0) :: r, h, sz, sl) else none
  | _, _ => none
def pm_lenOk (i : Instr) (len : Nat) : Bool := match i with
  | .bipush _ | .ldc _ | .iload _ | .lload _ | .aload _ | .istore _ | .lstore _ | .astore _ | .newarray _ => len == 2
  | .sipush _ | .ldc_w _ | .ldc2_w _ | .iinc _ _ | .ifCond _ _ | .if_icmp _ _ | .goto _ | .getfield _ | .putfield _ | .anewarray _ | .new _ | .invokevirtual _ | .invokestatic _ | .invokespecial _ => len == 3
  | .tableswitch _ _ _ _ | .lookupswitch _ _ => true
  | _ => len == 1
def pm_swOk (ps : List (Int × Int)) : Bool := (ps.zip (ps.drop 1)).all (fun (a, next) => a.1 < next.1)
def pm_simple (T : pm_Tab) (fr lo k : Nat) (i : Instr) (pc : Nat) (L : pm_L) (S : List Value) (h : pm_H) (sz sl : Nat) : Option pm_St := match i with
  | .iconst n => some (pc + 1, L, .int (Int32.ofInt n) :: S, h, sz, sl)
  | .bipush n => some (pc + 2, L, .int (Int8.ofInt n).toInt32 :: S, h, sz, sl)
  | .sipush n => some (pc + 3, L, .int (Int16.ofInt n).toInt32 :: S, h, sz, sl)
  | .lconst n => some (pc + 1, L, .long (Int64.ofNat n.val) :: S, h, sz, sl)
  | .ldc j => (match pm_con T (pm_o T k) j with
    | some v => some (pc + 2, L, .int v :: S, h, sz, sl)
    | none => (match st_str (pm_o T k) j with
      | some i => some (pc + 2, L, .retAddr i :: S, h, sz, sl)
      | none => none))
  | .ldc_w j => (match pm_con T (pm_o T k) j with
    | some v => some (pc + 3, L, .int v :: S, h, sz, sl)
    | none => (match st_str (pm_o T k) j with
      | some i => some (pc + 3, L, .retAddr i :: S, h, sz, sl)
      | none => none))
  | .ldc2_w j => (match pm_conL T (pm_o T k) j with
    | some v => some (pc + 3, L, .long v :: S, h, sz, sl)
    | none => none)
  | .iload j => pm_lo 0 2 pc j L S h sz sl
  | .iload_n j => pm_lo 0 1 pc j.val L S h sz sl
  | .lload j => pm_lo 1 2 pc j L S h sz sl
  | .lload_n j => pm_lo 1 1 pc j.val L S h sz sl
  | .aload j => pm_lo 2 2 pc j L S h sz sl
  | .aload_n j => pm_lo 2 1 pc j.val L S h sz sl
  | .istore j => pm_so 0 2 (pm_max T k) pc j L S h sz sl
  | .istore_n j => pm_so 0 1 (pm_max T k) pc j.val L S h sz sl
  | .astore j => pm_so 2 2 (pm_max T k) pc j L S h sz sl
  | .astore_n j => pm_so 2 1 (pm_max T k) pc j.val L S h sz sl
  | .lstore j => pm_sL 2 (pm_max T k) pc j L S h sz sl
  | .lstore_n j => pm_sL 1 (pm_max T k) pc j.val L S h sz sl
  | .iinc j n => (match pm_get L j with
    | some (.int x) => if j < pm_max T k then some (pc + 3, pm_st1 L j (.int (x + Int32.ofInt n)), S, h, sz, sl) else none
    | _ => none)
  | .iadd => pm_bi (fun x y => x + y) pc L S h sz sl
  | .isub => pm_bi (fun x y => x - y) pc L S h sz sl
  | .imul => pm_bi (fun x y => x * y) pc L S h sz sl
  | .iand => pm_bi (fun x y => x &&& y) pc L S h sz sl
  | .ior => pm_bi (fun x y => x ||| y) pc L S h sz sl
  | .ixor => pm_bi (fun x y => x ^^^ y) pc L S h sz sl
  | .ishl => pm_bi (fun x y => x <<< (y &&& 31)) pc L S h sz sl
  | .ishr => pm_bi (fun x y => x >>> (y &&& 31)) pc L S h sz sl
  | .iushr => pm_bi (fun x y => (x.toUInt32 >>> (y.toUInt32 &&& Int32.toUInt32 31)).toInt32) pc L S h sz sl
  | .idiv => pm_bd (fun x y => x / y) pc L S h sz sl
  | .irem => pm_bd (fun x y => x - x / y * y) pc L S h sz sl
  | .ineg => pm_ui (fun x => .int (-x)) pc L S h sz sl
  | .i2l => pm_ui (fun x => .long x.toInt64) pc L S h sz sl
  | .i2b => pm_ui (fun x => .int x.toInt8.toInt32) pc L S h sz sl
  | .i2s => pm_ui (fun x => .int x.toInt16.toInt32) pc L S h sz sl
  | .i2c => pm_ui (fun x => .int (x.toUInt32 % 65536).toInt32) pc L S h sz sl
  | .lmul => pm_bl (fun x y => x * y) pc L S h sz sl
  | .ladd => pm_bl (fun x y => x + y) pc L S h sz sl
  | .lsub => pm_bl (fun x y => x - y) pc L S h sz sl
  | .ldiv => pm_bdL (fun x y => x / y) pc L S h sz sl
  | .lrem => pm_bdL (fun x y => x - x / y * y) pc L S h sz sl
  | .lcmp => (match S with
    | .long y :: .long x :: r => some (pc + 1, L, .int (lg_cmp x y) :: r, h, sz, sl)
    | _ => none)
  | .dup => (match S with
    | v :: r => if v.category = 1 then some (pc + 1, L, v :: v :: r, h, sz, sl) else none
    | _ => none)
  | .pop => (match S with
    | v :: r => if v.category = 1 then some (pc + 1, L, r, h, sz, sl) else none
    | _ => none)
  | .dup_x1 => (match S with
    | v :: w :: r => if v.category = 1 ∧ w.category = 1 then some (pc + 1, L, v :: w :: v :: r, h, sz, sl) else none
    | _ => none)
  | .dup_x2 => (match S with
    | v :: w :: z :: r => if v.category = 1 ∧ w.category = 1 ∧ z.category = 1 then some (pc + 1, L, v :: w :: z :: v :: r, h, sz, sl) else none
    | _ => none)
  | .dup2 => (match S with
    | v :: w :: r => if v.category = 1 ∧ w.category = 1 then some (pc + 1, L, v :: w :: v :: w :: r, h, sz, sl) else none
    | _ => none)
  | .ifCond c off => (match S with
    | .int x :: r => pm_br (pm_cmp c x 0) pc off L r h sz sl
    | _ => none)
  | .if_icmp c off => (match S with
    | .int y :: .int x :: r => pm_br (pm_cmp c x y) pc off L r h sz sl
    | _ => none)
  | .goto off => pm_jp pc off L S h sz sl
  | .tableswitch d lo' hi offs => (match S with
    | .int x :: r => if x.toInt < lo' ∨ hi < x.toInt then pm_jp pc d L r h sz sl else (match offs[(x.toInt - lo').toNat]? with
      | some off => pm_jp pc off L r h sz sl
      | none => none)
    | _ => none)
  | .lookupswitch d ps => (match S with
    | .int x :: r => if pm_swOk ps.toList = true then pm_jp pc (Op.lookupswitch.offset ps.toList d x.toInt) L r h sz sl else none
    | _ => none)
  | .getfield j => pm_gf T k j pc L S h sz sl
  | .putfield j => pm_pf T k j pc L S h sz sl
  | .iaload => pm_ia T .int pc L S h sz sl
  | .caload => pm_ia T .char pc L S h sz sl
  | .baload => pm_ia T .boolean pc L S h sz sl
  | .laload => pm_la T pc L S h sz sl
  | .aaload => pm_qa T pc L S h sz sl
  | .iastore => pm_iS T .int (fun x => x) pc L S h sz sl
  | .castore => pm_iS T .char (fun x => vp_nar .char x) pc L S h sz sl
  | .bastore => pm_iS T .boolean (fun x => vp_nar .boolean x) pc L S h sz sl
  | .lastore => pm_lS T pc L S h sz sl
  | .aastore => pm_qS T pc L S h sz sl
  | .arraylength => pm_al T pc L S h sz sl
  | .newarray .int => pm_newI T .int pc L S h sz sl
  | .newarray .char => pm_newI T .char pc L S h sz sl
  | .newarray .boolean => pm_newI T .boolean pc L S h sz sl
  | .newarray .long => pm_newL T pc L S h sz sl
  | .anewarray j => pm_newQ T k j pc L S h sz sl
  | .new j => pm_newO T k j pc L S h sz sl
  | .invokespecial j => pm_libW T true fr lo k j pc L S h sz sl
  | .invokestatic j => pm_libW T false fr lo k j pc L S h sz sl
  | .invokevirtual j => pm_libV T fr lo k j pc L S h sz sl
  | _ => none
/-- a call of a method of the tables: 0 by the receiver's class, 1 the same of a nest mate, 2 static, 3 static of a nest mate, 4 a constructor, 5 one of a nest mate -/
def pm_callee (T : pm_Tab) (k : Nat) (i : Instr) : Option (Nat × Nat) := match i with
  | .invokevirtual j => (match pm_mlk T (pm_o T k) j with
    | some (0, t) => some (0, t)
    | some (1, t) => some (1, t)
    | _ => none)
  | .invokestatic j => (match pm_mlk T (pm_o T k) j with
    | some (2, t) => some (2, t)
    | some (3, t) => some (3, t)
    | _ => none)
  | .invokespecial j => (match pm_mlk T (pm_o T k) j with
    | some (4, t) => some (4, t)
    | some (5, t) => some (5, t)
    | _ => none)
  | _ => none
/-- the receiver is an object of the method's class -/
def pm_rcv (T : pm_Tab) (w t : Nat) (As : List Value) (h : pm_H) (sz : Nat) : Bool := if w = 2 ∨ w = 3 then true else (match As with
  | .ref a :: _ => (match pm_obj h sz a with
    | some (ci, _) => ci == pm_ci T t
    | none => false)
  | _ => false)
def pm_rets (T : pm_Tab) (k : Nat) (i : Instr) (S : List Value) : Option (Option Value) := match i, S with
  | .return_, [] => (match pm_ret T k with
    | none => some none
    | _ => none)
  | .ireturn, [.int v] => (match pm_ret T k with
    | some .int => some (some (.int v))
    | some .boolean => if v = 0 ∨ v = 1 then some (some (.int v)) else none
    | _ => none)
  | .lreturn, [.long v] => (match pm_ret T k with
    | some .long => some (some (.long v))
    | _ => none)
  | _, _ => none
abbrev pm_Rs : Type := Option Value × pm_H × Nat × Nat
/-- one step in method k; 'go' runs a callee -/
def pm_step (T : pm_Tab) (go : Nat → Nat → Nat → List Value → pm_H → Nat → Nat → Option pm_Rs) (fr lo k : Nat) (st : pm_St) : Option pm_St := match pm_ins T k st.1 with
  | none => none
  | some (i, len) => if pm_lenOk i len = true then (match pm_callee T k i with
    | some (w, t) => if pm_na T t ≤ st.2.2.1.length ∧ pm_rcv T w t (st.2.2.1.take (pm_na T t)).reverse st.2.2.2.1 st.2.2.2.2.1 = true ∧ pm_sum (st.2.2.1.drop (pm_na T t)) ≤ 8 ∧ 1 ≤ fr ∧ 19 + pm_max T t ≤ lo ∧ (pm_args (st.2.2.1.take (pm_na T t)).reverse).length ≤ pm_max T t then (match go (fr - 1) (lo - (19 + pm_max T t)) t (st.2.2.1.take (pm_na T t)).reverse st.2.2.2.1 st.2.2.2.2.1 st.2.2.2.2.2 with
      | some (rv, h1, sz1, sl1) => some (st.1 + 3, st.2.1, rv.toList ++ st.2.2.1.drop (pm_na T t), h1, sz1, sl1)
      | none => none) else none
    | none => pm_simple T fr lo k i st.1 st.2.1 st.2.2.1 st.2.2.2.1 st.2.2.2.2.1 st.2.2.2.2.2) else none
/-- does the step at st end the method: its answer -/
def pm_end (T : pm_Tab) (k : Nat) (st : pm_St) : Option pm_Rs := match pm_ins T k st.1 with
  | none => none
  | some (i, len) => if pm_lenOk i len = true then (match pm_rets T k i st.2.2.1 with
    | some rv => some (rv, st.2.2.2)
    | none => none) else none
/-- n steps at most -/
def pm_run (T : pm_Tab) : Nat → Nat → Nat → Nat → pm_St → Option pm_Rs
  | 0, _, _, _, _ => none
  | n + 1, fr, lo, k, st => match pm_end T k st with
    | some r => some r
    | none => match pm_step T (fun fr lo t as h sz sl => pm_run T n fr lo t (0, pm_l0 as (pm_max T t), [], h, sz, sl)) fr lo k st with
      | some st' => pm_run T n fr lo k st'
      | none => none
end MG06strnx1
section MG06strnx2
/-! the pure machine's cells and locals as the kit's worlds: cell i lies at b + i -/
/-- aC: the classes of arrays; from 1000 on, the addresses of the cells outside -/
def pm_tr (aC : Nat → ClassId) (b : Nat) (v : Value) : Value := match v with
  | .ref a => .ref (b + a)
  | .retAddr a => .ref (aC (1000 + a))
  | v => v
def pm_trA (b : Nat) (a : vp_A) : vp_A := match a with
  | (n, .inr (.inr (.inr (.inr f)))) => (n, .inr (.inr (.inr (.inr (fun j => (f j).map (fun x => b + x))))))
  | a => a
def pm_trE (aC : Nat → ClassId) (b : Nat) (e : pm_E) : va_E := match e with
  | .inl a => .inl (aC a.1, pm_trA b a.2)
  | .inr o => .inr (o.1, o.2.map (pm_tr aC b))
def pm_w (aC : Nat → ClassId) (b : Nat) (h : pm_H) (sz : Nat) : va_W := (List.range sz).map (fun i => (b + i, pm_trE aC b (h i)))
theorem pm_w_len (aC : Nat → ClassId) (b : Nat) (h : pm_H) (sz : Nat) : (pm_w aC b h sz).length = sz := by simp [pm_w]
theorem pm_w_get {aC : Nat → ClassId} {b : Nat} {h : pm_H} {sz i : Nat} (hi : i < sz) : (pm_w aC b h sz)[i]? = some (b + i, pm_trE aC b (h i)) := by simp [pm_w, hi]
theorem pm_w_at {aC : Nat → ClassId} {b : Nat} {h : pm_H} {sz i : Nat} {q : Nat × va_E} (hq : (pm_w aC b h sz)[i]? = some q) : i < sz ∧ q = (b + i, pm_trE aC b (h i)) := by
  have hl : i < (pm_w aC b h sz).length := (List.getElem?_eq_some_iff.mp hq).1
  rw [pm_w_len] at hl
  rw [pm_w_get hl] at hq
  exact ⟨hl, (Option.some.inj hq).symm⟩
theorem pm_w_cong {aC : Nat → ClassId} {b : Nat} {h h' : pm_H} {sz : Nat} (e : ∀ i, i < sz → h i = h' i) : pm_w aC b h sz = pm_w aC b h' sz := by
  unfold pm_w
  exact List.map_congr_left (fun i hi => by rw [e i (List.mem_range.mp hi)])
theorem pm_w_set {aC : Nat → ClassId} {b : Nat} {h : pm_H} {sz a : Nat} {e : pm_E} {e' : va_E} (he : e' = pm_trE aC b e) : (pm_w aC b h sz).set a (b + a, e') = pm_w aC b (va_up h a e) sz := by
  subst he
  apply List.ext_getElem?
  intro i
  rw [List.getElem?_set, pm_w_len]
  by_cases hi : i < sz
  · rw [pm_w_get hi, pm_w_get hi]
    by_cases ha : a = i
    · subst ha
      simp [va_up, hi]
    · simp [va_up, ha, Ne.symm ha]
  · have h1 : (pm_w aC b h sz)[i]? = none := List.getElem?_eq_none (by rw [pm_w_len]; omega)
    have h2 : (pm_w aC b (va_up h a e) sz)[i]? = none := List.getElem?_eq_none (by rw [pm_w_len]; omega)
    rw [h1, h2]
    by_cases ha : a = i
    · subst ha; simp [hi]
    · simp [ha]
theorem pm_w_push {aC : Nat → ClassId} {b : Nat} {h : pm_H} {sz : Nat} {e : pm_E} {e' : va_E} (he : e' = pm_trE aC b e) : pm_w aC b h sz ++ [(b + sz, e')] = pm_w aC b (va_up h sz e) (sz + 1) := by
  subst he
  unfold pm_w
  rw [List.range_succ, List.map_append]
  congr 1
  · exact List.map_congr_left (fun i hi => by
      have := List.mem_range.mp hi
      simp [va_up, Nat.ne_of_lt this])
  · simp [va_up]
theorem pm_w_D (aC : Nat → ClassId) (b : Nat) (h : pm_H) (sz : Nat) : va_D (fun q => b ≤ q) (pm_w aC b h sz) := by
  refine ⟨fun i j p q hp hq e => ?_, fun k q hq => ?_⟩
  · obtain ⟨-, rfl⟩ := pm_w_at hp
    obtain ⟨-, rfl⟩ := pm_w_at hq
    dsimp only at e
    omega
  · obtain ⟨-, rfl⟩ := pm_w_at hq
    exact Nat.le_add_right b k
theorem pm_cat (aC : Nat → ClassId) (b : Nat) (v : Value) : (pm_tr aC b v).category = v.category := by cases v <;> rfl
theorem pm_sum_tr (aC : Nat → ClassId) (b : Nat) (S : List Value) : ((S.map (pm_tr aC b)).map fun v => v.category).sum = pm_sum S := by
  unfold pm_sum
  rw [List.map_map]
  congr 1
  exact List.map_congr_left (fun v _ => pm_cat aC b v)
/-! locals -/
def pm_loc (aC : Nat → ClassId) (b : Nat) (ls : Array Slot) (n : Nat) (L : pm_L) : Prop := ls.size = n ∧ lv_wf ls ∧ ∀ i v, pm_get L i = some v → ls[i]? = some (.val (pm_tr aC b v))
def pm_ll (aC : Nat → ClassId) (b : Nat) (L : pm_L) : List (Nat × Value) := (List.range L.length).filterMap (fun i => (pm_get L i).map (fun v => (i, pm_tr aC b v)))
theorem pm_get_lt {L : pm_L} {i : Nat} {v : Value} (h : pm_get L i = some v) : i < L.length := by
  unfold pm_get at h
  rcases Nat.lt_or_ge i L.length with q | q
  · exact q
  · rw [List.getElem?_eq_none q] at h
    cases h
theorem pm_ll_mem {aC : Nat → ClassId} {b : Nat} {L : pm_L} {i : Nat} {v : Value} (h : pm_get L i = some v) : (i, pm_tr aC b v) ∈ pm_ll aC b L := by
  unfold pm_ll
  exact List.mem_filterMap.mpr ⟨i, List.mem_range.mpr (pm_get_lt h), by rw [h]; rfl⟩
theorem pm_ll_of {aC : Nat → ClassId} {b : Nat} {L : pm_L} {q : Nat × Value} (h : q ∈ pm_ll aC b L) : ∃ v, pm_get L q.1 = some v ∧ q.2 = pm_tr aC b v := by
  unfold pm_ll at h
  obtain ⟨i, -, hi⟩ := List.mem_filterMap.mp h
  cases hg : pm_get L i with
  | none => rw [hg] at hi; cases hi
  | some v => rw [hg] at hi; cases hi; exact ⟨v, hg, rfl⟩
theorem pm_loc.has {aC : Nat → ClassId} {b : Nat} {ls : Array Slot} {n : Nat} {L : pm_L} (h : pm_loc aC b ls n L) : lv_has ls n (pm_ll aC b L) := by
  refine ⟨h.1, h.2.1, fun q hq => ?_⟩
  obtain ⟨v, h1, h2⟩ := pm_ll_of hq
  rw [h2]
  exact h.2.2 _ _ h1
theorem pm_get_set {L : pm_L} {i j : Nat} {o : Option Value} {w : Value} (h : pm_get (L.set i o) j = some w) : (j = i ∧ o = some w) ∨ (j ≠ i ∧ pm_get L j = some w) := by
  unfold pm_get at h ⊢
  rw [List.getElem?_set] at h
  by_cases e : i = j
  · subst e
    rw [if_pos rfl] at h
    by_cases hl : i < L.length
    · rw [if_pos hl] at h
      cases o with
      | none => cases h
      | some x => exact Or.inl ⟨rfl, h⟩
    · rw [if_neg hl] at h; cases h
  · rw [if_neg e] at h
    exact Or.inr ⟨Ne.symm e, h⟩
theorem pm_get_cut {L : pm_L} {i j : Nat} {w : Value} (h : pm_get (pm_cut L i) j = some w) : pm_get L j = some w ∧ ¬ (j + 1 = i ∧ w.category = 2) := by
  unfold pm_cut at h
  cases i with
  | zero => exact ⟨h, fun q => by omega⟩
  | succ i =>
    dsimp only at h
    by_cases hc : pm_cat2 L i = true
    · rw [if_pos hc] at h
      rcases pm_get_set h with ⟨-, h2⟩ | ⟨h1, h2⟩
      · cases h2
      · exact ⟨h2, fun q => h1 (by omega)⟩
    · rw [if_neg hc] at h
      refine ⟨h, fun q => hc ?_⟩
      have e : j = i := by omega
      subst e
      unfold pm_cat2
      rw [h]
      simp [q.2]
theorem pm_get_st1 {L : pm_L} {i j : Nat} {v w : Value} (h : pm_get (pm_st1 L i v) j = some w) : (j = i ∧ w = v) ∨ (j ≠ i ∧ pm_get L j = some w ∧ ¬ (j + 1 = i ∧ w.category = 2)) := by
  rcases pm_get_set h with ⟨h1, h2⟩ | ⟨h1, h2⟩
  · exact Or.inl ⟨h1, (Option.some.inj h2).symm⟩
  · exact Or.inr ⟨h1, pm_get_cut h2⟩
theorem pm_get_st2 {L : pm_L} {i j : Nat} {v w : Value} (h : pm_get (pm_st2 L i v) j = some w) : (j = i ∧ w = v) ∨ (j ≠ i ∧ j ≠ i + 1 ∧ pm_get L j = some w ∧ ¬ (j + 1 = i ∧ w.category = 2)) := by
  rcases pm_get_set h with ⟨-, h2⟩ | ⟨h0, h2⟩
  · cases h2
  · rcases pm_get_st1 (L := L) (i := i) (v := v) h2 with ⟨h1, h3⟩ | ⟨h1, h3, h4⟩
    · exact Or.inl ⟨h1, h3⟩
    · exact Or.inr ⟨h1, h0, h3, h4⟩
theorem pm_loc.st1 {aC : Nat → ClassId} {b : Nat} {ls : Array Slot} {n i : Nat} {L : pm_L} {v : Value} (h : lv_has ls n ((i, pm_tr aC b v) :: (pm_ll aC b L).filter (fun q => !(q.1 == i) && !(q.1 + 1 == i && q.2.category == 2)))) : pm_loc aC b ls n (pm_st1 L i v) := by
  refine ⟨h.1, h.2.1, fun j w hj => ?_⟩
  rcases pm_get_st1 hj with ⟨rfl, rfl⟩ | ⟨h1, h2, h3⟩
  · exact h.2.2 _ List.mem_cons_self
  · refine h.2.2 (j, pm_tr aC b w) (List.mem_cons_of_mem _ (List.mem_filter.mpr ⟨pm_ll_mem h2, ?_⟩))
    rw [pm_cat]
    simp only [Bool.and_eq_true, Bool.not_eq_true', beq_eq_false_iff_ne, ne_eq, Bool.and_eq_false_iff]
    refine ⟨h1, ?_⟩
    by_cases e : j + 1 = i
    · exact Or.inr (fun q => h3 ⟨e, q⟩)
    · exact Or.inl e
theorem pm_loc.st2 {aC : Nat → ClassId} {b : Nat} {ls : Array Slot} {n i : Nat} {L : pm_L} {v : Value} (h : lv_has ls n ((i, pm_tr aC b v) :: (pm_ll aC b L).filter (fun q => !(q.1 == i) && (!(q.1 == i + 1) && !(q.1 + 1 == i && q.2.category == 2))))) : pm_loc aC b ls n (pm_st2 L i v) := by
  refine ⟨h.1, h.2.1, fun j w hj => ?_⟩
  rcases pm_get_st2 hj with ⟨rfl, rfl⟩ | ⟨h1, h0, h2, h3⟩
  · exact h.2.2 _ List.mem_cons_self
  · refine h.2.2 (j, pm_tr aC b w) (List.mem_cons_of_mem _ (List.mem_filter.mpr ⟨pm_ll_mem h2, ?_⟩))
    rw [pm_cat]
    simp only [Bool.and_eq_true, Bool.not_eq_true', beq_eq_false_iff_ne, ne_eq, Bool.and_eq_false_iff]
    refine ⟨h1, h0, ?_⟩
    by_cases e : j + 1 = i
    · exact Or.inr (fun q => h3 ⟨e, q⟩)
    · exact Or.inl e
theorem pm_args_mem (aC : Nat → ClassId) (b : Nat) : ∀ (vs : List Value) (o i : Nat) (v : Value), pm_get (pm_args vs) i = some v → (o + i, pm_tr aC b v) ∈ lv_args o (vs.map (pm_tr aC b))
  | [], o, i, v, h => by simp [pm_args, pm_get] at h
  | x :: xs, o, i, v, h => by
    unfold pm_args at h
    rw [List.map_cons]
    unfold lv_args
    by_cases hc : x.category = 2
    · rw [if_pos hc] at h
      rw [pm_cat, if_pos hc]
      match i, h with
      | 0, h => cases (Option.some.inj h : x = v); exact List.mem_cons_self
      | 1, h => simp [pm_get] at h
      | i + 2, h =>
        have := pm_args_mem aC b xs (o + 2) i v h
        rw [show o + (i + 2) = o + 2 + i by omega]
        exact List.mem_cons_of_mem _ this
    · rw [if_neg hc] at h
      rw [pm_cat, if_neg hc]
      match i, h with
      | 0, h => cases (Option.some.inj h : x = v); exact List.mem_cons_self
      | i + 1, h =>
        have := pm_args_mem aC b xs (o + 1) i v h
        rw [show o + (i + 1) = o + 1 + i by omega]
        exact List.mem_cons_of_mem _ this
theorem pm_sl_len (aC : Nat → ClassId) (b : Nat) : ∀ vs : List Value, (lg_sl (vs.map (pm_tr aC b))).length = (pm_args vs).length
  | [] => rfl
  | x :: xs => by
    have ih := pm_sl_len aC b xs
    unfold lg_sl at ih
    unfold lg_sl pm_args
    rw [List.map_cons, List.flatMap_cons, List.length_append, pm_cat, ih]
    by_cases hc : x.category = 2
    · simp [hc]; omega
    · simp [hc]; omega
theorem pm_l0_loc (aC : Nat → ClassId) (b : Nat) (vs : List Value) {n : Nat} (hn : (pm_args vs).length ≤ n) : pm_loc aC b ((lg_sl (vs.map (pm_tr aC b)) ++ List.replicate (n - (lg_sl (vs.map (pm_tr aC b))).length) Slot.unset).toArray) n (pm_l0 vs n) := by
  have h := lv_entry (vs.map (pm_tr aC b)) (n := n) (by rw [pm_sl_len]; exact hn)
  refine ⟨h.1, h.2.1, fun i v hi => ?_⟩
  have h2 : pm_get (pm_args vs) i = some v := by
    unfold pm_l0 pm_get at hi
    unfold pm_get
    by_cases hl : i < (pm_args vs).length
    · rw [List.getElem?_append_left hl] at hi
      exact hi
    · rw [List.getElem?_append_right (by omega), List.getElem?_replicate] at hi
      by_cases hq : i - (pm_args vs).length < n - (pm_args vs).length
      · rw [if_pos hq] at hi; cases hi
      · rw [if_neg hq] at hi; cases hi
  have h3 := pm_args_mem aC b vs 0 i v h2
  rw [Nat.zero_add] at h3
  exact h.2.2 _ h3
end MG06strnx2
section MG06strnx3
/-! what the tables must say, and the soundness of one step -/
def pm_kindOk (t : Nat) (ty : FieldType) : Prop := (t = 0 ∧ ty = .int) ∨ (t = 1 ∧ ty = .long) ∨ (t = 2 ∧ ∀ a : Nat, narrow ty (.ref a) = .ref a ∧ fits ty (.ref a) = true) ∨ (t = 3 ∧ ty = .boolean)
def pm_okF (T : pm_Tab) (G : List Cond) : Prop := ∀ o j ci f t, pm_fld T o j = some (ci, f, t) → ∃ (C : String) (F : u_T) (N : Nat) (ty : Nat → FieldType), (pm_cl T)[ci]? = some (C, F, N) ∧ f < N ∧ (F f).1 = C ∧ (∀ w ∈ u_ws C F N, w ∈ G) ∧ Cond.fieldLink (pm_own T o) j C (F f).2.1 (F f).2.2.1 ∈ G ∧ (∀ a, a < N → ∀ b, b < N → a ≠ b → (F a).2.1 ≠ (F b).2.1) ∧ (∀ k, k < N → parseFieldDescriptor (F k).2.2.1 = some (ty k)) ∧ pm_kindOk (t % 10) (ty f) ∧ (t < 10 → (F f).2.2.2 = false) ∧ (10 ≤ t → (F f).2.2.2 = true) ∧ (10 ≤ t → t < 20 → pm_own T o = C)
def pm_okM (T : pm_Tab) (G : List Cond) (t : Nat) : Prop := plainName (pm_y T t).cls = true ∧ pm_own T (pm_o T t) = (pm_y T t).cls ∧ Cond.code (pm_y T t) (pm_code T t) (pm_max T t) (pm_ret T t) ∈ G ∧ Cond.initialized (pm_y T t).cls ∈ G ∧ ((pm_y T t).cls ≠ "java/lang/invoke/MethodHandle" ∧ (pm_y T t).cls ≠ "java/lang/invoke/VarHandle") ∧ (pm_init T t = true → (pm_y T t).name = "<init>")
def pm_pars (T : pm_Tab) (t n : Nat) : Prop := (parseMethodDescriptor (pm_y T t).desc).map (fun d => d.parameters.length) = some n
def pm_okW (T : pm_Tab) (G Ns : List Cond) (o j w t : Nat) : Prop := match w with
  | 0 => pm_okM T G t ∧ Cond.methodLink (pm_own T o) j (pm_y T t) ∈ G ∧ Cond.instanceMethod (pm_y T t) ∈ G ∧ Cond.selects (pm_y T t).cls (pm_y T t) (pm_y T t) ∈ G ∧ (∃ n, pm_na T t = n + 1 ∧ pm_pars T t n) ∧ ∃ F N, (pm_cl T)[pm_ci T t]? = some ((pm_y T t).cls, F, N)
  | 1 => False
  | 2 => pm_okM T G t ∧ Cond.methodLink (pm_own T o) j (pm_y T t) ∈ G ∧ Cond.static (pm_y T t) ∈ G ∧ pm_pars T t (pm_na T t)
  | 3 => pm_okM T G t ∧ (∃ host, Cond.methodLinkNest (pm_own T o) j (pm_y T t) host ∈ Ns) ∧ Cond.static (pm_y T t) ∈ G ∧ pm_pars T t (pm_na T t)
  | 4 => pm_okM T G t ∧ Cond.methodLink (pm_own T o) j (pm_y T t) ∈ G ∧ Cond.instanceMethod (pm_y T t) ∈ G ∧ (pm_y T t).name = "<init>" ∧ pm_ret T t = none ∧ ∃ n, pm_na T t = n + 1 ∧ pm_pars T t n
  | 5 => pm_okM T G t ∧ (∃ host, Cond.methodLinkNest (pm_own T o) j (pm_y T t) host ∈ Ns) ∧ Cond.instanceMethod (pm_y T t) ∈ G ∧ (pm_y T t).name = "<init>" ∧ pm_ret T t = none ∧ ∃ n, pm_na T t = n + 1 ∧ pm_pars T t n
  | 6 => Cond.methodLink (pm_own T o) j Lib.objectInit ∈ G ∧ Cond.instanceMethod Lib.objectInit ∈ G ∧ Cond.code Lib.objectInit ⟨#[0xb1]⟩ 1 none ∈ G
  | 7 => Cond.methodLink (pm_own T o) j Lib.Math.min.name ∈ G ∧ Cond.static Lib.Math.min.name ∈ G ∧ Cond.initialized "java/lang/Math" ∈ G ∧ Cond.code Lib.Math.min.name Lib.Math.min.code 2 (some .int) ∈ G
  | 8 => Cond.methodLink (pm_own T o) j Lib.Math.max.name ∈ G ∧ Cond.static Lib.Math.max.name ∈ G ∧ Cond.initialized "java/lang/Math" ∈ G ∧ Cond.code Lib.Math.max.name Lib.Math.max.code 2 (some .int) ∈ G
  | 9 => Cond.methodLink (pm_own T o) j arraycopyName ∈ G ∧ Cond.native arraycopyName ∈ G ∧ Cond.static arraycopyName ∈ G ∧ Cond.initialized "java/lang/System" ∈ G
  | 10 => Cond.methodLink (pm_own T o) j st_yL ∈ G ∧ ∀ w ∈ st_ws, w ∈ G
  | 11 => Cond.methodLink (pm_own T o) j st_yA ∈ G ∧ ∀ w ∈ st_ws, w ∈ G
  | _ => False
def pm_okC (T : pm_Tab) (G Ns : List Cond) : Prop := ∀ o j q, pm_clk T o j = some q → (q < 1000 → ∃ (C : String) (F : u_T) (N : Nat) (ty : Nat → FieldType), (pm_cl T)[q]? = some (C, F, N) ∧ (∀ w ∈ u_ws C F N, w ∈ G) ∧ (∀ k, k < N → parseFieldDescriptor (F k).2.2.1 = some (ty k)) ∧ Cond.classLink (pm_own T o) j C ∈ G ∧ Cond.instantiable C N ∈ G ∧ Cond.initialized C ∈ G ∧ (pm_df T q).length = N ∧ (∀ j, j < N → defaultValue (ty j) = vp_V (pm_df T q) j) ∧ ∀ (aC : Nat → ClassId) (b : Nat), (pm_df T q).map (pm_tr aC b) = pm_df T q) ∧ (1000 ≤ q → ∀ o', o = 100 + o' → ∃ C : String, (pm_ty T)[q - 1000]? = some (.object C) ∧ Cond.classLink (pm_own T o') j C ∈ G ∧ Cond.arrayOver (.object C) ∈ Ns)
def pm_ok (T : pm_Tab) (G Ns : List Cond) : Prop :=
  (∀ k pc i len, pm_ins T k pc = some (i, len) → decode (pm_code T k) pc = .ok (i, len)) ∧
  (∀ w ∈ G, goodWord w = true) ∧
  (∀ w ∈ Ns, (∀ (s U : State), s.vm = U.vm → va_Nw w s → va_Nw w U) ∧ ∀ (s U : State), s.WarmedH U.vm → va_Nw w s → va_Nw w U) ∧
  pm_okF T G ∧ (∀ o j w t, pm_mlk T o j = some (w, t) → pm_okW T G Ns o j w t) ∧ pm_okC T G Ns ∧
  (∀ ty, pm_tysAt T ty ≠ none → Cond.arrayClass ty ∈ G ∨ ∃ C, ty = .object C) ∧
  (∀ o j v, pm_con T o j = some v → Jvm.Cond.constant (pm_own T o) j v ∈ G) ∧ (∀ o j v, pm_conL T o j = some v → Jvm.Cond.constantLong (pm_own T o) j v ∈ G)
def pm_tys (T : pm_Tab) (aC : Nat → ClassId) : List (ClassId × FieldType) := (List.range (pm_ty T).length).map (fun i => (aC i, (pm_ty T).getD i .int))
theorem pm_tys_get {T : pm_Tab} {aC : Nat → ClassId} {kd : Nat} {ty : FieldType} (h : (pm_ty T)[kd]? = some ty) : (pm_tys T aC)[kd]? = some (aC kd, ty) := by
  have hl : kd < (pm_ty T).length := (List.getElem?_eq_some_iff.mp h).1
  have e := (List.getElem?_eq_some_iff.mp h).2
  simp [pm_tys, hl, List.getD, e]
theorem pm_tysAt_get {T : pm_Tab} {kd : Nat} {ty : FieldType} (h : pm_tysAt T ty = some kd) : (pm_ty T)[kd]? = some ty := by
  unfold pm_tysAt at h
  obtain ⟨hl, h1, -⟩ := List.findIdx?_eq_some_iff_getElem.mp h
  rw [List.getElem?_eq_getElem hl]
  exact congrArg some (eq_of_beq h1)
/-- the String constants: each an object of String with its bytes, outside of A -/
def pm_ZS (aC : Nat → ClassId) (adV : Nat → Nat) (A : Nat → Prop) (U : State) (H : Heap) : Prop := ∀ i : Nat, i < 5 → va_O "java/lang/String" (aC (1000 + i)) A U H ∧ va_OF "java/lang/String" "coder" "B" (.int 0) (aC (1000 + i)) A U H ∧ va_OF "java/lang/String" "value" "[B" (.ref (adV i)) (aC (1000 + i)) A U H ∧ va_T .byte (adV i) (st_tx i).length (fun j => .int ((st_tx i).getD j 0)) A U H
def pm_Z (T : pm_Tab) (aC : Nat → ClassId) (b : Nat) (U : State) : Prop := (∀ o j i, st_str o j = some i → ∃ tx, vk_R (pm_own T o) j tx (aC (1000 + i)) U) ∧ va_Z "java/lang/String" "COMPACT_STRINGS" "Z" (.int 1) (fun q => b ≤ q) U U.heap ∧ (∃ v, va_Z "jdk/internal/util/Preconditions" "SIOOBE_FORMATTER" "Ljava/util/function/BiFunction;" v (fun q => b ≤ q) U U.heap ∧ v.category = 1) ∧ ∃ adV, pm_ZS aC adV (fun q => b ≤ q) U U.heap
theorem pm_Z.same {T : pm_Tab} {aC : Nat → ClassId} {b : Nat} {u U : State} (hv : U.vm = u.vm) (hh : U.heap = u.heap) (h : pm_Z T aC b u) : pm_Z T aC b U := by
  have ha : u.vm.Alike U.vm := by rw [hv]; exact Vm.Alike.refl u.vm
  obtain ⟨h1, h2, ⟨v, h3, h4⟩, adV, h5⟩ := h
  refine ⟨fun o j i e => ?_, ?_, ⟨v, ?_, h4⟩, adV, fun i hi => ?_⟩
  · obtain ⟨tx, q⟩ := h1 o j i e
    exact ⟨tx, vk_R.same hv q⟩
  · rw [hh]; exact va_Z.moved ha h2
  · rw [hh]; exact va_Z.moved ha h3
  · rw [hh]
    obtain ⟨q1, q2, q3, q4⟩ := h5 i hi
    exact ⟨va_O.moved ha q1, va_OF.moved ha q2, va_OF.moved ha q3, va_T.moved ha q4⟩
theorem pm_Z.warm {T : pm_Tab} {aC : Nat → ClassId} {b : Nat} {s U : State} {locs : List Loc} (hW : s.WarmedH U.vm) (hS : va_S (fun q => b ≤ q) s.heap U.heap locs) (h : pm_Z T aC b s) : pm_Z T aC b U := by
  have ha : s.vm.Alike U.vm := hW.alike
  obtain ⟨h1, h2, ⟨v, h3, h4⟩, adV, h5⟩ := h
  refine ⟨fun o j i e => ?_, ?_, ⟨v, ?_, h4⟩, adV, fun i hi => ?_⟩
  · obtain ⟨tx, q⟩ := h1 o j i e
    exact ⟨tx, vk_R.warm hW q⟩
  · exact va_Z.moved ha (h2.kept hS.2.1)
  · exact va_Z.moved ha (h3.kept hS.2.1)
  · obtain ⟨q1, q2, q3, q4⟩ := h5 i hi
    exact ⟨va_O.moved ha (q1.kept hS.2.1), va_OF.moved ha (q2.kept hS.2.1), va_OF.moved ha (q3.kept hS.2.1), va_T.moved ha (q4.kept hS.2.1)⟩
def pm_K (T : pm_Tab) (Ns : List Cond) (D : va_G) (aC : Nat → ClassId) (b : Nat) (U : State) : Prop := va_K D (pm_cl T) (pm_tys T aC) U ∧ (∀ w ∈ Ns, va_Nw w U) ∧ pm_Z T aC b U
/-- the method k is being walked -/
def pm_C (T : pm_Tab) (G Ns : List Cond) (D : va_G) (aC : Nat → ClassId) (b k : Nat) (p : Program) (s : State) (m : MethodId) (args : Array Value) (meth : Method) (c : Code) : Prop :=
  p.tables.exec = Jvm.exec ∧ c.code = pm_code T k ∧ c.maxLocals = pm_max T k ∧ s.vm.findClass (pm_own T (pm_o T k)) = some m.cls ∧ (∀ w ∈ G, w.before args s = true) ∧ pm_K T Ns D aC b s ∧ (pm_init T k = true → meth.name = "<init>")
section PMV
variable {p : Program} {l : Launch} {e : Env} {R : Room} {s : State} {m : MethodId} {args : Array Value} {below : List Frame} {meth : Method} {c : Code} {H : Heap} {locs : List Loc} {cells slots : Nat} {Q : State → Prop}
/-- the heap's size, by the walk's own account -/
theorem pm_sized {g : JFrame} (k : H.size ≤ s.heap.size + cells → W p l e R s m args below meth c H locs cells slots Q g) : W p l e R s m args below meth c H locs cells slots Q g := fun T hT X => k (by rw [← hT]; exact X.heapSize) T hT X
/-- from the pure state st the real machine comes to Q -/
def pm_V (p : Program) (l : Launch) (e : Env) (R : Room) (s : State) (m : MethodId) (args : Array Value) (below : List Frame) (meth : Method) (c : Code) (Q : State → Prop) (T : pm_Tab) (D : va_G) (aC : Nat → ClassId) (b k sz0 sl0 : Nat) (st : pm_St) : Prop :=
  ∀ (H : Heap) (locs : List Loc) (ls : Array Slot), va_P D (pm_cl T) (pm_w aC b st.2.2.2.1 st.2.2.2.2.1) H → va_S (fun q => b ≤ q) s.heap H locs → pm_loc aC b ls (pm_max T k) st.2.1 → W p l e R s m args below meth c H locs (st.2.2.2.2.1 - sz0) (st.2.2.2.2.2 - sl0) Q (F0 m st.1 ls (st.2.2.1.map (pm_tr aC b)))
variable {T : pm_Tab} {G Ns : List Cond} {D : va_G} {aC : Nat → ClassId} {b k fr lo pc sz sl sz0 sl0 : Nat} {L : pm_L} {S : List Value} {h : pm_H} {st' : pm_St}
theorem pm_bi_inv {f : Int32 → Int32 → Int32} (hh : pm_bi f pc L S h sz sl = some st') : ∃ x y r, S = .int y :: .int x :: r ∧ st' = (pc + 1, L, .int (f x y) :: r, h, sz, sl) := by
  unfold pm_bi at hh
  split at hh
  · cases hh; exact ⟨_, _, _, rfl, rfl⟩
  · cases hh
theorem pm_bd_inv {f : Int32 → Int32 → Int32} (hh : pm_bd f pc L S h sz sl = some st') : ∃ x y r, S = .int y :: .int x :: r ∧ ¬ y = 0 ∧ st' = (pc + 1, L, .int (f x y) :: r, h, sz, sl) := by
  unfold pm_bd at hh
  split at hh
  · split at hh
    · cases hh
    · rename_i hy; cases hh; exact ⟨_, _, _, rfl, hy, rfl⟩
  · cases hh
theorem pm_bl_inv {f : Int64 → Int64 → Int64} (hh : pm_bl f pc L S h sz sl = some st') : ∃ x y r, S = .long y :: .long x :: r ∧ st' = (pc + 1, L, .long (f x y) :: r, h, sz, sl) := by
  unfold pm_bl at hh
  split at hh
  · cases hh; exact ⟨_, _, _, rfl, rfl⟩
  · cases hh
theorem pm_bdL_inv {f : Int64 → Int64 → Int64} (hh : pm_bdL f pc L S h sz sl = some st') : ∃ x y r, S = .long y :: .long x :: r ∧ ¬ y = 0 ∧ st' = (pc + 1, L, .long (f x y) :: r, h, sz, sl) := by
  unfold pm_bdL at hh
  split at hh
  · split at hh
    · cases hh
    · rename_i hy; cases hh; exact ⟨_, _, _, rfl, hy, rfl⟩
  · cases hh
theorem pm_ui_inv {f : Int32 → Value} (hh : pm_ui f pc L S h sz sl = some st') : ∃ x r, S = .int x :: r ∧ st' = (pc + 1, L, f x :: r, h, sz, sl) := by
  unfold pm_ui at hh
  split at hh
  · cases hh; exact ⟨_, _, rfl, rfl⟩
  · cases hh
theorem pm_lo_inv {t n i : Nat} (hh : pm_lo t n pc i L S h sz sl = some st') : ∃ v, pm_get L i = some v ∧ pm_isT t v = true ∧ st' = (pc + n, L, v :: S, h, sz, sl) := by
  unfold pm_lo pm_ld at hh
  cases hg : pm_get L i with
  | none => rw [hg] at hh; cases hh
  | some v =>
    rw [hg] at hh
    dsimp only at hh
    by_cases ht : pm_isT t v = true
    · rw [if_pos ht] at hh; cases hh; exact ⟨v, rfl, ht, rfl⟩
    · rw [if_neg ht] at hh; cases hh
theorem pm_isT_0 {v : Value} (hh : pm_isT 0 v = true) : ∃ x, v = .int x := by cases v <;> first | exact ⟨_, rfl⟩ | cases hh
theorem pm_isT_1 {v : Value} (hh : pm_isT 1 v = true) : ∃ x, v = .long x := by cases v <;> first | exact ⟨_, rfl⟩ | cases hh
theorem pm_isT_2 {v : Value} (hh : pm_isT 2 v = true) : ∃ x, v = .ref x ∨ v = .retAddr x := by cases v <;> first | exact ⟨_, Or.inl rfl⟩ | exact ⟨_, Or.inr rfl⟩ | cases hh
theorem pm_so_inv {t n mx i : Nat} (hh : pm_so t n mx pc i L S h sz sl = some st') : ∃ v r, S = v :: r ∧ pm_isT t v = true ∧ i < mx ∧ st' = (pc + n, pm_st1 L i v, r, h, sz, sl) := by
  unfold pm_so at hh
  split at hh
  · split at hh
    · rename_i hc; cases hh; exact ⟨_, _, rfl, hc.1, hc.2, rfl⟩
    · cases hh
  · cases hh
theorem pm_sL_inv {n mx i : Nat} (hh : pm_sL n mx pc i L S h sz sl = some st') : ∃ x r, S = .long x :: r ∧ i + 1 < mx ∧ st' = (pc + n, pm_st2 L i (.long x), r, h, sz, sl) := by
  unfold pm_sL at hh
  split at hh
  · split at hh
    · rename_i hc; cases hh; exact ⟨_, _, rfl, hc, rfl⟩
    · cases hh
  · cases hh
theorem pm_jp_inv {off : Int} (hh : pm_jp pc off L S h sz sl = some st') : ∃ t : Nat, (pc : Int) + off = (t : Int) ∧ st' = (t, L, S, h, sz, sl) := by
  unfold pm_jp pm_tgt at hh
  by_cases hp : 0 ≤ (pc : Int) + off
  · rw [if_pos hp] at hh; cases hh; exact ⟨_, (Int.toNat_of_nonneg hp).symm, rfl⟩
  · rw [if_neg hp] at hh; cases hh
theorem pm_br_inv {x : Bool} {off : Int} (hh : pm_br x pc off L S h sz sl = some st') : ∃ t : Nat, (pc : Int) + off = (t : Int) ∧ ((x = true ∧ st' = (t, L, S, h, sz, sl)) ∨ (x = false ∧ st' = (pc + 3, L, S, h, sz, sl))) := by
  unfold pm_br pm_tgt at hh
  by_cases hp : 0 ≤ (pc : Int) + off
  · rw [if_pos hp] at hh
    refine ⟨_, (Int.toNat_of_nonneg hp).symm, ?_⟩
    cases x with
    | true => cases hh; exact Or.inl ⟨rfl, rfl⟩
    | false => cases hh; exact Or.inr ⟨rfl, rfl⟩
  · rw [if_neg hp] at hh; cases hh
theorem pm_iar_inv {ty : FieldType} {a kd n : Nat} {f : Nat → Int32} (hh : pm_iar T ty h sz a = some (kd, n, f)) : a < sz ∧ h a = .inl (kd, n, .inl f) ∧ (pm_ty T)[kd]? = some ty := by
  unfold pm_iar at hh
  split at hh
  · rename_i ha
    split at hh
    · rename_i e
      split at hh
      · rename_i hk; cases hh; exact ⟨ha, e, hk⟩
      · cases hh
    · cases hh
  · cases hh
theorem pm_lar_inv {a kd n : Nat} {f : Nat → Int64} (hh : pm_lar T h sz a = some (kd, n, f)) : a < sz ∧ h a = .inl (kd, n, .inr (.inl f)) ∧ (pm_ty T)[kd]? = some .long := by
  unfold pm_lar at hh
  split at hh
  · rename_i ha
    split at hh
    · rename_i e
      split at hh
      · rename_i hk; cases hh; exact ⟨ha, e, hk⟩
      · cases hh
    · cases hh
  · cases hh
theorem pm_qar_inv {a kd n : Nat} {f : Nat → Option Nat} (hh : pm_qar h sz a = some (kd, n, f)) : a < sz ∧ h a = .inl (kd, n, .inr (.inr (.inr (.inr f)))) := by
  unfold pm_qar at hh
  split at hh
  · rename_i ha
    split at hh
    · rename_i e; cases hh; exact ⟨ha, e⟩
    · cases hh
  · cases hh
theorem pm_obj_inv {a : Nat} {o : Nat × List Value} (hh : pm_obj h sz a = some o) : a < sz ∧ h a = .inr o := by
  unfold pm_obj at hh
  split at hh
  · rename_i ha
    split at hh
    · rename_i e; cases hh; exact ⟨ha, e⟩
    · cases hh
  · cases hh
theorem pm_in_of {i : Int32} {n : Nat} (hh : pm_in i n = true) : vp_in i n := by
  have h2 : ¬ (i < 0 ∨ n ≤ i.toNatClampNeg) := of_decide_eq_true hh
  exact h2
theorem pm_cmp_t {cc : Jvm.ClassFile.Cond} {x y : Int32} {P : Prop} [Decidable P] (e : pm_cmp cc x y = decide P) : (pm_cmp cc x y = true → P) ∧ (pm_cmp cc x y = false → ¬ P) := by
  rw [e]
  exact ⟨of_decide_eq_true, of_decide_eq_false⟩
end PMV
end MG06strnx3
section MG06strnx4
/-! one simple instruction -/
section PMS
variable {p : Program} {l : Launch} {e : Env} {R : Room} {s : State} {m : MethodId} {args : Array Value} {below : List Frame} {meth : Method} {c : Code} {Q : State → Prop}
variable {T : pm_Tab} {G Ns : List Cond} {D : va_G} {aC : Nat → ClassId} {b k fr lo pc sz sl sz0 sl0 : Nat} {L : pm_L} {S : List Value} {h : pm_H} {st' : pm_St}
theorem pm_w_P {H : Heap} {a : Nat} (hP : va_P D (pm_cl T) (pm_w aC b h sz) H) (ha : a < sz) {e : pm_E} (he : h a = e) : (pm_w aC b h sz)[a]? = some (b + a, pm_trE aC b e) := by rw [← he]; exact pm_w_get ha
theorem pm_setP {H1 : Heap} {a : Nat} {e : pm_E} {e' : va_E} (hP1 : va_P D (pm_cl T) ((pm_w aC b h sz).set a (b + a, e')) H1) (he : e' = pm_trE aC b e) : va_P D (pm_cl T) (pm_w aC b (va_up h a e) sz) H1 := by
  rw [pm_w_set he] at hP1
  exact hP1
theorem pm_set (f : Nat) (fs : List Value) (v : Value) : (fs.map (pm_tr aC b)).set f (pm_tr aC b v) = (fs.set f v).map (pm_tr aC b) := by rw [List.map_set]
theorem pm_getfield (OK : pm_ok T G Ns) (hC : pm_C T G Ns D aC b k p s m args meth c) {j : Nat} (hd : decode (pm_code T k) pc = .ok (.getfield j, 3)) (hh : pm_gf T k j pc L S h sz sl = some st')
    (kk : pm_V p l e R s m args below meth c Q T D aC b k sz0 sl0 st') : pm_V p l e R s m args below meth c Q T D aC b k sz0 sl0 (pc, L, S, h, sz, sl) := by
  obtain ⟨hx, hb, -, hown, hts, hK, -⟩ := hC
  unfold pm_gf at hh
  split at hh
  case h_2 => cases hh
  case h_1 a r =>
  split at hh
  case h_2 => cases hh
  case h_1 ci fs cj f t e1 e2 =>
  split at hh
  case isFalse => cases hh
  case isTrue hci =>
  subst hci
  split at hh
  case h_2 => cases hh
  case h_1 v hv =>
  cases hh
  obtain ⟨ha, hcell⟩ := pm_obj_inv e1
  obtain ⟨C, F, N, ty, h1, h2, h3, h4, h5, -⟩ := OK.2.2.2.1 _ _ _ _ _ e2
  intro H locs ls hP hS hl
  refine va_get hx hb hts h4 hown hK.1 hP a (pm_w_P hP ha hcell) h1 f h2 (hts _ h5) (fun x hx => by rw [h3] at hx; exact hx) (v := pm_tr aC b v) ?_ hd (kk H locs ls hP hS hl)
  rw [List.getElem?_map, hv]
  rfl
theorem pm_fits_ok {t : Nat} {ty : FieldType} {v : Value} (hk : pm_kindOk t ty) (hf : pm_fits t v = true) : narrow ty (pm_tr aC b v) = pm_tr aC b v ∧ fits ty (pm_tr aC b v) = true := by
  rcases hk with ⟨rfl, rfl⟩ | ⟨rfl, rfl⟩ | ⟨rfl, hr⟩ | ⟨rfl, rfl⟩
  · cases v <;> first | exact ⟨rfl, rfl⟩ | cases hf
  · cases v <;> first | exact ⟨rfl, rfl⟩ | cases hf
  · cases v <;> first | exact hr _ | cases hf
  · cases v with
    | int x =>
      have hx : x = 0 ∨ x = 1 := of_decide_eq_true hf
      rcases hx with rfl | rfl
      · exact ⟨rfl, show fits .boolean (.int 0) = true by decide⟩
      · exact ⟨rfl, show fits .boolean (.int 1) = true by decide⟩
    | _ => cases hf
theorem pm_putfield (OK : pm_ok T G Ns) (hC : pm_C T G Ns D aC b k p s m args meth c) {j : Nat} (hd : decode (pm_code T k) pc = .ok (.putfield j, 3)) (hh : pm_pf T k j pc L S h sz sl = some st')
    (kk : pm_V p l e R s m args below meth c Q T D aC b k sz0 sl0 st') : pm_V p l e R s m args below meth c Q T D aC b k sz0 sl0 (pc, L, S, h, sz, sl) := by
  obtain ⟨hx, hb, -, hown, hts, hK, hin⟩ := hC
  unfold pm_pf at hh
  split at hh
  case h_2 => cases hh
  case h_1 v a r =>
  split at hh
  case h_2 => cases hh
  case h_1 ci fs cj f t e1 e2 =>
  split at hh
  case isFalse => cases hh
  case isTrue hc =>
  cases hh
  obtain ⟨rfl, hf, hfit, hfin⟩ := hc
  obtain ⟨ha, hcell⟩ := pm_obj_inv e1
  obtain ⟨C, F, N, ty, h1, h2, h3, h4, h5, h6, h7, h8, h9, h10, h11⟩ := OK.2.2.2.1 _ _ _ _ _ e2
  intro H locs ls hP hS hl
  obtain ⟨hn, hft⟩ := pm_fits_ok (b := b) h8 hfit
  have fin : ∀ (H1 : Heap) (locs1 : List Loc), va_P D (pm_cl T) ((pm_w aC b h sz).set a (b + a, .inr (cj, (fs.map (pm_tr aC b)).set f (pm_tr aC b v)))) H1 → va_D (fun q => b ≤ q) ((pm_w aC b h sz).set a (b + a, .inr (cj, (fs.map (pm_tr aC b)).set f (pm_tr aC b v)))) → va_S (fun q => b ≤ q) s.heap H1 locs1 → W p l e R s m args below meth c H1 locs1 (sz - sz0) (sl - sl0) Q (F0 m (pc + 3) ls (r.map (pm_tr aC b))) := by
    intro H1 locs1 hP1 _ hS1
    exact kk H1 locs1 ls (pm_setP hP1 (by rw [pm_set]; rfl)) hS1 hl
  by_cases ht : t < 10
  · exact va_put hx hb hts h4 ty h7 h6 hown hK.1 hP (pm_w_D aC b h sz) hS a (pm_w_P hP ha hcell) h1 f h2 (hts _ h5) (fun x hx => by rw [h3] at hx; exact hx) (h9 ht) (h7 f h2) hn hft (by rw [List.length_map]; exact hf) hd fin
  · obtain ⟨ht2, hi⟩ := hfin.resolve_left ht
    exact va_putF hx hb hts h4 ty h7 h6 hown hK.1 hP (pm_w_D aC b h sz) hS a (pm_w_P hP ha hcell) h1 f h2 (hts _ h5) (fun x hx => by rw [h3] at hx; exact hx) (h10 (by omega)) (hin hi) (by rw [h3]; exact (h11 (by omega) ht2).symm) (h7 f h2) hn hft (by rw [List.length_map]; exact hf) hd fin
theorem pm_iald (hC : pm_C T G Ns D aC b k p s m args meth c) {ty : FieldType}
    (row : ∀ (H : Heap) (locs : List Loc) (ls : Array Slot) (a kd n : Nat) (f : Nat → Int32) (i : Int32) (r : List Value), va_P D (pm_cl T) (pm_w aC b h sz) H → (pm_w aC b h sz)[a]? = some (b + a, .inl (aC kd, n, .inl f)) → (pm_tys T aC)[kd]? = some (aC kd, ty) → vp_in i n → W p l e R s m args below meth c H locs (sz - sz0) (sl - sl0) Q (F0 m (pc + 1) ls (.int (f i.toNatClampNeg) :: r)) → W p l e R s m args below meth c H locs (sz - sz0) (sl - sl0) Q (F0 m pc ls (.int i :: .ref (b + a) :: r)))
    (hh : pm_ia T ty pc L S h sz sl = some st') (kk : pm_V p l e R s m args below meth c Q T D aC b k sz0 sl0 st') : pm_V p l e R s m args below meth c Q T D aC b k sz0 sl0 (pc, L, S, h, sz, sl) := by
  unfold pm_ia at hh
  split at hh
  case h_2 => cases hh
  case h_1 i a r =>
  split at hh
  case h_2 => cases hh
  case h_1 kd n f e1 =>
  split at hh
  case isFalse => cases hh
  case isTrue hi =>
  cases hh
  obtain ⟨ha, hcell, hty⟩ := pm_iar_inv e1
  intro H locs ls hP hS hl
  exact row H locs ls a kd n f i (r.map (pm_tr aC b)) hP (pm_w_P hP ha hcell) (pm_tys_get hty) (pm_in_of hi) (kk H locs ls hP hS hl)
theorem pm_iast (hC : pm_C T G Ns D aC b k p s m args meth c) {ty : FieldType} {nr : Int32 → Int32}
    (row : ∀ (H : Heap) (locs : List Loc) (ls : Array Slot) (a kd n : Nat) (f : Nat → Int32) (x i : Int32) (r : List Value), va_P D (pm_cl T) (pm_w aC b h sz) H → va_D (fun q => b ≤ q) (pm_w aC b h sz) → va_S (fun q => b ≤ q) s.heap H locs → (pm_w aC b h sz)[a]? = some (b + a, .inl (aC kd, n, .inl f)) → (pm_tys T aC)[kd]? = some (aC kd, ty) → vp_in i n → (∀ (H1 : Heap) (locs1 : List Loc), va_P D (pm_cl T) ((pm_w aC b h sz).set a (b + a, .inl (aC kd, n, .inl (upd f i.toNatClampNeg (nr x))))) H1 → va_D (fun q => b ≤ q) ((pm_w aC b h sz).set a (b + a, .inl (aC kd, n, .inl (upd f i.toNatClampNeg (nr x))))) → va_S (fun q => b ≤ q) s.heap H1 locs1 → W p l e R s m args below meth c H1 locs1 (sz - sz0) (sl - sl0) Q (F0 m (pc + 1) ls r)) → W p l e R s m args below meth c H locs (sz - sz0) (sl - sl0) Q (F0 m pc ls (.int x :: .int i :: .ref (b + a) :: r)))
    (hh : pm_iS T ty nr pc L S h sz sl = some st') (kk : pm_V p l e R s m args below meth c Q T D aC b k sz0 sl0 st') : pm_V p l e R s m args below meth c Q T D aC b k sz0 sl0 (pc, L, S, h, sz, sl) := by
  unfold pm_iS at hh
  split at hh
  case h_2 => cases hh
  case h_1 x i a r =>
  split at hh
  case h_2 => cases hh
  case h_1 kd n f e1 =>
  split at hh
  case isFalse => cases hh
  case isTrue hi =>
  cases hh
  obtain ⟨ha, hcell, hty⟩ := pm_iar_inv e1
  intro H locs ls hP hS hl
  refine row H locs ls a kd n f x i (r.map (pm_tr aC b)) hP (pm_w_D aC b h sz) hS (pm_w_P hP ha hcell) (pm_tys_get hty) (pm_in_of hi) (fun H1 locs1 hP1 _ hS1 => ?_)
  exact kk H1 locs1 ls (pm_setP hP1 rfl) hS1 hl
theorem pm_lald (hC : pm_C T G Ns D aC b k p s m args meth c) (hd : decode (pm_code T k) pc = .ok (.laload, 1))
    (hh : pm_la T pc L S h sz sl = some st') (kk : pm_V p l e R s m args below meth c Q T D aC b k sz0 sl0 st') : pm_V p l e R s m args below meth c Q T D aC b k sz0 sl0 (pc, L, S, h, sz, sl) := by
  obtain ⟨hx, hb, -, -, -, hK, -⟩ := hC
  unfold pm_la at hh
  split at hh
  case h_2 => cases hh
  case h_1 i a r =>
  split at hh
  case h_2 => cases hh
  case h_1 kd n f e1 =>
  split at hh
  case isFalse => cases hh
  case isTrue hi =>
  cases hh
  obtain ⟨ha, hcell, hty⟩ := pm_lar_inv e1
  intro H locs ls hP hS hl
  exact va_lald hx hb hK.1 hP a kd (pm_w_P hP ha hcell) (pm_tys_get hty) (pm_in_of hi) hd (kk H locs ls hP hS hl)
theorem pm_last (hC : pm_C T G Ns D aC b k p s m args meth c) (hd : decode (pm_code T k) pc = .ok (.lastore, 1))
    (hh : pm_lS T pc L S h sz sl = some st') (kk : pm_V p l e R s m args below meth c Q T D aC b k sz0 sl0 st') : pm_V p l e R s m args below meth c Q T D aC b k sz0 sl0 (pc, L, S, h, sz, sl) := by
  obtain ⟨hx, hb, -, -, -, hK, -⟩ := hC
  unfold pm_lS at hh
  split at hh
  case h_2 => cases hh
  case h_1 x i a r =>
  split at hh
  case h_2 => cases hh
  case h_1 kd n f e1 =>
  split at hh
  case isFalse => cases hh
  case isTrue hi =>
  cases hh
  obtain ⟨ha, hcell, hty⟩ := pm_lar_inv e1
  intro H locs ls hP hS hl
  refine va_last hx hb hK.1 hP (pm_w_D aC b h sz) hS a kd (pm_w_P hP ha hcell) (pm_tys_get hty) (pm_in_of hi) hd (fun H1 locs1 hP1 _ hS1 => ?_)
  exact kk H1 locs1 ls (pm_setP hP1 rfl) hS1 hl
theorem pm_rf (o : Option Nat) : va_rf (o.map (fun x => b + x)) = pm_tr aC b (va_rf o) := by cases o <;> rfl
theorem pm_isObj_ex {t : Option FieldType} (hh : pm_isObj t = true) : ∃ C, t = some (.object C) := by
  unfold pm_isObj at hh
  split at hh
  · exact ⟨_, rfl⟩
  · cases hh
theorem pm_aald (hC : pm_C T G Ns D aC b k p s m args meth c) (hd : decode (pm_code T k) pc = .ok (.aaload, 1))
    (hh : pm_qa T pc L S h sz sl = some st') (kk : pm_V p l e R s m args below meth c Q T D aC b k sz0 sl0 st') : pm_V p l e R s m args below meth c Q T D aC b k sz0 sl0 (pc, L, S, h, sz, sl) := by
  obtain ⟨hx, hb, -, -, -, hK, -⟩ := hC
  unfold pm_qa at hh
  split at hh
  case h_2 => cases hh
  case h_1 i a r =>
  split at hh
  case h_2 => cases hh
  case h_1 kd n f e1 =>
  split at hh
  case isFalse => cases hh
  case isTrue hi =>
  cases hh
  obtain ⟨ha, hcell⟩ := pm_qar_inv e1
  obtain ⟨C, hty⟩ := pm_isObj_ex hi.2
  intro H locs ls hP hS hl
  refine va_aldq hx hb hK.1 hP a kd (pm_w_P hP ha hcell) (pm_tys_get hty) (pm_in_of hi.1) hd ?_
  rw [pm_rf]
  exact kk H locs ls hP hS hl
theorem pm_aast (hC : pm_C T G Ns D aC b k p s m args meth c) (hd : decode (pm_code T k) pc = .ok (.aastore, 1))
    (hh : pm_qS T pc L S h sz sl = some st') (kk : pm_V p l e R s m args below meth c Q T D aC b k sz0 sl0 st') : pm_V p l e R s m args below meth c Q T D aC b k sz0 sl0 (pc, L, S, h, sz, sl) := by
  obtain ⟨hx, hb, -, -, -, hK, -⟩ := hC
  unfold pm_qS at hh
  split at hh
  case h_2 => cases hh
  case h_1 v i a r =>
  split at hh
  case h_2 => cases hh
  case h_1 kd n f e1 =>
  split at hh
  case h_2 => cases hh
  case h_1 ci fs e2 =>
  split at hh
  case isFalse => cases hh
  case isTrue hi =>
  cases hh
  obtain ⟨ha, hcell⟩ := pm_qar_inv e1
  obtain ⟨hv, hcellv⟩ := pm_obj_inv e2
  obtain ⟨hin, hty, hci⟩ := hi
  have hq := List.getElem?_eq_getElem hci
  rw [hq] at hty
  intro H locs ls hP hS hl
  refine va_astq hx hb hK.1 hP (pm_w_D aC b h sz) hS a kd v ci (pm_w_P hP ha hcell) (pm_tys_get hty) (pm_w_P hP hv hcellv) hq (pm_in_of hin) hd (fun H1 locs1 hP1 _ hS1 => ?_)
  refine kk H1 locs1 ls (pm_setP hP1 ?_) hS1 hl
  have e3 : (va_up (fun j => (f j).map (fun x => b + x)) i.toNatClampNeg (some (b + v))) = fun j => (va_up f i.toNatClampNeg (some v) j).map (fun x => b + x) := by
    funext j
    unfold va_up
    by_cases hj : j = i.toNatClampNeg
    · rw [if_pos hj, if_pos hj]; rfl
    · rw [if_neg hj, if_neg hj]
  exact congrArg (fun z => (Sum.inl (aC kd, n, Sum.inr (Sum.inr (Sum.inr (Sum.inr z)))) : va_E)) e3
theorem pm_alen (hC : pm_C T G Ns D aC b k p s m args meth c) (hd : decode (pm_code T k) pc = .ok (.arraylength, 1))
    (hh : pm_al T pc L S h sz sl = some st') (kk : pm_V p l e R s m args below meth c Q T D aC b k sz0 sl0 st') : pm_V p l e R s m args below meth c Q T D aC b k sz0 sl0 (pc, L, S, h, sz, sl) := by
  obtain ⟨hx, hb, -, -, -, hK, -⟩ := hC
  unfold pm_al at hh
  split at hh
  case h_2 => cases hh
  case h_1 a r =>
  split at hh
  case isFalse => cases hh
  case isTrue ha =>
  split at hh
  case h_2 => cases hh
  case h_1 kd n x e1 =>
  split at hh
  case isFalse => cases hh
  case isTrue hty =>
  cases hh
  obtain ⟨ty, ht⟩ := Option.isSome_iff_exists.mp hty
  intro H locs ls hP hS hl
  refine va_alen hx hb hK.1 hP a kd (pm_w_P hP ha e1) (pm_tys_get ht) ?_ hd (kk H locs ls hP hS hl)
  obtain f | f | f | f | f := x <;> rfl
end PMS
end MG06strnx4
section MG06strnx5
/-! new cells, and what the library does -/
section PMA
variable {p : Program} {l : Launch} {e : Env} {R : Room} {s : State} {m : MethodId} {args : Array Value} {below : List Frame} {meth : Method} {c : Code} {Q : State → Prop}
variable {T : pm_Tab} {G Ns : List Cond} {D : va_G} {aC : Nat → ClassId} {b g k fr lo pc sz sl sz0 sl0 : Nat} {L : pm_L} {S : List Value} {h : pm_H} {st' : pm_St}
theorem pm_fresh {q : Nat} {x : va_E} {H1 : Heap} (hD : va_D (fun q => b ≤ q) (pm_w aC b h sz ++ [(q, x)])) (hP : va_P D (pm_cl T) (pm_w aC b h sz ++ [(q, x)]) H1) (hz : H1.size ≤ b + sz + 1) : q = b + sz := by
  have hg : (pm_w aC b h sz ++ [(q, x)])[sz]? = some (q, x) := by
    rw [List.getElem?_append_right (by rw [pm_w_len]; exact Nat.le_refl _), pm_w_len, Nat.sub_self]
    rfl
  have h1 : q < H1.size := (hP sz _ hg).lt
  have h2 : b ≤ q := hD.2 sz _ hg
  by_cases h3 : q < b + sz
  · have h4 : (pm_w aC b h sz ++ [(q, x)])[q - b]? = some (b + (q - b), pm_trE aC b (h (q - b))) := by
      rw [List.getElem?_append_left (by rw [pm_w_len]; omega)]
      exact pm_w_get (by omega)
    have h5 := hD.1 sz (q - b) _ _ hg h4 (by dsimp only; omega)
    omega
  · omega
theorem pm_pushP {H1 : Heap} {q : Nat} {e : pm_E} {e' : va_E} (hP1 : va_P D (pm_cl T) (pm_w aC b h sz ++ [(q, e')]) H1) (hq : q = b + sz) (he : e' = pm_trE aC b e) : va_P D (pm_cl T) (pm_w aC b (va_up h sz e) (sz + 1)) H1 := by
  rw [hq, pm_w_push he] at hP1
  exact hP1
theorem pm_newobj (OK : pm_ok T G Ns) (hC : pm_C T G Ns D aC b k p s m args meth c) (hs0 : s.heap.size = b + sz0 + g) (hg : g = 0 ∨ st'.2.2.2.2.1 = sz0) (h0 : sz0 ≤ sz) (h1 : sl0 ≤ sl) {j : Nat} (hd : decode (pm_code T k) pc = .ok (.new j, 3)) (hh : pm_newO T k j pc L S h sz sl = some st') (hRc : st'.2.2.2.2.1 ≤ sz0 + R.cells) (hRs : st'.2.2.2.2.2 ≤ sl0 + R.slots)
    (kk : pm_V p l e R s m args below meth c Q T D aC b k sz0 sl0 st') : pm_V p l e R s m args below meth c Q T D aC b k sz0 sl0 (pc, L, S, h, sz, sl) := by
  obtain ⟨hx, hb, -, hown, hts, hK, -⟩ := hC
  unfold pm_newO at hh
  split at hh
  case h_2 => cases hh
  case h_1 ci e1 =>
  split at hh
  case isFalse => cases hh
  case isTrue hci =>
  obtain ⟨C, F, N, ty, q1, q2, q3, q4, q5, q6, q7, q8, q9⟩ := (OK.2.2.2.2.2.1 _ _ _ e1).1 hci
  unfold pm_nw at hh
  cases hh
  rw [q7] at hRs
  dsimp only at hRc hRs hg
  have hg0 : g = 0 := by omega
  subst hg0
  intro H locs ls hP hS hl
  refine va_new (ci := ci) (fs := pm_df T ci) hx hb hts q2 ty q3 hown (hts _ q4) (hts _ q5) (hts _ q6) hK.1 hP (pm_w_D aC b h sz) hS (fun q hq => by omega) q1 q8 (by dsimp only; omega) (by dsimp only; omega) hd (fun q H1 hP1 hD1 hS1 => ?_)
  refine pm_sized fun hz => ?_
  dsimp only at hz hP1 hD1
  have hq := pm_fresh hD1 hP1 (by omega)
  have hP2 := pm_pushP (e := .inr (ci, pm_df T ci)) hP1 hq (by show _ = Sum.inr (ci, (pm_df T ci).map (pm_tr aC b)); rw [q9])
  have hW := kk H1 locs ls hP2 hS1 hl
  rw [q7] at hW
  subst hq
  exact W.cs (by dsimp only; omega) (by dsimp only; omega) hW
theorem pm_aC_eq {tys : List (ClassId × FieldType)} {kd : Nat} {cA c2 : ClassId} {ty : FieldType} (h1 : va_K D (pm_cl T) tys s) (h2 : tys[kd]? = some (c2, ty)) (h3 : va_K D (pm_cl T) (tys ++ [(cA, ty)]) s) : cA = c2 := by
  have a1 := (h1.2 kd _ h2).2
  have a2 := (h3.2 tys.length (cA, ty) (by rw [List.getElem?_append_right (Nat.le_refl _), Nat.sub_self]; rfl)).2
  dsimp only at a1 a2
  unfold va_RA at a1 a2
  cases ty with
  | object C =>
    obtain ⟨_, _, _, _, _, x1⟩ := a1
    obtain ⟨_, _, _, _, _, x2⟩ := a2
    exact Option.some.inj (x2.symm.trans x1)
  | _ => exact Option.some.inj (a2.symm.trans a1)
theorem pm_newarr (OK : pm_ok T G Ns) (hC : pm_C T G Ns D aC b k p s m args meth c) (hs0 : s.heap.size = b + sz0 + g) (hg : g = 0) (h0 : sz0 ≤ sz) (h1 : sl0 ≤ sl) {at_ : ArrayType} {ty : FieldType} (hty : newarray.typeOf at_ = ty) (hno : ∀ C, ty ≠ .object C) (hby : componentBytes ty ≤ 8) {n : Int32} {r : List Value} {kd : Nat} {a0 : vp_A} (ha0 : ∀ cA : ClassId, vp_cell cA a0 = arrV cA n.toNatClampNeg (fun _ => defaultValue ty)) (htr : pm_trA b a0 = a0) (hk : pm_tysAt T ty = some kd) (hn : ¬ n < 0) (hN : n.toNatClampNeg ≤ 65536)
    (hd : decode (pm_code T k) pc = .ok (.newarray at_, 2)) (hRc : sz + 1 ≤ sz0 + R.cells) (hRs : sl + n.toNatClampNeg ≤ sl0 + R.slots)
    (kk : pm_V p l e R s m args below meth c Q T D aC b k sz0 sl0 (pc + 2, L, .ref sz :: r, va_up h sz (.inl (kd, a0)), sz + 1, sl + n.toNatClampNeg)) : pm_V p l e R s m args below meth c Q T D aC b k sz0 sl0 (pc, L, .int n :: r, h, sz, sl) := by
  obtain ⟨hx, hb, -, hown, hts, hK, -⟩ := hC
  subst hg
  have harr : Cond.arrayClass ty ∈ G := (OK.2.2.2.2.2.2.1 ty (by rw [hk]; exact fun q => by cases q)).resolve_right (fun ⟨C, q⟩ => hno C q)
  intro H locs ls hP hS hl
  refine va_newa (a0 := a0) hx hb (by rw [hty]; exact hts _ harr) hty hK.1 hP (pm_w_D aC b h sz) hS (fun q hq => by omega) ha0 hn rfl (Nat.le_trans (Nat.mul_le_mul hN hby) (by decide)) (by dsimp only; omega) (by dsimp only; omega) hd (fun q cA H1 hK1 hP1 hD1 hS1 => ?_)
  have hc2 := pm_aC_eq hK.1 (pm_tys_get (pm_tysAt_get hk)) hK1
  subst hc2
  refine pm_sized fun hz => ?_
  dsimp only at hz hP1 hD1
  have hq := pm_fresh hD1 hP1 (by omega)
  have hW := kk H1 locs ls (pm_pushP hP1 hq (by show _ = Sum.inl (aC kd, pm_trA b a0); rw [htr])) hS1 hl
  subst hq
  exact W.cs (by dsimp only; omega) (by dsimp only; omega) hW
theorem pm_newqarr (OK : pm_ok T G Ns) (hC : pm_C T G Ns D aC b k p s m args meth c) (hs0 : s.heap.size = b + sz0 + g) (hg : g = 0 ∨ st'.2.2.2.2.1 = sz0) (h0 : sz0 ≤ sz) (h1 : sl0 ≤ sl) {j : Nat} (hd : decode (pm_code T k) pc = .ok (.anewarray j, 3)) (hh : pm_newQ T k j pc L S h sz sl = some st') (hRc : st'.2.2.2.2.1 ≤ sz0 + R.cells) (hRs : st'.2.2.2.2.2 ≤ sl0 + R.slots)
    (kk : pm_V p l e R s m args below meth c Q T D aC b k sz0 sl0 st') : pm_V p l e R s m args below meth c Q T D aC b k sz0 sl0 (pc, L, S, h, sz, sl) := by
  obtain ⟨hx, hb, -, hown, hts, hK, -⟩ := hC
  unfold pm_newQ at hh
  split at hh
  case h_2 => cases hh
  case h_1 n r =>
  split at hh
  case h_2 => cases hh
  case h_1 q0 e1 =>
  split at hh
  case isFalse => cases hh
  case isTrue hci =>
  obtain ⟨hq0, hn, hN⟩ := hci
  obtain ⟨C, q1, q2, q3⟩ := (OK.2.2.2.2.2.1 _ _ _ e1).2 hq0 _ rfl
  unfold pm_nw at hh
  cases hh
  dsimp only at hRc hRs hg
  have hg0 : g = 0 := by omega
  subst hg0
  intro H locs ls hP hS hl
  refine va_newq hx hb hown (hts _ q2) (hK.2.1 _ q3) hK.1 hP (pm_w_D aC b h sz) hS (fun q hq => by omega) hn rfl (by omega) (by dsimp only; omega) (by dsimp only; omega) hd (fun q cA H1 hK1 hP1 hD1 hS1 => ?_)
  have hc2 := pm_aC_eq hK.1 (pm_tys_get q1) hK1
  subst hc2
  refine pm_sized fun hz => ?_
  dsimp only at hz hP1 hD1
  have hq := pm_fresh hD1 hP1 (by omega)
  have hW := kk H1 locs ls (pm_pushP hP1 hq rfl) hS1 hl
  subst hq
  exact W.cs (by dsimp only; omega) (by dsimp only; omega) hW
theorem pm_libOk (OK : pm_ok T G Ns) (hC : pm_C T G Ns D aC b k p s m args meth c) (hfr : R.frames = fr) (hlo : R.locals = lo) (hcl : sz - sz0 ≤ R.cells) (hsl : sl - sl0 ≤ R.slots) {sp : Bool} {j : Nat} (hd : decode (pm_code T k) pc = .ok (if sp = true then .invokespecial j else .invokestatic j, 3)) (hh : pm_libW T sp fr lo k j pc L S h sz sl = some st')
    (kk : pm_V p l e R s m args below meth c Q T D aC b k sz0 sl0 st') : pm_V p l e R s m args below meth c Q T D aC b k sz0 sl0 (pc, L, S, h, sz, sl) := by
  obtain ⟨hx, hb, hml, hown, hts, hK, -⟩ := hC
  unfold pm_libW at hh
  split at hh
  case h_2 => cases hh
  case h_1 w t e1 =>
  have hw := OK.2.2.2.2.1 _ _ _ _ e1
  split at hh
  case isFalse => cases hh
  case isTrue hsp =>
  unfold pm_lib at hh
  split at hh
  case h_5 => cases hh
  case h_1 a r =>
    split at hh
    case isFalse => cases hh
    case isTrue hc =>
    cases hh
    obtain ⟨w1, w2, w3⟩ := hw
    have hsp' : sp = true := hsp.symm
    subst hsp'
    intro H locs ls hP hS hl
    refine W.objInit hx hb hown (hts _ w1) (hts _ w2) (hts _ w3) rfl (hl.1.trans hml.symm) (a := b + a) (rest := r.map (pm_tr aC b)) rfl hd (by omega) ?_ (kk H locs ls hP hS hl)
    show 2 * 0 + _ + 12 ≤ _
    rw [pm_sum_tr]
    omega
  case h_2 y x r =>
    split at hh
    case isFalse => cases hh
    case isTrue hc =>
    cases hh
    obtain ⟨w1, w2, w3, w4⟩ := hw
    have hsp' : sp = false := hsp.symm
    subst hsp'
    intro H locs ls hP hS hl
    exact va_mmin hx hb (hml.trans hl.1.symm) hown (hts _ w1) (hts _ w2) (hts _ w3) (hts _ w4) (by omega) (by rw [pm_sum_tr]; omega) hcl hsl hd (kk H locs ls hP hS hl)
  case h_3 y x r =>
    split at hh
    case isFalse => cases hh
    case isTrue hc =>
    cases hh
    obtain ⟨w1, w2, w3, w4⟩ := hw
    have hsp' : sp = false := hsp.symm
    subst hsp'
    intro H locs ls hP hS hl
    exact va_mmax hx hb (hml.trans hl.1.symm) hown (hts _ w1) (hts _ w2) (hts _ w3) (hts _ w4) (by omega) (by rw [pm_sum_tr]; omega) hcl hsl hd (kk H locs ls hP hS hl)
  case h_4 n dp a s0 a0 r =>
    split at hh
    case h_2 => cases hh
    case h_1 k0 n0 f kd n1 g ea eb =>
    split at hh
    case isFalse => cases hh
    case isTrue hc =>
    cases hh
    obtain ⟨⟨c1, c2⟩, c3, c4, c5, c6, c7⟩ := hc
    obtain ⟨w1, w2, w3, w4⟩ := hw
    have hsp' : sp = false := hsp.symm
    subst hsp'
    obtain ⟨ha0, hcell0, hty0⟩ := pm_iar_inv ea
    obtain ⟨ha, hcell, hty⟩ := pm_iar_inv eb
    intro H locs ls hP hS hl
    refine va_copyi hx hb (hml.trans hl.1.symm) hown (hts _ w1) (hts _ w2) (hts _ w3) (hts _ w4) hK.1 hP (pm_w_D aC b h sz) hS a0 a k0 kd (pm_w_P hP ha0 hcell0) (pm_w_P hP ha hcell) (pm_tys_get hty0) (pm_tys_get hty) rfl c3 c4 c5 c6 c7 (fun i _ => rfl) (by omega) ?_ hd (fun H1 locs1 hP1 _ hS1 => kk H1 locs1 ls (pm_setP hP1 rfl) hS1 hl)
    rw [pm_sum_tr]
    have hn : nativeFrameWords "java/lang/System" "arraycopy" 5 + 11 ≤ 60 := by decide +kernel
    omega
end PMA
end MG06strnx5
section MG06strnx6
/-! calls: what they ask and give -/
section PMR
variable {p : Program} {l : Launch} {e : Env} {R : Room} {s : State} {m : MethodId} {args : Array Value} {below : List Frame} {meth : Method} {c : Code} {H : Heap} {locs : List Loc} {cells slots : Nat} {Q : State → Prop}
variable {T : pm_Tab} {G Ns : List Cond} {D : va_G} {aC : Nat → ClassId} {b g k fr lo pc sz sl sz0 sl0 : Nat} {L : pm_L} {S : List Value} {h : pm_H} {st' : pm_St}
def pm_ws (T : pm_Tab) (G : List Cond) (t : Nat) : List Cond := Cond.code (pm_y T t) (pm_code T t) (pm_max T t) (pm_ret T t) :: G
def pm_Pc (T : pm_Tab) (Ns : List Cond) (D : va_G) (aC : Nat → ClassId) (b g : Nat) (As : List Value) (h : pm_H) (sz : Nat) : Array Value → State → Prop := va_Pc (As.map (pm_tr aC b)) (fun U => U.heap.size = b + sz + g ∧ va_P D (pm_cl T) (pm_w aC b h sz) U.heap ∧ pm_K T Ns D aC b U)
def pm_Qc (T : pm_Tab) (D : va_G) (aC : Nat → ClassId) (b : Nat) (rv : Option Value) (h : pm_H) (sz : Nat) : Array Value → State → Outcome → State → Prop := fun _ st o t => o = .returned (rv.map (pm_tr aC b)) ∧ va_P D (pm_cl T) (pm_w aC b h sz) t.heap ∧ va_F (fun q => b ≤ q) st t
abbrev pm_rm (fr lo mc ms : Nat) : Room := { frames := fr, cells := mc, slots := ms, locals := lo }
/-- what a method of the tables does, as the pure machine tells it -/
def pm_Met (T : pm_Tab) (G Ns : List Cond) (l : Launch) (D : va_G) (aC : Nat → ClassId) (b g fr lo t : Nat) (As : List Value) (h : pm_H) (sz sl : Nat) (r : pm_Rs) : Prop := Met l (pm_y T t) (pm_ws T G t) (pm_rm fr lo (r.2.2.1 - sz) (r.2.2.2 - sl)) (pm_Pc T Ns D aC b g As h sz) (pm_Qc T D aC b r.1 r.2.1 r.2.2.1) (r.2.2.1 - sz) (r.2.2.2 - sl) (fun q => b ≤ q)
theorem pm_blind (OK : pm_ok T G Ns) {As : List Value} : FrameBlind (pm_Pc T Ns D aC b g As h sz) := by
  intro a U g mk hp
  obtain ⟨q1, q2, q3, q4, q5, q6⟩ := hp
  exact ⟨q1, q2, q3, va_K.moved (u := U) (U := U.calling g mk a) (Vm.Alike.refl U.vm) q4, fun w hw => (OK.2.2.1 w hw).1 U (U.calling g mk a) rfl (q5 w hw), q6.same rfl rfl⟩
theorem pm_size {H0 : Heap} (hS : va_S (fun q => b ≤ q) H0 H locs) (hP : va_P D (pm_cl T) (pm_w aC b h sz) H) (hs0 : H0.size = b + sz0 + g) (hg : g = 0 ∨ sz = sz0) (h0 : sz0 ≤ sz) (hz : H.size ≤ H0.size + (sz - sz0)) : H.size = b + sz + g := by
  by_cases he : sz = sz0
  · have := hS.1
    omega
  · have h1 : sz - 1 < sz := by omega
    have h2 := (hP (sz - 1) _ (pm_w_get h1)).lt
    dsimp only at h2
    omega
theorem pm_good (OK : pm_ok T G Ns) {ws : List Cond} (hs : ∀ w ∈ ws, w ∈ G) : GoodIn G ws := fun w hw => ⟨hs w hw, good_of_word (OK.2.1 w (hs w hw))⟩
theorem pm_K.warm (OK : pm_ok T G Ns) {U : State} (hW : s.WarmedH U.vm) (hS : va_S (fun q => b ≤ q) s.heap U.heap locs) (hK : pm_K T Ns D aC b s) : pm_K T Ns D aC b U := ⟨va_K.moved hW.alike hK.1, fun w hw => (OK.2.2.1 w hw).2 s U hW (hK.2.1 w hw), hK.2.2.warm hW hS⟩
theorem pm_after {mc ms : Nat} {rest st0 : List Value} {ls : Array Slot} {rv : Option Value} {h1 : pm_H} {sz1 : Nat} {a : Array Value} (hr : va_Run p l e R s m args below meth c H locs cells slots mc ms (F0 m pc ls st0) rest (pm_Qc T D aC b rv h1 sz1 a) (fun q => b ≤ q)) (hS : va_S (fun q => b ≤ q) s.heap H locs)
    (kk : ∀ (H1 : Heap) (locs1 : List Loc), va_P D (pm_cl T) (pm_w aC b h1 sz1) H1 → va_S (fun q => b ≤ q) s.heap H1 locs1 → W p l e R s m args below meth c H1 locs1 (cells + mc) (slots + ms) Q (F0 m (pc + 3) ls ((rv.map (pm_tr aC b)).toList ++ rest))) : W p l e R s m args below meth c H locs cells slots Q (F0 m pc ls st0) := by
  intro T' hT X
  obtain ⟨v, st₀, t, T2, L2, h0, X', hL, e1, e2, ⟨hv, hP, hz, hk⟩, st⟩ := hr T' hT X
  cases hv
  rw [h0] at hz hk
  obtain ⟨t2, a1, b1⟩ := kk T2.heap (locs ++ L2) (by rw [e1]; exact hP)
    ⟨Nat.le_trans hS.1 (by rw [e1]; exact hz), fun q q1 q2 => by rw [e1, hk q (Nat.lt_of_lt_of_le q1 hS.1) q2]; exact hS.2.1 q q1 q2, fun q hq => by
      rcases List.mem_append.mp hq with h | h
      · exact hS.2.2 q h
      · exact hL q h⟩ T2 rfl X'
  exact ⟨t2, st t2 a1, b1⟩
theorem pm_take (S : List Value) (n : Nat) : S = ((S.take n).reverse).reverse ++ S.drop n := by rw [List.reverse_reverse, List.take_append_drop]
theorem pm_stackS (S : List Value) (n : Nat) : S.map (pm_tr aC b) = ((S.take n).reverse.map (pm_tr aC b)).reverse ++ (S.drop n).map (pm_tr aC b) := by
  rw [← List.map_reverse, ← List.map_append, ← pm_take]
theorem pm_stackV {S A1 : List Value} {n a : Nat} (hA : (S.take n).reverse = .ref a :: A1) : S.map (pm_tr aC b) = (A1.map (pm_tr aC b)).reverse ++ .ref (b + a) :: (S.drop n).map (pm_tr aC b) := by
  have e := pm_stackS (aC := aC) (b := b) S n
  rw [hA, List.map_cons, List.reverse_cons, List.append_assoc] at e
  exact e
end PMR
end MG06strnx6
end MH06strnx0
section MH06strnx1
section MG15cstrx0
/-! the JDK's own methods on the String constants, walked -/
section STW
variable {l : Launch} {T : pm_Tab} {G : List Cond} {D : va_G} {aC : Nat → ClassId} {b : Nat} {X : va_W}
def st_P (T : pm_Tab) (D : va_G) (aC : Nat → ClassId) (b : Nat) (X : va_W) (As : List Value) : Array Value → State → Prop := va_Pc As (fun U => va_P D (pm_cl T) X U.heap ∧ pm_Z T aC b U)
def st_Q (T : pm_Tab) (D : va_G) (b : Nat) (X : va_W) (rv : Option Value) : Array Value → State → Outcome → State → Prop := fun _ st o t => o = .returned rv ∧ va_P D (pm_cl T) X t.heap ∧ va_F (fun q => b ≤ q) st t
theorem st_blind {As : List Value} : FrameBlind (st_P T D aC b X As) := by
  intro a U g mk hp
  obtain ⟨q1, q2, q3⟩ := hp
  exact ⟨q1, q2, q3.same rfl rfl⟩
theorem st_after {p : Program} {e : Env} {R : Room} {s : State} {m : MethodId} {args : Array Value} {below : List Frame} {meth : Method} {c : Code} {H : Heap} {locs : List Loc} {cells slots pc : Nat} {Q : State → Prop} {rest st0 : List Value} {ls : Array Slot} {rv : Option Value} {a : Array Value} (hr : va_Run p l e R s m args below meth c H locs cells slots 0 0 (F0 m pc ls st0) rest (st_Q T D b X rv a) (fun q => b ≤ q)) (hS : va_S (fun q => b ≤ q) s.heap H locs)
    (kk : ∀ (H1 : Heap) (locs1 : List Loc), va_P D (pm_cl T) X H1 → va_S (fun q => b ≤ q) s.heap H1 locs1 → W p l e R s m args below meth c H1 locs1 cells slots Q (F0 m (pc + 3) ls (rv.toList ++ rest))) : W p l e R s m args below meth c H locs cells slots Q (F0 m pc ls st0) := by
  intro T' hT X'
  obtain ⟨v, st₀, t, T2, L2, h0, X', hL, e1, e2, ⟨hv, hP, hz, hk⟩, st⟩ := hr T' hT X'
  cases hv
  rw [h0] at hz hk
  obtain ⟨t2, a1, b1⟩ := kk T2.heap (locs ++ L2) (by rw [e1]; exact hP)
    ⟨Nat.le_trans hS.1 (by rw [e1]; exact hz), fun q q1 q2 => by rw [e1, hk q (Nat.lt_of_lt_of_le q1 hS.1) q2]; exact hS.2.1 q q1 q2, fun q hq => by
      rcases List.mem_append.mp hq with h | h
      · exact hS.2.2 q h
      · exact hL q h⟩ T2 rfl X'
  exact ⟨t2, st t2 a1, b1⟩
theorem st_good (hg : ∀ w ∈ G, goodWord w = true) {ws : List Cond} (hs : ∀ w ∈ ws, w ∈ G) : GoodIn G ws := fun w hw => ⟨hs w hw, good_of_word (hg w (hs w hw))⟩
theorem st_C (hG : ∀ w ∈ st_ws, w ∈ G) {i : Nat} (hi : i < 5) : Met l st_yC (.code st_yC st_cC 1 (some .byte) :: G) (pm_rm 0 0 0 0) (st_P T D aC b X [.ref (aC (1000 + i))]) (st_Q T D b X (some (.int 0))) 0 0 (fun q => b ≤ q) := by
  refine Met.ofW (cc := st_cC) (maxL := 1) (ret := some .byte) (by decide) rfl ?_
  intro p e s m args below meth c s₁ B hml hv
  obtain ⟨rfl, hP, hZ⟩ := hv
  have hx := B.exec
  have hb := B.bytes
  have hr := B.returns
  have hts0 := atoms_spec (ws := Cond.code st_yC st_cC 1 (some .byte) :: G) B.pre
  have hts : ∀ w ∈ st_ws, w.before _ s = true := fun w hw => hts0 w (List.mem_cons_of_mem _ (hG w hw))
  have hown : s.vm.findClass "java/lang/String" = some m.cls := findClass_of_methodNamed B.named
  obtain ⟨-, hZ1, -, adV, hZ4⟩ := hZ
  obtain ⟨h1, h2, h3, h4⟩ := hZ4 i hi
  have hS : va_S (fun q => b ≤ q) s.heap s.heap [] := va_S.rf
  have hl := lv_entry ([.ref (aC (1000 + i))]) (n := 1) (Nat.le_of_ble_eq_true rfl)
  rw [lg_entry_eq]
  generalize (lg_sl ([.ref (aC (1000 + i))]) ++ List.replicate (1 - (lg_sl ([.ref (aC (1000 + i))])).length) Slot.unset).toArray = ls at hl ⊢
  have hl : lv_has ls 1 [(0, .ref (aC (1000 + i)))] := hl
  refine va_gets hx hb hZ1 hS hown (hts (.fieldLink "java/lang/String" 38 "java/lang/String" "COMPACT_STRINGS" "Z") (by decide +kernel)) (fun _ h => h) st_dC_0 ?_
  refine lv_if_eq hx hb st_dC_3 (tgt := 13) rfl (fun q => absurd q (by decide)) (fun _ => ?_)
  refine lv_aload_n hx hb st_dC_6 rfl (lv_at hl 0 rfl) ?_
  refine vk_getf hx hb h2 hS hown (hts (.fieldLink "java/lang/String" 15 "java/lang/String" "coder" "B") (by decide +kernel)) (fun _ h => h) st_dC_7 ?_
  refine lv_goto hx hb st_dC_10 (tgt := 14) rfl ?_
  exact W.zret hx hb hr rfl (fun t ht hW => ⟨rfl, by rw [ht]; exact hP, hS.F ht⟩) hS.2.2 st_dC_14 B.notSynchronized
theorem st_I (hG : ∀ w ∈ st_ws, w ∈ G) {i : Nat} (hi : i < 5) : Met l st_yI (.code st_yI st_cI 1 (some .boolean) :: G) (pm_rm 0 0 0 0) (st_P T D aC b X [.ref (aC (1000 + i))]) (st_Q T D b X (some (.int 1))) 0 0 (fun q => b ≤ q) := by
  refine Met.ofW (cc := st_cI) (maxL := 1) (ret := some .boolean) (by decide) rfl ?_
  intro p e s m args below meth c s₁ B hml hv
  obtain ⟨rfl, hP, hZ⟩ := hv
  have hx := B.exec
  have hb := B.bytes
  have hr := B.returns
  have hts0 := atoms_spec (ws := Cond.code st_yI st_cI 1 (some .boolean) :: G) B.pre
  have hts : ∀ w ∈ st_ws, w.before _ s = true := fun w hw => hts0 w (List.mem_cons_of_mem _ (hG w hw))
  have hown : s.vm.findClass "java/lang/String" = some m.cls := findClass_of_methodNamed B.named
  obtain ⟨-, hZ1, -, adV, hZ4⟩ := hZ
  obtain ⟨h1, h2, h3, h4⟩ := hZ4 i hi
  have hS : va_S (fun q => b ≤ q) s.heap s.heap [] := va_S.rf
  have hl := lv_entry ([.ref (aC (1000 + i))]) (n := 1) (Nat.le_of_ble_eq_true rfl)
  rw [lg_entry_eq]
  generalize (lg_sl ([.ref (aC (1000 + i))]) ++ List.replicate (1 - (lg_sl ([.ref (aC (1000 + i))])).length) Slot.unset).toArray = ls at hl ⊢
  have hl : lv_has ls 1 [(0, .ref (aC (1000 + i)))] := hl
  refine va_gets hx hb hZ1 hS hown (hts (.fieldLink "java/lang/String" 38 "java/lang/String" "COMPACT_STRINGS" "Z") (by decide +kernel)) (fun _ h => h) st_dI_0 ?_
  refine lv_if_eq hx hb st_dI_3 (tgt := 17) rfl (fun q => absurd q (by decide)) (fun _ => ?_)
  refine lv_aload_n hx hb st_dI_6 rfl (lv_at hl 0 rfl) ?_
  refine vk_getf hx hb h2 hS hown (hts (.fieldLink "java/lang/String" 15 "java/lang/String" "coder" "B") (by decide +kernel)) (fun _ h => h) st_dI_7 ?_
  refine lv_if_ne hx hb st_dI_10 (tgt := 17) rfl (fun q => absurd q (by decide)) (fun _ => ?_)
  refine lv_iconst hx hb st_dI_13 rfl ?_
  refine lv_goto hx hb st_dI_14 (tgt := 18) rfl ?_
  exact W.zret hx hb hr rfl (fun t ht hW => ⟨rfl, by rw [ht]; exact hP, hS.F ht⟩) hS.2.2 st_dI_18 B.notSynchronized
theorem st_Pc {x n : Int32} {v : Value} (hv1 : v.category = 1) (hx0 : ¬ x < 0) (hxn : x < n) : Met l st_yP (.code st_yP st_cP 3 (some .int) :: G) (pm_rm 0 0 0 0) (st_P T D aC b X [.int x, .int n, v]) (st_Q T D b X (some (.int x))) 0 0 (fun q => b ≤ q) := by
  refine Met.ofW (cc := st_cP) (maxL := 3) (ret := some .int) (by decide) rfl ?_
  intro p e s m args below meth c s₁ B hml hv
  obtain ⟨rfl, hP, hZ⟩ := hv
  have hx := B.exec
  have hb := B.bytes
  have hr := B.returns
  have hS : va_S (fun q => b ≤ q) s.heap s.heap [] := va_S.rf
  have hl := lv_entry ([.int x, .int n, v]) (n := 3) (by cases v <;> first | exact Nat.le_of_ble_eq_true rfl | cases hv1)
  rw [lg_entry_eq]
  generalize (lg_sl ([.int x, .int n, v]) ++ List.replicate (3 - (lg_sl ([.int x, .int n, v])).length) Slot.unset).toArray = ls at hl ⊢
  have hl0 : ls[0]? = some (.val (.int x)) := hl.2.2 (0, .int x) (by simp [lv_args])
  have hl1 : ls[1]? = some (.val (.int n)) := hl.2.2 (1, .int n) (by simp [lv_args, Value.category])
  refine lv_iload_n hx hb st_dP_0 rfl hl0 ?_
  refine lv_if_lt hx hb st_dP_1 (tgt := 9) rfl (fun q => absurd q hx0) (fun _ => ?_)
  refine lv_iload_n hx hb st_dP_4 rfl hl0 ?_
  refine lv_iload_n hx hb st_dP_5 rfl hl1 ?_
  refine lv_icmp_lt hx hb st_dP_6 (tgt := 16) rfl (fun _ => ?_) (fun q => absurd hxn q)
  refine lv_iload_n hx hb st_dP_16 rfl hl0 ?_
  exact W.iret hx hb hr (fun t ht hW => ⟨rfl, by rw [ht]; exact hP, hS.F ht⟩) hS.2.2 st_dP_17 B.notSynchronized
theorem st_K (hg : ∀ w ∈ G, goodWord w = true) (hG : ∀ w ∈ st_ws, w ∈ G) {x n : Int32} (hx0 : ¬ x < 0) (hxn : x < n) : Met l st_yK (.code st_yK st_cK 2 none :: G) (pm_rm 1 22 0 0) (st_P T D aC b X [.int x, .int n]) (st_Q T D b X none) 0 0 (fun q => b ≤ q) := by
  refine Met.ofW (cc := st_cK) (maxL := 2) (ret := none) (by decide) rfl ?_
  intro p e s m args below meth c s₁ B hml hv
  obtain ⟨rfl, hP, hZ⟩ := hv
  have hx := B.exec
  have hb := B.bytes
  have hr := B.returns
  have hts0 := atoms_spec (ws := Cond.code st_yK st_cK 2 none :: G) B.pre
  have htG : ∀ w ∈ G, w.before _ s = true := fun w hw => hts0 w (List.mem_cons_of_mem _ hw)
  have hts : ∀ w ∈ st_ws, w.before _ s = true := fun w hw => htG w (hG w hw)
  have hown : s.vm.findClass "java/lang/String" = some m.cls := findClass_of_methodNamed B.named
  have hZ0 := hZ
  obtain ⟨-, -, ⟨v, hZ2, hv1⟩, -⟩ := hZ
  have hS : va_S (fun q => b ≤ q) s.heap s.heap [] := va_S.rf
  have hl := lv_entry ([.int x, .int n]) (n := 2) (Nat.le_of_ble_eq_true rfl)
  rw [lg_entry_eq]
  generalize (lg_sl ([.int x, .int n]) ++ List.replicate (2 - (lg_sl ([.int x, .int n])).length) Slot.unset).toArray = ls at hl ⊢
  have hl : lv_has ls 2 [(0, .int x), (1, .int n)] := hl
  refine lv_iload_n hx hb st_dK_0 rfl (lv_at hl 0 rfl) ?_
  refine lv_iload_n hx hb st_dK_1 rfl (lv_at hl 1 rfl) ?_
  refine va_gets hx hb hZ2 hS hown (hts (.fieldLink "java/lang/String" 1053 "jdk/internal/util/Preconditions" "SIOOBE_FORMATTER" "Ljava/util/function/BiFunction;") (by decide +kernel)) (fun _ h => h) st_dK_2 ?_
  refine st_after (va_runS (As := [.int x, .int n, v]) (rest := []) ⟨hx, hb, hml, hown, htG⟩ (st_Pc (T := T) (D := D) (aC := aC) (b := b) (X := X) (G := G) hv1 hx0 hxn) (va_cwS 3 htG (st_good hg ?_) rfl rfl rfl ⟨by decide, by decide, by decide +kernel⟩ ⟨Nat.le_of_ble_eq_true rfl, Nat.le_of_ble_eq_true rfl⟩) ⟨st_blind, fun U hU hW => ⟨rfl, by rw [hU]; exact hP, hZ0.warm hW (by rw [hU]; exact hS)⟩⟩ rfl rfl hl.1 rfl (Nat.le_of_ble_eq_true rfl) st_dK_5 ⟨Nat.le_refl _, Nat.le_refl _⟩) hS (fun H1 locs1 hP1 hS1 => ?_)
  · intro w hw
    simp only [va_wsS, List.mem_append, List.mem_cons, List.not_mem_nil, or_false] at hw
    rcases hw with (rfl | rfl | rfl) | rfl | hw
    · exact hG _ (by decide +kernel)
    · exact hG _ (by decide +kernel)
    · exact hG _ (by decide +kernel)
    · exact hG _ (by decide +kernel)
    · exact hw
  · refine lv_pop hx hb st_dK_8 rfl ?_
    exact W.vret hx hb hr (fun t ht hW => ⟨rfl, by rw [ht]; exact hP1, hS1.F ht⟩) hS1.2.2 st_dK_9 B.notSynchronized
/-- every literal: every entry is a small byte -/
theorem st_all : ∀ i, i < 5 → ((st_tx i).length < 100 ∧ ∀ k, k < (st_tx i).length → ((((st_tx i).getD k 0) &&& 255).toUInt32 % 65536).toInt32 = (st_tx i).getD k 0 ∧ narrow .char (.int ((st_tx i).getD k 0)) = .int ((st_tx i).getD k 0)) := by decide +kernel
theorem st_len31 : ∀ i, i < 5 → (Int32.ofNat (st_tx i).length) >>> ((0 : Int32) &&& 31) = Int32.ofNat (st_tx i).length := by decide +kernel
theorem st_in {x : Int32} {n : Nat} (hn : n < 100) (h : pm_in x n = true) : ¬ x < 0 ∧ x < Int32.ofNat n := by
  have h2 : ¬ (x < 0 ∨ n ≤ x.toNatClampNeg) := of_decide_eq_true h
  have h3 : ¬ x < 0 := fun q => h2 (Or.inl q)
  refine ⟨h3, ?_⟩
  have h4 : x.toNatClampNeg < n := Nat.not_le.mp (fun q => h2 (Or.inr q))
  have h5 : (0 : Int) ≤ x.toInt := by
    have := Int32.not_lt.mp h3
    simpa using Int32.le_iff_toInt_le.mp this
  have h6 : (Int32.ofNat n).toInt = n := by
    rw [Int32.toInt_ofNat_of_lt (by omega)]
  rw [Int32.lt_iff_toInt_lt, h6]
  have h7 : x.toNatClampNeg = x.toInt.toNat := rfl
  omega
theorem st_B (hg : ∀ w ∈ G, goodWord w = true) (hG : ∀ w ∈ st_ws, w ∈ G) {i : Nat} (hi : i < 5) {x : Int32} (hin : pm_in x (st_tx i).length = true) {q : Nat} : Met l st_yB (.code st_yB st_cB 2 (some .char) :: G) (pm_rm 2 43 0 0) (va_Pc [.ref q, .int x] (fun U => va_P D (pm_cl T) X U.heap ∧ pm_Z T aC b U ∧ va_T .byte q (st_tx i).length (fun j => .int ((st_tx i).getD j 0)) (fun q => b ≤ q) U U.heap)) (st_Q T D b X (some (.int ((st_tx i).getD x.toNatClampNeg 0)))) 0 0 (fun q => b ≤ q) := by
  refine Met.ofW (cc := st_cB) (maxL := 2) (ret := some .char) (by decide) rfl ?_
  intro p e s m args below meth c s₁ B hml hv
  obtain ⟨rfl, hP, hZ, hT4⟩ := hv
  have hx := B.exec
  have hb := B.bytes
  have hr := B.returns
  have hts0 := atoms_spec (ws := Cond.code st_yB st_cB 2 (some .char) :: G) B.pre
  have htG : ∀ w ∈ G, w.before _ s = true := fun w hw => hts0 w (List.mem_cons_of_mem _ hw)
  have hown : s.vm.findClass "java/lang/StringLatin1" = some m.cls := findClass_of_methodNamed B.named
  have hS : va_S (fun q => b ≤ q) s.heap s.heap [] := va_S.rf
  obtain ⟨a1, a2⟩ := st_all i hi
  obtain ⟨x0, xn⟩ := st_in a1 hin
  have hlt : x.toNatClampNeg < (st_tx i).length := by
    have h2 : ¬ (x < 0 ∨ (st_tx i).length ≤ x.toNatClampNeg) := of_decide_eq_true hin
    omega
  obtain ⟨b1, b2⟩ := a2 _ hlt
  have hl := lv_entry ([.ref q, .int x]) (n := 2) (Nat.le_of_ble_eq_true rfl)
  rw [lg_entry_eq]
  generalize (lg_sl ([.ref q, .int x]) ++ List.replicate (2 - (lg_sl ([.ref q, .int x])).length) Slot.unset).toArray = ls at hl ⊢
  have hl : lv_has ls 2 [(0, .ref q), (1, .int x)] := hl
  refine lv_iload_n hx hb st_dB_0 rfl (lv_at hl 1 rfl) ?_
  refine lv_aload_n hx hb st_dB_1 rfl (lv_at hl 0 rfl) ?_
  refine va_tlen hx hb hT4 hS rfl st_dB_2 ?_
  refine st_after (va_runS (As := [.int x, .int (Int32.ofNat (st_tx i).length)]) (rest := []) ⟨hx, hb, hml, hown, htG⟩ (st_K (T := T) (D := D) (aC := aC) (b := b) (X := X) hg hG x0 xn) (va_cwS 2 htG (st_good hg ?_) rfl rfl rfl ⟨by decide, by decide, by decide +kernel⟩ ⟨Nat.le_of_ble_eq_true rfl, Nat.le_of_ble_eq_true rfl⟩) ⟨st_blind, fun U hU hW => ⟨rfl, by rw [hU]; exact hP, hZ.warm hW (by rw [hU]; exact hS)⟩⟩ rfl rfl hl.1 rfl (Nat.le_of_ble_eq_true rfl) st_dB_3 ⟨Nat.le_refl _, Nat.le_refl _⟩) hS (fun H1 locs1 hP1 hS1 => ?_)
  · intro w hw
    simp only [va_wsS, List.mem_append, List.mem_cons, List.not_mem_nil, or_false] at hw
    rcases hw with (rfl | rfl | rfl) | rfl | hw
    · exact hG _ (by decide +kernel)
    · exact hG _ (by decide +kernel)
    · exact hG _ (by decide +kernel)
    · exact hG _ (by decide +kernel)
    · exact hw
  · refine lv_aload_n hx hb st_dB_6 rfl (lv_at hl 0 rfl) ?_
    refine lv_iload_n hx hb st_dB_7 rfl (lv_at hl 1 rfl) ?_
    refine va_tb hx hb hT4 hS1 (pm_in_of hin) rfl st_dB_8 ?_
    refine lv_sipush hx hb st_dB_9 rfl ?_
    refine lv_iand hx hb st_dB_12 ?_
    refine lv_i2c hx hb st_dB_13 b1 ?_
    exact W.zret hx hb hr b2 (fun t ht hW => ⟨rfl, by rw [ht]; exact hP1, hS1.F ht⟩) hS1.2.2 st_dB_14 B.notSynchronized
theorem st_Len (hg : ∀ w ∈ G, goodWord w = true) (hG : ∀ w ∈ st_ws, w ∈ G) {i : Nat} (hi : i < 5) : Met l st_yL (.code st_yL st_cL 1 (some .int) :: G) (pm_rm 1 20 0 0) (st_P T D aC b X [.ref (aC (1000 + i))]) (st_Q T D b X (some (.int (Int32.ofNat (st_tx i).length)))) 0 0 (fun q => b ≤ q) := by
  refine Met.ofW (cc := st_cL) (maxL := 1) (ret := some .int) (by decide) rfl ?_
  intro p e s m args below meth c s₁ B hml hv
  obtain ⟨rfl, hP, hZ⟩ := hv
  have hx := B.exec
  have hb := B.bytes
  have hr := B.returns
  have hts0 := atoms_spec (ws := Cond.code st_yL st_cL 1 (some .int) :: G) B.pre
  have htG : ∀ w ∈ G, w.before _ s = true := fun w hw => hts0 w (List.mem_cons_of_mem _ hw)
  have hts : ∀ w ∈ st_ws, w.before _ s = true := fun w hw => htG w (hG w hw)
  have hown : s.vm.findClass "java/lang/String" = some m.cls := findClass_of_methodNamed B.named
  have hZ0 := hZ
  obtain ⟨-, hZ1, -, adV, hZ4⟩ := hZ
  obtain ⟨h1, h2, h3, h4⟩ := hZ4 i hi
  have hS : va_S (fun q => b ≤ q) s.heap s.heap [] := va_S.rf
  have hl := lv_entry ([.ref (aC (1000 + i))]) (n := 1) (Nat.le_of_ble_eq_true rfl)
  rw [lg_entry_eq]
  generalize (lg_sl ([.ref (aC (1000 + i))]) ++ List.replicate (1 - (lg_sl ([.ref (aC (1000 + i))])).length) Slot.unset).toArray = ls at hl ⊢
  have hl : lv_has ls 1 [(0, .ref (aC (1000 + i)))] := hl
  refine lv_aload_n hx hb st_dL_0 rfl (lv_at hl 0 rfl) ?_
  refine vk_getf hx hb h3 hS hown (hts (.fieldLink "java/lang/String" 9 "java/lang/String" "value" "[B") (by decide +kernel)) (fun _ h => h) st_dL_1 ?_
  refine va_tlen hx hb h4 hS rfl st_dL_4 ?_
  refine lv_aload_n hx hb st_dL_5 rfl (lv_at hl 0 rfl) ?_
  have hrec : ∃ cell : Cell, s.heap[aC (1000 + i)]? = some cell ∧ cell.vm.isStatics = false ∧ s.vm.findClass "java/lang/String" = some cell.cls := by
    obtain ⟨cell, q1, q2, q3, -⟩ := h1
    exact ⟨cell, q1, q2, q3⟩
  refine st_after (va_runV (As := []) (rest := [.int (Int32.ofNat (st_tx i).length)]) ⟨hx, hb, hml, hown, htG⟩ (st_C (T := T) (D := D) (aC := aC) (b := b) (X := X) hG hi) (cwV 0 htG (st_good hg ?_) rfl rfl rfl ⟨rfl, by decide, by decide, by decide +kernel⟩ ⟨Nat.le_of_ble_eq_true rfl, Nat.le_of_ble_eq_true rfl⟩) ⟨st_blind, hrec, fun U hU hW => ⟨rfl, by rw [hU]; exact hP, hZ0.warm hW (by rw [hU]; exact hS)⟩⟩ rfl rfl hl.1 rfl (Nat.le_of_ble_eq_true rfl) st_dL_6 ⟨Nat.le_refl _, Nat.le_refl _⟩) hS (fun H1 locs1 hP1 hS1 => ?_)
  · intro w hw
    simp only [wsV, List.mem_append, List.mem_cons, List.not_mem_nil, or_false] at hw
    rcases hw with (rfl | rfl | rfl | rfl) | rfl | hw
    · exact hG _ (by decide +kernel)
    · exact hG _ (by decide +kernel)
    · exact hG _ (by decide +kernel)
    · exact hG _ (by decide +kernel)
    · exact hG _ (by decide +kernel)
    · exact hw
  · refine lv_ishr hx hb st_dL_9 ?_
    rw [st_len31 i hi]
    exact W.iret hx hb hr (fun t ht hW => ⟨rfl, by rw [ht]; exact hP1, hS1.F ht⟩) hS1.2.2 st_dL_10 B.notSynchronized
theorem st_At (hg : ∀ w ∈ G, goodWord w = true) (hG : ∀ w ∈ st_ws, w ∈ G) {i : Nat} (hi : i < 5) {x : Int32} (hin : pm_in x (st_tx i).length = true) : Met l st_yA (.code st_yA st_cA 2 (some .char) :: G) (pm_rm 3 64 0 0) (st_P T D aC b X [.ref (aC (1000 + i)), .int x]) (st_Q T D b X (some (.int ((st_tx i).getD x.toNatClampNeg 0)))) 0 0 (fun q => b ≤ q) := by
  refine Met.ofW (cc := st_cA) (maxL := 2) (ret := some .char) (by decide) rfl ?_
  intro p e s m args below meth c s₁ B hml hv
  obtain ⟨rfl, hP, hZ⟩ := hv
  have hx := B.exec
  have hb := B.bytes
  have hr := B.returns
  have hts0 := atoms_spec (ws := Cond.code st_yA st_cA 2 (some .char) :: G) B.pre
  have htG : ∀ w ∈ G, w.before _ s = true := fun w hw => hts0 w (List.mem_cons_of_mem _ hw)
  have hts : ∀ w ∈ st_ws, w.before _ s = true := fun w hw => htG w (hG w hw)
  have hown : s.vm.findClass "java/lang/String" = some m.cls := findClass_of_methodNamed B.named
  have hZ0 := hZ
  obtain ⟨-, hZ1, -, adV, hZ4⟩ := hZ
  obtain ⟨h1, h2, h3, h4⟩ := hZ4 i hi
  have hS : va_S (fun q => b ≤ q) s.heap s.heap [] := va_S.rf
  obtain ⟨a1, a2⟩ := st_all i hi
  have hlt : x.toNatClampNeg < (st_tx i).length := by
    have h2 : ¬ (x < 0 ∨ (st_tx i).length ≤ x.toNatClampNeg) := of_decide_eq_true hin
    omega
  obtain ⟨b1, b2⟩ := a2 _ hlt
  have hl := lv_entry ([.ref (aC (1000 + i)), .int x]) (n := 2) (Nat.le_of_ble_eq_true rfl)
  rw [lg_entry_eq]
  generalize (lg_sl ([.ref (aC (1000 + i)), .int x]) ++ List.replicate (2 - (lg_sl ([.ref (aC (1000 + i)), .int x])).length) Slot.unset).toArray = ls at hl ⊢
  have hl : lv_has ls 2 [(0, .ref (aC (1000 + i))), (1, .int x)] := hl
  have hrec : ∃ cell : Cell, s.heap[aC (1000 + i)]? = some cell ∧ cell.vm.isStatics = false ∧ s.vm.findClass "java/lang/String" = some cell.cls := by
    obtain ⟨cell, q1, q2, q3, -⟩ := h1
    exact ⟨cell, q1, q2, q3⟩
  refine lv_aload_n hx hb st_dA_0 rfl (lv_at hl 0 rfl) ?_
  refine st_after (va_runV (As := []) (rest := []) ⟨hx, hb, hml, hown, htG⟩ (st_I (T := T) (D := D) (aC := aC) (b := b) (X := X) hG hi) (cwV 0 htG (st_good hg ?_) rfl rfl rfl ⟨rfl, by decide, by decide, by decide +kernel⟩ ⟨Nat.le_of_ble_eq_true rfl, Nat.le_of_ble_eq_true rfl⟩) ⟨st_blind, hrec, fun U hU hW => ⟨rfl, by rw [hU]; exact hP, hZ0.warm hW (by rw [hU]; exact hS)⟩⟩ rfl rfl hl.1 rfl (Nat.le_of_ble_eq_true rfl) st_dA_1 ⟨Nat.le_refl _, Nat.le_refl _⟩) hS (fun H1 locs1 hP1 hS1 => ?_)
  · intro w hw
    simp only [wsV, List.mem_append, List.mem_cons, List.not_mem_nil, or_false] at hw
    rcases hw with (rfl | rfl | rfl | rfl) | rfl | hw
    · exact hG _ (by decide +kernel)
    · exact hG _ (by decide +kernel)
    · exact hG _ (by decide +kernel)
    · exact hG _ (by decide +kernel)
    · exact hG _ (by decide +kernel)
    · exact hw
  · refine lv_if_eq hx hb st_dA_4 (tgt := 16) rfl (fun q => absurd q (by decide)) (fun _ => ?_)
    refine lv_aload_n hx hb st_dA_7 rfl (lv_at hl 0 rfl) ?_
    refine vk_getf hx hb h3 hS1 hown (hts (.fieldLink "java/lang/String" 9 "java/lang/String" "value" "[B") (by decide +kernel)) (fun _ h => h) st_dA_8 ?_
    refine lv_iload_n hx hb st_dA_11 rfl (lv_at hl 1 rfl) ?_
    refine st_after (va_runS (As := [.ref (adV i), .int x]) (rest := []) ⟨hx, hb, hml, hown, htG⟩ (st_B (T := T) (D := D) (aC := aC) (b := b) (X := X) hg hG hi hin) (va_cwS 2 htG (st_good hg ?_) rfl rfl rfl ⟨by decide, by decide, by decide +kernel⟩ ⟨Nat.le_of_ble_eq_true rfl, Nat.le_of_ble_eq_true rfl⟩) ⟨?_, fun U hU hW => ⟨rfl, by rw [hU]; exact hP1, hZ0.warm hW (by rw [hU]; exact hS1), by rw [hU]; exact va_T.moved hW.alike (h4.kept hS1.2.1)⟩⟩ rfl rfl hl.1 rfl (Nat.le_of_ble_eq_true rfl) st_dA_12 ⟨Nat.le_refl _, Nat.le_refl _⟩) hS1 (fun H2 locs2 hP2 hS2 => ?_)
    · intro w hw
      simp only [va_wsS, List.mem_append, List.mem_cons, List.not_mem_nil, or_false] at hw
      rcases hw with (rfl | rfl | rfl) | rfl | hw
      · exact hG _ (by decide +kernel)
      · exact hG _ (by decide +kernel)
      · exact hG _ (by decide +kernel)
      · exact hG _ (by decide +kernel)
      · exact hw
    · intro a U g mk hp
      obtain ⟨q1, q2, q3, q4⟩ := hp
      exact ⟨q1, q2, q3.same rfl rfl, va_T.moved (u := U) (U := U.calling g mk a) (Vm.Alike.refl U.vm) q4⟩
    · exact W.zret hx hb hr b2 (fun t ht hW => ⟨rfl, by rw [ht]; exact hP2, hS2.F ht⟩) hS2.2.2 st_dA_15 B.notSynchronized
end STW
/-! length and charAt of a String constant, in the pure machine -/
section STV
variable {p : Program} {l : Launch} {e : Env} {R : Room} {s : State} {m : MethodId} {args : Array Value} {below : List Frame} {meth : Method} {c : Code} {Q : State → Prop}
variable {T : pm_Tab} {G Ns : List Cond} {D : va_G} {aC : Nat → ClassId} {b k fr lo pc sz sl sz0 sl0 : Nat} {L : pm_L} {S : List Value} {h : pm_H} {st' : pm_St}
theorem pm_libVOk (OK : pm_ok T G Ns) (hC : pm_C T G Ns D aC b k p s m args meth c) (hfr : R.frames = fr) (hlo : R.locals = lo) (hcl : sz - sz0 ≤ R.cells) (hsl : sl - sl0 ≤ R.slots) {j : Nat} (hd : decode (pm_code T k) pc = .ok (.invokevirtual j, 3)) (hh : pm_libV T fr lo k j pc L S h sz sl = some st')
    (kk : pm_V p l e R s m args below meth c Q T D aC b k sz0 sl0 st') : pm_V p l e R s m args below meth c Q T D aC b k sz0 sl0 (pc, L, S, h, sz, sl) := by
  obtain ⟨hx, hb, hml, hown, hts, hK, -⟩ := hC
  have hZ := hK.2.2
  have hg := OK.2.1
  unfold pm_libV at hh
  split at hh
  case h_3 => cases hh
  case h_1 x i r e1 =>
    split at hh
    case isFalse => cases hh
    case isTrue hc =>
    cases hh
    obtain ⟨c1, c2, c3, c4⟩ := hc
    obtain ⟨w1, hG⟩ := OK.2.2.2.2.1 _ _ _ _ e1
    obtain ⟨-, -, -, adV, hZ4⟩ := hK.2.2
    intro H locs ls hP hS hl
    have hrec : ∃ cell : Cell, H[aC (1000 + i)]? = some cell ∧ cell.vm.isStatics = false ∧ s.vm.findClass "java/lang/String" = some cell.cls := by
      obtain ⟨cell, q1, q2, q3, -⟩ := (hZ4 i c1).1.kept hS.2.1
      exact ⟨cell, q1, q2, q3⟩
    refine st_after (T := T) (D := D) (b := b) (X := pm_w aC b h sz) (va_runV (As := []) (rest := r.map (pm_tr aC b)) ⟨hx, hb, hml, hown, hts⟩ (st_Len (T := T) (D := D) (aC := aC) (b := b) (X := pm_w aC b h sz) hg hG c1) (cwV 0 hts (st_good hg ?_) rfl rfl rfl ⟨rfl, by decide, by decide, by decide +kernel⟩ ⟨by dsimp only; omega, by dsimp only; omega⟩) ⟨st_blind, hrec, fun U hU hW => ⟨rfl, by rw [hU]; exact hP, hZ.warm hW (by rw [hU]; exact hS)⟩⟩ rfl rfl hl.1 rfl (lv_room (by rw [pm_sum_tr]; exact c4)) hd ⟨by dsimp only; omega, by dsimp only; omega⟩) hS (fun H1 locs1 hP1 hS1 => ?_)
    · intro w hw
      simp only [wsV, List.mem_append, List.mem_cons, List.not_mem_nil, or_false] at hw
      rcases hw with (rfl | rfl | rfl | rfl) | rfl | hw
      · exact w1
      · exact hG _ (by decide +kernel)
      · exact hG _ (by decide +kernel)
      · exact hG _ (by decide +kernel)
      · exact hG _ (by decide +kernel)
      · exact hw
    · exact kk H1 locs1 ls hP1 hS1 hl
  case h_2 x' x i r e1 =>
    split at hh
    case isFalse => cases hh
    case isTrue hc =>
    cases hh
    obtain ⟨c1, c2, c3, c4, c5⟩ := hc
    obtain ⟨w1, hG⟩ := OK.2.2.2.2.1 _ _ _ _ e1
    obtain ⟨-, -, -, adV, hZ4⟩ := hK.2.2
    intro H locs ls hP hS hl
    have hrec : ∃ cell : Cell, H[aC (1000 + i)]? = some cell ∧ cell.vm.isStatics = false ∧ s.vm.findClass "java/lang/String" = some cell.cls := by
      obtain ⟨cell, q1, q2, q3, -⟩ := (hZ4 i c1).1.kept hS.2.1
      exact ⟨cell, q1, q2, q3⟩
    refine st_after (T := T) (D := D) (b := b) (X := pm_w aC b h sz) (va_runV (As := [.int x]) (rest := r.map (pm_tr aC b)) ⟨hx, hb, hml, hown, hts⟩ (st_At (T := T) (D := D) (aC := aC) (b := b) (X := pm_w aC b h sz) hg hG c1 c5) (cwV 1 hts (st_good hg ?_) rfl rfl rfl ⟨rfl, by decide, by decide, by decide +kernel⟩ ⟨by dsimp only; omega, by dsimp only; omega⟩) ⟨st_blind, hrec, fun U hU hW => ⟨rfl, by rw [hU]; exact hP, hZ.warm hW (by rw [hU]; exact hS)⟩⟩ rfl rfl hl.1 rfl (lv_room (by rw [pm_sum_tr]; exact c4)) hd ⟨by dsimp only; omega, by dsimp only; omega⟩) hS (fun H1 locs1 hP1 hS1 => ?_)
    · intro w hw
      simp only [wsV, List.mem_append, List.mem_cons, List.not_mem_nil, or_false] at hw
      rcases hw with (rfl | rfl | rfl | rfl) | rfl | hw
      · exact w1
      · exact hG _ (by decide +kernel)
      · exact hG _ (by decide +kernel)
      · exact hG _ (by decide +kernel)
      · exact hG _ (by decide +kernel)
      · exact hw
    · exact kk H1 locs1 ls hP1 hS1 hl
end STV
end MG15cstrx0
section MG15cstrx1
/-! the soundness of every simple instruction -/
section PMO
variable {p : Program} {l : Launch} {e : Env} {R : Room} {s : State} {m : MethodId} {args : Array Value} {below : List Frame} {meth : Method} {c : Code} {Q : State → Prop}
variable {T : pm_Tab} {G Ns : List Cond} {D : va_G} {aC : Nat → ClassId} {b g k fr lo pc sz sl sz0 sl0 : Nat} {L : pm_L} {S : List Value} {h : pm_H} {st' : pm_St}
theorem sw_ldcwT {T : State} {locs : List Loc} {cells slots : Nat} (X : Stand p l e R s m args below meth c T locs cells slots) (hexec : p.tables.exec = Jvm.exec) {own text : String} {index : Nat} {a : Addr} (hown : s.vm.findClass own = some m.cls)
    (hconst : (Cond.stringRef own index text).before args s = true) (hev : (Term.string own index).eval args s none [] s = some (.ref a)) {f : JFrame} (hg : f.method = m) (hdg : decode c.code f.pc = .ok (.ldc_w index, 3)) :
    ∀ target, Steps p.tables e below (T.setTop { f with pc := f.pc + 3, stack := .ref a :: f.stack }) target → Steps p.tables e below (T.setTop f) target := by
  obtain ⟨k, cf, i, a', hk, hcf, hcp, -, hr, hev'⟩ := Cond.stringRef_spec hown hconst
  cases hev.symm.trans hev'
  obtain ⟨k', hk', he⟩ := X.warmed.alike.2.2 _ _ hk
  have hr' : k'.resolved[index]? = some (some (.string a)) := by
    rcases X.warmed.entry hk hk' index with z | ⟨z, -⟩
    · rw [z]; exact hr
    · rw [hr] at z; cases z
  intro target hrest
  subst hg
  jvm_step X.here [hexec, hdg, ldc_w.wp_string (e := e) (s := T) (f := f) X.here.top hk' (by rw [he]; exact hcf) hcp hr']
  exact hrest
theorem sw_ldcwS {cc : ByteArray} {H : Heap} {locs : List Loc} {cells slots : Nat} {ls : Array Slot} {rest : List Value} (hexec : p.tables.exec = Jvm.exec) (hb : c.code = cc) {own tx : String} {index q : Nat} (hown : s.vm.findClass own = some m.cls) (hZ : vk_R own index tx q s) (hdg : decode cc pc = .ok (.ldc_w index, 3))
    (k : W p l e R s m args below meth c H locs cells slots Q (F0 m (pc + 3) ls (.ref q :: rest))) : W p l e R s m args below meth c H locs cells slots Q (F0 m pc ls rest) := by
  intro T hT X
  obtain ⟨t, a1, b1⟩ := k T hT X
  exact ⟨t, sw_ldcwT X hexec hown (text := tx) (a := q) hZ.1 hZ.2 (f := F0 m pc ls rest) rfl (by rw [hb]; exact hdg) t a1, b1⟩
set_option maxHeartbeats 4000000 in
theorem pm_simple_ok (OK : pm_ok T G Ns) (hC : pm_C T G Ns D aC b k p s m args meth c) (hfr : R.frames = fr) (hlo : R.locals = lo) (hs0 : s.heap.size = b + sz0 + g) (hg : g = 0 ∨ st'.2.2.2.2.1 = sz0) (h0 : sz0 ≤ sz) (h1 : sl0 ≤ sl) (hmc : sz ≤ st'.2.2.2.2.1) (hms : sl ≤ st'.2.2.2.2.2) (hRc : st'.2.2.2.2.1 ≤ sz0 + R.cells) (hRs : st'.2.2.2.2.2 ≤ sl0 + R.slots)
    {i : Instr} {len : Nat} (hlen : pm_lenOk i len = true) (hd : decode (pm_code T k) pc = .ok (i, len)) (hh : pm_simple T fr lo k i pc L S h sz sl = some st')
    (kk : pm_V p l e R s m args below meth c Q T D aC b k sz0 sl0 st') : pm_V p l e R s m args below meth c Q T D aC b k sz0 sl0 (pc, L, S, h, sz, sl) := by
  have hx := hC.1
  have hb := hC.2.1
  have hml := hC.2.2.1
  have hown := hC.2.2.2.1
  have hts := hC.2.2.2.2.1
  have hK := hC.2.2.2.2.2.1
  cases i
  case iconst n =>
    have hl : len = 1 := eq_of_beq hlen
    subst hl
    cases hh
    intro H locs ls hP hS hl
    exact lv_iconst hx hb hd rfl (kk H locs ls hP hS hl)
  case bipush n =>
    have hl : len = 2 := eq_of_beq hlen
    subst hl
    cases hh
    intro H locs ls hP hS hl
    exact lv_bipush hx hb hd rfl (kk H locs ls hP hS hl)
  case sipush n =>
    have hl : len = 3 := eq_of_beq hlen
    subst hl
    cases hh
    intro H locs ls hP hS hl
    exact lv_sipush hx hb hd rfl (kk H locs ls hP hS hl)
  case lconst n =>
    have hl : len = 1 := eq_of_beq hlen
    subst hl
    cases hh
    intro H locs ls hP hS hl
    exact lv_lconst hx hb hd rfl (kk H locs ls hP hS hl)
  case ldc j =>
    have hl : len = 2 := eq_of_beq hlen
    subst hl
    dsimp only [pm_simple] at hh
    split at hh
    case h_2 =>
      split at hh
      case h_2 => cases hh
      case h_1 i e1 =>
      cases hh
      obtain ⟨tx, hR⟩ := hK.2.2.1 _ _ _ e1
      intro H locs ls hP hS hl
      exact va_ldcS hx hb hown hR hd (kk H locs ls hP hS hl)
    case h_1 v e1 =>
    cases hh
    intro H locs ls hP hS hl
    exact lv_ldc hx hb hown (hts _ (OK.2.2.2.2.2.2.2.1 _ _ _ e1)) hd (kk H locs ls hP hS hl)
  case ldc_w j =>
    have hl : len = 3 := eq_of_beq hlen
    subst hl
    dsimp only [pm_simple] at hh
    split at hh
    case h_2 =>
      split at hh
      case h_2 => cases hh
      case h_1 i e1 =>
      cases hh
      obtain ⟨tx, hR⟩ := hK.2.2.1 _ _ _ e1
      intro H locs ls hP hS hl
      exact sw_ldcwS hx hb hown hR hd (kk H locs ls hP hS hl)
    case h_1 v e1 =>
    cases hh
    intro H locs ls hP hS hl
    exact lv_ldcw hx hb hown (hts _ (OK.2.2.2.2.2.2.2.1 _ _ _ e1)) hd (kk H locs ls hP hS hl)
  case ldc2_w j =>
    have hl : len = 3 := eq_of_beq hlen
    subst hl
    dsimp only [pm_simple] at hh
    split at hh
    case h_2 => cases hh
    case h_1 v e1 =>
    cases hh
    intro H locs ls hP hS hl
    exact lv_ldc2 hx hb hown (hts _ (OK.2.2.2.2.2.2.2.2 _ _ _ e1)) hd (kk H locs ls hP hS hl)
  case iload j =>
    have hl : len = 2 := eq_of_beq hlen
    subst hl
    obtain ⟨v, e1, e2, rfl⟩ := pm_lo_inv hh
    obtain ⟨x, rfl⟩ := pm_isT_0 e2
    intro H locs ls hP hS hl
    exact lv_iload hx hb hd (hl.2.2 _ _ e1) (kk H locs ls hP hS hl)
  case iload_n j =>
    have hl : len = 1 := eq_of_beq hlen
    subst hl
    obtain ⟨v, e1, e2, rfl⟩ := pm_lo_inv hh
    obtain ⟨x, rfl⟩ := pm_isT_0 e2
    intro H locs ls hP hS hl
    exact lv_iload_n hx hb hd rfl (hl.2.2 _ _ e1) (kk H locs ls hP hS hl)
  case lload j =>
    have hl : len = 2 := eq_of_beq hlen
    subst hl
    obtain ⟨v, e1, e2, rfl⟩ := pm_lo_inv hh
    obtain ⟨x, rfl⟩ := pm_isT_1 e2
    intro H locs ls hP hS hl
    exact lv_lload hx hb hd (hl.2.2 _ _ e1) (kk H locs ls hP hS hl)
  case lload_n j =>
    have hl : len = 1 := eq_of_beq hlen
    subst hl
    obtain ⟨v, e1, e2, rfl⟩ := pm_lo_inv hh
    obtain ⟨x, rfl⟩ := pm_isT_1 e2
    intro H locs ls hP hS hl
    exact lv_lload_n hx hb hd rfl (hl.2.2 _ _ e1) (kk H locs ls hP hS hl)
  case aload j =>
    have hl : len = 2 := eq_of_beq hlen
    subst hl
    obtain ⟨v, e1, e2, rfl⟩ := pm_lo_inv hh
    intro H locs ls hP hS hl
    obtain ⟨x, rfl | rfl⟩ := pm_isT_2 e2
    all_goals exact lv_aload hx hb hd (hl.2.2 _ _ e1) (kk H locs ls hP hS hl)
  case aload_n j =>
    have hl : len = 1 := eq_of_beq hlen
    subst hl
    obtain ⟨v, e1, e2, rfl⟩ := pm_lo_inv hh
    intro H locs ls hP hS hl
    obtain ⟨x, rfl | rfl⟩ := pm_isT_2 e2
    all_goals exact lv_aload_n hx hb hd rfl (hl.2.2 _ _ e1) (kk H locs ls hP hS hl)
  case istore j =>
    have hl : len = 2 := eq_of_beq hlen
    subst hl
    obtain ⟨v, r, rfl, e2, e3, rfl⟩ := pm_so_inv hh
    obtain ⟨x, rfl⟩ := pm_isT_0 e2
    intro H locs ls hP hS hl
    exact lv_istore hx hb hd hl.has e3 rfl (fun ls' hl' => kk H locs ls' hP hS (pm_loc.st1 hl'))
  case istore_n j =>
    have hl : len = 1 := eq_of_beq hlen
    subst hl
    obtain ⟨v, r, rfl, e2, e3, rfl⟩ := pm_so_inv hh
    obtain ⟨x, rfl⟩ := pm_isT_0 e2
    intro H locs ls hP hS hl
    exact lv_istore_n hx hb hd rfl hl.has e3 rfl (fun ls' hl' => kk H locs ls' hP hS (pm_loc.st1 hl'))
  case astore j =>
    have hl : len = 2 := eq_of_beq hlen
    subst hl
    obtain ⟨v, r, rfl, e2, e3, rfl⟩ := pm_so_inv hh
    intro H locs ls hP hS hl
    obtain ⟨x, rfl | rfl⟩ := pm_isT_2 e2
    all_goals exact lv_astore hx hb hd hl.has e3 rfl (fun ls' hl' => kk H locs ls' hP hS (pm_loc.st1 hl'))
  case astore_n j =>
    have hl : len = 1 := eq_of_beq hlen
    subst hl
    obtain ⟨v, r, rfl, e2, e3, rfl⟩ := pm_so_inv hh
    intro H locs ls hP hS hl
    obtain ⟨x, rfl | rfl⟩ := pm_isT_2 e2
    all_goals exact lv_astore_n hx hb hd rfl hl.has e3 rfl (fun ls' hl' => kk H locs ls' hP hS (pm_loc.st1 hl'))
  case lstore j =>
    have hl : len = 2 := eq_of_beq hlen
    subst hl
    obtain ⟨x, r, rfl, e3, rfl⟩ := pm_sL_inv hh
    intro H locs ls hP hS hl
    exact lv_lstore hx hb hd hl.has e3 rfl (fun ls' hl' => kk H locs ls' hP hS (pm_loc.st2 (v := .long x) hl'))
  case lstore_n j =>
    have hl : len = 1 := eq_of_beq hlen
    subst hl
    obtain ⟨x, r, rfl, e3, rfl⟩ := pm_sL_inv hh
    intro H locs ls hP hS hl
    exact lv_lstore_n hx hb hd rfl hl.has e3 rfl (fun ls' hl' => kk H locs ls' hP hS (pm_loc.st2 (v := .long x) hl'))
  case iinc j n =>
    have hl : len = 3 := eq_of_beq hlen
    subst hl
    dsimp only [pm_simple] at hh
    split at hh
    case h_2 => cases hh
    case h_1 x e1 =>
    split at hh
    case isFalse => cases hh
    case isTrue e3 =>
    cases hh
    intro H locs ls hP hS hl
    obtain ⟨q, hq, hq2⟩ := List.getElem_of_mem (pm_ll_mem (aC := aC) (b := b) e1)
    exact lv_iinc (k := q) (x := x) hx hb hd hl.has (by rw [List.getElem?_eq_getElem hq, hq2]; rfl) rfl e3 rfl (fun ls' hl' => kk H locs ls' hP hS (pm_loc.st1 (v := .int (x + Int32.ofInt n)) hl'))
  case iadd =>
    have hl : len = 1 := eq_of_beq hlen
    subst hl
    obtain ⟨x, y, r, rfl, rfl⟩ := pm_bi_inv hh
    intro H locs ls hP hS hl
    exact lv_iadd hx hb hd (kk H locs ls hP hS hl)
  case isub =>
    have hl : len = 1 := eq_of_beq hlen
    subst hl
    obtain ⟨x, y, r, rfl, rfl⟩ := pm_bi_inv hh
    intro H locs ls hP hS hl
    exact lv_isub hx hb hd (kk H locs ls hP hS hl)
  case imul =>
    have hl : len = 1 := eq_of_beq hlen
    subst hl
    obtain ⟨x, y, r, rfl, rfl⟩ := pm_bi_inv hh
    intro H locs ls hP hS hl
    exact lv_imul hx hb hd (kk H locs ls hP hS hl)
  case iand =>
    have hl : len = 1 := eq_of_beq hlen
    subst hl
    obtain ⟨x, y, r, rfl, rfl⟩ := pm_bi_inv hh
    intro H locs ls hP hS hl
    exact lv_iand hx hb hd (kk H locs ls hP hS hl)
  case ior =>
    have hl : len = 1 := eq_of_beq hlen
    subst hl
    obtain ⟨x, y, r, rfl, rfl⟩ := pm_bi_inv hh
    intro H locs ls hP hS hl
    exact lv_ior hx hb hd (kk H locs ls hP hS hl)
  case ixor =>
    have hl : len = 1 := eq_of_beq hlen
    subst hl
    obtain ⟨x, y, r, rfl, rfl⟩ := pm_bi_inv hh
    intro H locs ls hP hS hl
    exact lv_ixor hx hb hd (kk H locs ls hP hS hl)
  case ishl =>
    have hl : len = 1 := eq_of_beq hlen
    subst hl
    obtain ⟨x, y, r, rfl, rfl⟩ := pm_bi_inv hh
    intro H locs ls hP hS hl
    exact lv_ishl hx hb hd (kk H locs ls hP hS hl)
  case ishr =>
    have hl : len = 1 := eq_of_beq hlen
    subst hl
    obtain ⟨x, y, r, rfl, rfl⟩ := pm_bi_inv hh
    intro H locs ls hP hS hl
    exact lv_ishr hx hb hd (kk H locs ls hP hS hl)
  case iushr =>
    have hl : len = 1 := eq_of_beq hlen
    subst hl
    obtain ⟨x, y, r, rfl, rfl⟩ := pm_bi_inv hh
    intro H locs ls hP hS hl
    exact lv_iushr hx hb hd rfl (kk H locs ls hP hS hl)
  case idiv =>
    have hl : len = 1 := eq_of_beq hlen
    subst hl
    obtain ⟨x, y, r, rfl, hy, rfl⟩ := pm_bd_inv hh
    intro H locs ls hP hS hl
    exact lv_idiv hx hb hd hy (kk H locs ls hP hS hl)
  case irem =>
    have hl : len = 1 := eq_of_beq hlen
    subst hl
    obtain ⟨x, y, r, rfl, hy, rfl⟩ := pm_bd_inv hh
    intro H locs ls hP hS hl
    exact lv_irem hx hb hd hy (kk H locs ls hP hS hl)
  case ineg =>
    have hl : len = 1 := eq_of_beq hlen
    subst hl
    obtain ⟨x, r, rfl, rfl⟩ := pm_ui_inv hh
    intro H locs ls hP hS hl
    exact lv_ineg hx hb hd (kk H locs ls hP hS hl)
  case i2l =>
    have hl : len = 1 := eq_of_beq hlen
    subst hl
    obtain ⟨x, r, rfl, rfl⟩ := pm_ui_inv hh
    intro H locs ls hP hS hl
    exact lv_i2l hx hb hd rfl (kk H locs ls hP hS hl)
  case i2b =>
    have hl : len = 1 := eq_of_beq hlen
    subst hl
    obtain ⟨x, r, rfl, rfl⟩ := pm_ui_inv hh
    intro H locs ls hP hS hl
    exact lv_i2b hx hb hd rfl (kk H locs ls hP hS hl)
  case i2s =>
    have hl : len = 1 := eq_of_beq hlen
    subst hl
    obtain ⟨x, r, rfl, rfl⟩ := pm_ui_inv hh
    intro H locs ls hP hS hl
    exact lv_i2s hx hb hd rfl (kk H locs ls hP hS hl)
  case i2c =>
    have hl : len = 1 := eq_of_beq hlen
    subst hl
    obtain ⟨x, r, rfl, rfl⟩ := pm_ui_inv hh
    intro H locs ls hP hS hl
    exact lv_i2c hx hb hd rfl (kk H locs ls hP hS hl)
  case lmul =>
    have hl : len = 1 := eq_of_beq hlen
    subst hl
    obtain ⟨x, y, r, rfl, rfl⟩ := pm_bl_inv hh
    intro H locs ls hP hS hl
    exact lv_lmul hx hb hd (kk H locs ls hP hS hl)
  case ladd =>
    have hl : len = 1 := eq_of_beq hlen
    subst hl
    obtain ⟨x, y, r, rfl, rfl⟩ := pm_bl_inv hh
    intro H locs ls hP hS hl
    exact lv_ladd hx hb hd (kk H locs ls hP hS hl)
  case lsub =>
    have hl : len = 1 := eq_of_beq hlen
    subst hl
    obtain ⟨x, y, r, rfl, rfl⟩ := pm_bl_inv hh
    intro H locs ls hP hS hl
    exact lv_lsub hx hb hd (kk H locs ls hP hS hl)
  case ldiv =>
    have hl : len = 1 := eq_of_beq hlen
    subst hl
    obtain ⟨x, y, r, rfl, hy, rfl⟩ := pm_bdL_inv hh
    intro H locs ls hP hS hl
    exact lv_ldiv hx hb hd hy (kk H locs ls hP hS hl)
  case lrem =>
    have hl : len = 1 := eq_of_beq hlen
    subst hl
    obtain ⟨x, y, r, rfl, hy, rfl⟩ := pm_bdL_inv hh
    intro H locs ls hP hS hl
    exact lv_lrem hx hb hd hy (kk H locs ls hP hS hl)
  case lcmp =>
    have hl : len = 1 := eq_of_beq hlen
    subst hl
    dsimp only [pm_simple] at hh
    split at hh
    case h_2 => cases hh
    case h_1 y x r =>
    cases hh
    intro H locs ls hP hS hl
    exact W.lcmp hx hb hd (kk H locs ls hP hS hl)
  case dup =>
    have hl : len = 1 := eq_of_beq hlen
    subst hl
    dsimp only [pm_simple] at hh
    split at hh
    case h_2 => cases hh
    case h_1 v r =>
    split at hh
    case isFalse => cases hh
    case isTrue e1 =>
    cases hh
    intro H locs ls hP hS hl
    exact lv_dup hx hb hd (by rw [pm_cat]; exact e1) (kk H locs ls hP hS hl)
  case pop =>
    have hl : len = 1 := eq_of_beq hlen
    subst hl
    dsimp only [pm_simple] at hh
    split at hh
    case h_2 => cases hh
    case h_1 v r =>
    split at hh
    case isFalse => cases hh
    case isTrue e1 =>
    cases hh
    intro H locs ls hP hS hl
    exact lv_pop hx hb hd (by rw [pm_cat]; exact e1) (kk H locs ls hP hS hl)
  case dup_x1 =>
    have hl : len = 1 := eq_of_beq hlen
    subst hl
    dsimp only [pm_simple] at hh
    split at hh
    case h_2 => cases hh
    case h_1 v w r =>
    split at hh
    case isFalse => cases hh
    case isTrue e1 =>
    cases hh
    intro H locs ls hP hS hl
    exact lv_dup_x1 hx hb hd (by rw [pm_cat]; exact e1.1) (by rw [pm_cat]; exact e1.2) (kk H locs ls hP hS hl)
  case dup_x2 =>
    have hl : len = 1 := eq_of_beq hlen
    subst hl
    dsimp only [pm_simple] at hh
    split at hh
    case h_2 => cases hh
    case h_1 v w z r =>
    split at hh
    case isFalse => cases hh
    case isTrue e1 =>
    cases hh
    intro H locs ls hP hS hl
    exact lv_dup_x2 hx hb hd (by rw [pm_cat]; exact e1.1) (by rw [pm_cat]; exact e1.2.1) (by rw [pm_cat]; exact e1.2.2) (kk H locs ls hP hS hl)
  case dup2 =>
    have hl : len = 1 := eq_of_beq hlen
    subst hl
    dsimp only [pm_simple] at hh
    split at hh
    case h_2 => cases hh
    case h_1 v w r =>
    split at hh
    case isFalse => cases hh
    case isTrue e1 =>
    cases hh
    intro H locs ls hP hS hl
    exact lv_dup2_11 hx hb hd (by rw [pm_cat]; exact e1.1) (by rw [pm_cat]; exact e1.2) (kk H locs ls hP hS hl)
  case ifCond cd off =>
    have hl : len = 3 := eq_of_beq hlen
    subst hl
    dsimp only [pm_simple] at hh
    split at hh
    case h_2 => cases hh
    case h_1 x r =>
    obtain ⟨t, e2, ⟨e1, rfl⟩ | ⟨e1, rfl⟩⟩ := pm_br_inv hh
    · intro H locs ls hP hS hl
      cases cd with
      | eq => exact lv_if_eq hx hb hd e2 (fun _ => kk H locs ls hP hS hl) (fun q => absurd (of_decide_eq_true e1) q)
      | ne => exact lv_if_ne hx hb hd e2 (fun _ => kk H locs ls hP hS hl) (fun q => absurd q (of_decide_eq_true e1))
      | lt => exact lv_if_lt hx hb hd e2 (fun _ => kk H locs ls hP hS hl) (fun q => absurd (of_decide_eq_true e1) q)
      | ge => exact lv_if_ge hx hb hd e2 (fun _ => kk H locs ls hP hS hl) (fun q => absurd (of_decide_eq_true e1) q)
      | gt => exact lv_if_gt hx hb hd e2 (fun _ => kk H locs ls hP hS hl) (fun q => absurd (of_decide_eq_true e1) q)
      | le => exact lv_if_le hx hb hd e2 (fun _ => kk H locs ls hP hS hl) (fun q => absurd (of_decide_eq_true e1) q)
    · intro H locs ls hP hS hl
      cases cd with
      | eq => exact lv_if_eq hx hb hd e2 (fun q => absurd q (of_decide_eq_false e1)) (fun _ => kk H locs ls hP hS hl)
      | ne => exact lv_if_ne hx hb hd e2 (fun q => absurd q (of_decide_eq_false e1)) (fun _ => kk H locs ls hP hS hl)
      | lt => exact lv_if_lt hx hb hd e2 (fun q => absurd q (of_decide_eq_false e1)) (fun _ => kk H locs ls hP hS hl)
      | ge => exact lv_if_ge hx hb hd e2 (fun q => absurd q (of_decide_eq_false e1)) (fun _ => kk H locs ls hP hS hl)
      | gt => exact lv_if_gt hx hb hd e2 (fun q => absurd q (of_decide_eq_false e1)) (fun _ => kk H locs ls hP hS hl)
      | le => exact lv_if_le hx hb hd e2 (fun q => absurd q (of_decide_eq_false e1)) (fun _ => kk H locs ls hP hS hl)
  case if_icmp cd off =>
    have hl : len = 3 := eq_of_beq hlen
    subst hl
    dsimp only [pm_simple] at hh
    split at hh
    case h_2 => cases hh
    case h_1 y x r =>
    obtain ⟨t, e2, ⟨e1, rfl⟩ | ⟨e1, rfl⟩⟩ := pm_br_inv hh
    · intro H locs ls hP hS hl
      cases cd with
      | eq => exact lv_icmp_eq hx hb hd e2 (fun _ => kk H locs ls hP hS hl) (fun q => absurd (of_decide_eq_true e1) q)
      | ne => exact lv_icmp_ne hx hb hd e2 (fun _ => kk H locs ls hP hS hl) (fun q => absurd q (of_decide_eq_true e1))
      | lt => exact lv_icmp_lt hx hb hd e2 (fun _ => kk H locs ls hP hS hl) (fun q => absurd (of_decide_eq_true e1) q)
      | ge => exact lv_icmp_ge hx hb hd e2 (fun _ => kk H locs ls hP hS hl) (fun q => absurd (of_decide_eq_true e1) q)
      | gt => exact lv_icmp_gt hx hb hd e2 (fun _ => kk H locs ls hP hS hl) (fun q => absurd (of_decide_eq_true e1) q)
      | le => exact lv_icmp_le hx hb hd e2 (fun _ => kk H locs ls hP hS hl) (fun q => absurd (of_decide_eq_true e1) q)
    · intro H locs ls hP hS hl
      cases cd with
      | eq => exact lv_icmp_eq hx hb hd e2 (fun q => absurd q (of_decide_eq_false e1)) (fun _ => kk H locs ls hP hS hl)
      | ne => exact lv_icmp_ne hx hb hd e2 (fun q => absurd q (of_decide_eq_false e1)) (fun _ => kk H locs ls hP hS hl)
      | lt => exact lv_icmp_lt hx hb hd e2 (fun q => absurd q (of_decide_eq_false e1)) (fun _ => kk H locs ls hP hS hl)
      | ge => exact lv_icmp_ge hx hb hd e2 (fun q => absurd q (of_decide_eq_false e1)) (fun _ => kk H locs ls hP hS hl)
      | gt => exact lv_icmp_gt hx hb hd e2 (fun q => absurd q (of_decide_eq_false e1)) (fun _ => kk H locs ls hP hS hl)
      | le => exact lv_icmp_le hx hb hd e2 (fun q => absurd q (of_decide_eq_false e1)) (fun _ => kk H locs ls hP hS hl)
  case goto off =>
    have hl : len = 3 := eq_of_beq hlen
    subst hl
    obtain ⟨t, e2, rfl⟩ := pm_jp_inv hh
    intro H locs ls hP hS hl
    exact lv_goto hx hb hd e2 (kk H locs ls hP hS hl)
  case tableswitch d lo1 hi1 offs =>
    dsimp only [pm_simple] at hh
    split at hh
    case h_2 => cases hh
    case h_1 x r =>
    split at hh
    case isTrue e1 =>
      obtain ⟨t, e2, rfl⟩ := pm_jp_inv hh
      intro H locs ls hP hS hl
      exact lv_tableOut hx hb hd e1 e2 (kk H locs ls hP hS hl)
    case isFalse e1 =>
      split at hh
      case h_2 => cases hh
      case h_1 off e3 =>
      obtain ⟨t, e2, rfl⟩ := pm_jp_inv hh
      intro H locs ls hP hS hl
      exact lv_tableIn hx hb hd (fun q => e1 (Or.inl q)) (fun q => e1 (Or.inr q)) e3 e2 (kk H locs ls hP hS hl)
  case lookupswitch d ps =>
    dsimp only [pm_simple] at hh
    split at hh
    case h_2 => cases hh
    case h_1 x r =>
    split at hh
    case isFalse => cases hh
    case isTrue e1 =>
      obtain ⟨t, e2, rfl⟩ := pm_jp_inv hh
      intro H locs ls hP hS hl
      exact lv_lookup hx hb hd e1 rfl e2 (kk H locs ls hP hS hl)
  case getfield j =>
    have hl : len = 3 := eq_of_beq hlen
    subst hl
    exact pm_getfield OK hC hd hh kk
  case putfield j =>
    have hl : len = 3 := eq_of_beq hlen
    subst hl
    exact pm_putfield OK hC hd hh kk
  case iaload =>
    have hl : len = 1 := eq_of_beq hlen
    subst hl
    exact pm_iald hC (fun H locs ls a kd n f i r q1 q2 q3 q4 q5 => va_iald hx hb hK.1 q1 a kd q2 q3 q4 hd q5) hh kk
  case caload =>
    have hl : len = 1 := eq_of_beq hlen
    subst hl
    exact pm_iald hC (fun H locs ls a kd n f i r q1 q2 q3 q4 q5 => va_cald hx hb hK.1 q1 a kd q2 q3 q4 hd q5) hh kk
  case baload =>
    have hl : len = 1 := eq_of_beq hlen
    subst hl
    exact pm_iald hC (fun H locs ls a kd n f i r q1 q2 q3 q4 q5 => va_zald hx hb hK.1 q1 a kd q2 q3 q4 hd q5) hh kk
  case bastore =>
    have hl : len = 1 := eq_of_beq hlen
    subst hl
    exact pm_iast hC (fun H locs ls a kd n f x i r q1 q2 q3 q4 q5 q6 q7 => va_zast hx hb hK.1 q1 q2 q3 a kd q4 q5 q6 hd q7) hh kk
  case laload =>
    have hl : len = 1 := eq_of_beq hlen
    subst hl
    exact pm_lald hC hd hh kk
  case aaload =>
    have hl : len = 1 := eq_of_beq hlen
    subst hl
    exact pm_aald hC hd hh kk
  case iastore =>
    have hl : len = 1 := eq_of_beq hlen
    subst hl
    exact pm_iast hC (fun H locs ls a kd n f x i r q1 q2 q3 q4 q5 q6 q7 => va_iast hx hb hK.1 q1 q2 q3 a kd q4 q5 q6 hd q7) hh kk
  case castore =>
    have hl : len = 1 := eq_of_beq hlen
    subst hl
    exact pm_iast hC (fun H locs ls a kd n f x i r q1 q2 q3 q4 q5 q6 q7 => va_cast hx hb hK.1 q1 q2 q3 a kd q4 q5 q6 hd q7) hh kk
  case lastore =>
    have hl : len = 1 := eq_of_beq hlen
    subst hl
    exact pm_last hC hd hh kk
  case aastore =>
    have hl : len = 1 := eq_of_beq hlen
    subst hl
    exact pm_aast hC hd hh kk
  case arraylength =>
    have hl : len = 1 := eq_of_beq hlen
    subst hl
    exact pm_alen hC hd hh kk
  case newarray at_ =>
    have hl : len = 2 := eq_of_beq hlen
    subst hl
    cases at_
    case float => cases hh
    case double => cases hh
    case byte => cases hh
    case short => cases hh
    case int =>
      dsimp only [pm_simple, pm_newI] at hh
      split at hh
      case h_2 => cases hh
      case h_1 n r =>
      split at hh
      case h_2 => cases hh
      case h_1 kd e1 =>
      split at hh
      case isFalse => cases hh
      case isTrue e2 =>
      unfold pm_nw at hh
      cases hh
      exact pm_newarr (at_ := .int) (ty := .int) OK hC hs0 (by dsimp only at hg; omega) h0 h1 rfl (fun C q => by cases q) (by decide) (fun cA => rfl) rfl e1 e2.1 e2.2 hd hRc hRs kk
    case char =>
      dsimp only [pm_simple, pm_newI] at hh
      split at hh
      case h_2 => cases hh
      case h_1 n r =>
      split at hh
      case h_2 => cases hh
      case h_1 kd e1 =>
      split at hh
      case isFalse => cases hh
      case isTrue e2 =>
      unfold pm_nw at hh
      cases hh
      exact pm_newarr (at_ := .char) (ty := .char) OK hC hs0 (by dsimp only at hg; omega) h0 h1 rfl (fun C q => by cases q) (by decide) (fun cA => rfl) rfl e1 e2.1 e2.2 hd hRc hRs kk
    case boolean =>
      dsimp only [pm_simple, pm_newI] at hh
      split at hh
      case h_2 => cases hh
      case h_1 n r =>
      split at hh
      case h_2 => cases hh
      case h_1 kd e1 =>
      split at hh
      case isFalse => cases hh
      case isTrue e2 =>
      unfold pm_nw at hh
      cases hh
      exact pm_newarr (at_ := .boolean) (ty := .boolean) OK hC hs0 (by dsimp only at hg; omega) h0 h1 rfl (fun C q => by cases q) (by decide) (fun cA => rfl) rfl e1 e2.1 e2.2 hd hRc hRs kk
    case long =>
      dsimp only [pm_simple, pm_newL] at hh
      split at hh
      case h_2 => cases hh
      case h_1 n r =>
      split at hh
      case h_2 => cases hh
      case h_1 kd e1 =>
      split at hh
      case isFalse => cases hh
      case isTrue e2 =>
      unfold pm_nw at hh
      cases hh
      exact pm_newarr (at_ := .long) (ty := .long) OK hC hs0 (by dsimp only at hg; omega) h0 h1 rfl (fun C q => by cases q) (by decide) (fun cA => rfl) rfl e1 e2.1 e2.2 hd hRc hRs kk
  case anewarray j =>
    have hl : len = 3 := eq_of_beq hlen
    subst hl
    exact pm_newqarr OK hC hs0 hg h0 h1 hd hh hRc hRs kk
  case new j =>
    have hl : len = 3 := eq_of_beq hlen
    subst hl
    exact pm_newobj OK hC hs0 hg h0 h1 hd hh hRc hRs kk
  case invokespecial j =>
    have hl : len = 3 := eq_of_beq hlen
    subst hl
    exact pm_libOk (sp := true) OK hC hfr hlo (by omega) (by omega) hd hh kk
  case invokestatic j =>
    have hl : len = 3 := eq_of_beq hlen
    subst hl
    exact pm_libOk (sp := false) OK hC hfr hlo (by omega) (by omega) hd hh kk
  case invokevirtual j =>
    have hl : len = 3 := eq_of_beq hlen
    subst hl
    exact pm_libVOk OK hC hfr hlo (by omega) (by omega) hd hh kk
  all_goals cases hh
end PMO
end MG15cstrx1
end MH06strnx1
section MH06strnx2
/-! calls, and the soundness of a whole run -/
section PMM
variable {T : pm_Tab} {k fr lo pc sz sl : Nat} {L : pm_L} {S : List Value} {h : pm_H} {st' : pm_St}
set_option maxHeartbeats 4000000 in
theorem pm_simple_mono {i : Instr} (hh : pm_simple T fr lo k i pc L S h sz sl = some st') : sz ≤ st'.2.2.2.2.1 ∧ sl ≤ st'.2.2.2.2.2 := by
  unfold pm_simple at hh
  split at hh
  all_goals (try simp only [pm_bi, pm_bd, pm_bl, pm_bdL, pm_ui, pm_lo, pm_so, pm_sL, pm_jp, pm_br, pm_ia, pm_iS, pm_la, pm_lS, pm_qa, pm_qS, pm_al, pm_gf, pm_pf, pm_nw, pm_newI, pm_newL, pm_newQ, pm_newO, pm_libW, pm_libV, pm_lib] at hh)
  all_goals (repeat' split at hh)
  all_goals (first | (cases hh; done) | (cases hh; dsimp only; omega))
end PMM
section PMR
variable {p : Program} {l : Launch} {e : Env} {R : Room} {s : State} {m : MethodId} {args : Array Value} {below : List Frame} {meth : Method} {c : Code} {H : Heap} {locs : List Loc} {cells slots : Nat} {Q : State → Prop}
variable {T : pm_Tab} {G Ns : List Cond} {D : va_G} {aC : Nat → ClassId} {b g k fr lo pc sz sl sz0 sl0 : Nat} {L : pm_L} {S : List Value} {h : pm_H} {st' : pm_St}
/-- a call of a method of the tables -/
theorem pm_call (OK : pm_ok T G Ns) (hC : pm_C T G Ns D aC b k p s m args meth c) (hfr : R.frames = fr) (hlo : R.locals = lo) (hs0 : s.heap.size = b + sz0 + g) (hg : g = 0 ∨ sz = sz0) (h0 : sz0 ≤ sz) (h1 : sl0 ≤ sl) {i : Instr} (hd : decode (pm_code T k) pc = .ok (i, 3)) {w t : Nat} (hw : pm_callee T k i = some (w, t)) {r : pm_Rs} (hmc : sz ≤ r.2.2.1) (hms : sl ≤ r.2.2.2) (hRc : r.2.2.1 ≤ sz0 + R.cells) (hRs : r.2.2.2 ≤ sl0 + R.slots)
    (hna : pm_na T t ≤ S.length) (hrc : pm_rcv T w t (S.take (pm_na T t)).reverse h sz = true) (hsum : pm_sum (S.drop (pm_na T t)) ≤ 8) (hf1 : 1 ≤ fr) (hl1 : 19 + pm_max T t ≤ lo)
    (hM : pm_Met T G Ns l D aC b g (fr - 1) (lo - (19 + pm_max T t)) t (S.take (pm_na T t)).reverse h sz sl r)
    (kk : pm_V p l e R s m args below meth c Q T D aC b k sz0 sl0 (pc + 3, L, r.1.toList ++ S.drop (pm_na T t), r.2)) : pm_V p l e R s m args below meth c Q T D aC b k sz0 sl0 (pc, L, S, h, sz, sl) := by
  obtain ⟨hx, hb, hml, hown, hts, hK, -⟩ := hC
  intro H locs ls hP hS hl
  refine pm_sized fun hz => ?_
  dsimp only at hz hP hl
  have hsz := pm_size hS hP hs0 hg h0 hz
  have hbl : FrameBlind (pm_Pc T Ns D aC b g (S.take (pm_na T t)).reverse h sz) := pm_blind OK
  have hpre : ∀ U : State, U.heap = H → s.WarmedH U.vm → pm_Pc T Ns D aC b g (S.take (pm_na T t)).reverse h sz ((S.take (pm_na T t)).reverse.map (pm_tr aC b)).toArray U := fun U hU hW => ⟨rfl, by rw [hU]; exact hsz, by rw [hU]; exact hP, hK.warm OK hW (by rw [hU]; exact hS)⟩
  have hroom : 2 * (F0 m pc ls (S.map (pm_tr aC b))).monitorRoom + (((S.drop (pm_na T t)).map (pm_tr aC b)).map fun v => v.category).sum ≤ 8 := lv_room (by rw [pm_sum_tr]; exact hsum)
  have hcs : sz - sz0 + (r.2.2.1 - sz) ≤ R.cells ∧ sl - sl0 + (r.2.2.2 - sl) ≤ R.slots := ⟨by omega, by omega⟩
  have hRR : (pm_rm (fr - 1) (lo - (19 + pm_max T t)) (r.2.2.1 - sz) (r.2.2.2 - sl)).frames + 1 ≤ R.frames ∧ 8 + (pm_max T t + 11) + (pm_rm (fr - 1) (lo - (19 + pm_max T t)) (r.2.2.1 - sz) (r.2.2.2 - sl)).locals ≤ R.locals := by
    dsimp only
    omega
  have hlen : (S.take (pm_na T t)).reverse.length = pm_na T t := by rw [List.length_reverse, List.length_take]; omega
  have fin : ∀ (H1 : Heap) (locs1 : List Loc), va_P D (pm_cl T) (pm_w aC b r.2.1 r.2.2.1) H1 → va_S (fun q => b ≤ q) s.heap H1 locs1 → W p l e R s m args below meth c H1 locs1 (sz - sz0 + (r.2.2.1 - sz)) (sl - sl0 + (r.2.2.2 - sl)) Q (F0 m (pc + 3) ls ((r.1.map (pm_tr aC b)).toList ++ (S.drop (pm_na T t)).map (pm_tr aC b))) := by
    intro H1 locs1 hP1 hS1
    have hW := kk H1 locs1 ls hP1 hS1 hl
    dsimp only at hW
    rw [List.map_append] at hW
    have e1 : (r.1.toList).map (pm_tr aC b) = (r.1.map (pm_tr aC b)).toList := by cases r.1 <;> rfl
    rw [e1] at hW
    exact W.cs (by omega) (by omega) hW
  unfold pm_callee at hw
  split at hw
  case h_4 => cases hw
  case h_1 j =>
    split at hw
    case h_3 => cases hw
    case h_2 t' e1 => cases hw; exact absurd (OK.2.2.2.2.1 _ _ _ _ e1) (fun q => q)
    case h_1 t' e1 =>
    cases hw
    obtain ⟨⟨m1, m2, m3, m4, m5, m6⟩, w1, w2, w3, ⟨n, w4, w5⟩, F, N, w6⟩ := OK.2.2.2.2.1 _ _ _ _ e1
    unfold pm_rcv at hrc
    rw [if_neg (by omega)] at hrc
    split at hrc
    case h_2 => cases hrc
    case h_1 a A1 hA =>
    split at hrc
    case h_2 => cases hrc
    case h_1 ci fs e2 =>
    have hci := eq_of_beq hrc
    subst hci
    obtain ⟨ha, hcell⟩ := pm_obj_inv e2
    rw [hA] at hM hpre hbl
    refine pm_after (va_runV (As := A1.map (pm_tr aC b)) (rest := (S.drop (pm_na T t)).map (pm_tr aC b)) ⟨hx, hb, hml, hown, hts⟩ hM (cwV n hts (pm_good OK ?_) rfl rfl rfl ⟨rfl, m5.1, m5.2, w5⟩ hRR) ⟨hbl, va_recv hK.1 hP w6 (pm_w_P hP ha hcell), hpre⟩ rfl ?_ hl.1 (pm_stackV hA) hroom hd hcs) hS fin
    · intro w hw
      simp only [wsV, pm_ws, List.mem_append, List.mem_cons, List.not_mem_nil, or_false] at hw
      rcases hw with (rfl | rfl | rfl | rfl) | rfl | hw
      · exact w1
      · exact w2
      · exact w3
      · exact m4
      · exact m3
      · exact hw
    · rw [hA, List.length_cons] at hlen
      rw [List.length_map]
      omega
  case h_2 j =>
    split at hw
    case h_3 => cases hw
    case h_1 t' e1 =>
      cases hw
      obtain ⟨⟨m1, m2, m3, m4, m5, m6⟩, w1, w2, w3⟩ := OK.2.2.2.2.1 _ _ _ _ e1
      refine pm_after (va_runS (As := (S.take (pm_na T t)).reverse.map (pm_tr aC b)) (rest := (S.drop (pm_na T t)).map (pm_tr aC b)) ⟨hx, hb, hml, hown, hts⟩ hM (va_cwS (pm_na T t) hts (pm_good OK ?_) rfl rfl rfl ⟨m5.1, m5.2, w3⟩ hRR) ⟨hbl, hpre⟩ rfl (by rw [List.length_map]; exact hlen) hl.1 (pm_stackS S _) hroom hd hcs) hS fin
      intro w hw
      simp only [va_wsS, pm_ws, List.mem_append, List.mem_cons, List.not_mem_nil, or_false] at hw
      rcases hw with (rfl | rfl | rfl) | rfl | hw
      · exact w1
      · exact w2
      · exact m4
      · exact m3
      · exact hw
    case h_2 t' e1 =>
      cases hw
      obtain ⟨⟨m1, m2, m3, m4, m5, m6⟩, ⟨host, w1⟩, w2, w3⟩ := OK.2.2.2.2.1 _ _ _ _ e1
      refine pm_after (va_runSN (As := (S.take (pm_na T t)).reverse.map (pm_tr aC b)) (rest := (S.drop (pm_na T t)).map (pm_tr aC b)) ⟨hx, hb, hml, hown, hts⟩ hM ⟨va_cnB (pm_na T t) hts (pm_good OK ?_) rfl rfl rfl (hK.2.1 _ w1) (hts _ m4) ⟨m5.1, m5.2, w3⟩ hRR, hts _ w2, trivial⟩ ⟨hbl, hpre⟩ rfl (by rw [List.length_map]; exact hlen) hl.1 (pm_stackS S _) hroom hd hcs) hS fin
      intro w hw
      simp only [pm_ws, List.mem_cons] at hw
      rcases hw with rfl | hw
      · exact m3
      · exact hw
  case h_3 j =>
    have hA : ∃ a A1, (S.take (pm_na T t)).reverse = .ref a :: A1 := by
      unfold pm_rcv at hrc
      split at hrc
      · split at hw
        · rename_i q _ _ _; cases hw; omega
        · rename_i q _ _ _; cases hw; omega
        · cases hw
      · split at hrc
        · rename_i a A1 hA; exact ⟨a, A1, hA⟩
        · cases hrc
    obtain ⟨a, A1, hA⟩ := hA
    rw [hA] at hM hpre hbl
    have hl2 : ∀ n, pm_na T t = n + 1 → (A1.map (pm_tr aC b)).length = n := by
      intro n hn
      rw [hA, List.length_cons] at hlen
      rw [List.length_map]
      omega
    have hgd : pm_okM T G t → GoodIn G (pm_ws T G t) := fun hm => pm_good OK (fun w hw => by
      simp only [pm_ws, List.mem_cons] at hw
      rcases hw with rfl | hw
      · exact hm.2.2.1
      · exact hw)
    split at hw
    case h_3 => cases hw
    case h_1 t' e1 =>
      cases hw
      obtain ⟨hm, w1, w2, w3, w0, n, w4, w5⟩ := OK.2.2.2.2.1 _ _ _ _ e1
      have hg := hgd hm
      obtain ⟨m1, m2, m3, m4, m5, m6⟩ := hm
      exact pm_after (va_runI (b := b + a) (As := A1.map (pm_tr aC b)) (rest := (S.drop (pm_na T t)).map (pm_tr aC b)) ⟨hx, hb, hml, hown, hts⟩ hM (cwI n hts hg (by rw [← w0]; rfl) rfl rfl (hts _ m4) (hts _ w1) (hts _ w2) w3 ⟨m5.1, m5.2, w5⟩ hRR) ⟨hbl, hpre⟩ rfl (hl2 n w4) hl.1 (pm_stackV hA) hroom hd hcs) hS fin
    case h_2 t' e1 =>
      cases hw
      obtain ⟨hm, ⟨host, w1⟩, w2, w3, w0, n, w4, w5⟩ := OK.2.2.2.2.1 _ _ _ _ e1
      have hg := hgd hm
      obtain ⟨m1, m2, m3, m4, m5, m6⟩ := hm
      exact pm_after (va_runIN (b := b + a) (As := A1.map (pm_tr aC b)) (rest := (S.drop (pm_na T t)).map (pm_tr aC b)) ⟨hx, hb, hml, hown, hts⟩ hM ⟨va_cnB n hts hg (by rw [← w0]; rfl) rfl rfl (hK.2.1 _ w1) (hts _ m4) ⟨m5.1, m5.2, w5⟩ hRR, w3, hts _ w2⟩ ⟨hbl, hpre⟩ rfl (hl2 n w4) hl.1 (pm_stackV hA) hroom hd hcs) hS fin
end PMR
end MH06strnx2
section MH06strnx3
section MG18runx0
/-! the soundness of a whole run -/
section PMX
variable {p : Program} {l : Launch} {e : Env} {R : Room} {s : State} {m : MethodId} {args : Array Value} {below : List Frame} {meth : Method} {c : Code} {Q : State → Prop}
variable {T : pm_Tab} {G Ns : List Cond} {D : va_G} {aC : Nat → ClassId} {b g k fr lo sz0 sl0 : Nat} {st st' : pm_St}
theorem pm_step_mono {go : Nat → Nat → Nat → List Value → pm_H → Nat → Nat → Option pm_Rs} (hgo : ∀ fr lo t as h sz sl r, go fr lo t as h sz sl = some r → sz ≤ r.2.2.1 ∧ sl ≤ r.2.2.2) (e2 : pm_step T go fr lo k st = some st') : st.2.2.2.2.1 ≤ st'.2.2.2.2.1 ∧ st.2.2.2.2.2 ≤ st'.2.2.2.2.2 := by
  unfold pm_step at e2
  split at e2
  · cases e2
  · split at e2
    · split at e2
      · split at e2
        · split at e2
          · rename_i e3
            cases e2
            exact hgo _ _ _ _ _ _ _ _ e3
          · cases e2
        · cases e2
      · exact pm_simple_mono e2
    · cases e2
theorem pm_mono : ∀ (n fr lo k : Nat) (st : pm_St) (r : pm_Rs), pm_run T n fr lo k st = some r → st.2.2.2.2.1 ≤ r.2.2.1 ∧ st.2.2.2.2.2 ≤ r.2.2.2
  | 0, _, _, _, _, _, h => by cases h
  | n + 1, fr, lo, k, st, r, h => by
    unfold pm_run at h
    split at h
    · rename_i r' e1
      cases h
      unfold pm_end at e1
      split at e1
      · cases e1
      · split at e1
        · split at e1
          · cases e1; exact ⟨Nat.le_refl _, Nat.le_refl _⟩
          · cases e1
        · cases e1
    · split at h
      · rename_i st' e2
        have ih := pm_mono n fr lo k st' r h
        have h2 := pm_step_mono (fun fr lo t as h sz sl r q => pm_mono n _ _ _ _ _ q) e2
        omega
      · cases h
theorem pm_okM_of (OK : pm_ok T G Ns) {o j w t : Nat} (h : pm_mlk T o j = some (w, t)) (hw : w < 6) : pm_okM T G t := by
  have hk := OK.2.2.2.2.1 _ _ _ _ h
  match w, hw, hk with
  | 0, _, hk => exact hk.1
  | 1, _, hk => exact hk.elim
  | 2, _, hk => exact hk.1
  | 3, _, hk => exact hk.1
  | 4, _, hk => exact hk.1
  | 5, _, hk => exact hk.1
/-- one step, given that callees are sound -/
theorem pm_step_ok (OK : pm_ok T G Ns) (hC : pm_C T G Ns D aC b k p s m args meth c) (hfr : R.frames = fr) (hlo : R.locals = lo) (hs0 : s.heap.size = b + sz0 + g) (hg : g = 0 ∨ st'.2.2.2.2.1 = sz0) (h0 : sz0 ≤ st.2.2.2.2.1) (h1 : sl0 ≤ st.2.2.2.2.2) (hRc : st'.2.2.2.2.1 ≤ sz0 + R.cells) (hRs : st'.2.2.2.2.2 ≤ sl0 + R.slots)
    {go : Nat → Nat → Nat → List Value → pm_H → Nat → Nat → Option pm_Rs} (hgo : ∀ fr lo t as h sz sl r, pm_okM T G t → (pm_args as).length ≤ pm_max T t → go fr lo t as h sz sl = some r → sz ≤ r.2.2.1 ∧ sl ≤ r.2.2.2 ∧ ((g = 0 ∨ r.2.2.1 = sz) → pm_Met T G Ns l D aC b g fr lo t as h sz sl r))
    (hh : pm_step T go fr lo k st = some st')
    (kk : pm_V p l e R s m args below meth c Q T D aC b k sz0 sl0 st') : pm_V p l e R s m args below meth c Q T D aC b k sz0 sl0 st := by
  obtain ⟨pc, L, S, h, sz, sl⟩ := st
  unfold pm_step at hh
  dsimp only at hh h0 h1
  split at hh
  case h_1 => cases hh
  case h_2 i len e1 =>
  have hd := OK.1 _ _ _ _ e1
  split at hh
  case isFalse => cases hh
  case isTrue hlen =>
  split at hh
  case h_2 e2 =>
    have hm := pm_simple_mono hh
    exact pm_simple_ok OK hC hfr hlo hs0 hg h0 h1 hm.1 hm.2 hRc hRs hlen hd hh kk
  case h_1 w t e2 =>
  split at hh
  case isFalse => cases hh
  case isTrue hc =>
  obtain ⟨c1, c2, c3, c4, c5, c6⟩ := hc
  split at hh
  case h_2 => cases hh
  case h_1 rv h1' sz1 sl1 e3 =>
  cases hh
  dsimp only at hRc hRs
  have hx : ∃ o j, pm_mlk T o j = some (w, t) ∧ w < 6 ∧ len = 3 := by
    unfold pm_callee at e2
    split at e2
    case h_4 => cases e2
    case h_1 j =>
      split at e2
      case h_1 e3 => cases e2; exact ⟨_, _, e3, by omega, eq_of_beq hlen⟩
      case h_2 e3 => cases e2; exact ⟨_, _, e3, by omega, eq_of_beq hlen⟩
      case h_3 => cases e2
    case h_2 j =>
      split at e2
      case h_1 e3 => cases e2; exact ⟨_, _, e3, by omega, eq_of_beq hlen⟩
      case h_2 e3 => cases e2; exact ⟨_, _, e3, by omega, eq_of_beq hlen⟩
      case h_3 => cases e2
    case h_3 j =>
      split at e2
      case h_1 e3 => cases e2; exact ⟨_, _, e3, by omega, eq_of_beq hlen⟩
      case h_2 e3 => cases e2; exact ⟨_, _, e3, by omega, eq_of_beq hlen⟩
      case h_3 => cases e2
  obtain ⟨o, j, e4, hw6, rfl⟩ := hx
  obtain ⟨g1, g2, hM⟩ := hgo _ _ t _ _ _ _ _ (pm_okM_of OK e4 hw6) c6 e3
  dsimp only at g1 g2 hg
  exact pm_call (r := (rv, h1', sz1, sl1)) OK hC hfr hlo hs0 (by omega) h0 h1 hd e2 g1 g2 hRc hRs c1 c2 c3 c4 c5 (hM (by dsimp only; omega)) kk
/-- the method's end -/
theorem pm_end_ok (OK : pm_ok T G Ns) (hC : pm_C T G Ns D aC b k p s m args meth c) (hr : meth.sig.returnType = pm_ret T k) (hlocks : meth.locks = false) {r : pm_Rs} (hh : pm_end T k st = some r) : pm_V p l e R s m args below meth c (MQ below (pm_Qc T D aC b r.1 r.2.1 r.2.2.1) args s (r.2.2.1 - sz0) (r.2.2.2 - sl0) (fun q => b ≤ q)) T D aC b k sz0 sl0 st := by
  obtain ⟨pc, L, S, h, sz, sl⟩ := st
  unfold pm_end at hh
  dsimp only at hh
  split at hh
  case h_1 => cases hh
  case h_2 i len e1 =>
  have hd := OK.1 _ _ _ _ e1
  split at hh
  case isFalse => cases hh
  case isTrue hlen =>
  split at hh
  case h_2 => cases hh
  case h_1 rv e2 =>
  cases hh
  have hx := hC.1
  have hb := hC.2.1
  intro H locs ls hP hS hl
  unfold pm_rets at e2
  split at e2
  case h_4 => cases e2
  case h_1 =>
    have hl1 : len = 1 := eq_of_beq hlen
    subst hl1
    split at e2
    case h_2 => cases e2
    case h_1 e3 =>
    cases e2
    exact W.vret hx hb (by rw [hr]; exact e3) (fun t ht hW => ⟨rfl, by rw [ht]; exact hP, hS.F ht⟩) hS.2.2 hd hlocks
  case h_2 v =>
    have hl1 : len = 1 := eq_of_beq hlen
    subst hl1
    split at e2
    case h_3 => cases e2
    case h_1 e3 =>
      cases e2
      exact W.iret hx hb (by rw [hr]; exact e3) (fun t ht hW => ⟨rfl, by rw [ht]; exact hP, hS.F ht⟩) hS.2.2 hd hlocks
    case h_2 e3 =>
      split at e2
      case isFalse => cases e2
      case isTrue e4 =>
      cases e2
      exact W.zret hx hb (by rw [hr]; exact e3) (by rcases e4 with rfl | rfl <;> rfl) (fun t ht hW => ⟨rfl, by rw [ht]; exact hP, hS.F ht⟩) hS.2.2 hd hlocks
  case h_3 v =>
    have hl1 : len = 1 := eq_of_beq hlen
    subst hl1
    split at e2
    case h_2 => cases e2
    case h_1 e3 =>
    cases e2
    exact W.lret hx hb (by rw [hr]; exact e3) (fun t ht hW => ⟨rfl, by rw [ht]; exact hP, hS.F ht⟩) hS.2.2 hd hlocks
/-- callees with n steps are sound -/
def pm_Sd (T : pm_Tab) (G Ns : List Cond) (l : Launch) (D : va_G) (aC : Nat → ClassId) (b g n : Nat) : Prop := ∀ fr lo t as h sz sl r, pm_okM T G t → (g = 0 ∨ r.2.2.1 = sz) → (pm_args as).length ≤ pm_max T t → pm_run T n fr lo t (0, pm_l0 as (pm_max T t), [], h, sz, sl) = some r → pm_Met T G Ns l D aC b g fr lo t as h sz sl r
/-- a run, in any method that stands -/
theorem pm_run_ok (OK : pm_ok T G Ns) (hC : pm_C T G Ns D aC b k p s m args meth c) (hr : meth.sig.returnType = pm_ret T k) (hlk : meth.locks = false) (hfr : R.frames = fr) (hlo : R.locals = lo) (hs0 : s.heap.size = b + sz0 + g) {r : pm_Rs} (hg : g = 0 ∨ r.2.2.1 = sz0) (hRc : r.2.2.1 ≤ sz0 + R.cells) (hRs : r.2.2.2 ≤ sl0 + R.slots)
    (hQ : ∀ st, pm_V p l e R s m args below meth c (MQ below (pm_Qc T D aC b r.1 r.2.1 r.2.2.1) args s (r.2.2.1 - sz0) (r.2.2.2 - sl0) (fun q => b ≤ q)) T D aC b k sz0 sl0 st → pm_V p l e R s m args below meth c Q T D aC b k sz0 sl0 st) :
    ∀ (n : Nat), (∀ n', n' < n → pm_Sd T G Ns l D aC b g n') → ∀ st : pm_St, sz0 ≤ st.2.2.2.2.1 → sl0 ≤ st.2.2.2.2.2 → pm_run T n fr lo k st = some r → pm_V p l e R s m args below meth c Q T D aC b k sz0 sl0 st := by
  intro n
  induction n with
  | zero => intro _ st _ _ h; cases h
  | succ n ih2 =>
    intro ih st h0 h1 h
    unfold pm_run at h
    split at h
    · rename_i r' e1
      cases h
      exact hQ st (pm_end_ok OK hC hr hlk e1)
    · split at h
      · rename_i st' e2
        have hm := pm_mono _ _ _ _ _ _ h
        have hm2 := pm_step_mono (fun fr lo t as h sz sl r q => pm_mono n _ _ _ _ _ q) e2
        refine pm_step_ok OK hC hfr hlo hs0 (by omega) h0 h1 (by omega) (by omega) (fun fr lo t as h sz sl r q1 q2 q3 => ?_) e2 (ih2 (fun n' hn' => ih n' (by omega)) st' (by omega) (by omega) h)
        have hm3 := pm_mono _ _ _ _ _ _ q3
        exact ⟨hm3.1, hm3.2, fun hg => ih n (by omega) fr lo t as h sz sl r q1 hg q2 q3⟩
      · cases h
/-- THE PURE MACHINE IS SOUND -/
theorem pm_sound (OK : pm_ok T G Ns) : ∀ n, pm_Sd T G Ns l D aC b g n := by
  intro n
  induction n using Nat.strongRecOn with
  | _ n ih =>
    intro fr lo t as h sz sl r hm hg hlen hrun
    have hmn := pm_mono _ _ _ _ _ _ hrun
    dsimp only at hmn
    obtain ⟨m1, m2, m3, m4, m5, m6⟩ := hm
    refine Met.ofW (cc := pm_code T t) (maxL := pm_max T t) (ret := pm_ret T t) m1 rfl ?_
    intro p e s m args below meth c s₁ B hml hv
    obtain ⟨rfl, hsz, hP, hK⟩ := hv
    have hts := atoms_spec (ws := pm_ws T G t) B.pre
    have hown : s.vm.findClass (pm_y T t).cls = some m.cls := findClass_of_methodNamed B.named
    have hC : pm_C T G Ns D aC b t p s m (as.map (pm_tr aC b)).toArray meth c := ⟨B.exec, B.bytes, hml, by rw [m2]; exact hown, fun w hw => hts w (List.mem_cons_of_mem _ hw), hK, fun q => by rw [(name_of_methodNamed B.named B.method).1]; exact m6 q⟩
    have key := pm_run_ok (p := p) (l := l) (e := e) (R := (headSpec (pm_ws T G t) (pm_rm fr lo (r.2.2.1 - sz) (r.2.2.2 - sl))).room) (below := below) (b := b) (sz0 := sz) (sl0 := sl) (Q := MQ below (pm_Qc T D aC b r.1 r.2.1 r.2.2.1) (as.map (pm_tr aC b)).toArray s (r.2.2.1 - sz) (r.2.2.2 - sl) (fun q => b ≤ q)) OK hC B.returns B.notSynchronized rfl rfl hsz (r := r) hg (by show r.2.2.1 ≤ sz + (r.2.2.1 - sz); omega) (by show r.2.2.2 ≤ sl + (r.2.2.2 - sl); omega) (fun _ q => q) n ih (0, pm_l0 as (pm_max T t), [], h, sz, sl) (Nat.le_refl _) (Nat.le_refl _) hrun
    have hW := key s.heap [] _ hP va_S.rf (pm_l0_loc aC b as hlen)
    rw [lg_entry_eq]
    dsimp only at hW
    rw [Nat.sub_self, Nat.sub_self] at hW
    exact hW
end PMX
end MG18runx0
section MG18runx1
/-! THE TABLES of this claim, and that they are right -/
abbrev pd_I : Type := List (List (Nat × Instr × Nat))
def pl_0 : List (pm_M × pd_I) := [((yX0_init, prog_2_method_1_code, 2, none, 0, 2, 100), im_0), ((yX0_hear, prog_2_method_2_code, 3, some .boolean, 0, 3, 0), im_1), ((yX0_canBe, prog_2_method_3_code, 2, some .boolean, 0, 2, 0), im_2), ((yX0_fitting, prog_2_method_4_code, 4, some .int, 0, 2, 0), im_3), ((yX0_fitsAll, prog_2_method_5_code, 4, some .boolean, 0, 3, 0), im_4), ((yX0_fitsOne, prog_2_method_6_code, 5, some .boolean, 0, 5, 0), im_5), ((yX1_init, prog_3_method_1_code, 2, none, 1, 2, 101), im_6), ((yX1_owedBy, prog_3_method_2_code, 5, some .int, 1, 3, 1), im_7), ((yX1_owedTo, prog_3_method_3_code, 5, some .int, 1, 3, 1), im_8), ((yX1_allDues, prog_3_method_4_code, 4, some .int, 1, 2, 1), im_9), ((yX1_openNets, prog_3_method_5_code, 5, some .int, 1, 2, 1), im_10), ((yX1_fewestPayments, prog_3_method_6_code, 6, some .int, 1, 2, 1), im_11), ((yX1_shortestRing, prog_3_method_7_code, 4, some .int, 1, 2, 1), im_12), ((yX1_closes, prog_3_method_8_code, 7, some .boolean, 1, 5, 1), im_13), ((yX1_leastDue, prog_3_method_9_code, 6, some .int, 1, 3, 1), im_14), ((yX2_init, prog_4_method_1_code, 2, none, 2, 1, 102), im_15)]
def pl_1 : List (pm_M × pd_I) := [((yX2_mark, prog_4_method_2_code, 2, none, 2, 2, 2), im_16), ((yX2_commit, prog_4_method_3_code, 1, none, 2, 1, 2), im_17), ((yX2_remember, prog_4_method_4_code, 2, none, 2, 2, 2), im_18), ((yX2_restore, prog_4_method_5_code, 2, some .boolean, 2, 2, 2), im_19), ((yX2_clear, prog_4_method_6_code, 1, none, 2, 1, 2), im_20), ((yX2_slotOf, prog_4_method_7_code, 2, some .int, 2, 2, 2), im_21), ((yX3_init, prog_5_method_1_code, 1, none, 3, 1, 103), im_22), ((yX3_isCourt, prog_5_method_2_code, 2, some .boolean, 3, 2, 3), im_23), ((yX3_areTwoCourts, prog_5_method_3_code, 3, some .boolean, 3, 3, 3), im_24), ((yX3_isGift, prog_5_method_4_code, 2, some .boolean, 3, 2, 3), im_25), ((yX3_noteCourt, prog_5_method_5_code, 4, none, 3, 4, 3), im_26), ((yX3_noteGift, prog_5_method_6_code, 5, none, 3, 5, 3), im_27), ((yX3_tasteOf, prog_5_method_7_code, 3, some .int, 3, 3, 3), im_28), ((yX3_heldBy, prog_5_method_8_code, 5, some .int, 3, 3, 3), im_29), ((yX3_formerlyOf, prog_5_method_9_code, 5, some .int, 3, 3, 3), im_30), ((yX3_alliesOf, prog_5_method_10_code, 6, some .int, 3, 3, 3), im_31)]
def pl_2 : List (pm_M × pd_I) := [((yX3_foesOf, prog_5_method_11_code, 6, some .int, 3, 3, 3), im_32), ((yX3_alliedPairs, prog_5_method_12_code, 4, some .int, 3, 2, 3), im_33), ((yX3_warringPairs, prog_5_method_13_code, 4, some .int, 3, 2, 3), im_34), ((yX3_roadsThere, prog_5_method_14_code, 4, some .int, 3, 1, 3), im_35), ((yX3_allGrain, prog_5_method_15_code, 4, some .int, 3, 2, 3), im_36), ((yX3_esteemFor, prog_5_method_16_code, 5, some .int, 3, 3, 3), im_37), ((yX3_allEsteem, prog_5_method_17_code, 4, some .int, 3, 2, 3), im_38), ((yX3_valueFor, prog_5_method_18_code, 5, some .int, 3, 5, 3), im_39), ((yX3_deliver, prog_5_method_19_code, 9, none, 3, 5, 3), im_40), ((yX3_isEater, prog_5_method_20_code, 3, some .boolean, 3, 3, 3), im_41), ((yX3_passMonth, prog_5_method_21_code, 3, none, 3, 2, 3), im_42), ((yX3_passMonthAt, prog_5_method_22_code, 5, none, 3, 3, 3), im_43), ((yX3_firstDeath, prog_5_method_23_code, 5, some .int, 3, 3, 3), im_44), ((yX4_init, prog_6_method_1_code, 2, none, 4, 2, 104), im_45), ((yX4_fewestMonths, prog_6_method_2_code, 5, some .int, 4, 3, 4), im_46), ((yX4_shorten, prog_6_method_3_code, 4, none, 4, 2, 4), im_47)]
def pl_3 : List (pm_M × pd_I) := [((yX4_tellWay, prog_6_method_4_code, 5, none, 4, 3, 4), im_48), ((yX4_firstNext, prog_6_method_5_code, 4, some .int, 4, 2, 4), im_49), ((yX4_fewestFedMonths, prog_6_method_6_code, 7, some .int, 4, 5, 4), im_50), ((yX4_goOn, prog_6_method_7_code, 9, none, 4, 5, 4), im_51), ((yX5_init, prog_7_method_1_code, 1, none, 5, 1, 105), im_52), ((yX5_clear, prog_7_method_2_code, 1, none, 5, 1, 5), im_53), ((yX5_tell, prog_7_method_3_code, 3, none, 5, 2, 5), im_54), ((yX5_tellOne, prog_7_method_4_code, 3, none, 5, 2, 5), im_55), ((yX5_tellTwo, prog_7_method_5_code, 5, none, 5, 3, 5), im_56), ((yX6_init, prog_8_method_1_code, 2, none, 6, 2, 106), im_57), ((yX6_read, prog_8_method_2_code, 2, some .int, 6, 1, 6), im_58), ((yX6_beFirstRule, prog_8_method_3_code, 1, none, 6, 1, 6), im_59), ((yX6_emit, prog_8_method_4_code, 2, none, 6, 2, 6), im_60), ((yX6_nextSign, prog_8_method_5_code, 1, some .int, 6, 1, 6), im_61), ((yX6_readLevel, prog_8_method_6_code, 6, some .boolean, 6, 3, 6), im_62), ((yX6_levelOf, prog_8_method_7_code, 1, some .int, 6, 1, 6), im_63)]
def pl_4 : List (pm_M × pd_I) := [((yX6_readSigned, prog_8_method_8_code, 4, some .boolean, 6, 2, 6), im_64), ((yX6_readThing, prog_8_method_9_code, 3, some .boolean, 6, 2, 6), im_65), ((yX6_readNumber, prog_8_method_10_code, 4, none, 6, 1, 6), im_66), ((yX6_letterOf, prog_8_method_11_code, 1, some .int, 6, 1, 6), im_67), ((yX6_evaluate, prog_8_method_12_code, 6, some .int, 6, 2, 6), im_68), ((yX6_push, prog_8_method_13_code, 2, none, 6, 2, 6), im_69), ((yX6_pop, prog_8_method_14_code, 1, some .int, 6, 1, 6), im_70), ((yX6_joined, prog_8_method_15_code, 3, some .int, 6, 3, 6), im_71), ((yX7_init, prog_9_method_1_code, 1, none, 7, 1, 107), im_72), ((yX7_copyFrom, prog_9_method_2_code, 2, none, 7, 2, 7), im_73), ((yX7_isDead, prog_9_method_3_code, 2, some .boolean, 7, 2, 7), im_74), ((yX7_hadIt, prog_9_method_4_code, 3, some .boolean, 7, 3, 7), im_75), ((yX7_isWelcome, prog_9_method_5_code, 3, some .boolean, 7, 3, 7), im_76), ((yX7_esteemGained, prog_9_method_6_code, 5, some .int, 7, 5, 7), im_77), ((yX8_init, prog_10_method_1_code, 1, none, 8, 1, 108), im_78), ((yX8_addFour, prog_10_method_2_code, 3, some .boolean, 8, 2, 8), im_79)]
def pl_5 : List (pm_M × pd_I) := [((yX8_signAt, prog_10_method_3_code, 3, some .int, 8, 3, 8), im_80), ((yX8_digitAt, prog_10_method_4_code, 4, some .int, 8, 3, 8), im_81), ((yX9_init, prog_11_method_1_code, 3, none, 9, 3, 109), im_82), ((yX9_fewestGifts, prog_11_method_2_code, 6, some .int, 9, 4, 9), im_83), ((yX9_goOn, prog_11_method_3_code, 9, none, 9, 6, 9), im_84), ((yX10_init, prog_1_method_1_code, 2, none, 10, 1, 110), im_85), ((yX10_sign, prog_1_method_2_code, 2, some .int, 10, 2, 10), im_86), ((yX10_end, prog_1_method_3_code, 2, some .boolean, 10, 2, 10), im_87), ((yX10_courts, prog_1_method_4_code, 3, some .int, 10, 1, 10), im_88), ((yX10_gifts, prog_1_method_5_code, 2, some .int, 10, 1, 10), im_89), ((yX10_rule, prog_1_method_6_code, 3, some .int, 10, 1, 10), im_90), ((yX10_court, prog_1_method_7_code, 3, some .int, 10, 3, 10), im_91), ((yX10_between, prog_1_method_8_code, 5, some .int, 10, 4, 10), im_92), ((yX10_gift, prog_1_method_9_code, 3, some .int, 10, 3, 10), im_93), ((yX10_road, prog_1_method_10_code, 5, some .int, 10, 4, 10), im_94), ((yX10_sheet, prog_1_method_11_code, 8, some .int, 10, 5, 10), im_95)]
def pl_6 : List (pm_M × pd_I) := [((yX10_send, prog_1_method_12_code, 7, some .int, 10, 3, 10), im_96), ((yX10_months, prog_1_method_13_code, 4, some .int, 10, 2, 10), im_97), ((yX10_envoy, prog_1_method_14_code, 4, some .int, 10, 4, 10), im_98), ((yX10_forgive, prog_1_method_15_code, 5, some .int, 10, 3, 10), im_99), ((yX10_year, prog_1_method_16_code, 6, some .int, 10, 1, 10), im_100), ((yX10_undo, prog_1_method_17_code, 1, some .int, 10, 1, 10), im_101), ((yX10_value, prog_1_method_18_code, 3, some .int, 10, 3, 10), im_102), ((yX10_where, prog_1_method_19_code, 7, some .int, 10, 2, 10), im_103), ((yX10_answer, prog_1_method_20_code, 12, some .int, 10, 3, 10), im_104), ((yX10_wins, prog_1_method_21_code, 5, some .int, 10, 3, 10), im_105), ((yX10_unseen, prog_1_method_22_code, 6, some .int, 10, 2, 10), im_106), ((yX10_swaps, prog_1_method_23_code, 6, some .int, 10, 1, 10), im_107), ((yX10_way, prog_1_method_24_code, 4, some .int, 10, 3, 10), im_108), ((yX10_walks, prog_1_method_25_code, 6, some .int, 10, 5, 10), im_109), ((yX10_alive, prog_1_method_26_code, 5, some .int, 10, 4, 10), im_110), ((yX10_feeds, prog_1_method_27_code, 3, some .int, 10, 2, 10), im_111)]
def pl_7 : List (pm_M × pd_I) := [((yX10_starves, prog_1_method_28_code, 7, some .int, 10, 3, 10), im_112), ((yX10_net, prog_1_method_29_code, 4, some .int, 10, 2, 10), im_113), ((yX10_settle, prog_1_method_30_code, 2, some .int, 10, 1, 10), im_114), ((yX10_ring, prog_1_method_31_code, 3, some .int, 10, 1, 10), im_115), ((yX10_ranks, prog_1_method_32_code, 5, some .int, 10, 1, 10), im_116), ((yX10_league, prog_1_method_33_code, 3, some .int, 10, 1, 10), im_117), ((yX10_heard, prog_1_method_34_code, 3, some .int, 10, 3, 10), im_118), ((yX10_forget, prog_1_method_35_code, 2, some .int, 10, 1, 10), im_119), ((yX10_fits, prog_1_method_36_code, 4, some .int, 10, 1, 10), im_120), ((yX10_ask, prog_1_method_37_code, 7, some .int, 10, 1, 10), im_121), ((yX10_law, prog_1_method_38_code, 4, some .int, 10, 1, 10), im_122), ((yX10_rests, prog_1_method_39_code, 5, some .int, 10, 2, 10), im_123), ((yX10_years, prog_1_method_40_code, 8, some .int, 10, 3, 10), im_124), ((yX10_keep, prog_1_method_41_code, 2, some .boolean, 10, 2, 10), im_125), ((yX10_again, prog_1_method_42_code, 2, some .boolean, 10, 2, 10), im_126), ((yX10_count, prog_1_method_43_code, 2, some .int, 10, 2, 10), im_127)]
def pl_8 : List (pm_M × pd_I) := [((yX10_row, prog_1_method_44_code, 2, some .long, 10, 2, 10), im_128), ((yX10_readCourts, prog_1_method_45_code, 6, some .int, 10, 1, 10), im_129), ((yX10_readGifts, prog_1_method_46_code, 4, some .int, 10, 1, 10), im_130), ((yX10_readGift, prog_1_method_47_code, 9, some .int, 10, 3, 10), im_131), ((yX10_settleIn, prog_1_method_48_code, 3, none, 10, 2, 10), im_132), ((yX10_forgetStates, prog_1_method_49_code, 1, none, 10, 1, 10), im_133), ((yX10_yearFault, prog_1_method_50_code, 6, some .int, 10, 1, 10), im_134), ((yX10_actSigns, prog_1_method_51_code, 1, some .int, 10, 1, 10), im_135), ((yX10_sendRefusal, prog_1_method_52_code, 3, some .int, 10, 3, 10), im_136), ((yX10_isEnvoyRefused, prog_1_method_53_code, 4, some .boolean, 10, 4, 10), im_137), ((yX10_hearEnvoy, prog_1_method_54_code, 5, none, 10, 4, 10), im_138), ((yX10_forgiveRefusal, prog_1_method_55_code, 3, some .int, 10, 3, 10), im_139), ((yX10_passMonths, prog_1_method_56_code, 3, none, 10, 2, 10), im_140), ((yX10_doAct, prog_1_method_57_code, 5, some .boolean, 10, 2, 10), im_141), ((yX10_actSend, prog_1_method_58_code, 3, some .boolean, 10, 3, 10), im_142), ((yX10_actForgive, prog_1_method_59_code, 3, some .boolean, 10, 3, 10), im_143)]
def pl_9 : List (pm_M × pd_I) := [((yX10_actEnvoy, prog_1_method_60_code, 4, some .boolean, 10, 4, 10), im_144), ((yX10_tryDelivery, prog_1_method_61_code, 3, some .boolean, 10, 3, 10), im_145), ((yX10_swapGain, prog_1_method_62_code, 7, some .int, 10, 3, 10), im_146), ((yX10_mostEsteemedBut, prog_1_method_63_code, 6, some .int, 10, 2, 10), im_147), ((yX10_isLeague, prog_1_method_64_code, 4, some .boolean, 10, 2, 10), im_148), ((yX10_worthAtHome, prog_1_method_65_code, 4, some .int, 10, 2, 10), im_149), ((yX10_tellFraction, prog_1_method_66_code, 7, none, 10, 3, 10), im_150), ((yX10_greatestDivisor, prog_1_method_67_code, 11, some .long, 10, 2, 10), im_151), ((yX10_power, prog_1_method_68_code, 5, some .long, 10, 2, 10), im_152), ((yX10_isBestReply, prog_1_method_69_code, 4, some .boolean, 10, 3, 10), im_153), ((yX10_gainOf, prog_1_method_70_code, 5, some .int, 10, 3, 10), im_154), ((yX10_nextDraw, prog_1_method_71_code, 1, some .int, 10, 1, 10), im_155), ((yX10_drawOf, prog_1_method_72_code, 2, some .int, 10, 2, 10), im_156), ((yX10_sheetEntry, prog_1_method_73_code, 2, some .int, 10, 2, 10), im_157), ((yX10_firstOf, prog_1_method_74_code, 2, some .int, 10, 1, 10), im_158), ((yX10_clamped, prog_1_method_75_code, 2, some .int, 10, 2, 10), im_159)]
def pl_10 : List (pm_M × pd_I) := [((yX10_pairOf, prog_1_method_76_code, 2, some .int, 10, 2, 10), im_160), ((yX11_init, prog_13_method_1_code, 1, none, 11, 1, 111), im_161), ((yX11_refuse, prog_13_method_3_code, 1, some .int, 11, 1, 11), im_162), ((yX11_in, prog_13_method_4_code, 6, some .boolean, 11, 3, 11), im_163), ((yX11_has, prog_13_method_5_code, 2, some .boolean, 11, 2, 11), im_164), ((yX11_flag, prog_13_method_6_code, 1, some .int, 11, 1, 11), im_165), ((yX11_common, prog_13_method_7_code, 4, some .long, 11, 2, 11), im_166), ((yX11_enters, prog_13_method_8_code, 3, none, 11, 2, 11), im_167), ((yX11_isCourt, prog_13_method_9_code, 2, some .boolean, 11, 2, 11), im_168), ((yX11_isGift, prog_13_method_10_code, 2, some .boolean, 11, 2, 11), im_169), ((yX11_arePair, prog_13_method_11_code, 3, some .boolean, 11, 3, 11), im_170), ((yX11_likes, prog_13_method_12_code, 3, some .int, 11, 3, 11), im_171), ((yX11_owes, prog_13_method_13_code, 3, some .int, 11, 3, 11), im_172), ((yX11_isDead, prog_13_method_14_code, 2, some .boolean, 11, 2, 11), im_173), ((yX11_giftsOf, prog_13_method_15_code, 5, some .int, 11, 3, 11), im_174), ((yX11_areAllied, prog_13_method_16_code, 3, some .boolean, 11, 3, 11), im_175)]
def pl_11 : List (pm_M × pd_I) := [((yX11_areAtWar, prog_13_method_17_code, 3, some .boolean, 11, 3, 11), im_176), ((yX11_grainAll, prog_13_method_18_code, 4, some .int, 11, 2, 11), im_177), ((yX11_sign, prog_13_method_19_code, 3, some .int, 11, 2, 11), im_178), ((yX11_end, prog_13_method_20_code, 2, some .boolean, 11, 2, 11), im_179), ((yX11_begins, prog_13_method_21_code, 3, some .int, 11, 2, 11), im_180), ((yX11_takes, prog_13_method_22_code, 3, some .boolean, 11, 2, 11), im_181), ((yX11_isDigit, prog_13_method_23_code, 1, some .boolean, 11, 1, 11), im_182), ((yX11_takesOf, prog_13_method_24_code, 3, some .int, 11, 2, 11), im_183), ((yX11_number, prog_13_method_25_code, 4, some .int, 11, 2, 11), im_184), ((yX11_digitIn, prog_13_method_26_code, 3, some .int, 11, 3, 11), im_185), ((yX11_faultOf, prog_13_method_27_code, 5, some .int, 11, 4, 11), im_186), ((yX11_readsCourt, prog_13_method_28_code, 4, some .boolean, 11, 1, 11), im_187), ((yX11_courts, prog_13_method_29_code, 7, some .int, 11, 1, 11), im_188), ((yX11_comes, prog_13_method_30_code, 3, none, 11, 3, 11), im_189), ((yX11_isNew, prog_13_method_31_code, 1, none, 11, 1, 11), im_190), ((yX11_readsGift, prog_13_method_32_code, 2, some .boolean, 11, 1, 11), im_191)]
def pl_12 : List (pm_M × pd_I) := [((yX11_gifts, prog_13_method_33_code, 6, some .int, 11, 1, 11), im_192), ((yX11_codes, prog_13_method_34_code, 2, none, 11, 2, 11), im_193), ((yX11_readsThing, prog_13_method_35_code, 2, some .boolean, 11, 1, 11), im_194), ((yX11_readsRank, prog_13_method_36_code, 4, some .boolean, 11, 2, 11), im_195), ((yX11_readsRule, prog_13_method_37_code, 3, some .int, 11, 1, 11), im_196), ((yX11_laysCode, prog_13_method_38_code, 4, none, 11, 3, 11), im_197), ((yX11_rule, prog_13_method_39_code, 2, some .int, 11, 1, 11), im_198), ((yX11_worked, prog_13_method_40_code, 3, some .int, 11, 3, 11), im_199), ((yX11_ruled, prog_13_method_41_code, 4, some .int, 11, 1, 11), im_200), ((yX11_valueOf, prog_13_method_42_code, 4, some .int, 11, 4, 11), im_201), ((yX11_alliedTo, prog_13_method_43_code, 4, some .int, 11, 2, 11), im_202), ((yX11_atWarWith, prog_13_method_44_code, 4, some .int, 11, 2, 11), im_203), ((yX11_owesAll, prog_13_method_45_code, 4, some .int, 11, 2, 11), im_204), ((yX11_owedAll, prog_13_method_46_code, 4, some .int, 11, 2, 11), im_205), ((yX11_court, prog_13_method_47_code, 3, some .int, 11, 3, 11), im_206), ((yX11_between, prog_13_method_48_code, 5, some .int, 11, 4, 11), im_207)]
def pl_13 : List (pm_M × pd_I) := [((yX11_gift, prog_13_method_49_code, 3, some .int, 11, 3, 11), im_208), ((yX11_road, prog_13_method_50_code, 5, some .int, 11, 4, 11), im_209), ((yX11_sheet, prog_13_method_51_code, 8, some .int, 11, 5, 11), im_210), ((yX11_putsBy, prog_13_method_52_code, 2, none, 11, 1, 11), im_211), ((yX11_adds, prog_13_method_53_code, 3, some .int, 11, 2, 11), im_212), ((yX11_counts, prog_13_method_54_code, 2, some .int, 11, 2, 11), im_213), ((yX11_undo, prog_13_method_55_code, 2, some .int, 11, 1, 11), im_214), ((yX11_grows, prog_13_method_56_code, 5, some .int, 11, 4, 11), im_215), ((yX11_moved, prog_13_method_57_code, 2, some .int, 11, 2, 11), im_216), ((yX11_sends, prog_13_method_58_code, 9, some .int, 11, 4, 11), im_217), ((yX11_isHungry, prog_13_method_59_code, 3, some .boolean, 11, 3, 11), im_218), ((yX11_monthGoes, prog_13_method_60_code, 4, none, 11, 2, 11), im_219), ((yX11_envoys, prog_13_method_61_code, 4, some .int, 11, 4, 11), im_220), ((yX11_forgives, prog_13_method_62_code, 5, some .int, 11, 3, 11), im_221), ((yX11_send, prog_13_method_63_code, 4, some .int, 11, 3, 11), im_222), ((yX11_months, prog_13_method_64_code, 4, some .int, 11, 2, 11), im_223)]
def pl_14 : List (pm_M × pd_I) := [((yX11_envoy, prog_13_method_65_code, 4, some .int, 11, 4, 11), im_224), ((yX11_forgive, prog_13_method_66_code, 3, some .int, 11, 3, 11), im_225), ((yX11_readsAct, prog_13_method_67_code, 2, some .boolean, 11, 1, 11), im_226), ((yX11_does, prog_13_method_68_code, 5, some .boolean, 11, 2, 11), im_227), ((yX11_year, prog_13_method_69_code, 5, some .int, 11, 1, 11), im_228), ((yX11_copies, prog_13_method_70_code, 2, none, 11, 1, 11), im_229), ((yX11_value, prog_13_method_71_code, 3, some .int, 11, 3, 11), im_230), ((yX11_where, prog_13_method_72_code, 7, some .int, 11, 2, 11), im_231), ((yX11_answer, prog_13_method_73_code, 8, some .int, 11, 3, 11), im_232), ((yX11_winsBy, prog_13_method_74_code, 8, none, 11, 6, 11), im_233), ((yX11_wins, prog_13_method_75_code, 5, some .int, 11, 3, 11), im_234), ((yX11_unseen, prog_13_method_76_code, 6, some .int, 11, 2, 11), im_235), ((yX11_swaps, prog_13_method_77_code, 11, some .int, 11, 1, 11), im_236), ((yX11_laysFar, prog_13_method_78_code, 6, none, 11, 2, 11), im_237), ((yX11_way, prog_13_method_79_code, 7, some .int, 11, 3, 11), im_238), ((yX11_walks, prog_13_method_80_code, 11, some .int, 11, 5, 11), im_239)]
def pl_15 : List (pm_M × pd_I) := [((yX11_alive, prog_13_method_81_code, 10, some .int, 11, 4, 11), im_240), ((yX11_diesIn, prog_13_method_82_code, 4, some .int, 11, 2, 11), im_241), ((yX11_feeds, prog_13_method_83_code, 3, some .int, 11, 2, 11), im_242), ((yX11_starves, prog_13_method_84_code, 7, some .int, 11, 3, 11), im_243), ((yX11_net, prog_13_method_85_code, 2, some .int, 11, 2, 11), im_244), ((yX11_settle, prog_13_method_86_code, 4, some .int, 11, 1, 11), im_245), ((yX11_rings, prog_13_method_87_code, 5, none, 11, 3, 11), im_246), ((yX11_ring, prog_13_method_88_code, 3, some .int, 11, 1, 11), im_247), ((yX11_likedBy, prog_13_method_89_code, 4, some .int, 11, 2, 11), im_248), ((yX11_ranks, prog_13_method_90_code, 6, some .int, 11, 1, 11), im_249), ((yX11_league, prog_13_method_91_code, 5, some .int, 11, 1, 11), im_250), ((yX11_heard, prog_13_method_92_code, 4, some .int, 11, 3, 11), im_251), ((yX11_forget, prog_13_method_93_code, 2, some .int, 11, 1, 11), im_252), ((yX11_isSo, prog_13_method_94_code, 4, some .boolean, 11, 4, 11), im_253), ((yX11_fitting, prog_13_method_95_code, 5, some .int, 11, 1, 11), im_254), ((yX11_fits, prog_13_method_96_code, 4, some .int, 11, 1, 11), im_255)]
def pl_16 : List (pm_M × pd_I) := [((yX11_ask, prog_13_method_97_code, 7, some .int, 11, 1, 11), im_256), ((yX11_valueAll, prog_13_method_98_code, 3, some .int, 11, 1, 11), im_257), ((yX11_law, prog_13_method_99_code, 5, some .int, 11, 1, 11), im_258), ((yX11_earns, prog_13_method_100_code, 4, some .int, 11, 3, 11), im_259), ((yX11_isRest, prog_13_method_101_code, 5, some .boolean, 11, 3, 11), im_260), ((yX11_rests, prog_13_method_102_code, 5, some .int, 11, 2, 11), im_261), ((yX11_draws, prog_13_method_103_code, 2, some .int, 11, 2, 11), im_262), ((yX11_years, prog_13_method_104_code, 7, some .int, 11, 3, 11), im_263), ((yX11_keep, prog_13_method_105_code, 3, some .boolean, 11, 2, 11), im_264), ((yX11_again, prog_13_method_106_code, 3, some .boolean, 11, 2, 11), im_265), ((yX11_pairMany, prog_13_method_107_code, 5, some .int, 11, 2, 11), im_266), ((yX11_count, prog_13_method_108_code, 4, some .int, 11, 2, 11), im_267), ((yX11_row, prog_13_method_109_code, 2, some .long, 11, 2, 11), im_268), ((yJ6_numberOfTrailingZeros_0f7a4, prog_18_method_48_code, 2, some .int, 12, 1, 99), im_269), ((yJ6_bitCount_0f7a4, prog_18_method_49_code, 1, some .int, 12, 1, 99), im_270)]
def pd_L : List (List (pm_M × pd_I)) := [pl_0, pl_1, pl_2, pl_3, pl_4, pl_5, pl_6, pl_7, pl_8, pl_9, pl_10, pl_11, pl_12, pl_13, pl_14, pl_15, pl_16]
def pd_at (k : Nat) : Option (pm_M × pd_I) := match pm_nth pd_L (k / 16) with
  | some c => pm_nth c (k % 16)
  | none => none
def pd_lw : List (pm_M × pd_I) := [((x, code, 8, some .boolean, 13, 1, 99), imL_law), ((⟨"GiftsOfCourtsLaw", "court", "(LGiftsOfCourts;II[J)I"⟩, method_3_code, 5, some .int, 13, 4, 99), imL_court), ((⟨"GiftsOfCourtsLaw", "between", "(LGiftsOfCourts;III[J)I"⟩, method_4_code, 6, some .int, 13, 5, 99), imL_between), ((⟨"GiftsOfCourtsLaw", "gift", "(LGiftsOfCourts;II[J)I"⟩, method_5_code, 5, some .int, 13, 4, 99), imL_gift), ((⟨"GiftsOfCourtsLaw", "row", "(LGiftsOfCourts;I[J)I"⟩, method_6_code, 4, some .int, 13, 3, 99), imL_row)]
def pd_a2 (k : Nat) : Option (pm_M × pd_I) := cond (Nat.ble 1000 k) (pm_nth pd_lw (k - 1000)) (pd_at k)
def pd_m (k : Nat) : pm_M := match pd_a2 k with
  | some e => e.1
  | none => (yX0_init, cX0_init, 0, none, 0, 0, 0)
def pd_ins (k pc : Nat) : Option (Instr × Nat) := match pd_a2 k with
  | some e => pm_ch e.2 pc
  | none => none
def pd_oL : List String := ["GiftsOfCourts$Clues", "GiftsOfCourts$Debts", "GiftsOfCourts$Past", "GiftsOfCourts$Realm", "GiftsOfCourts$Roads", "GiftsOfCourts$Row", "GiftsOfCourts$Rule", "GiftsOfCourts$State", "GiftsOfCourts$Text", "GiftsOfCourts$Wooing", "GiftsOfCourts", "GiftsOfCourtsModel", "java/lang/Integer", "GiftsOfCourtsLaw"]
def pd_own (o : Nat) : String := match pm_nth pd_oL o with
  | some x => x
  | none => ""
def pd_dL : List (List Value) := [[.int 0, .null, .null, .null], [.null, .null, .null, .null], [.null, .int 0, .int 0], [.int 0, .int 0, .null, .null, .null, .null, .null, .null, .null], [.null, .null, .null], [.null, .int 0], [.null, .int 0, .null, .int 0, .null, .int 0], [.null, .null, .null, .null, .null, .int 0, .int 0], [.null, .int 0], [.null, .null, .null, .null, .null, .int 0, .int 0, .int 0], [.null, .null, .null, .null, .null, .null, .null, .int 0, .null, .null, .null, .null, .null, .null], [.int 0, .int 0, .null, .int 0, .int 0, .int 0, .null, .null, .null, .null, .null, .null, .null, .null, .null, .int 0, .int 0, .int 0, .int 0, .null, .int 0, .null, .null, .int 0, .int 0, .null, .null, .int 0, .null, .int 0, .int 0, .null, .null, .null, .null, .int 0, .null, .null, .int 0, .null, .null, .int 0, .null, .null, .null, .null, .int 0, .int 0, .null, .null, .null, .int 0, .null, .null, .null]]
def pd_df (c : Nat) : List Value := match pm_nth pd_dL c with
  | some x => x
  | none => []
def pd_ty : List FieldType := [.int, .char, .long, .boolean, .object "GiftsOfCourts$State"]
def pd_tyL : List (Nat → FieldType) := [tyX0, tyX1, tyX2, tyX3, tyX4, tyX5, tyX6, tyX7, tyX8, tyX9, tyX10, tyX11]
def pd_FL : List (List (Nat × (Nat × Nat × Nat) × Nat)) := [[(9, (0, 2, 12), 379), (15, (0, 3, 12), 380), (18, (0, 1, 12), 378), (22, (0, 0, 0), 376), (30, (3, 1, 0), 166), (43, (3, 5, 22), 175), (46, (3, 6, 22), 179)], [(9, (1, 0, 12), 324), (15, (1, 2, 12), 327), (18, (1, 3, 12), 328), (21, (1, 1, 12), 326), (25, (3, 0, 0), 162), (31, (7, 2, 22), 218)], [(11, (2, 0, 12), 258), (18, (2, 2, 0), 260), (30, (2, 1, 0), 259)], [(9, (3, 2, 12), 168), (15, (3, 3, 12), 170), (18, (3, 4, 12), 171), (21, (3, 5, 12), 174), (24, (3, 6, 12), 177), (27, (3, 7, 12), 181), (32, (3, 8, 12), 183), (35, (3, 0, 0), 160), (43, (3, 1, 0), 165), (46, (7, 3, 22), 223), (55, (7, 1, 22), 216), (75, (7, 0, 22), 212), (84, (7, 4, 22), 227), (97, (7, 2, 22), 221), (116, (7, 6, 0), 232), (123, (7, 5, 0), 230)], [(9, (4, 1, 12), 309), (15, (4, 2, 12), 310), (18, (4, 0, 12), 308), (22, (3, 0, 0), 161), (32, (3, 4, 22), 172)], [(9, (5, 0, 12), 144), (15, (5, 1, 0), 146)], [(9, (6, 0, 12), 283), (15, (6, 2, 12), 285), (18, (6, 4, 12), 287), (25, (8, 1, 0), 130), (31, (6, 5, 0), 288), (34, (6, 1, 0), 284), (73, (6, 3, 0), 286)], [(9, (7, 0, 12), 210), (15, (7, 1, 12), 213), (18, (7, 2, 12), 217), (21, (7, 3, 12), 222), (24, (7, 4, 12), 225), (33, (7, 5, 0), 228), (37, (7, 6, 0), 231)], [(9, (8, 0, 12), 128), (15, (8, 1, 0), 129)], [(9, (9, 0, 12), 344), (15, (9, 3, 12), 348), (18, (9, 4, 12), 349), (21, (9, 1, 12), 346), (25, (9, 2, 12), 347), (29, (9, 5, 0), 350), (39, (3, 1, 0), 164), (46, (9, 6, 0), 351), (49, (9, 7, 0), 352), (52, (7, 1, 22), 214), (61, (7, 2, 22), 219), (85, (3, 6, 22), 178)], [(12, (10, 0, 12), 390), (19, (10, 1, 12), 391), (26, (10, 2, 12), 392), (33, (10, 3, 12), 393), (37, (10, 4, 12), 394), (43, (10, 5, 12), 395), (47, (10, 6, 12), 396), (56, (10, 8, 2), 398), (60, (10, 9, 2), 399), (68, (10, 10, 12), 400), (75, (10, 11, 12), 401), (84, (10, 12, 12), 402), (91, (10, 13, 12), 403), (99, (8, 1, 0), 131), (107, (3, 0, 0), 163), (120, (3, 1, 0), 167), (136, (3, 2, 22), 169), (140, (7, 0, 22), 211), (163, (7, 1, 22), 215), (166, (7, 2, 22), 220), (169, (3, 4, 22), 173), (175, (3, 5, 22), 176), (178, (3, 6, 22), 180), (181, (3, 7, 22), 182), (184, (7, 3, 22), 224), (187, (7, 4, 22), 226), (225, (7, 5, 0), 229), (270, (2, 2, 0), 261), (289, (9, 0, 22), 345), (345, (1, 0, 22), 325), (363, (0, 0, 0), 377), (395, (10, 7, 0), 397), (399, (7, 6, 0), 233), (414, (5, 1, 0), 147), (415, (5, 0, 22), 145)], [(9, (11, 2, 12), 1151), (13, (11, 6, 12), 1155), (17, (11, 7, 12), 1156), (20, (11, 8, 12), 1157), (23, (11, 9, 12), 1158), (26, (11, 10, 12), 1159), (29, (11, 11, 12), 1160), (32, (11, 12, 12), 1161), (35, (11, 13, 12), 1162), (38, (11, 14, 12), 1163), (41, (11, 19, 12), 1168), (44, (11, 21, 12), 1170), (47, (11, 22, 12), 1171), (50, (11, 25, 12), 1174), (53, (11, 26, 12), 1175), (56, (11, 28, 12), 1177), (59, (11, 31, 12), 1180), (62, (11, 32, 12), 1181), (65, (11, 33, 12), 1182), (68, (11, 34, 12), 1183), (71, (11, 36, 12), 1185), (74, (11, 37, 12), 1186), (77, (11, 39, 12), 1188), (80, (11, 40, 12), 1189), (83, (11, 42, 12), 1191), (86, (11, 43, 12), 1192), (89, (11, 44, 12), 1193), (92, (11, 45, 12), 1194), (95, (11, 48, 12), 1197), (98, (11, 49, 12), 1198), (101, (11, 50, 12), 1199), (104, (11, 52, 12), 1201), (108, (11, 53, 12), 1202), (111, (11, 54, 12), 1203), (114, (11, 0, 0), 1149), (122, (11, 1, 0), 1150), (125, (11, 3, 0), 1152), (132, (11, 4, 0), 1153), (147, (11, 15, 0), 1164), (150, (11, 16, 0), 1165), (153, (11, 18, 0), 1167), (162, (11, 17, 0), 1166), (187, (11, 20, 0), 1169), (217, (11, 27, 0), 1176), (220, (11, 5, 0), 1154), (226, (11, 24, 0), 1173), (251, (11, 23, 0), 1172), (334, (11, 29, 0), 1178), (337, (11, 30, 0), 1179), (377, (11, 35, 0), 1184), (392, (11, 38, 0), 1187), (404, (11, 41, 0), 1190), (417, (11, 46, 0), 1195), (426, (11, 47, 0), 1196), (447, (11, 51, 0), 1200)], [], []]
def pd_fld (o j : Nat) : Option (Nat × Nat × Nat) := match pm_nth pd_FL o with
  | some l => (pm_fd l j).map (fun e => e.1)
  | none => none
def ml_0_0 : List (Nat × (Nat × Nat) × List Nat) := [(3, (6, 0), [375]), (26, (2, 2), [944, 945]), (35, (0, 4), [959, 961, 35]), (39, (0, 5), [963, 965, 36]), (49, (0, 75), [967, 636, 637]), (54, (0, 74), [968, 616, 617])]
def ml_0 : List (Nat × (Nat × Nat) × List Nat) := ml_0_0
def ml_1_0 : List (Nat × (Nat × Nat) × List Nat) := [(3, (6, 0), [323]), (40, (0, 7), [893, 881, 882]), (44, (0, 8), [892, 876, 877]), (47, (8, 0), [898]), (52, (0, 13), [907, 909, 32]), (56, (7, 0), [915]), (36, (3, 160), [879, 471])]
def ml_1 : List (Nat × (Nat × Nat) × List Nat) := ml_1_0
def ml_2_0 : List (Nat × (Nat × Nat) × List Nat) := [(3, (6, 0), [254]), (22, (0, 21), [586, 588, 13]), (26, (0, 73), [590, 591, 592]), (33, (0, 16), [582, 583, 584]), (36, (0, 17), [597, 598, 599]), (17, (5, 72), [257, 207])]
def ml_2 : List (Nat × (Nat × Nat) × List Nat) := ml_2_0
def ml_3_0 : List (Nat × (Nat × Nat) × List Nat) := [(3, (6, 0), [159]), (39, (0, 23), [545, 494, 495]), (51, (0, 75), [977, 636, 637]), (62, (0, 31), [1032, 787, 788]), (66, (2, 270), [609, 610]), (72, (0, 32), [1037, 1038, 1039]), (78, (0, 37), [1015, 925, 926]), (81, (0, 28), [605, 606, 607]), (87, (0, 74), [615, 616, 617]), (90, (0, 68), [619, 620, 621]), (100, (0, 77), [644, 645, 646]), (104, (0, 76), [650, 651, 652]), (107, (7, 0), [654]), (112, (0, 43), [679, 681, 17]), (119, (0, 41), [683, 684, 685]), (58, (3, 160), [643, 471]), (94, (3, 159), [634, 554])]
def ml_3 : List (Nat × (Nat × Nat) × List Nat) := ml_3_0
def ml_4_0 : List (Nat × (Nat × Nat) × List Nat) := [(3, (6, 0), [307]), (28, (0, 47), [810, 812, 28]), (39, (7, 0), [815]), (44, (0, 53), [820, 660, 661]), (49, (0, 54), [821, 664, 665]), (53, (0, 49), [822, 824, 29]), (57, (0, 51), [834, 836, 30]), (61, (8, 0), [838]), (35, (3, 160), [814, 471])]
def ml_4 : List (Nat × (Nat × Nat) × List Nat) := ml_4_0
def ml_5_0 : List (Nat × (Nat × Nat) × List Nat) := [(3, (6, 0), [143]), (19, (0, 53), [659, 660, 661]), (22, (0, 54), [663, 664, 665])]
def ml_5 : List (Nat × (Nat × Nat) × List Nat) := ml_5_0
def ml_6_0 : List (Nat × (Nat × Nat) × List Nat) := [(3, (6, 0), [274]), (22, (0, 59), [275, 277, 0]), (37, (0, 62), [509, 511, 7]), (41, (0, 60), [279, 281, 1]), (45, (0, 80), [521, 458, 459]), (49, (0, 64), [513, 515, 8]), (53, (0, 61), [517, 519, 9]), (57, (2, 63), [534, 535]), (61, (0, 65), [522, 524, 10]), (64, (0, 66), [526, 528, 11]), (67, (2, 67), [531, 532]), (70, (0, 81), [530, 454, 455]), (76, (0, 69), [623, 625, 14]), (79, (0, 70), [627, 629, 15]), (82, (2, 71), [631, 632])]
def ml_6 : List (Nat × (Nat × Nat) × List Nat) := ml_6_0
def ml_7_0 : List (Nat × (Nat × Nat) × List Nat) := [(3, (6, 0), [209]), (27, (9, 0), [594]), (40, (0, 75), [648, 636, 637]), (44, (0, 74), [649, 616, 617])]
def ml_7 : List (Nat × (Nat × Nat) × List Nat) := ml_7_0
def ml_8_0 : List (Nat × (Nat × Nat) × List Nat) := [(3, (6, 0), [127]), (19, (0, 80), [457, 458, 459])]
def ml_8 : List (Nat × (Nat × Nat) × List Nat) := ml_8_0
def ml_9_0 : List (Nat × (Nat × Nat) × List Nat) := [(3, (6, 0), [343]), (33, (0, 29), [766, 767, 768]), (42, (0, 39), [770, 602, 603]), (64, (0, 84), [772, 774, 26]), (68, (9, 0), [776]), (74, (0, 77), [777, 645, 646]), (81, (0, 76), [779, 651, 652]), (57, (3, 160), [771, 471]), (78, (3, 159), [778, 554])]
def ml_9 : List (Nat × (Nat × Nat) × List Nat) := ml_9_0
def ml_10_0 : List (Nat × (Nat × Nat) × List Nat) := [(3, (6, 0), [119]), (42, (4, 15), [251, 252]), (53, (4, 57), [271, 272]), (65, (4, 45), [304, 305]), (74, (4, 6), [320, 321]), (81, (4, 82), [340, 341]), (90, (4, 0), [372, 373]), (95, (0, 79), [437, 438, 439]), (103, (0, 129), [449, 451, 2]), (110, (0, 132), [466, 468, 3]), (114, (0, 133), [473, 475, 4]), (117, (0, 130), [485, 487, 5]), (123, (0, 58), [505, 506, 507]), (126, (0, 23), [493, 494, 495]), (132, (0, 28), [1118, 606, 607]), (143, (0, 29), [1119, 767, 768]), (147, (0, 31), [786, 787, 788]), (150, (0, 32), [1120, 1038, 1039]), (153, (0, 7), [880, 881, 882]), (156, (0, 24), [541, 542, 543])]
def ml_10_1 : List (Nat × (Nat × Nat) × List Nat) := [(160, (2, 160), [470, 471]), (172, (0, 25), [574, 575, 576]), (190, (0, 74), [1135, 616, 617]), (193, (2, 157), [550, 551]), (196, (2, 159), [553, 554]), (199, (0, 36), [562, 563, 564]), (203, (0, 136), [570, 572, 12]), (206, (0, 18), [578, 579, 580]), (210, (0, 39), [601, 602, 603]), (214, (0, 75), [635, 636, 637]), (217, (0, 40), [639, 640, 641]), (221, (0, 56), [655, 656, 657]), (228, (0, 140), [671, 673, 16]), (231, (2, 270), [687, 610]), (237, (0, 137), [692, 694, 18]), (241, (0, 138), [696, 698, 19]), (245, (0, 139), [704, 706, 20]), (248, (0, 134), [712, 714, 21]), (251, (0, 16), [719, 583, 584]), (254, (0, 141), [720, 722, 22])]
def ml_10_2 : List (Nat × (Nat × Nat) × List Nat) := [(257, (0, 80), [465, 458, 459]), (260, (2, 135), [716, 717]), (263, (0, 17), [736, 598, 599]), (266, (0, 19), [741, 742, 743]), (273, (7, 0), [556]), (278, (0, 77), [757, 645, 646]), (282, (0, 83), [762, 763, 764]), (286, (0, 53), [780, 660, 661]), (292, (0, 54), [781, 664, 665]), (296, (0, 55), [790, 791, 792]), (299, (0, 146), [798, 800, 27]), (302, (0, 46), [806, 807, 808]), (305, (0, 48), [816, 817, 818]), (309, (0, 50), [830, 831, 832]), (312, (2, 152), [843, 844]), (316, (0, 150), [846, 848, 31]), (319, (0, 73), [857, 591, 592]), (322, (0, 44), [858, 859, 860]), (325, (2, 158), [862, 863]), (328, (0, 41), [869, 684, 685])]
def ml_10_3 : List (Nat × (Nat × Nat) × List Nat) := [(333, (0, 8), [875, 876, 877]), (336, (0, 10), [888, 889, 890]), (339, (0, 11), [894, 895, 896]), (342, (0, 12), [903, 904, 905]), (348, (0, 14), [911, 912, 913]), (351, (0, 147), [920, 922, 33]), (354, (0, 37), [924, 925, 926]), (357, (0, 148), [932, 934, 34]), (360, (0, 1), [940, 941, 942]), (364, (0, 3), [955, 956, 957]), (367, (0, 30), [973, 974, 975]), (370, (8, 0), [559]), (373, (0, 149), [982, 984, 37]), (377, (2, 153), [990, 991]), (380, (2, 155), [1000, 1001]), (383, (2, 156), [1004, 1005]), (386, (0, 42), [675, 676, 677]), (389, (0, 145), [1007, 1009, 38]), (392, (0, 38), [1011, 1012, 1013]), (398, (0, 20), [477, 478, 479])]
def ml_10_4 : List (Nat × (Nat × Nat) × List Nat) := [(402, (0, 33), [1028, 1029, 1030]), (405, (0, 34), [1033, 1034, 1035]), (408, (0, 9), [1041, 1042, 1043]), (411, (0, 35), [1045, 1046, 1047]), (419, (0, 81), [453, 454, 455]), (422, (0, 26), [461, 462, 463]), (425, (0, 131), [489, 491, 6]), (428, (0, 27), [497, 498, 499]), (432, (0, 142), [724, 726, 23]), (435, (0, 143), [728, 730, 24]), (438, (0, 144), [732, 734, 25]), (441, (2, 151), [850, 851]), (445, (2, 154), [993, 994]), (11, (5, 78), [124, 125]), (18, (5, 52), [140, 141]), (25, (5, 22), [156, 157]), (32, (5, 72), [206, 207])]
def ml_10 : List (Nat × (Nat × Nat) × List Nat) := ml_10_0 ++ ml_10_1 ++ ml_10_2 ++ ml_10_3 ++ ml_10_4
def ml_11_0 : List (Nat × (Nat × Nat) × List Nat) := [(3, (6, 0), [1148]), (118, (2, 166), [1682, 1683]), (128, (2, 163), [1324, 1325]), (135, (0, 168), [1466, 1468, 56]), (139, (2, 164), [1525, 1526]), (143, (2, 171), [1488, 1489]), (156, (7, 0), [1335]), (165, (2, 165), [1358, 1359]), (173, (10, 0), [1406]), (179, (11, 0), [1416]), (183, (0, 182), [1348, 1350, 44]), (190, (0, 185), [1340, 1342, 42]), (193, (0, 184), [1344, 1346, 43]), (197, (0, 180), [1331, 1333, 40]), (200, (0, 187), [1336, 1338, 41]), (203, (0, 181), [1354, 1356, 45]), (206, (0, 186), [1361, 1363, 46]), (210, (0, 189), [1365, 1367, 47]), (214, (0, 190), [1369, 1371, 48]), (223, (0, 191), [1377, 1379, 49])]
def ml_11_1 : List (Nat × (Nat × Nat) × List Nat) := [(229, (0, 194), [1393, 1395, 52]), (232, (0, 193), [1397, 1399, 53]), (238, (0, 183), [1402, 1404, 54]), (242, (0, 195), [1389, 1391, 51]), (254, (0, 196), [1385, 1387, 50]), (257, (0, 197), [1457, 1459, 55]), (261, (2, 199), [1568, 1569]), (265, (2, 270), [1563, 610]), (270, (2, 173), [1522, 1523]), (274, (0, 200), [1564, 1566, 68]), (277, (8, 0), [1538]), (280, (2, 175), [1485, 1486]), (284, (2, 176), [1495, 1496]), (287, (2, 172), [1502, 1503]), (296, (0, 162), [1473, 1475, 57]), (299, (0, 174), [1477, 1479, 58]), (303, (0, 202), [1481, 1483, 59]), (306, (0, 203), [1491, 1493, 60]), (309, (0, 204), [1498, 1500, 61]), (312, (0, 170), [1509, 1511, 62])]
def ml_11_2 : List (Nat × (Nat × Nat) × List Nat) := [(317, (0, 169), [1518, 1520, 63]), (324, (0, 177), [1539, 1541, 64]), (328, (0, 212), [1581, 1583, 70]), (331, (0, 201), [1559, 1561, 67]), (340, (2, 216), [1571, 1572]), (343, (2, 215), [1574, 1575]), (347, (0, 218), [1598, 1600, 73]), (352, (0, 211), [1551, 1553, 65]), (355, (0, 217), [1555, 1557, 66]), (358, (0, 213), [1577, 1579, 69]), (361, (0, 167), [1585, 1587, 71]), (367, (0, 219), [1594, 1596, 72]), (371, (0, 220), [1606, 1608, 74]), (374, (0, 221), [1615, 1617, 75]), (382, (0, 226), [1623, 1625, 76]), (385, (0, 227), [1628, 1630, 77]), (389, (0, 229), [1645, 1647, 78]), (395, (0, 233), [1653, 1655, 79]), (399, (0, 237), [1669, 1671, 80]), (407, (0, 241), [1689, 1691, 81])]
def ml_11_3 : List (Nat × (Nat × Nat) × List Nat) := [(410, (2, 269), [1693, 1694]), (414, (0, 205), [1706, 1708, 82]), (420, (0, 246), [1718, 1720, 83]), (423, (0, 248), [1726, 1728, 84]), (429, (0, 253), [1750, 1752, 86]), (433, (0, 254), [1746, 1748, 85]), (436, (0, 257), [1762, 1764, 87]), (439, (2, 259), [1774, 1775]), (444, (2, 260), [1771, 1772]), (451, (0, 262), [1781, 1783, 88]), (454, (0, 266), [1798, 1800, 89])]
def ml_11 : List (Nat × (Nat × Nat) × List Nat) := ml_11_0 ++ ml_11_1 ++ ml_11_2 ++ ml_11_3
def ml_12 : List (Nat × (Nat × Nat) × List Nat) := []
def ml_13_0 : List (Nat × (Nat × Nat) × List Nat) := [(7, (0, 91), [1053, 1054, 1055]), (15, (0, 92), [1124, 1125, 1126]), (19, (0, 93), [1131, 1132, 1133]), (22, (0, 128), [1139, 1140, 1141]), (26, (4, 85), [116, 117]), (29, (4, 161), [1145, 1146]), (30, (0, 86), [433, 434, 435]), (34, (0, 178), [1316, 1317, 1318]), (35, (0, 87), [441, 442, 443]), (39, (0, 179), [1320, 1321, 1322]), (40, (0, 88), [445, 446, 447]), (44, (0, 188), [1327, 1328, 1329]), (45, (0, 89), [481, 482, 483]), (48, (0, 192), [1373, 1374, 1375]), (49, (0, 90), [501, 502, 503]), (52, (0, 198), [1381, 1382, 1383]), (58, (0, 206), [1462, 1463, 1464]), (62, (0, 207), [1505, 1506, 1507]), (65, (0, 208), [1514, 1515, 1516]), (66, (0, 94), [537, 538, 539])]
def ml_13_1 : List (Nat × (Nat × Nat) × List Nat) := [(69, (0, 209), [1528, 1529, 1530]), (70, (0, 95), [546, 547, 548]), (74, (0, 210), [1533, 1534, 1535]), (75, (0, 96), [566, 567, 568]), (78, (0, 222), [1547, 1548, 1549]), (79, (0, 97), [667, 668, 669]), (82, (0, 223), [1589, 1590, 1591]), (83, (0, 98), [688, 689, 690]), (86, (0, 224), [1602, 1603, 1604]), (87, (0, 99), [700, 701, 702]), (90, (0, 225), [1611, 1612, 1613]), (91, (0, 100), [708, 709, 710]), (94, (0, 228), [1619, 1620, 1621]), (95, (0, 101), [737, 738, 739]), (98, (0, 214), [1543, 1544, 1545]), (99, (0, 102), [745, 746, 747]), (102, (0, 230), [1632, 1633, 1634]), (103, (0, 103), [749, 750, 751]), (106, (0, 231), [1636, 1637, 1638]), (107, (0, 104), [753, 754, 755])]
def ml_13_2 : List (Nat × (Nat × Nat) × List Nat) := [(110, (0, 232), [1641, 1642, 1643]), (111, (0, 105), [758, 759, 760]), (114, (0, 234), [1649, 1650, 1651]), (115, (0, 106), [782, 783, 784]), (118, (0, 235), [1657, 1658, 1659]), (119, (0, 107), [794, 795, 796]), (122, (0, 236), [1661, 1662, 1663]), (123, (0, 108), [802, 803, 804]), (126, (0, 238), [1665, 1666, 1667]), (127, (0, 109), [826, 827, 828]), (130, (0, 239), [1673, 1674, 1675]), (131, (0, 110), [839, 840, 841]), (134, (0, 240), [1678, 1679, 1680]), (135, (0, 111), [853, 854, 855]), (138, (0, 242), [1685, 1686, 1687]), (139, (0, 112), [865, 866, 867]), (142, (0, 243), [1697, 1698, 1699]), (143, (0, 113), [870, 871, 872]), (146, (0, 244), [1701, 1702, 1703]), (147, (0, 114), [884, 885, 886])]
def ml_13_3 : List (Nat × (Nat × Nat) × List Nat) := [(150, (0, 245), [1710, 1711, 1712]), (151, (0, 115), [899, 900, 901]), (154, (0, 247), [1714, 1715, 1716]), (155, (0, 116), [916, 917, 918]), (158, (0, 249), [1722, 1723, 1724]), (159, (0, 117), [928, 929, 930]), (162, (0, 250), [1730, 1731, 1732]), (163, (0, 118), [936, 937, 938]), (166, (0, 251), [1734, 1735, 1736]), (167, (0, 119), [947, 948, 949]), (170, (0, 252), [1738, 1739, 1740]), (171, (0, 120), [951, 952, 953]), (174, (0, 255), [1742, 1743, 1744]), (175, (0, 121), [969, 970, 971]), (178, (0, 256), [1754, 1755, 1756]), (179, (0, 122), [978, 979, 980]), (182, (0, 258), [1758, 1759, 1760]), (183, (0, 123), [986, 987, 988]), (186, (0, 261), [1766, 1767, 1768]), (187, (0, 124), [996, 997, 998])]
def ml_13_4 : List (Nat × (Nat × Nat) × List Nat) := [(190, (0, 263), [1777, 1778, 1779]), (191, (0, 125), [1016, 1017, 1018]), (194, (0, 264), [1786, 1787, 1788]), (195, (0, 126), [1020, 1021, 1022]), (198, (0, 265), [1790, 1791, 1792]), (199, (0, 127), [1024, 1025, 1026]), (202, (0, 267), [1794, 1795, 1796]), (206, (0, 268), [1802, 1803, 1804])]
def ml_13 : List (Nat × (Nat × Nat) × List Nat) := ml_13_0 ++ ml_13_1 ++ ml_13_2 ++ ml_13_3 ++ ml_13_4
def pd_ML : List (List (Nat × (Nat × Nat) × List Nat)) := [ml_0, ml_1, ml_2, ml_3, ml_4, ml_5, ml_6, ml_7, ml_8, ml_9, ml_10, ml_11, ml_12, ml_13]
def pd_mlk (o j : Nat) : Option (Nat × Nat) := match pm_nth pd_ML o with
  | some l => (pm_fd l j).map (fun e => e.1)
  | none => none
def pd_CL : List (List (Nat × Nat × Nat)) := [[], [], [(9, 7, 255)], [], [], [], [], [], [], [], [(9, 8, 122), (16, 5, 138), (23, 3, 154), (30, 7, 204), (40, 2, 249), (51, 6, 269), (63, 4, 302), (72, 1, 318), (79, 9, 338), (88, 0, 370)], [], [], [(8, 10, 114), (27, 11, 1143)]]
def pd_AL : List (List (Nat × Nat × Nat)) := [[], [], [(9, 1004, 255)], [], [], [], [], [], [], [], [(30, 1004, 204)], [], [], []]
def pd_clk (o j : Nat) : Option Nat := match pm_nth (cond (Nat.ble 100 o) pd_AL pd_CL) (cond (Nat.ble 100 o) (o - 100) o) with
  | some l => (pm_fd l j).map (fun e => e.1)
  | none => none
def pd_KL : List (List (Nat × Int32 × Nat)) := [[], [], [], [], [], [], [], [], [], [], [(332, (-100000 : Int32), 874), (449, (1103515245 : Int32), 1003)], [(388, (1000000 : Int32), 1640), (413, (-100000 : Int32), 1705), (450, (1103515245 : Int32), 1785)], [(264, (65536 : Int32), 1696), (265, (1431655765 : Int32), 612), (266, (858993459 : Int32), 613), (267, (252645135 : Int32), 614)], []]
def pd_KK : List (List (Nat × Int64 × Nat)) := [[], [], [], [], [], [], [], [], [], [], [], [(169, (48 : Int64), 1352), (171, (57 : Int64), 1353), (290, (5 : Int64), 1470), (292, (10 : Int64), 1471), (294, (14 : Int64), 1472), (315, (2 : Int64), 1513), (320, (9 : Int64), 1532), (322, (3 : Int64), 1537), (350, (-9 : Int64), 1610), (365, (60 : Int64), 1593), (402, (99 : Int64), 1677), (442, (20 : Int64), 1770)], [], []]
def pd_con (o j : Nat) : Option Int32 := match pm_nth pd_KL o with
  | some l => (pm_fd l j).map (fun e => e.1)
  | none => none
def pd_conL (o j : Nat) : Option Int64 := match pm_nth pd_KK o with
  | some l => (pm_fd l j).map (fun e => e.1)
  | none => none
def PT : pm_Tab := (vwCl, pd_df, pd_ty, pd_own, pd_m, pd_ins, pd_fld, pd_mlk, pd_clk, pd_con, pd_conL)
def PG : List Cond := lw_tbl.filter goodWord
def pd_isN : Cond → Bool
  | .methodLinkNest _ _ _ _ => true
  | .arrayOver (.object _) => true
  | _ => false
def PN : List Cond := lw_tbl.filter pd_isN
end MG18runx1
end MH06strnx3
section MH06strnx4
/-! that they are right -/
theorem pm_nth_mem {α : Type} : ∀ {l : List α} {n : Nat} {a : α}, pm_nth l n = some a → a ∈ l
  | [], n, a, h => by cases h
  | x :: r, 0, a, h => by cases (Option.some.inj h : x = a); exact List.mem_cons_self
  | x :: r, n + 1, a, h => List.mem_cons_of_mem _ (pm_nth_mem h)
theorem pm_fd_mem {α : Type} : ∀ {l : List (Nat × α)} {n : Nat} {a : α}, pm_fd l n = some a → (n, a) ∈ l
  | [], n, a, h => by cases h
  | e :: r, n, a, h => by
    unfold pm_fd at h
    cases hb : Nat.beq e.1 n with
    | true =>
      rw [hb] at h
      have h1 : e.2 = a := Option.some.inj h
      have h2 : e.1 = n := Nat.eq_of_beq_eq_true hb
      rw [← h1, ← h2]
      exact List.mem_cons_self
    | false =>
      rw [hb] at h
      exact List.mem_cons_of_mem _ (pm_fd_mem h)
def pm_allI {α : Type} (f : Nat → α → Bool) : Nat → List α → Bool
  | _, [] => true
  | n, a :: r => f n a && pm_allI f (n + 1) r
theorem pm_allI_at {α : Type} {f : Nat → α → Bool} : ∀ {l : List α} {n i : Nat} {a : α}, pm_allI f n l = true → pm_nth l i = some a → f (n + i) a = true
  | [], n, i, a, h, h2 => by cases h2
  | x :: r, n, 0, a, h, h2 => by
    cases (Option.some.inj h2 : x = a)
    unfold pm_allI at h
    exact (Bool.and_eq_true_iff.mp h).1
  | x :: r, n, i + 1, a, h, h2 => by
    unfold pm_allI at h
    have := pm_allI_at (Bool.and_eq_true_iff.mp h).2 h2
    rw [show n + (i + 1) = n + 1 + i by omega]
    exact this
theorem pd_w {w : Cond} {i : Nat} (h : lw_tbl[i]? = some w) (hg : goodWord w = true) : w ∈ PG := List.mem_filter.mpr ⟨List.mem_of_getElem? h, hg⟩
noncomputable def pd_tb (i : Nat) (w : Cond) : Bool := decide (lq_at lw_tbl i = some w) && goodWord w
theorem pd_tb_in {i : Nat} {w : Cond} (h : pd_tb i w = true) : w ∈ PG := by
  have h1 := Bool.and_eq_true_iff.mp h
  exact pd_w (lq_atx (of_decide_eq_true h1.1)) h1.2
noncomputable def pd_nb (i : Nat) (w : Cond) : Bool := decide (lq_at lw_tbl i = some w) && pd_isN w
theorem pd_nb_in {i : Nat} {w : Cond} (h : pd_nb i w = true) : w ∈ PN := by
  have h1 := Bool.and_eq_true_iff.mp h
  exact List.mem_filter.mpr ⟨List.mem_of_getElem? (lq_atx (of_decide_eq_true h1.1)), h1.2⟩
set_option maxRecDepth 100000 in
theorem pc_0 : pl_0.map (fun e => Cond.code e.1.1 e.1.2.1 e.1.2.2.1 e.1.2.2.2.1) = [374, 943, 946, 958, 962, 966, 322, 883, 878, 1044, 891, 897, 906, 910, 914, 253].filterMap (fun i => lq_at lw_tbl i) := rfl
theorem pk_0 : ∀ e ∈ pl_0, e.2.all (fun c => c.all (fun q => decide (decode e.1.2.1 q.1 = .ok q.2))) = true := List.forall_mem_cons.mpr ⟨imk_0, List.forall_mem_cons.mpr ⟨imk_1, List.forall_mem_cons.mpr ⟨imk_2, List.forall_mem_cons.mpr ⟨imk_3, List.forall_mem_cons.mpr ⟨imk_4, List.forall_mem_cons.mpr ⟨imk_5, List.forall_mem_cons.mpr ⟨imk_6, List.forall_mem_cons.mpr ⟨imk_7, List.forall_mem_cons.mpr ⟨imk_8, List.forall_mem_cons.mpr ⟨imk_9, List.forall_mem_cons.mpr ⟨imk_10, List.forall_mem_cons.mpr ⟨imk_11, List.forall_mem_cons.mpr ⟨imk_12, List.forall_mem_cons.mpr ⟨imk_13, List.forall_mem_cons.mpr ⟨imk_14, List.forall_mem_cons.mpr ⟨imk_15, fun _ h => absurd h List.not_mem_nil⟩⟩⟩⟩⟩⟩⟩⟩⟩⟩⟩⟩⟩⟩⟩⟩
set_option maxRecDepth 100000 in
theorem pc_1 : pl_1.map (fun e => Cond.code e.1.1 e.1.2.1 e.1.2.2.1 e.1.2.2.2.1) = [585, 600, 581, 744, 480, 589, 158, 496, 544, 577, 464, 500, 608, 769, 976, 789].filterMap (fun i => lq_at lw_tbl i) := rfl
theorem pk_1 : ∀ e ∈ pl_1, e.2.all (fun c => c.all (fun q => decide (decode e.1.2.1 q.1 = .ok q.2))) = true := List.forall_mem_cons.mpr ⟨imk_16, List.forall_mem_cons.mpr ⟨imk_17, List.forall_mem_cons.mpr ⟨imk_18, List.forall_mem_cons.mpr ⟨imk_19, List.forall_mem_cons.mpr ⟨imk_20, List.forall_mem_cons.mpr ⟨imk_21, List.forall_mem_cons.mpr ⟨imk_22, List.forall_mem_cons.mpr ⟨imk_23, List.forall_mem_cons.mpr ⟨imk_24, List.forall_mem_cons.mpr ⟨imk_25, List.forall_mem_cons.mpr ⟨imk_26, List.forall_mem_cons.mpr ⟨imk_27, List.forall_mem_cons.mpr ⟨imk_28, List.forall_mem_cons.mpr ⟨imk_29, List.forall_mem_cons.mpr ⟨imk_30, List.forall_mem_cons.mpr ⟨imk_31, fun _ h => absurd h List.not_mem_nil⟩⟩⟩⟩⟩⟩⟩⟩⟩⟩⟩⟩⟩⟩⟩⟩
set_option maxRecDepth 100000 in
theorem pc_2 : pl_2.map (fun e => Cond.code e.1.1 e.1.2.1 e.1.2.2.1 e.1.2.2.2.1) = [1040, 1031, 1036, 1048, 565, 927, 1014, 604, 642, 686, 678, 682, 861, 306, 809, 813].filterMap (fun i => lq_at lw_tbl i) := rfl
theorem pk_2 : ∀ e ∈ pl_2, e.2.all (fun c => c.all (fun q => decide (decode e.1.2.1 q.1 = .ok q.2))) = true := List.forall_mem_cons.mpr ⟨imk_32, List.forall_mem_cons.mpr ⟨imk_33, List.forall_mem_cons.mpr ⟨imk_34, List.forall_mem_cons.mpr ⟨imk_35, List.forall_mem_cons.mpr ⟨imk_36, List.forall_mem_cons.mpr ⟨imk_37, List.forall_mem_cons.mpr ⟨imk_38, List.forall_mem_cons.mpr ⟨imk_39, List.forall_mem_cons.mpr ⟨imk_40, List.forall_mem_cons.mpr ⟨imk_41, List.forall_mem_cons.mpr ⟨imk_42, List.forall_mem_cons.mpr ⟨imk_43, List.forall_mem_cons.mpr ⟨imk_44, List.forall_mem_cons.mpr ⟨imk_45, List.forall_mem_cons.mpr ⟨imk_46, List.forall_mem_cons.mpr ⟨imk_47, fun _ h => absurd h List.not_mem_nil⟩⟩⟩⟩⟩⟩⟩⟩⟩⟩⟩⟩⟩⟩⟩⟩
set_option maxRecDepth 100000 in
theorem pc_3 : pl_3.map (fun e => Cond.code e.1.1 e.1.2.1 e.1.2.2.1 e.1.2.2.2.1) = [819, 825, 833, 837, 142, 662, 666, 793, 658, 273, 508, 278, 282, 520, 512, 536].filterMap (fun i => lq_at lw_tbl i) := rfl
theorem pk_3 : ∀ e ∈ pl_3, e.2.all (fun c => c.all (fun q => decide (decode e.1.2.1 q.1 = .ok q.2))) = true := List.forall_mem_cons.mpr ⟨imk_48, List.forall_mem_cons.mpr ⟨imk_49, List.forall_mem_cons.mpr ⟨imk_50, List.forall_mem_cons.mpr ⟨imk_51, List.forall_mem_cons.mpr ⟨imk_52, List.forall_mem_cons.mpr ⟨imk_53, List.forall_mem_cons.mpr ⟨imk_54, List.forall_mem_cons.mpr ⟨imk_55, List.forall_mem_cons.mpr ⟨imk_56, List.forall_mem_cons.mpr ⟨imk_57, List.forall_mem_cons.mpr ⟨imk_58, List.forall_mem_cons.mpr ⟨imk_59, List.forall_mem_cons.mpr ⟨imk_60, List.forall_mem_cons.mpr ⟨imk_61, List.forall_mem_cons.mpr ⟨imk_62, List.forall_mem_cons.mpr ⟨imk_63, fun _ h => absurd h List.not_mem_nil⟩⟩⟩⟩⟩⟩⟩⟩⟩⟩⟩⟩⟩⟩⟩⟩
set_option maxRecDepth 100000 in
theorem pc_4 : pl_4.map (fun e => Cond.code e.1.1 e.1.2.1 e.1.2.2.1 e.1.2.2.2.1) = [516, 525, 529, 533, 622, 626, 630, 633, 208, 593, 618, 638, 653, 647, 126, 440].filterMap (fun i => lq_at lw_tbl i) := rfl
theorem pk_4 : ∀ e ∈ pl_4, e.2.all (fun c => c.all (fun q => decide (decode e.1.2.1 q.1 = .ok q.2))) = true := List.forall_mem_cons.mpr ⟨imk_64, List.forall_mem_cons.mpr ⟨imk_65, List.forall_mem_cons.mpr ⟨imk_66, List.forall_mem_cons.mpr ⟨imk_67, List.forall_mem_cons.mpr ⟨imk_68, List.forall_mem_cons.mpr ⟨imk_69, List.forall_mem_cons.mpr ⟨imk_70, List.forall_mem_cons.mpr ⟨imk_71, List.forall_mem_cons.mpr ⟨imk_72, List.forall_mem_cons.mpr ⟨imk_73, List.forall_mem_cons.mpr ⟨imk_74, List.forall_mem_cons.mpr ⟨imk_75, List.forall_mem_cons.mpr ⟨imk_76, List.forall_mem_cons.mpr ⟨imk_77, List.forall_mem_cons.mpr ⟨imk_78, List.forall_mem_cons.mpr ⟨imk_79, fun _ h => absurd h List.not_mem_nil⟩⟩⟩⟩⟩⟩⟩⟩⟩⟩⟩⟩⟩⟩⟩⟩
set_option maxRecDepth 100000 in
theorem pc_5 : pl_5.map (fun e => Cond.code e.1.1 e.1.2.1 e.1.2.2.1 e.1.2.2.2.1) = [460, 456, 342, 765, 775, 118, 436, 444, 448, 484, 504, 1056, 1127, 1134, 540, 549].filterMap (fun i => lq_at lw_tbl i) := rfl
theorem pk_5 : ∀ e ∈ pl_5, e.2.all (fun c => c.all (fun q => decide (decode e.1.2.1 q.1 = .ok q.2))) = true := List.forall_mem_cons.mpr ⟨imk_80, List.forall_mem_cons.mpr ⟨imk_81, List.forall_mem_cons.mpr ⟨imk_82, List.forall_mem_cons.mpr ⟨imk_83, List.forall_mem_cons.mpr ⟨imk_84, List.forall_mem_cons.mpr ⟨imk_85, List.forall_mem_cons.mpr ⟨imk_86, List.forall_mem_cons.mpr ⟨imk_87, List.forall_mem_cons.mpr ⟨imk_88, List.forall_mem_cons.mpr ⟨imk_89, List.forall_mem_cons.mpr ⟨imk_90, List.forall_mem_cons.mpr ⟨imk_91, List.forall_mem_cons.mpr ⟨imk_92, List.forall_mem_cons.mpr ⟨imk_93, List.forall_mem_cons.mpr ⟨imk_94, List.forall_mem_cons.mpr ⟨imk_95, fun _ h => absurd h List.not_mem_nil⟩⟩⟩⟩⟩⟩⟩⟩⟩⟩⟩⟩⟩⟩⟩⟩
set_option maxRecDepth 100000 in
theorem pc_6 : pl_6.map (fun e => Cond.code e.1.1 e.1.2.1 e.1.2.2.1 e.1.2.2.2.1) = [569, 670, 691, 703, 711, 740, 748, 752, 756, 761, 785, 797, 805, 829, 842, 856].filterMap (fun i => lq_at lw_tbl i) := rfl
theorem pk_6 : ∀ e ∈ pl_6, e.2.all (fun c => c.all (fun q => decide (decode e.1.2.1 q.1 = .ok q.2))) = true := List.forall_mem_cons.mpr ⟨imk_96, List.forall_mem_cons.mpr ⟨imk_97, List.forall_mem_cons.mpr ⟨imk_98, List.forall_mem_cons.mpr ⟨imk_99, List.forall_mem_cons.mpr ⟨imk_100, List.forall_mem_cons.mpr ⟨imk_101, List.forall_mem_cons.mpr ⟨imk_102, List.forall_mem_cons.mpr ⟨imk_103, List.forall_mem_cons.mpr ⟨imk_104, List.forall_mem_cons.mpr ⟨imk_105, List.forall_mem_cons.mpr ⟨imk_106, List.forall_mem_cons.mpr ⟨imk_107, List.forall_mem_cons.mpr ⟨imk_108, List.forall_mem_cons.mpr ⟨imk_109, List.forall_mem_cons.mpr ⟨imk_110, List.forall_mem_cons.mpr ⟨imk_111, fun _ h => absurd h List.not_mem_nil⟩⟩⟩⟩⟩⟩⟩⟩⟩⟩⟩⟩⟩⟩⟩⟩
set_option maxRecDepth 100000 in
theorem pc_7 : pl_7.map (fun e => Cond.code e.1.1 e.1.2.1 e.1.2.2.1 e.1.2.2.2.1) = [868, 873, 887, 902, 919, 931, 939, 950, 954, 972, 981, 989, 999, 1019, 1023, 1027].filterMap (fun i => lq_at lw_tbl i) := rfl
theorem pk_7 : ∀ e ∈ pl_7, e.2.all (fun c => c.all (fun q => decide (decode e.1.2.1 q.1 = .ok q.2))) = true := List.forall_mem_cons.mpr ⟨imk_112, List.forall_mem_cons.mpr ⟨imk_113, List.forall_mem_cons.mpr ⟨imk_114, List.forall_mem_cons.mpr ⟨imk_115, List.forall_mem_cons.mpr ⟨imk_116, List.forall_mem_cons.mpr ⟨imk_117, List.forall_mem_cons.mpr ⟨imk_118, List.forall_mem_cons.mpr ⟨imk_119, List.forall_mem_cons.mpr ⟨imk_120, List.forall_mem_cons.mpr ⟨imk_121, List.forall_mem_cons.mpr ⟨imk_122, List.forall_mem_cons.mpr ⟨imk_123, List.forall_mem_cons.mpr ⟨imk_124, List.forall_mem_cons.mpr ⟨imk_125, List.forall_mem_cons.mpr ⟨imk_126, List.forall_mem_cons.mpr ⟨imk_127, fun _ h => absurd h List.not_mem_nil⟩⟩⟩⟩⟩⟩⟩⟩⟩⟩⟩⟩⟩⟩⟩⟩
set_option maxRecDepth 100000 in
theorem pc_8 : pl_8.map (fun e => Cond.code e.1.1 e.1.2.1 e.1.2.2.1 e.1.2.2.2.1) = [1142, 452, 488, 492, 469, 476, 715, 718, 573, 695, 699, 707, 674, 723, 727, 731].filterMap (fun i => lq_at lw_tbl i) := rfl
theorem pk_8 : ∀ e ∈ pl_8, e.2.all (fun c => c.all (fun q => decide (decode e.1.2.1 q.1 = .ok q.2))) = true := List.forall_mem_cons.mpr ⟨imk_128, List.forall_mem_cons.mpr ⟨imk_129, List.forall_mem_cons.mpr ⟨imk_130, List.forall_mem_cons.mpr ⟨imk_131, List.forall_mem_cons.mpr ⟨imk_132, List.forall_mem_cons.mpr ⟨imk_133, List.forall_mem_cons.mpr ⟨imk_134, List.forall_mem_cons.mpr ⟨imk_135, List.forall_mem_cons.mpr ⟨imk_136, List.forall_mem_cons.mpr ⟨imk_137, List.forall_mem_cons.mpr ⟨imk_138, List.forall_mem_cons.mpr ⟨imk_139, List.forall_mem_cons.mpr ⟨imk_140, List.forall_mem_cons.mpr ⟨imk_141, List.forall_mem_cons.mpr ⟨imk_142, List.forall_mem_cons.mpr ⟨imk_143, fun _ h => absurd h List.not_mem_nil⟩⟩⟩⟩⟩⟩⟩⟩⟩⟩⟩⟩⟩⟩⟩⟩
set_option maxRecDepth 100000 in
theorem pc_9 : pl_9.map (fun e => Cond.code e.1.1 e.1.2.1 e.1.2.2.1 e.1.2.2.2.1) = [735, 1010, 801, 923, 935, 985, 849, 852, 845, 992, 995, 1002, 1006, 552, 864, 555].filterMap (fun i => lq_at lw_tbl i) := rfl
theorem pk_9 : ∀ e ∈ pl_9, e.2.all (fun c => c.all (fun q => decide (decode e.1.2.1 q.1 = .ok q.2))) = true := List.forall_mem_cons.mpr ⟨imk_144, List.forall_mem_cons.mpr ⟨imk_145, List.forall_mem_cons.mpr ⟨imk_146, List.forall_mem_cons.mpr ⟨imk_147, List.forall_mem_cons.mpr ⟨imk_148, List.forall_mem_cons.mpr ⟨imk_149, List.forall_mem_cons.mpr ⟨imk_150, List.forall_mem_cons.mpr ⟨imk_151, List.forall_mem_cons.mpr ⟨imk_152, List.forall_mem_cons.mpr ⟨imk_153, List.forall_mem_cons.mpr ⟨imk_154, List.forall_mem_cons.mpr ⟨imk_155, List.forall_mem_cons.mpr ⟨imk_156, List.forall_mem_cons.mpr ⟨imk_157, List.forall_mem_cons.mpr ⟨imk_158, List.forall_mem_cons.mpr ⟨imk_159, fun _ h => absurd h List.not_mem_nil⟩⟩⟩⟩⟩⟩⟩⟩⟩⟩⟩⟩⟩⟩⟩⟩
set_option maxRecDepth 100000 in
theorem pc_10 : pl_10.map (fun e => Cond.code e.1.1 e.1.2.1 e.1.2.2.1 e.1.2.2.2.1) = [472, 1147, 1476, 1326, 1527, 1360, 1684, 1588, 1469, 1521, 1512, 1490, 1504, 1524, 1480, 1487].filterMap (fun i => lq_at lw_tbl i) := rfl
theorem pk_10 : ∀ e ∈ pl_10, e.2.all (fun c => c.all (fun q => decide (decode e.1.2.1 q.1 = .ok q.2))) = true := List.forall_mem_cons.mpr ⟨imk_160, List.forall_mem_cons.mpr ⟨imk_161, List.forall_mem_cons.mpr ⟨imk_162, List.forall_mem_cons.mpr ⟨imk_163, List.forall_mem_cons.mpr ⟨imk_164, List.forall_mem_cons.mpr ⟨imk_165, List.forall_mem_cons.mpr ⟨imk_166, List.forall_mem_cons.mpr ⟨imk_167, List.forall_mem_cons.mpr ⟨imk_168, List.forall_mem_cons.mpr ⟨imk_169, List.forall_mem_cons.mpr ⟨imk_170, List.forall_mem_cons.mpr ⟨imk_171, List.forall_mem_cons.mpr ⟨imk_172, List.forall_mem_cons.mpr ⟨imk_173, List.forall_mem_cons.mpr ⟨imk_174, List.forall_mem_cons.mpr ⟨imk_175, fun _ h => absurd h List.not_mem_nil⟩⟩⟩⟩⟩⟩⟩⟩⟩⟩⟩⟩⟩⟩⟩⟩
set_option maxRecDepth 100000 in
theorem pc_11 : pl_11.map (fun e => Cond.code e.1.1 e.1.2.1 e.1.2.2.1 e.1.2.2.2.1) = [1497, 1542, 1319, 1323, 1334, 1357, 1351, 1405, 1347, 1343, 1364, 1339, 1330, 1368, 1372, 1380].filterMap (fun i => lq_at lw_tbl i) := rfl
theorem pk_11 : ∀ e ∈ pl_11, e.2.all (fun c => c.all (fun q => decide (decode e.1.2.1 q.1 = .ok q.2))) = true := List.forall_mem_cons.mpr ⟨imk_176, List.forall_mem_cons.mpr ⟨imk_177, List.forall_mem_cons.mpr ⟨imk_178, List.forall_mem_cons.mpr ⟨imk_179, List.forall_mem_cons.mpr ⟨imk_180, List.forall_mem_cons.mpr ⟨imk_181, List.forall_mem_cons.mpr ⟨imk_182, List.forall_mem_cons.mpr ⟨imk_183, List.forall_mem_cons.mpr ⟨imk_184, List.forall_mem_cons.mpr ⟨imk_185, List.forall_mem_cons.mpr ⟨imk_186, List.forall_mem_cons.mpr ⟨imk_187, List.forall_mem_cons.mpr ⟨imk_188, List.forall_mem_cons.mpr ⟨imk_189, List.forall_mem_cons.mpr ⟨imk_190, List.forall_mem_cons.mpr ⟨imk_191, fun _ h => absurd h List.not_mem_nil⟩⟩⟩⟩⟩⟩⟩⟩⟩⟩⟩⟩⟩⟩⟩⟩
set_option maxRecDepth 100000 in
theorem pc_12 : pl_12.map (fun e => Cond.code e.1.1 e.1.2.1 e.1.2.2.1 e.1.2.2.2.1) = [1376, 1400, 1396, 1392, 1388, 1460, 1384, 1570, 1567, 1562, 1484, 1494, 1501, 1709, 1465, 1508].filterMap (fun i => lq_at lw_tbl i) := rfl
theorem pk_12 : ∀ e ∈ pl_12, e.2.all (fun c => c.all (fun q => decide (decode e.1.2.1 q.1 = .ok q.2))) = true := List.forall_mem_cons.mpr ⟨imk_192, List.forall_mem_cons.mpr ⟨imk_193, List.forall_mem_cons.mpr ⟨imk_194, List.forall_mem_cons.mpr ⟨imk_195, List.forall_mem_cons.mpr ⟨imk_196, List.forall_mem_cons.mpr ⟨imk_197, List.forall_mem_cons.mpr ⟨imk_198, List.forall_mem_cons.mpr ⟨imk_199, List.forall_mem_cons.mpr ⟨imk_200, List.forall_mem_cons.mpr ⟨imk_201, List.forall_mem_cons.mpr ⟨imk_202, List.forall_mem_cons.mpr ⟨imk_203, List.forall_mem_cons.mpr ⟨imk_204, List.forall_mem_cons.mpr ⟨imk_205, List.forall_mem_cons.mpr ⟨imk_206, List.forall_mem_cons.mpr ⟨imk_207, fun _ h => absurd h List.not_mem_nil⟩⟩⟩⟩⟩⟩⟩⟩⟩⟩⟩⟩⟩⟩⟩⟩
set_option maxRecDepth 100000 in
theorem pc_13 : pl_13.map (fun e => Cond.code e.1.1 e.1.2.1 e.1.2.2.1 e.1.2.2.2.1) = [1517, 1531, 1536, 1554, 1584, 1580, 1546, 1576, 1573, 1558, 1601, 1597, 1609, 1618, 1550, 1592].filterMap (fun i => lq_at lw_tbl i) := rfl
theorem pk_13 : ∀ e ∈ pl_13, e.2.all (fun c => c.all (fun q => decide (decode e.1.2.1 q.1 = .ok q.2))) = true := List.forall_mem_cons.mpr ⟨imk_208, List.forall_mem_cons.mpr ⟨imk_209, List.forall_mem_cons.mpr ⟨imk_210, List.forall_mem_cons.mpr ⟨imk_211, List.forall_mem_cons.mpr ⟨imk_212, List.forall_mem_cons.mpr ⟨imk_213, List.forall_mem_cons.mpr ⟨imk_214, List.forall_mem_cons.mpr ⟨imk_215, List.forall_mem_cons.mpr ⟨imk_216, List.forall_mem_cons.mpr ⟨imk_217, List.forall_mem_cons.mpr ⟨imk_218, List.forall_mem_cons.mpr ⟨imk_219, List.forall_mem_cons.mpr ⟨imk_220, List.forall_mem_cons.mpr ⟨imk_221, List.forall_mem_cons.mpr ⟨imk_222, List.forall_mem_cons.mpr ⟨imk_223, fun _ h => absurd h List.not_mem_nil⟩⟩⟩⟩⟩⟩⟩⟩⟩⟩⟩⟩⟩⟩⟩⟩
set_option maxRecDepth 100000 in
theorem pc_14 : pl_14.map (fun e => Cond.code e.1.1 e.1.2.1 e.1.2.2.1 e.1.2.2.2.1) = [1605, 1614, 1626, 1631, 1622, 1648, 1635, 1639, 1644, 1656, 1652, 1660, 1664, 1672, 1668, 1676].filterMap (fun i => lq_at lw_tbl i) := rfl
theorem pk_14 : ∀ e ∈ pl_14, e.2.all (fun c => c.all (fun q => decide (decode e.1.2.1 q.1 = .ok q.2))) = true := List.forall_mem_cons.mpr ⟨imk_224, List.forall_mem_cons.mpr ⟨imk_225, List.forall_mem_cons.mpr ⟨imk_226, List.forall_mem_cons.mpr ⟨imk_227, List.forall_mem_cons.mpr ⟨imk_228, List.forall_mem_cons.mpr ⟨imk_229, List.forall_mem_cons.mpr ⟨imk_230, List.forall_mem_cons.mpr ⟨imk_231, List.forall_mem_cons.mpr ⟨imk_232, List.forall_mem_cons.mpr ⟨imk_233, List.forall_mem_cons.mpr ⟨imk_234, List.forall_mem_cons.mpr ⟨imk_235, List.forall_mem_cons.mpr ⟨imk_236, List.forall_mem_cons.mpr ⟨imk_237, List.forall_mem_cons.mpr ⟨imk_238, List.forall_mem_cons.mpr ⟨imk_239, fun _ h => absurd h List.not_mem_nil⟩⟩⟩⟩⟩⟩⟩⟩⟩⟩⟩⟩⟩⟩⟩⟩
set_option maxRecDepth 100000 in
theorem pc_15 : pl_15.map (fun e => Cond.code e.1.1 e.1.2.1 e.1.2.2.1 e.1.2.2.2.1) = [1681, 1692, 1688, 1700, 1704, 1713, 1721, 1717, 1729, 1725, 1733, 1737, 1741, 1753, 1749, 1745].filterMap (fun i => lq_at lw_tbl i) := rfl
theorem pk_15 : ∀ e ∈ pl_15, e.2.all (fun c => c.all (fun q => decide (decode e.1.2.1 q.1 = .ok q.2))) = true := List.forall_mem_cons.mpr ⟨imk_240, List.forall_mem_cons.mpr ⟨imk_241, List.forall_mem_cons.mpr ⟨imk_242, List.forall_mem_cons.mpr ⟨imk_243, List.forall_mem_cons.mpr ⟨imk_244, List.forall_mem_cons.mpr ⟨imk_245, List.forall_mem_cons.mpr ⟨imk_246, List.forall_mem_cons.mpr ⟨imk_247, List.forall_mem_cons.mpr ⟨imk_248, List.forall_mem_cons.mpr ⟨imk_249, List.forall_mem_cons.mpr ⟨imk_250, List.forall_mem_cons.mpr ⟨imk_251, List.forall_mem_cons.mpr ⟨imk_252, List.forall_mem_cons.mpr ⟨imk_253, List.forall_mem_cons.mpr ⟨imk_254, List.forall_mem_cons.mpr ⟨imk_255, fun _ h => absurd h List.not_mem_nil⟩⟩⟩⟩⟩⟩⟩⟩⟩⟩⟩⟩⟩⟩⟩⟩
set_option maxRecDepth 100000 in
theorem pc_16 : pl_16.map (fun e => Cond.code e.1.1 e.1.2.1 e.1.2.2.1 e.1.2.2.2.1) = [1757, 1765, 1761, 1776, 1773, 1769, 1784, 1780, 1789, 1793, 1801, 1797, 1805, 1695, 611].filterMap (fun i => lq_at lw_tbl i) := rfl
theorem pk_16 : ∀ e ∈ pl_16, e.2.all (fun c => c.all (fun q => decide (decode e.1.2.1 q.1 = .ok q.2))) = true := List.forall_mem_cons.mpr ⟨imk_256, List.forall_mem_cons.mpr ⟨imk_257, List.forall_mem_cons.mpr ⟨imk_258, List.forall_mem_cons.mpr ⟨imk_259, List.forall_mem_cons.mpr ⟨imk_260, List.forall_mem_cons.mpr ⟨imk_261, List.forall_mem_cons.mpr ⟨imk_262, List.forall_mem_cons.mpr ⟨imk_263, List.forall_mem_cons.mpr ⟨imk_264, List.forall_mem_cons.mpr ⟨imk_265, List.forall_mem_cons.mpr ⟨imk_266, List.forall_mem_cons.mpr ⟨imk_267, List.forall_mem_cons.mpr ⟨imk_268, List.forall_mem_cons.mpr ⟨imk_269, List.forall_mem_cons.mpr ⟨imk_270, fun _ h => absurd h List.not_mem_nil⟩⟩⟩⟩⟩⟩⟩⟩⟩⟩⟩⟩⟩⟩⟩
theorem pd_code_of {l : List (pm_M × pd_I)} {ps : List Nat} (h : l.map (fun e => Cond.code e.1.1 e.1.2.1 e.1.2.2.1 e.1.2.2.2.1) = ps.filterMap (fun i => lq_at lw_tbl i)) : ∀ e ∈ l, Cond.code e.1.1 e.1.2.1 e.1.2.2.1 e.1.2.2.2.1 ∈ PG := by
  intro e he
  have h1 : Cond.code e.1.1 e.1.2.1 e.1.2.2.1 e.1.2.2.2.1 ∈ l.map (fun e => Cond.code e.1.1 e.1.2.1 e.1.2.2.1 e.1.2.2.2.1) := List.mem_map.mpr ⟨e, he, rfl⟩
  rw [h] at h1
  obtain ⟨i, -, hi⟩ := List.mem_filterMap.mp h1
  exact pd_w (lq_atx hi) rfl
theorem pd_codes : ∀ l ∈ pd_L, ∀ e ∈ l, Cond.code e.1.1 e.1.2.1 e.1.2.2.1 e.1.2.2.2.1 ∈ PG := List.forall_mem_cons.mpr ⟨pd_code_of pc_0, List.forall_mem_cons.mpr ⟨pd_code_of pc_1, List.forall_mem_cons.mpr ⟨pd_code_of pc_2, List.forall_mem_cons.mpr ⟨pd_code_of pc_3, List.forall_mem_cons.mpr ⟨pd_code_of pc_4, List.forall_mem_cons.mpr ⟨pd_code_of pc_5, List.forall_mem_cons.mpr ⟨pd_code_of pc_6, List.forall_mem_cons.mpr ⟨pd_code_of pc_7, List.forall_mem_cons.mpr ⟨pd_code_of pc_8, List.forall_mem_cons.mpr ⟨pd_code_of pc_9, List.forall_mem_cons.mpr ⟨pd_code_of pc_10, List.forall_mem_cons.mpr ⟨pd_code_of pc_11, List.forall_mem_cons.mpr ⟨pd_code_of pc_12, List.forall_mem_cons.mpr ⟨pd_code_of pc_13, List.forall_mem_cons.mpr ⟨pd_code_of pc_14, List.forall_mem_cons.mpr ⟨pd_code_of pc_15, List.forall_mem_cons.mpr ⟨pd_code_of pc_16, fun _ h => absurd h List.not_mem_nil⟩⟩⟩⟩⟩⟩⟩⟩⟩⟩⟩⟩⟩⟩⟩⟩⟩
theorem pd_decs : ∀ l ∈ pd_L, ∀ e ∈ l, e.2.all (fun c => c.all (fun q => decide (decode e.1.2.1 q.1 = .ok q.2))) = true := List.forall_mem_cons.mpr ⟨pk_0, List.forall_mem_cons.mpr ⟨pk_1, List.forall_mem_cons.mpr ⟨pk_2, List.forall_mem_cons.mpr ⟨pk_3, List.forall_mem_cons.mpr ⟨pk_4, List.forall_mem_cons.mpr ⟨pk_5, List.forall_mem_cons.mpr ⟨pk_6, List.forall_mem_cons.mpr ⟨pk_7, List.forall_mem_cons.mpr ⟨pk_8, List.forall_mem_cons.mpr ⟨pk_9, List.forall_mem_cons.mpr ⟨pk_10, List.forall_mem_cons.mpr ⟨pk_11, List.forall_mem_cons.mpr ⟨pk_12, List.forall_mem_cons.mpr ⟨pk_13, List.forall_mem_cons.mpr ⟨pk_14, List.forall_mem_cons.mpr ⟨pk_15, List.forall_mem_cons.mpr ⟨pk_16, fun _ h => absurd h List.not_mem_nil⟩⟩⟩⟩⟩⟩⟩⟩⟩⟩⟩⟩⟩⟩⟩⟩⟩
theorem pd_at_mem {k : Nat} {e : pm_M × pd_I} (h : pd_at k = some e) : ∃ l ∈ pd_L, e ∈ l := by
  unfold pd_at at h
  split at h
  · rename_i c e1
    exact ⟨c, pm_nth_mem e1, pm_nth_mem h⟩
  · cases h
theorem pm_nth_get {α : Type} : ∀ (l : List α) (n : Nat), pm_nth l n = l[n]?
  | [], n => by simp [pm_nth]
  | x :: r, 0 => by simp [pm_nth]
  | x :: r, n + 1 => by rw [pm_nth, pm_nth_get r n]; simp
theorem pd_ct {α : Type} (a b : α) : cond true a b = a := rfl
theorem pd_cf {α : Type} (a b : α) : cond false a b = b := rfl
theorem pd_at_a2 {k : Nat} {e : pm_M × pd_I} (h : pd_at k = some e) : pd_a2 k = some e := by
  unfold pd_a2
  cases hb : Nat.ble 1000 k with
  | false => exact h
  | true =>
    have hk := Nat.le_of_ble_eq_true hb
    have h2 : pm_nth pd_L (k / 16) = none := by
      rw [pm_nth_get]
      exact List.getElem?_eq_none (Nat.le_trans (show pd_L.length ≤ 62 by decide) (by omega))
    unfold pd_at at h
    rw [h2] at h
    cases h
theorem pd_lw_ok : ∀ e ∈ pd_lw, e.2.all (fun c => c.all (fun q => decide (decode e.1.2.1 q.1 = .ok q.2))) = true := List.forall_mem_cons.mpr ⟨imkL_law, List.forall_mem_cons.mpr ⟨imkL_court, List.forall_mem_cons.mpr ⟨imkL_between, List.forall_mem_cons.mpr ⟨imkL_gift, List.forall_mem_cons.mpr ⟨imkL_row, fun _ h => absurd h List.not_mem_nil⟩⟩⟩⟩⟩
theorem pd_a2_ok {k : Nat} {e : pm_M × pd_I} (h : pd_a2 k = some e) : e.2.all (fun c => c.all (fun q => decide (decode e.1.2.1 q.1 = .ok q.2))) = true := by
  unfold pd_a2 at h
  cases hb : Nat.ble 1000 k with
  | true =>
    rw [hb, pd_ct] at h
    exact pd_lw_ok e (pm_nth_mem h)
  | false =>
    rw [hb, pd_cf] at h
    obtain ⟨l, hl, hm⟩ := pd_at_mem h
    exact pd_decs l hl e hm
theorem pd_ins_ok (k pc : Nat) (i : Instr) (len : Nat) (h : pm_ins PT k pc = some (i, len)) : decode (pm_code PT k) pc = .ok (i, len) := by
  have h : pd_ins k pc = some (i, len) := h
  show decode (pd_m k).2.1 pc = .ok (i, len)
  unfold pd_ins at h
  unfold pd_m
  cases he : pd_a2 k with
  | none => rw [he] at h; cases h
  | some e =>
    rw [he] at h
    dsimp only at h ⊢
    have hd := pd_a2_ok he
    unfold pm_ch at h
    split at h
    · rename_i c e1
      have h1 := List.all_eq_true.mp hd c (pm_nth_mem e1)
      exact of_decide_eq_true (List.all_eq_true.mp h1 (pc, i, len) (pm_fd_mem h))
    · cases h
def pd_ipL : List Nat := [101, 99, 96, 94, 98, 93, 97, 95, 92, 100, 91, 102, 113, 90]
/-- of an owner: it is initialised, its name is a plain one -/
noncomputable def pd_chkO (o : Nat) (p : Nat) : Bool := pd_tb p (.initialized (pd_own o)) && plainName (pd_own o) && decide (pd_own o ≠ "java/lang/invoke/MethodHandle") && decide (pd_own o ≠ "java/lang/invoke/VarHandle")
theorem pd_O : pm_allI pd_chkO 0 pd_ipL = true := by decide +kernel
/-- of a method: its owner is its class -/
def pd_chkE (e : pm_M × pd_I) : Bool := decide (pd_own e.1.2.2.2.2.1 = e.1.1.cls) && (pm_nth pd_ipL e.1.2.2.2.2.1).isSome && (cond (Nat.ble 100 e.1.2.2.2.2.2.2) (decide (e.1.1.name = "<init>")) true)
theorem pd_E : pd_L.all (fun l => l.all pd_chkE) = true := by decide +kernel
theorem pd_okM {t : Nat} {e : pm_M × pd_I} (h : pd_at t = some e) : pm_okM PT PG t := by
  obtain ⟨l, hl, hm⟩ := pd_at_mem h
  have hc := pd_codes l hl e hm
  have hE := List.all_eq_true.mp (List.all_eq_true.mp pd_E l hl) e hm
  unfold pd_chkE at hE
  obtain ⟨hE1, hE3⟩ := Bool.and_eq_true_iff.mp hE
  obtain ⟨hE1, hE2⟩ := Bool.and_eq_true_iff.mp hE1
  have hE1 := of_decide_eq_true hE1
  obtain ⟨q, hq⟩ := Option.isSome_iff_exists.mp hE2
  have hO := pm_allI_at pd_O hq
  rw [Nat.zero_add] at hO
  unfold pd_chkO at hO
  obtain ⟨hO, o4⟩ := Bool.and_eq_true_iff.mp hO
  obtain ⟨hO, o3⟩ := Bool.and_eq_true_iff.mp hO
  obtain ⟨o1, o2⟩ := Bool.and_eq_true_iff.mp hO
  have em : pm_m PT t = e.1 := by
    show pd_m t = e.1
    unfold pd_m
    rw [pd_at_a2 h]
  unfold pm_okM pm_y pm_code pm_max pm_ret pm_o pm_init
  rw [em]
  refine ⟨by rw [← hE1]; exact o2, hE1, hc, by rw [← hE1]; exact pd_tb_in o1, ⟨by rw [← hE1]; exact of_decide_eq_true o3, by rw [← hE1]; exact of_decide_eq_true o4⟩, fun hi => ?_⟩
  rw [hi] at hE3
  exact of_decide_eq_true hE3
def pd_lay : List (List Nat) := [[381, 383, 385, 387], [329, 331, 333, 335], [262, 264, 266], [184, 186, 188, 190, 192, 194, 196, 198, 200], [311, 313, 315], [148, 150], [289, 291, 293, 295, 297, 299], [234, 236, 238, 240, 242, 244, 246], [132, 134], [353, 355, 357, 359, 361, 363, 365, 367], [404, 406, 408, 410, 412, 414, 416, 418, 420, 422, 424, 426, 428, 430], [1204, 1206, 1208, 1210, 1212, 1214, 1216, 1218, 1220, 1222, 1224, 1226, 1228, 1230, 1232, 1234, 1236, 1238, 1240, 1242, 1244, 1246, 1248, 1250, 1252, 1254, 1256, 1258, 1260, 1262, 1264, 1266, 1268, 1270, 1272, 1274, 1276, 1278, 1280, 1282, 1284, 1286, 1288, 1290, 1292, 1294, 1296, 1298, 1300, 1302, 1304, 1306, 1308, 1310, 1312]]
/-- of a class: its fields' words lie in the tables, its fields' types are right, its fields' names differ -/
noncomputable def pd_chkC (c : Nat) (ps : List Nat) : Bool := match pm_nth vwCl c, pm_nth pd_tyL c with
  | some q, some ty => decide (u_ws q.1 q.2.1 q.2.2 = ps.filterMap (fun i => lq_at lw_tbl i)) && (u_ws q.1 q.2.1 q.2.2).all goodWord && (List.range q.2.2).all (fun k => decide (parseFieldDescriptor (q.2.1 k).2.2.1 = some (ty k)) && decide (defaultValue (ty k) = vp_V (pd_df c) k)) && decide ((pd_df c).length = q.2.2)
  | _, _ => false
set_option maxRecDepth 100000 in
theorem pd_C : pm_allI pd_chkC 0 pd_lay = true := by decide +kernel

theorem pd_nmd : ∀ (c : Nat) (q : vw_C), vwCl[c]? = some q → ∀ a, a < q.2.2 → ∀ b, b < q.2.2 → a ≠ b → (q.2.1 a).2.1 ≠ (q.2.1 b).2.1 := by
  intro c q h
  match c, h with
  | 0, h => cases (Option.some.inj h : _ = q); exact nmX0
  | 1, h => cases (Option.some.inj h : _ = q); exact nmX1
  | 2, h => cases (Option.some.inj h : _ = q); exact nmX2
  | 3, h => cases (Option.some.inj h : _ = q); exact nmX3
  | 4, h => cases (Option.some.inj h : _ = q); exact nmX4
  | 5, h => cases (Option.some.inj h : _ = q); exact nmX5
  | 6, h => cases (Option.some.inj h : _ = q); exact nmX6
  | 7, h => cases (Option.some.inj h : _ = q); exact nmX7
  | 8, h => cases (Option.some.inj h : _ = q); exact nmX8
  | 9, h => cases (Option.some.inj h : _ = q); exact nmX9
  | 10, h => cases (Option.some.inj h : _ = q); exact nmX10
  | 11, h => cases (Option.some.inj h : _ = q); exact nmX11
  | c + 12, h => simp [vwCl] at h
theorem pd_refs : pd_dL.all (fun l => l.all (fun v => match v with | .ref _ => false | .retAddr _ => false | _ => true)) = true := by decide +kernel
theorem pd_noref (c : Nat) (aC : Nat → ClassId) (b : Nat) : (pd_df c).map (pm_tr aC b) = pd_df c := by
  unfold pd_df
  cases hc : pm_nth pd_dL c with
  | none => rfl
  | some l =>
    have h := List.all_eq_true.mp pd_refs l (pm_nth_mem hc)
    dsimp only
    have h2 : ∀ v ∈ l, pm_tr aC b v = id v := by
      intro v hv
      have h3 := List.all_eq_true.mp h v hv
      cases v <;> first | rfl | cases h3
    rw [List.map_congr_left h2, List.map_id]
def pd_kb (t : Nat) (ty : FieldType) : Bool := match t, ty with
  | 0, .int => true
  | 1, .long => true
  | 2, .object _ => true
  | 2, .array _ => true
  | 3, .boolean => true
  | _, _ => false
theorem pd_kb_ok {t : Nat} {ty : FieldType} (h : pd_kb t ty = true) : pm_kindOk t ty := by
  unfold pd_kb at h
  split at h
  · exact Or.inl ⟨rfl, rfl⟩
  · exact Or.inr (Or.inl ⟨rfl, rfl⟩)
  · exact Or.inr (Or.inr (Or.inl ⟨rfl, fun a => ⟨rfl, rfl⟩⟩))
  · exact Or.inr (Or.inr (Or.inl ⟨rfl, fun a => ⟨rfl, rfl⟩⟩))
  · exact Or.inr (Or.inr (Or.inr ⟨rfl, rfl⟩))
  · cases h
noncomputable def pd_chkF (o : Nat) (e : Nat × (Nat × Nat × Nat) × Nat) : Bool := match pm_nth vwCl e.2.1.1, pm_nth pd_tyL e.2.1.1 with
  | some q, some ty => (pm_nth pd_lay e.2.1.1).isSome && (decide (e.2.1.2.1 < q.2.2) && (decide ((q.2.1 e.2.1.2.1).1 = q.1) && (pd_tb e.2.2 (.fieldLink (pd_own o) e.1 q.1 (q.2.1 e.2.1.2.1).2.1 (q.2.1 e.2.1.2.1).2.2.1) && (pd_kb (e.2.1.2.2 % 10) (ty e.2.1.2.1) && (cond (Nat.ble 10 e.2.1.2.2) (q.2.1 e.2.1.2.1).2.2.2 (!(q.2.1 e.2.1.2.1).2.2.2) && cond (Nat.ble 10 e.2.1.2.2 && Nat.ble e.2.1.2.2 19) (decide (pd_own o = q.1)) true)))))
  | _, _ => false
theorem pd_F : pm_allI (fun o l => l.all (pd_chkF o)) 0 pd_FL = true := by decide +kernel
theorem pd_classOf {c : Nat} {ps : List Nat} (hp : pm_nth pd_lay c = some ps) {q : vw_C} (hq : pm_nth vwCl c = some q) {ty : Nat → FieldType} (ht : pm_nth pd_tyL c = some ty) : (∀ w ∈ u_ws q.1 q.2.1 q.2.2, w ∈ PG) ∧ (∀ k, k < q.2.2 → parseFieldDescriptor (q.2.1 k).2.2.1 = some (ty k) ∧ defaultValue (ty k) = vp_V (pd_df c) k) ∧ (pd_df c).length = q.2.2 := by
  have h := pm_allI_at pd_C hp
  rw [Nat.zero_add] at h
  unfold pd_chkC at h
  rw [hq, ht] at h
  dsimp only at h
  obtain ⟨h, h4⟩ := Bool.and_eq_true_iff.mp h
  obtain ⟨h, h3⟩ := Bool.and_eq_true_iff.mp h
  obtain ⟨h1, h2⟩ := Bool.and_eq_true_iff.mp h
  have h1 := of_decide_eq_true h1
  refine ⟨fun w hw => ?_, fun k hk => ?_, of_decide_eq_true h4⟩
  · have hg := List.all_eq_true.mp h2 w hw
    rw [h1] at hw
    obtain ⟨i, -, hi⟩ := List.mem_filterMap.mp hw
    exact pd_w (lq_atx hi) hg
  · have h5 := Bool.and_eq_true_iff.mp (List.all_eq_true.mp h3 k (List.mem_range.mpr hk))
    exact ⟨of_decide_eq_true h5.1, of_decide_eq_true h5.2⟩
theorem pd_okF : pm_okF PT PG := by
  intro o j ci f t h
  have h : pd_fld o j = some (ci, f, t) := h
  unfold pd_fld at h
  split at h
  case h_2 => cases h
  case h_1 l e1 =>
  obtain ⟨e, he, e2⟩ := Option.map_eq_some_iff.mp h
  have hc := pm_allI_at pd_F e1
  rw [Nat.zero_add] at hc
  have hc := List.all_eq_true.mp hc (j, e) (pm_fd_mem he)
  obtain ⟨⟨ci', f', t'⟩, pos⟩ := e
  cases e2
  unfold pd_chkF at hc
  dsimp only at hc
  split at hc
  case h_2 => cases hc
  case h_1 q ty q1 q2 =>
  obtain ⟨c0, hc⟩ := Bool.and_eq_true_iff.mp hc
  obtain ⟨c1, hc⟩ := Bool.and_eq_true_iff.mp hc
  obtain ⟨c2, hc⟩ := Bool.and_eq_true_iff.mp hc
  obtain ⟨c3, hc⟩ := Bool.and_eq_true_iff.mp hc
  obtain ⟨c4, hc⟩ := Bool.and_eq_true_iff.mp hc
  obtain ⟨c5, c6⟩ := Bool.and_eq_true_iff.mp hc
  obtain ⟨ps, hps⟩ := Option.isSome_iff_exists.mp c0
  obtain ⟨k1, k2, k3⟩ := pd_classOf hps q1 q2
  have hq : vwCl[ci]? = some q := by rw [← pm_nth_get]; exact q1
  refine ⟨q.1, q.2.1, q.2.2, ty, hq, of_decide_eq_true c1, of_decide_eq_true c2, k1, pd_tb_in c3, pd_nmd ci q hq, fun k hk => (k2 k hk).1, pd_kb_ok c4, fun ht => ?_, fun ht => ?_, fun ht ht2 => ?_⟩
  · have hb : Nat.ble 10 t = false := by
      cases hb : Nat.ble 10 t with
      | false => rfl
      | true => have := Nat.le_of_ble_eq_true hb; omega
    rw [hb] at c5
    simpa using c5
  · have hb : Nat.ble 10 t = true := Nat.ble_eq_true_of_le ht
    rw [hb] at c5
    exact c5
  · have hb : Nat.ble 10 t = true := Nat.ble_eq_true_of_le ht
    have hb2 : Nat.ble t 19 = true := Nat.ble_eq_true_of_le (by omega)
    rw [hb, hb2] at c6
    exact of_decide_eq_true c6
def pd_pr (t n : Nat) : Bool := decide ((parseMethodDescriptor (pm_y PT t).desc).map (fun d => d.parameters.length) = some n)
noncomputable def pd_chkW (o : Nat) (e : Nat × (Nat × Nat) × List Nat) : Bool := match e.2.1.1, e.2.2 with
  | 0, [a, b, c] => (pd_at e.2.1.2).isSome && (pd_tb a (.methodLink (pd_own o) e.1 (pm_y PT e.2.1.2)) && (pd_tb b (.instanceMethod (pm_y PT e.2.1.2)) && (pd_tb c (.selects (pm_y PT e.2.1.2).cls (pm_y PT e.2.1.2) (pm_y PT e.2.1.2)) && (Nat.ble 1 (pm_na PT e.2.1.2) && (pd_pr e.2.1.2 (pm_na PT e.2.1.2 - 1) && (match pm_nth vwCl (pm_ci PT e.2.1.2) with
    | some q => decide (q.1 = (pm_y PT e.2.1.2).cls)
    | none => false))))))
  | 2, [a, b] => (pd_at e.2.1.2).isSome && (pd_tb a (.methodLink (pd_own o) e.1 (pm_y PT e.2.1.2)) && (pd_tb b (.static (pm_y PT e.2.1.2)) && pd_pr e.2.1.2 (pm_na PT e.2.1.2)))
  | 3, [a, b] => (pd_at e.2.1.2).isSome && (pd_nb a (.methodLinkNest (pd_own o) e.1 (pm_y PT e.2.1.2) "GiftsOfCourts") && (pd_tb b (.static (pm_y PT e.2.1.2)) && pd_pr e.2.1.2 (pm_na PT e.2.1.2)))
  | 4, [a, b] => (pd_at e.2.1.2).isSome && (pd_tb a (.methodLink (pd_own o) e.1 (pm_y PT e.2.1.2)) && (pd_tb b (.instanceMethod (pm_y PT e.2.1.2)) && (decide ((pm_y PT e.2.1.2).name = "<init>") && ((pm_ret PT e.2.1.2).isNone && (Nat.ble 1 (pm_na PT e.2.1.2) && pd_pr e.2.1.2 (pm_na PT e.2.1.2 - 1))))))
  | 5, [a, b] => (pd_at e.2.1.2).isSome && (pd_nb a (.methodLinkNest (pd_own o) e.1 (pm_y PT e.2.1.2) "GiftsOfCourts") && (pd_tb b (.instanceMethod (pm_y PT e.2.1.2)) && (decide ((pm_y PT e.2.1.2).name = "<init>") && ((pm_ret PT e.2.1.2).isNone && (Nat.ble 1 (pm_na PT e.2.1.2) && pd_pr e.2.1.2 (pm_na PT e.2.1.2 - 1))))))
  | 6, [a] => pd_tb a (.methodLink (pd_own o) e.1 Lib.objectInit)
  | 7, [a] => pd_tb a (.methodLink (pd_own o) e.1 Lib.Math.min.name)
  | 8, [a] => pd_tb a (.methodLink (pd_own o) e.1 Lib.Math.max.name)
  | 9, [a] => pd_tb a (.methodLink (pd_own o) e.1 arraycopyName)
  | 10, [a] => pd_tb a (.methodLink (pd_own o) e.1 st_yL)
  | 11, [a] => pd_tb a (.methodLink (pd_own o) e.1 st_yA)
  | _, _ => false
theorem pd_pr_ok {t n : Nat} (h : pd_pr t n = true) : pm_pars PT t n := by
  have h1 : (parseMethodDescriptor (pm_y PT t).desc).map (fun d => d.parameters.length) = some n := of_decide_eq_true h
  exact h1
end MH06strnx4
