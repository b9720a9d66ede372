/-! the String constants, and the methods of the JDK that they reach -/
def st_yL : MethodName := ⟨"java/lang/String", "length", "()I"⟩
abbrev st_cL : ByteArray := prog_21_method_54_code
theorem st_dL_0 : decode st_cL 0 = .ok (.aload_n 0, 1) := by decide +kernel
theorem st_dL_1 : decode st_cL 1 = .ok (.getfield 9, 3) := by decide +kernel
theorem st_dL_4 : decode st_cL 4 = .ok (.arraylength, 1) := by decide +kernel
theorem st_dL_5 : decode st_cL 5 = .ok (.aload_n 0, 1) := by decide +kernel
theorem st_dL_6 : decode st_cL 6 = .ok (.invokevirtual 335, 3) := by decide +kernel
theorem st_dL_9 : decode st_cL 9 = .ok (.ishr, 1) := by decide +kernel
theorem st_dL_10 : decode st_cL 10 = .ok (.ireturn, 1) := by decide +kernel
def st_yC : MethodName := ⟨"java/lang/String", "coder", "()B"⟩
abbrev st_cC : ByteArray := prog_21_method_152_code
theorem st_dC_0 : decode st_cC 0 = .ok (.getstatic 38, 3) := by decide +kernel
theorem st_dC_3 : decode st_cC 3 = .ok (.ifCond .eq 10, 3) := by decide +kernel
theorem st_dC_6 : decode st_cC 6 = .ok (.aload_n 0, 1) := by decide +kernel
theorem st_dC_7 : decode st_cC 7 = .ok (.getfield 15, 3) := by decide +kernel
theorem st_dC_10 : decode st_cC 10 = .ok (.goto 4, 3) := by decide +kernel
theorem st_dC_13 : decode st_cC 13 = .ok (.iconst 1, 1) := by decide +kernel
theorem st_dC_14 : decode st_cC 14 = .ok (.ireturn, 1) := by decide +kernel
def st_yA : MethodName := ⟨"java/lang/String", "charAt", "(I)C"⟩
abbrev st_cA : ByteArray := prog_21_method_56_code
theorem st_dA_0 : decode st_cA 0 = .ok (.aload_n 0, 1) := by decide +kernel
theorem st_dA_1 : decode st_cA 1 = .ok (.invokevirtual 492, 3) := by decide +kernel
theorem st_dA_4 : decode st_cA 4 = .ok (.ifCond .eq 12, 3) := by decide +kernel
theorem st_dA_7 : decode st_cA 7 = .ok (.aload_n 0, 1) := by decide +kernel
theorem st_dA_8 : decode st_cA 8 = .ok (.getfield 9, 3) := by decide +kernel
theorem st_dA_11 : decode st_cA 11 = .ok (.iload_n 1, 1) := by decide +kernel
theorem st_dA_12 : decode st_cA 12 = .ok (.invokestatic 495, 3) := by decide +kernel
theorem st_dA_15 : decode st_cA 15 = .ok (.ireturn, 1) := by decide +kernel
theorem st_dA_16 : decode st_cA 16 = .ok (.aload_n 0, 1) := by decide +kernel
theorem st_dA_17 : decode st_cA 17 = .ok (.getfield 9, 3) := by decide +kernel
theorem st_dA_20 : decode st_cA 20 = .ok (.iload_n 1, 1) := by decide +kernel
theorem st_dA_21 : decode st_cA 21 = .ok (.invokestatic 498, 3) := by decide +kernel
theorem st_dA_24 : decode st_cA 24 = .ok (.ireturn, 1) := by decide +kernel
def st_yI : MethodName := ⟨"java/lang/String", "isLatin1", "()Z"⟩
abbrev st_cI : ByteArray := prog_21_method_154_code
theorem st_dI_0 : decode st_cI 0 = .ok (.getstatic 38, 3) := by decide +kernel
theorem st_dI_3 : decode st_cI 3 = .ok (.ifCond .eq 14, 3) := by decide +kernel
theorem st_dI_6 : decode st_cI 6 = .ok (.aload_n 0, 1) := by decide +kernel
theorem st_dI_7 : decode st_cI 7 = .ok (.getfield 15, 3) := by decide +kernel
theorem st_dI_10 : decode st_cI 10 = .ok (.ifCond .ne 7, 3) := by decide +kernel
theorem st_dI_13 : decode st_cI 13 = .ok (.iconst 1, 1) := by decide +kernel
theorem st_dI_14 : decode st_cI 14 = .ok (.goto 4, 3) := by decide +kernel
theorem st_dI_17 : decode st_cI 17 = .ok (.iconst 0, 1) := by decide +kernel
theorem st_dI_18 : decode st_cI 18 = .ok (.ireturn, 1) := by decide +kernel
def st_yB : MethodName := ⟨"java/lang/StringLatin1", "charAt", "([BI)C"⟩
abbrev st_cB : ByteArray := prog_22_method_2_code
theorem st_dB_0 : decode st_cB 0 = .ok (.iload_n 1, 1) := by decide +kernel
theorem st_dB_1 : decode st_cB 1 = .ok (.aload_n 0, 1) := by decide +kernel
theorem st_dB_2 : decode st_cB 2 = .ok (.arraylength, 1) := by decide +kernel
theorem st_dB_3 : decode st_cB 3 = .ok (.invokestatic 9, 3) := by decide +kernel
theorem st_dB_6 : decode st_cB 6 = .ok (.aload_n 0, 1) := by decide +kernel
theorem st_dB_7 : decode st_cB 7 = .ok (.iload_n 1, 1) := by decide +kernel
theorem st_dB_8 : decode st_cB 8 = .ok (.baload, 1) := by decide +kernel
theorem st_dB_9 : decode st_cB 9 = .ok (.sipush 255, 3) := by decide +kernel
theorem st_dB_12 : decode st_cB 12 = .ok (.iand, 1) := by decide +kernel
theorem st_dB_13 : decode st_cB 13 = .ok (.i2c, 1) := by decide +kernel
theorem st_dB_14 : decode st_cB 14 = .ok (.ireturn, 1) := by decide +kernel
def st_yK : MethodName := ⟨"java/lang/String", "checkIndex", "(II)V"⟩
abbrev st_cK : ByteArray := prog_21_method_155_code
theorem st_dK_0 : decode st_cK 0 = .ok (.iload_n 0, 1) := by decide +kernel
theorem st_dK_1 : decode st_cK 1 = .ok (.iload_n 1, 1) := by decide +kernel
theorem st_dK_2 : decode st_cK 2 = .ok (.getstatic 1053, 3) := by decide +kernel
theorem st_dK_5 : decode st_cK 5 = .ok (.invokestatic 1059, 3) := by decide +kernel
theorem st_dK_8 : decode st_cK 8 = .ok (.pop, 1) := by decide +kernel
theorem st_dK_9 : decode st_cK 9 = .ok (.return_, 1) := by decide +kernel
def st_yP : MethodName := ⟨"jdk/internal/util/Preconditions", "checkIndex", "(IILjava/util/function/BiFunction;)I"⟩
abbrev st_cP : ByteArray := prog_29_method_11_code
theorem st_dP_0 : decode st_cP 0 = .ok (.iload_n 0, 1) := by decide +kernel
theorem st_dP_1 : decode st_cP 1 = .ok (.ifCond .lt 8, 3) := by decide +kernel
theorem st_dP_4 : decode st_cP 4 = .ok (.iload_n 0, 1) := by decide +kernel
theorem st_dP_5 : decode st_cP 5 = .ok (.iload_n 1, 1) := by decide +kernel
theorem st_dP_6 : decode st_cP 6 = .ok (.if_icmp .lt 10, 3) := by decide +kernel
theorem st_dP_9 : decode st_cP 9 = .ok (.aload_n 2, 1) := by decide +kernel
theorem st_dP_10 : decode st_cP 10 = .ok (.iload_n 0, 1) := by decide +kernel
theorem st_dP_11 : decode st_cP 11 = .ok (.iload_n 1, 1) := by decide +kernel
theorem st_dP_12 : decode st_cP 12 = .ok (.invokestatic 95, 3) := by decide +kernel
theorem st_dP_16 : decode st_cP 16 = .ok (.iload_n 0, 1) := by decide +kernel
theorem st_dP_17 : decode st_cP 17 = .ok (.ireturn, 1) := by decide +kernel
def st_ws : List Cond := [.code st_yL st_cL 1 (some .int), .code st_yC st_cC 1 (some .byte), .code st_yA st_cA 2 (some .char), .code st_yI st_cI 1 (some .boolean), .code st_yB st_cB 2 (some .char), .code st_yK st_cK 2 (none), .code st_yP st_cP 3 (some .int), .methodLink "java/lang/String" 335 st_yC, .methodLink "java/lang/String" 492 st_yI, .methodLink "java/lang/String" 495 st_yB, .methodLink "java/lang/StringLatin1" 9 st_yK, .methodLink "java/lang/String" 1059 st_yP, .fieldLink "java/lang/String" 9 "java/lang/String" "value" "[B", .fieldLink "java/lang/String" 15 "java/lang/String" "coder" "B", .fieldLink "java/lang/String" 38 "java/lang/String" "COMPACT_STRINGS" "Z", .fieldLink "java/lang/String" 1053 "jdk/internal/util/Preconditions" "SIOOBE_FORMATTER" "Ljava/util/function/BiFunction;", .instanceMethod st_yL, .selects "java/lang/String" st_yL st_yL, .instanceMethod st_yC, .selects "java/lang/String" st_yC st_yC, .instanceMethod st_yA, .selects "java/lang/String" st_yA st_yA, .instanceMethod st_yI, .selects "java/lang/String" st_yI st_yI, .static st_yB, .static st_yK, .static st_yP, .initialized "java/lang/String", .initialized "java/lang/StringLatin1", .initialized "jdk/internal/util/Preconditions"]
def st_ps : List Nat := [1409, 1413, 1419, 1423, 1426, 1429, 1434, 1410, 1420, 1424, 1427, 1432, 1822, 1823, 1414, 1430, 1407, 1408, 1411, 1412, 1417, 1418, 1421, 1422, 1425, 1428, 1433, 104, 105, 106]
def st_L : List (List Int32) := [[119, 107, 114, 115, 104, 101, 100], [60, 62, 61], [43, 45], [42, 47], [115, 109, 102, 112, 113]]
def st_tx (i : Nat) : List Int32 := match pm_nth st_L i with
  | some l => l
  | none => []
def st_T : List String := ["wkrshed", "<>=", "+-", "*/", "smfpq"]
/-- by the owner of the pool and the place: which -/
def st_str (o j : Nat) : Option Nat := cond (Nat.beq o 11) (pm_fd [(236, 0), (245, 1), (247, 2), (249, 3), (380, 4)] j) none
