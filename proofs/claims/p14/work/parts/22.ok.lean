/-! that they are right -/
theorem pm_nth_mem {α : Type} : ∀ {l : List α} {n : Nat} {a : α}, pm_nth l n = some a → a ∈ l
  | [], n, a, h => by cases h
  | x :: r, 0, a, h => by cases (Option.some.inj h : x = a); exact List.mem_cons_self
  | x :: r, n + 1, a, h => List.mem_cons_of_mem _ (pm_nth_mem h)
theorem pm_fd_mem {α : Type} : ∀ {l : List (Nat × α)} {n : Nat} {a : α}, pm_fd l n = some a → (n, a) ∈ l
  | [], n, a, h => by cases h
  | e :: r, n, a, h => by
    unfold pm_fd at h
    cases hb : Nat.beq e.1 n with
    | true =>
      rw [hb] at h
      have h1 : e.2 = a := Option.some.inj h
      have h2 : e.1 = n := Nat.eq_of_beq_eq_true hb
      rw [← h1, ← h2]
      exact List.mem_cons_self
    | false =>
      rw [hb] at h
      exact List.mem_cons_of_mem _ (pm_fd_mem h)
def pm_allI {α : Type} (f : Nat → α → Bool) : Nat → List α → Bool
  | _, [] => true
  | n, a :: r => f n a && pm_allI f (n + 1) r
theorem pm_allI_at {α : Type} {f : Nat → α → Bool} : ∀ {l : List α} {n i : Nat} {a : α}, pm_allI f n l = true → pm_nth l i = some a → f (n + i) a = true
  | [], n, i, a, h, h2 => by cases h2
  | x :: r, n, 0, a, h, h2 => by
    cases (Option.some.inj h2 : x = a)
    unfold pm_allI at h
    exact (Bool.and_eq_true_iff.mp h).1
  | x :: r, n, i + 1, a, h, h2 => by
    unfold pm_allI at h
    have := pm_allI_at (Bool.and_eq_true_iff.mp h).2 h2
    rw [show n + (i + 1) = n + 1 + i by omega]
    exact this
theorem pd_w {w : Cond} {i : Nat} (h : lw_tbl[i]? = some w) (hg : goodWord w = true) : w ∈ PG := List.mem_filter.mpr ⟨List.mem_of_getElem? h, hg⟩
def pd_tb (i : Nat) (w : Cond) : Bool := decide (lw_tbl[i]? = some w) && goodWord w
theorem pd_tb_in {i : Nat} {w : Cond} (h : pd_tb i w = true) : w ∈ PG := by
  have h1 := Bool.and_eq_true_iff.mp h
  exact pd_w (of_decide_eq_true h1.1) h1.2
def pd_nb (i : Nat) (w : Cond) : Bool := decide (lw_tbl[i]? = some w) && pd_isN w
theorem pd_nb_in {i : Nat} {w : Cond} (h : pd_nb i w = true) : w ∈ PN := by
  have h1 := Bool.and_eq_true_iff.mp h
  exact List.mem_filter.mpr ⟨List.mem_of_getElem? (of_decide_eq_true h1.1), h1.2⟩
set_option maxRecDepth 100000 in
theorem pc_0 : pl_0.map (fun e => Cond.code e.1.1 e.1.2.1 e.1.2.2.1 e.1.2.2.2.1) = [374, 943, 946, 958, 962, 966, 322, 883, 878, 1044, 891, 897, 906, 910, 914, 253].filterMap (fun i => lw_tbl[i]?) := rfl
theorem pk_0 : ∀ e ∈ pl_0, e.2.all (fun c => c.all (fun q => decide (decode e.1.2.1 q.1 = .ok q.2))) = true := List.forall_mem_cons.mpr ⟨imk_0, List.forall_mem_cons.mpr ⟨imk_1, List.forall_mem_cons.mpr ⟨imk_2, List.forall_mem_cons.mpr ⟨imk_3, List.forall_mem_cons.mpr ⟨imk_4, List.forall_mem_cons.mpr ⟨imk_5, List.forall_mem_cons.mpr ⟨imk_6, List.forall_mem_cons.mpr ⟨imk_7, List.forall_mem_cons.mpr ⟨imk_8, List.forall_mem_cons.mpr ⟨imk_9, List.forall_mem_cons.mpr ⟨imk_10, List.forall_mem_cons.mpr ⟨imk_11, List.forall_mem_cons.mpr ⟨imk_12, List.forall_mem_cons.mpr ⟨imk_13, List.forall_mem_cons.mpr ⟨imk_14, List.forall_mem_cons.mpr ⟨imk_15, fun _ h => absurd h List.not_mem_nil⟩⟩⟩⟩⟩⟩⟩⟩⟩⟩⟩⟩⟩⟩⟩⟩
set_option maxRecDepth 100000 in
theorem pc_1 : pl_1.map (fun e => Cond.code e.1.1 e.1.2.1 e.1.2.2.1 e.1.2.2.2.1) = [585, 600, 581, 744, 480, 589, 158, 496, 544, 577, 464, 500, 608, 769, 976, 789].filterMap (fun i => lw_tbl[i]?) := rfl
theorem pk_1 : ∀ e ∈ pl_1, e.2.all (fun c => c.all (fun q => decide (decode e.1.2.1 q.1 = .ok q.2))) = true := List.forall_mem_cons.mpr ⟨imk_16, List.forall_mem_cons.mpr ⟨imk_17, List.forall_mem_cons.mpr ⟨imk_18, List.forall_mem_cons.mpr ⟨imk_19, List.forall_mem_cons.mpr ⟨imk_20, List.forall_mem_cons.mpr ⟨imk_21, List.forall_mem_cons.mpr ⟨imk_22, List.forall_mem_cons.mpr ⟨imk_23, List.forall_mem_cons.mpr ⟨imk_24, List.forall_mem_cons.mpr ⟨imk_25, List.forall_mem_cons.mpr ⟨imk_26, List.forall_mem_cons.mpr ⟨imk_27, List.forall_mem_cons.mpr ⟨imk_28, List.forall_mem_cons.mpr ⟨imk_29, List.forall_mem_cons.mpr ⟨imk_30, List.forall_mem_cons.mpr ⟨imk_31, fun _ h => absurd h List.not_mem_nil⟩⟩⟩⟩⟩⟩⟩⟩⟩⟩⟩⟩⟩⟩⟩⟩
set_option maxRecDepth 100000 in
theorem pc_2 : pl_2.map (fun e => Cond.code e.1.1 e.1.2.1 e.1.2.2.1 e.1.2.2.2.1) = [1040, 1031, 1036, 1048, 565, 927, 1014, 604, 642, 686, 678, 682, 861, 306, 809, 813].filterMap (fun i => lw_tbl[i]?) := rfl
theorem pk_2 : ∀ e ∈ pl_2, e.2.all (fun c => c.all (fun q => decide (decode e.1.2.1 q.1 = .ok q.2))) = true := List.forall_mem_cons.mpr ⟨imk_32, List.forall_mem_cons.mpr ⟨imk_33, List.forall_mem_cons.mpr ⟨imk_34, List.forall_mem_cons.mpr ⟨imk_35, List.forall_mem_cons.mpr ⟨imk_36, List.forall_mem_cons.mpr ⟨imk_37, List.forall_mem_cons.mpr ⟨imk_38, List.forall_mem_cons.mpr ⟨imk_39, List.forall_mem_cons.mpr ⟨imk_40, List.forall_mem_cons.mpr ⟨imk_41, List.forall_mem_cons.mpr ⟨imk_42, List.forall_mem_cons.mpr ⟨imk_43, List.forall_mem_cons.mpr ⟨imk_44, List.forall_mem_cons.mpr ⟨imk_45, List.forall_mem_cons.mpr ⟨imk_46, List.forall_mem_cons.mpr ⟨imk_47, fun _ h => absurd h List.not_mem_nil⟩⟩⟩⟩⟩⟩⟩⟩⟩⟩⟩⟩⟩⟩⟩⟩
set_option maxRecDepth 100000 in
theorem pc_3 : pl_3.map (fun e => Cond.code e.1.1 e.1.2.1 e.1.2.2.1 e.1.2.2.2.1) = [819, 825, 833, 837, 142, 662, 666, 793, 658, 273, 508, 278, 282, 520, 512, 536].filterMap (fun i => lw_tbl[i]?) := rfl
theorem pk_3 : ∀ e ∈ pl_3, e.2.all (fun c => c.all (fun q => decide (decode e.1.2.1 q.1 = .ok q.2))) = true := List.forall_mem_cons.mpr ⟨imk_48, List.forall_mem_cons.mpr ⟨imk_49, List.forall_mem_cons.mpr ⟨imk_50, List.forall_mem_cons.mpr ⟨imk_51, List.forall_mem_cons.mpr ⟨imk_52, List.forall_mem_cons.mpr ⟨imk_53, List.forall_mem_cons.mpr ⟨imk_54, List.forall_mem_cons.mpr ⟨imk_55, List.forall_mem_cons.mpr ⟨imk_56, List.forall_mem_cons.mpr ⟨imk_57, List.forall_mem_cons.mpr ⟨imk_58, List.forall_mem_cons.mpr ⟨imk_59, List.forall_mem_cons.mpr ⟨imk_60, List.forall_mem_cons.mpr ⟨imk_61, List.forall_mem_cons.mpr ⟨imk_62, List.forall_mem_cons.mpr ⟨imk_63, fun _ h => absurd h List.not_mem_nil⟩⟩⟩⟩⟩⟩⟩⟩⟩⟩⟩⟩⟩⟩⟩⟩
set_option maxRecDepth 100000 in
theorem pc_4 : pl_4.map (fun e => Cond.code e.1.1 e.1.2.1 e.1.2.2.1 e.1.2.2.2.1) = [516, 525, 529, 533, 622, 626, 630, 633, 208, 593, 618, 638, 653, 647, 126, 440].filterMap (fun i => lw_tbl[i]?) := rfl
theorem pk_4 : ∀ e ∈ pl_4, e.2.all (fun c => c.all (fun q => decide (decode e.1.2.1 q.1 = .ok q.2))) = true := List.forall_mem_cons.mpr ⟨imk_64, List.forall_mem_cons.mpr ⟨imk_65, List.forall_mem_cons.mpr ⟨imk_66, List.forall_mem_cons.mpr ⟨imk_67, List.forall_mem_cons.mpr ⟨imk_68, List.forall_mem_cons.mpr ⟨imk_69, List.forall_mem_cons.mpr ⟨imk_70, List.forall_mem_cons.mpr ⟨imk_71, List.forall_mem_cons.mpr ⟨imk_72, List.forall_mem_cons.mpr ⟨imk_73, List.forall_mem_cons.mpr ⟨imk_74, List.forall_mem_cons.mpr ⟨imk_75, List.forall_mem_cons.mpr ⟨imk_76, List.forall_mem_cons.mpr ⟨imk_77, List.forall_mem_cons.mpr ⟨imk_78, List.forall_mem_cons.mpr ⟨imk_79, fun _ h => absurd h List.not_mem_nil⟩⟩⟩⟩⟩⟩⟩⟩⟩⟩⟩⟩⟩⟩⟩⟩
set_option maxRecDepth 100000 in
theorem pc_5 : pl_5.map (fun e => Cond.code e.1.1 e.1.2.1 e.1.2.2.1 e.1.2.2.2.1) = [460, 456, 342, 765, 775, 118, 436, 444, 448, 484, 504, 1056, 1127, 1134, 540, 549].filterMap (fun i => lw_tbl[i]?) := rfl
theorem pk_5 : ∀ e ∈ pl_5, e.2.all (fun c => c.all (fun q => decide (decode e.1.2.1 q.1 = .ok q.2))) = true := List.forall_mem_cons.mpr ⟨imk_80, List.forall_mem_cons.mpr ⟨imk_81, List.forall_mem_cons.mpr ⟨imk_82, List.forall_mem_cons.mpr ⟨imk_83, List.forall_mem_cons.mpr ⟨imk_84, List.forall_mem_cons.mpr ⟨imk_85, List.forall_mem_cons.mpr ⟨imk_86, List.forall_mem_cons.mpr ⟨imk_87, List.forall_mem_cons.mpr ⟨imk_88, List.forall_mem_cons.mpr ⟨imk_89, List.forall_mem_cons.mpr ⟨imk_90, List.forall_mem_cons.mpr ⟨imk_91, List.forall_mem_cons.mpr ⟨imk_92, List.forall_mem_cons.mpr ⟨imk_93, List.forall_mem_cons.mpr ⟨imk_94, List.forall_mem_cons.mpr ⟨imk_95, fun _ h => absurd h List.not_mem_nil⟩⟩⟩⟩⟩⟩⟩⟩⟩⟩⟩⟩⟩⟩⟩⟩
set_option maxRecDepth 100000 in
theorem pc_6 : pl_6.map (fun e => Cond.code e.1.1 e.1.2.1 e.1.2.2.1 e.1.2.2.2.1) = [569, 670, 691, 703, 711, 740, 748, 752, 756, 761, 785, 797, 805, 829, 842, 856].filterMap (fun i => lw_tbl[i]?) := rfl
theorem pk_6 : ∀ e ∈ pl_6, e.2.all (fun c => c.all (fun q => decide (decode e.1.2.1 q.1 = .ok q.2))) = true := List.forall_mem_cons.mpr ⟨imk_96, List.forall_mem_cons.mpr ⟨imk_97, List.forall_mem_cons.mpr ⟨imk_98, List.forall_mem_cons.mpr ⟨imk_99, List.forall_mem_cons.mpr ⟨imk_100, List.forall_mem_cons.mpr ⟨imk_101, List.forall_mem_cons.mpr ⟨imk_102, List.forall_mem_cons.mpr ⟨imk_103, List.forall_mem_cons.mpr ⟨imk_104, List.forall_mem_cons.mpr ⟨imk_105, List.forall_mem_cons.mpr ⟨imk_106, List.forall_mem_cons.mpr ⟨imk_107, List.forall_mem_cons.mpr ⟨imk_108, List.forall_mem_cons.mpr ⟨imk_109, List.forall_mem_cons.mpr ⟨imk_110, List.forall_mem_cons.mpr ⟨imk_111, fun _ h => absurd h List.not_mem_nil⟩⟩⟩⟩⟩⟩⟩⟩⟩⟩⟩⟩⟩⟩⟩⟩
set_option maxRecDepth 100000 in
theorem pc_7 : pl_7.map (fun e => Cond.code e.1.1 e.1.2.1 e.1.2.2.1 e.1.2.2.2.1) = [868, 873, 887, 902, 919, 931, 939, 950, 954, 972, 981, 989, 999, 1019, 1023, 1027].filterMap (fun i => lw_tbl[i]?) := rfl
theorem pk_7 : ∀ e ∈ pl_7, e.2.all (fun c => c.all (fun q => decide (decode e.1.2.1 q.1 = .ok q.2))) = true := List.forall_mem_cons.mpr ⟨imk_112, List.forall_mem_cons.mpr ⟨imk_113, List.forall_mem_cons.mpr ⟨imk_114, List.forall_mem_cons.mpr ⟨imk_115, List.forall_mem_cons.mpr ⟨imk_116, List.forall_mem_cons.mpr ⟨imk_117, List.forall_mem_cons.mpr ⟨imk_118, List.forall_mem_cons.mpr ⟨imk_119, List.forall_mem_cons.mpr ⟨imk_120, List.forall_mem_cons.mpr ⟨imk_121, List.forall_mem_cons.mpr ⟨imk_122, List.forall_mem_cons.mpr ⟨imk_123, List.forall_mem_cons.mpr ⟨imk_124, List.forall_mem_cons.mpr ⟨imk_125, List.forall_mem_cons.mpr ⟨imk_126, List.forall_mem_cons.mpr ⟨imk_127, fun _ h => absurd h List.not_mem_nil⟩⟩⟩⟩⟩⟩⟩⟩⟩⟩⟩⟩⟩⟩⟩⟩
set_option maxRecDepth 100000 in
theorem pc_8 : pl_8.map (fun e => Cond.code e.1.1 e.1.2.1 e.1.2.2.1 e.1.2.2.2.1) = [1142, 452, 488, 492, 469, 476, 715, 718, 573, 695, 699, 707, 674, 723, 727, 731].filterMap (fun i => lw_tbl[i]?) := rfl
theorem pk_8 : ∀ e ∈ pl_8, e.2.all (fun c => c.all (fun q => decide (decode e.1.2.1 q.1 = .ok q.2))) = true := List.forall_mem_cons.mpr ⟨imk_128, List.forall_mem_cons.mpr ⟨imk_129, List.forall_mem_cons.mpr ⟨imk_130, List.forall_mem_cons.mpr ⟨imk_131, List.forall_mem_cons.mpr ⟨imk_132, List.forall_mem_cons.mpr ⟨imk_133, List.forall_mem_cons.mpr ⟨imk_134, List.forall_mem_cons.mpr ⟨imk_135, List.forall_mem_cons.mpr ⟨imk_136, List.forall_mem_cons.mpr ⟨imk_137, List.forall_mem_cons.mpr ⟨imk_138, List.forall_mem_cons.mpr ⟨imk_139, List.forall_mem_cons.mpr ⟨imk_140, List.forall_mem_cons.mpr ⟨imk_141, List.forall_mem_cons.mpr ⟨imk_142, List.forall_mem_cons.mpr ⟨imk_143, fun _ h => absurd h List.not_mem_nil⟩⟩⟩⟩⟩⟩⟩⟩⟩⟩⟩⟩⟩⟩⟩⟩
set_option maxRecDepth 100000 in
theorem pc_9 : pl_9.map (fun e => Cond.code e.1.1 e.1.2.1 e.1.2.2.1 e.1.2.2.2.1) = [735, 1010, 801, 923, 935, 985, 849, 852, 845, 992, 995, 1002, 1006, 552, 864, 555].filterMap (fun i => lw_tbl[i]?) := rfl
theorem pk_9 : ∀ e ∈ pl_9, e.2.all (fun c => c.all (fun q => decide (decode e.1.2.1 q.1 = .ok q.2))) = true := List.forall_mem_cons.mpr ⟨imk_144, List.forall_mem_cons.mpr ⟨imk_145, List.forall_mem_cons.mpr ⟨imk_146, List.forall_mem_cons.mpr ⟨imk_147, List.forall_mem_cons.mpr ⟨imk_148, List.forall_mem_cons.mpr ⟨imk_149, List.forall_mem_cons.mpr ⟨imk_150, List.forall_mem_cons.mpr ⟨imk_151, List.forall_mem_cons.mpr ⟨imk_152, List.forall_mem_cons.mpr ⟨imk_153, List.forall_mem_cons.mpr ⟨imk_154, List.forall_mem_cons.mpr ⟨imk_155, List.forall_mem_cons.mpr ⟨imk_156, List.forall_mem_cons.mpr ⟨imk_157, List.forall_mem_cons.mpr ⟨imk_158, List.forall_mem_cons.mpr ⟨imk_159, fun _ h => absurd h List.not_mem_nil⟩⟩⟩⟩⟩⟩⟩⟩⟩⟩⟩⟩⟩⟩⟩⟩
set_option maxRecDepth 100000 in
theorem pc_10 : pl_10.map (fun e => Cond.code e.1.1 e.1.2.1 e.1.2.2.1 e.1.2.2.2.1) = [472, 1147, 1476, 1326, 1527, 1360, 1684, 1588, 1469, 1521, 1512, 1490, 1504, 1524, 1480, 1487].filterMap (fun i => lw_tbl[i]?) := rfl
theorem pk_10 : ∀ e ∈ pl_10, e.2.all (fun c => c.all (fun q => decide (decode e.1.2.1 q.1 = .ok q.2))) = true := List.forall_mem_cons.mpr ⟨imk_160, List.forall_mem_cons.mpr ⟨imk_161, List.forall_mem_cons.mpr ⟨imk_162, List.forall_mem_cons.mpr ⟨imk_163, List.forall_mem_cons.mpr ⟨imk_164, List.forall_mem_cons.mpr ⟨imk_165, List.forall_mem_cons.mpr ⟨imk_166, List.forall_mem_cons.mpr ⟨imk_167, List.forall_mem_cons.mpr ⟨imk_168, List.forall_mem_cons.mpr ⟨imk_169, List.forall_mem_cons.mpr ⟨imk_170, List.forall_mem_cons.mpr ⟨imk_171, List.forall_mem_cons.mpr ⟨imk_172, List.forall_mem_cons.mpr ⟨imk_173, List.forall_mem_cons.mpr ⟨imk_174, List.forall_mem_cons.mpr ⟨imk_175, fun _ h => absurd h List.not_mem_nil⟩⟩⟩⟩⟩⟩⟩⟩⟩⟩⟩⟩⟩⟩⟩⟩
set_option maxRecDepth 100000 in
theorem pc_11 : pl_11.map (fun e => Cond.code e.1.1 e.1.2.1 e.1.2.2.1 e.1.2.2.2.1) = [1497, 1542, 1319, 1323, 1334, 1357, 1351, 1405, 1347, 1343, 1364, 1339, 1330, 1368, 1372, 1380].filterMap (fun i => lw_tbl[i]?) := rfl
theorem pk_11 : ∀ e ∈ pl_11, e.2.all (fun c => c.all (fun q => decide (decode e.1.2.1 q.1 = .ok q.2))) = true := List.forall_mem_cons.mpr ⟨imk_176, List.forall_mem_cons.mpr ⟨imk_177, List.forall_mem_cons.mpr ⟨imk_178, List.forall_mem_cons.mpr ⟨imk_179, List.forall_mem_cons.mpr ⟨imk_180, List.forall_mem_cons.mpr ⟨imk_181, List.forall_mem_cons.mpr ⟨imk_182, List.forall_mem_cons.mpr ⟨imk_183, List.forall_mem_cons.mpr ⟨imk_184, List.forall_mem_cons.mpr ⟨imk_185, List.forall_mem_cons.mpr ⟨imk_186, List.forall_mem_cons.mpr ⟨imk_187, List.forall_mem_cons.mpr ⟨imk_188, List.forall_mem_cons.mpr ⟨imk_189, List.forall_mem_cons.mpr ⟨imk_190, List.forall_mem_cons.mpr ⟨imk_191, fun _ h => absurd h List.not_mem_nil⟩⟩⟩⟩⟩⟩⟩⟩⟩⟩⟩⟩⟩⟩⟩⟩
set_option maxRecDepth 100000 in
theorem pc_12 : pl_12.map (fun e => Cond.code e.1.1 e.1.2.1 e.1.2.2.1 e.1.2.2.2.1) = [1376, 1400, 1396, 1392, 1388, 1460, 1384, 1570, 1567, 1562, 1484, 1494, 1501, 1709, 1465, 1508].filterMap (fun i => lw_tbl[i]?) := rfl
theorem pk_12 : ∀ e ∈ pl_12, e.2.all (fun c => c.all (fun q => decide (decode e.1.2.1 q.1 = .ok q.2))) = true := List.forall_mem_cons.mpr ⟨imk_192, List.forall_mem_cons.mpr ⟨imk_193, List.forall_mem_cons.mpr ⟨imk_194, List.forall_mem_cons.mpr ⟨imk_195, List.forall_mem_cons.mpr ⟨imk_196, List.forall_mem_cons.mpr ⟨imk_197, List.forall_mem_cons.mpr ⟨imk_198, List.forall_mem_cons.mpr ⟨imk_199, List.forall_mem_cons.mpr ⟨imk_200, List.forall_mem_cons.mpr ⟨imk_201, List.forall_mem_cons.mpr ⟨imk_202, List.forall_mem_cons.mpr ⟨imk_203, List.forall_mem_cons.mpr ⟨imk_204, List.forall_mem_cons.mpr ⟨imk_205, List.forall_mem_cons.mpr ⟨imk_206, List.forall_mem_cons.mpr ⟨imk_207, fun _ h => absurd h List.not_mem_nil⟩⟩⟩⟩⟩⟩⟩⟩⟩⟩⟩⟩⟩⟩⟩⟩
set_option maxRecDepth 100000 in
theorem pc_13 : pl_13.map (fun e => Cond.code e.1.1 e.1.2.1 e.1.2.2.1 e.1.2.2.2.1) = [1517, 1531, 1536, 1554, 1584, 1580, 1546, 1576, 1573, 1558, 1601, 1597, 1609, 1618, 1550, 1592].filterMap (fun i => lw_tbl[i]?) := rfl
theorem pk_13 : ∀ e ∈ pl_13, e.2.all (fun c => c.all (fun q => decide (decode e.1.2.1 q.1 = .ok q.2))) = true := List.forall_mem_cons.mpr ⟨imk_208, List.forall_mem_cons.mpr ⟨imk_209, List.forall_mem_cons.mpr ⟨imk_210, List.forall_mem_cons.mpr ⟨imk_211, List.forall_mem_cons.mpr ⟨imk_212, List.forall_mem_cons.mpr ⟨imk_213, List.forall_mem_cons.mpr ⟨imk_214, List.forall_mem_cons.mpr ⟨imk_215, List.forall_mem_cons.mpr ⟨imk_216, List.forall_mem_cons.mpr ⟨imk_217, List.forall_mem_cons.mpr ⟨imk_218, List.forall_mem_cons.mpr ⟨imk_219, List.forall_mem_cons.mpr ⟨imk_220, List.forall_mem_cons.mpr ⟨imk_221, List.forall_mem_cons.mpr ⟨imk_222, List.forall_mem_cons.mpr ⟨imk_223, fun _ h => absurd h List.not_mem_nil⟩⟩⟩⟩⟩⟩⟩⟩⟩⟩⟩⟩⟩⟩⟩⟩
set_option maxRecDepth 100000 in
theorem pc_14 : pl_14.map (fun e => Cond.code e.1.1 e.1.2.1 e.1.2.2.1 e.1.2.2.2.1) = [1605, 1614, 1626, 1631, 1622, 1648, 1635, 1639, 1644, 1656, 1652, 1660, 1664, 1672, 1668, 1676].filterMap (fun i => lw_tbl[i]?) := rfl
theorem pk_14 : ∀ e ∈ pl_14, e.2.all (fun c => c.all (fun q => decide (decode e.1.2.1 q.1 = .ok q.2))) = true := List.forall_mem_cons.mpr ⟨imk_224, List.forall_mem_cons.mpr ⟨imk_225, List.forall_mem_cons.mpr ⟨imk_226, List.forall_mem_cons.mpr ⟨imk_227, List.forall_mem_cons.mpr ⟨imk_228, List.forall_mem_cons.mpr ⟨imk_229, List.forall_mem_cons.mpr ⟨imk_230, List.forall_mem_cons.mpr ⟨imk_231, List.forall_mem_cons.mpr ⟨imk_232, List.forall_mem_cons.mpr ⟨imk_233, List.forall_mem_cons.mpr ⟨imk_234, List.forall_mem_cons.mpr ⟨imk_235, List.forall_mem_cons.mpr ⟨imk_236, List.forall_mem_cons.mpr ⟨imk_237, List.forall_mem_cons.mpr ⟨imk_238, List.forall_mem_cons.mpr ⟨imk_239, fun _ h => absurd h List.not_mem_nil⟩⟩⟩⟩⟩⟩⟩⟩⟩⟩⟩⟩⟩⟩⟩⟩
set_option maxRecDepth 100000 in
theorem pc_15 : pl_15.map (fun e => Cond.code e.1.1 e.1.2.1 e.1.2.2.1 e.1.2.2.2.1) = [1681, 1692, 1688, 1700, 1704, 1713, 1721, 1717, 1729, 1725, 1733, 1737, 1741, 1753, 1749, 1745].filterMap (fun i => lw_tbl[i]?) := rfl
theorem pk_15 : ∀ e ∈ pl_15, e.2.all (fun c => c.all (fun q => decide (decode e.1.2.1 q.1 = .ok q.2))) = true := List.forall_mem_cons.mpr ⟨imk_240, List.forall_mem_cons.mpr ⟨imk_241, List.forall_mem_cons.mpr ⟨imk_242, List.forall_mem_cons.mpr ⟨imk_243, List.forall_mem_cons.mpr ⟨imk_244, List.forall_mem_cons.mpr ⟨imk_245, List.forall_mem_cons.mpr ⟨imk_246, List.forall_mem_cons.mpr ⟨imk_247, List.forall_mem_cons.mpr ⟨imk_248, List.forall_mem_cons.mpr ⟨imk_249, List.forall_mem_cons.mpr ⟨imk_250, List.forall_mem_cons.mpr ⟨imk_251, List.forall_mem_cons.mpr ⟨imk_252, List.forall_mem_cons.mpr ⟨imk_253, List.forall_mem_cons.mpr ⟨imk_254, List.forall_mem_cons.mpr ⟨imk_255, fun _ h => absurd h List.not_mem_nil⟩⟩⟩⟩⟩⟩⟩⟩⟩⟩⟩⟩⟩⟩⟩⟩
set_option maxRecDepth 100000 in
theorem pc_16 : pl_16.map (fun e => Cond.code e.1.1 e.1.2.1 e.1.2.2.1 e.1.2.2.2.1) = [1757, 1765, 1761, 1776, 1773, 1769, 1784, 1780, 1789, 1793, 1801, 1797, 1805, 1695, 611].filterMap (fun i => lw_tbl[i]?) := rfl
theorem pk_16 : ∀ e ∈ pl_16, e.2.all (fun c => c.all (fun q => decide (decode e.1.2.1 q.1 = .ok q.2))) = true := List.forall_mem_cons.mpr ⟨imk_256, List.forall_mem_cons.mpr ⟨imk_257, List.forall_mem_cons.mpr ⟨imk_258, List.forall_mem_cons.mpr ⟨imk_259, List.forall_mem_cons.mpr ⟨imk_260, List.forall_mem_cons.mpr ⟨imk_261, List.forall_mem_cons.mpr ⟨imk_262, List.forall_mem_cons.mpr ⟨imk_263, List.forall_mem_cons.mpr ⟨imk_264, List.forall_mem_cons.mpr ⟨imk_265, List.forall_mem_cons.mpr ⟨imk_266, List.forall_mem_cons.mpr ⟨imk_267, List.forall_mem_cons.mpr ⟨imk_268, List.forall_mem_cons.mpr ⟨imk_269, List.forall_mem_cons.mpr ⟨imk_270, fun _ h => absurd h List.not_mem_nil⟩⟩⟩⟩⟩⟩⟩⟩⟩⟩⟩⟩⟩⟩⟩
theorem pd_code_of {l : List (pm_M × pd_I)} {ps : List Nat} (h : l.map (fun e => Cond.code e.1.1 e.1.2.1 e.1.2.2.1 e.1.2.2.2.1) = ps.filterMap (fun i => lw_tbl[i]?)) : ∀ e ∈ l, Cond.code e.1.1 e.1.2.1 e.1.2.2.1 e.1.2.2.2.1 ∈ PG := by
  intro e he
  have h1 : Cond.code e.1.1 e.1.2.1 e.1.2.2.1 e.1.2.2.2.1 ∈ l.map (fun e => Cond.code e.1.1 e.1.2.1 e.1.2.2.1 e.1.2.2.2.1) := List.mem_map.mpr ⟨e, he, rfl⟩
  rw [h] at h1
  obtain ⟨i, -, hi⟩ := List.mem_filterMap.mp h1
  exact pd_w hi rfl
theorem pd_codes : ∀ l ∈ pd_L, ∀ e ∈ l, Cond.code e.1.1 e.1.2.1 e.1.2.2.1 e.1.2.2.2.1 ∈ PG := List.forall_mem_cons.mpr ⟨pd_code_of pc_0, List.forall_mem_cons.mpr ⟨pd_code_of pc_1, List.forall_mem_cons.mpr ⟨pd_code_of pc_2, List.forall_mem_cons.mpr ⟨pd_code_of pc_3, List.forall_mem_cons.mpr ⟨pd_code_of pc_4, List.forall_mem_cons.mpr ⟨pd_code_of pc_5, List.forall_mem_cons.mpr ⟨pd_code_of pc_6, List.forall_mem_cons.mpr ⟨pd_code_of pc_7, List.forall_mem_cons.mpr ⟨pd_code_of pc_8, List.forall_mem_cons.mpr ⟨pd_code_of pc_9, List.forall_mem_cons.mpr ⟨pd_code_of pc_10, List.forall_mem_cons.mpr ⟨pd_code_of pc_11, List.forall_mem_cons.mpr ⟨pd_code_of pc_12, List.forall_mem_cons.mpr ⟨pd_code_of pc_13, List.forall_mem_cons.mpr ⟨pd_code_of pc_14, List.forall_mem_cons.mpr ⟨pd_code_of pc_15, List.forall_mem_cons.mpr ⟨pd_code_of pc_16, fun _ h => absurd h List.not_mem_nil⟩⟩⟩⟩⟩⟩⟩⟩⟩⟩⟩⟩⟩⟩⟩⟩⟩
theorem pd_decs : ∀ l ∈ pd_L, ∀ e ∈ l, e.2.all (fun c => c.all (fun q => decide (decode e.1.2.1 q.1 = .ok q.2))) = true := List.forall_mem_cons.mpr ⟨pk_0, List.forall_mem_cons.mpr ⟨pk_1, List.forall_mem_cons.mpr ⟨pk_2, List.forall_mem_cons.mpr ⟨pk_3, List.forall_mem_cons.mpr ⟨pk_4, List.forall_mem_cons.mpr ⟨pk_5, List.forall_mem_cons.mpr ⟨pk_6, List.forall_mem_cons.mpr ⟨pk_7, List.forall_mem_cons.mpr ⟨pk_8, List.forall_mem_cons.mpr ⟨pk_9, List.forall_mem_cons.mpr ⟨pk_10, List.forall_mem_cons.mpr ⟨pk_11, List.forall_mem_cons.mpr ⟨pk_12, List.forall_mem_cons.mpr ⟨pk_13, List.forall_mem_cons.mpr ⟨pk_14, List.forall_mem_cons.mpr ⟨pk_15, List.forall_mem_cons.mpr ⟨pk_16, fun _ h => absurd h List.not_mem_nil⟩⟩⟩⟩⟩⟩⟩⟩⟩⟩⟩⟩⟩⟩⟩⟩⟩
theorem pd_at_mem {k : Nat} {e : pm_M × pd_I} (h : pd_at k = some e) : ∃ l ∈ pd_L, e ∈ l := by
  unfold pd_at at h
  split at h
  · rename_i c e1
    exact ⟨c, pm_nth_mem e1, pm_nth_mem h⟩
  · cases h
theorem pm_nth_get {α : Type} : ∀ (l : List α) (n : Nat), pm_nth l n = l[n]?
  | [], n => by simp [pm_nth]
  | x :: r, 0 => by simp [pm_nth]
  | x :: r, n + 1 => by rw [pm_nth, pm_nth_get r n]; simp
theorem pd_ct {α : Type} (a b : α) : cond true a b = a := rfl
theorem pd_cf {α : Type} (a b : α) : cond false a b = b := rfl
theorem pd_at_a2 {k : Nat} {e : pm_M × pd_I} (h : pd_at k = some e) : pd_a2 k = some e := by
  unfold pd_a2
  cases hb : Nat.ble 1000 k with
  | false => exact h
  | true =>
    have hk := Nat.le_of_ble_eq_true hb
    have h2 : pm_nth pd_L (k / 16) = none := by
      rw [pm_nth_get]
      exact List.getElem?_eq_none (Nat.le_trans (show pd_L.length ≤ 62 by decide) (by omega))
    unfold pd_at at h
    rw [h2] at h
    cases h
theorem pd_lw_ok : ∀ e ∈ pd_lw, e.2.all (fun c => c.all (fun q => decide (decode e.1.2.1 q.1 = .ok q.2))) = true := List.forall_mem_cons.mpr ⟨imkL_law, List.forall_mem_cons.mpr ⟨imkL_court, List.forall_mem_cons.mpr ⟨imkL_between, List.forall_mem_cons.mpr ⟨imkL_gift, List.forall_mem_cons.mpr ⟨imkL_row, fun _ h => absurd h List.not_mem_nil⟩⟩⟩⟩⟩
theorem pd_a2_ok {k : Nat} {e : pm_M × pd_I} (h : pd_a2 k = some e) : e.2.all (fun c => c.all (fun q => decide (decode e.1.2.1 q.1 = .ok q.2))) = true := by
  unfold pd_a2 at h
  cases hb : Nat.ble 1000 k with
  | true =>
    rw [hb, pd_ct] at h
    exact pd_lw_ok e (pm_nth_mem h)
  | false =>
    rw [hb, pd_cf] at h
    obtain ⟨l, hl, hm⟩ := pd_at_mem h
    exact pd_decs l hl e hm
theorem pd_ins_ok (k pc : Nat) (i : Instr) (len : Nat) (h : pm_ins PT k pc = some (i, len)) : decode (pm_code PT k) pc = .ok (i, len) := by
  have h : pd_ins k pc = some (i, len) := h
  show decode (pd_m k).2.1 pc = .ok (i, len)
  unfold pd_ins at h
  unfold pd_m
  cases he : pd_a2 k with
  | none => rw [he] at h; cases h
  | some e =>
    rw [he] at h
    dsimp only at h ⊢
    have hd := pd_a2_ok he
    unfold pm_ch at h
    split at h
    · rename_i c e1
      have h1 := List.all_eq_true.mp hd c (pm_nth_mem e1)
      exact of_decide_eq_true (List.all_eq_true.mp h1 (pc, i, len) (pm_fd_mem h))
    · cases h
def pd_ipL : List Nat := [101, 99, 96, 94, 98, 93, 97, 95, 92, 100, 91, 102, 113, 90]
/-- of an owner: it is initialised, its name is a plain one -/
def pd_chkO (o : Nat) (p : Nat) : Bool := pd_tb p (.initialized (pd_own o)) && plainName (pd_own o) && decide (pd_own o ≠ "java/lang/invoke/MethodHandle") && decide (pd_own o ≠ "java/lang/invoke/VarHandle")
theorem pd_O : pm_allI pd_chkO 0 pd_ipL = true := by decide +kernel
/-- of a method: its owner is its class -/
def pd_chkE (e : pm_M × pd_I) : Bool := decide (pd_own e.1.2.2.2.2.1 = e.1.1.cls) && (pm_nth pd_ipL e.1.2.2.2.2.1).isSome && (cond (Nat.ble 100 e.1.2.2.2.2.2.2) (decide (e.1.1.name = "<init>")) true)
theorem pd_E : pd_L.all (fun l => l.all pd_chkE) = true := by decide +kernel
theorem pd_okM {t : Nat} {e : pm_M × pd_I} (h : pd_at t = some e) : pm_okM PT PG t := by
  obtain ⟨l, hl, hm⟩ := pd_at_mem h
  have hc := pd_codes l hl e hm
  have hE := List.all_eq_true.mp (List.all_eq_true.mp pd_E l hl) e hm
  unfold pd_chkE at hE
  obtain ⟨hE1, hE3⟩ := Bool.and_eq_true_iff.mp hE
  obtain ⟨hE1, hE2⟩ := Bool.and_eq_true_iff.mp hE1
  have hE1 := of_decide_eq_true hE1
  obtain ⟨q, hq⟩ := Option.isSome_iff_exists.mp hE2
  have hO := pm_allI_at pd_O hq
  rw [Nat.zero_add] at hO
  unfold pd_chkO at hO
  obtain ⟨hO, o4⟩ := Bool.and_eq_true_iff.mp hO
  obtain ⟨hO, o3⟩ := Bool.and_eq_true_iff.mp hO
  obtain ⟨o1, o2⟩ := Bool.and_eq_true_iff.mp hO
  have em : pm_m PT t = e.1 := by
    show pd_m t = e.1
    unfold pd_m
    rw [pd_at_a2 h]
  unfold pm_okM pm_y pm_code pm_max pm_ret pm_o pm_init
  rw [em]
  refine ⟨by rw [← hE1]; exact o2, hE1, hc, by rw [← hE1]; exact pd_tb_in o1, ⟨by rw [← hE1]; exact of_decide_eq_true o3, by rw [← hE1]; exact of_decide_eq_true o4⟩, fun hi => ?_⟩
  rw [hi] at hE3
  exact of_decide_eq_true hE3
def pd_lay : List (List Nat) := [[381, 383, 385, 387], [329, 331, 333, 335], [262, 264, 266], [184, 186, 188, 190, 192, 194, 196, 198, 200], [311, 313, 315], [148, 150], [289, 291, 293, 295, 297, 299], [234, 236, 238, 240, 242, 244, 246], [132, 134], [353, 355, 357, 359, 361, 363, 365, 367], [404, 406, 408, 410, 412, 414, 416, 418, 420, 422, 424, 426, 428, 430], [1204, 1206, 1208, 1210, 1212, 1214, 1216, 1218, 1220, 1222, 1224, 1226, 1228, 1230, 1232, 1234, 1236, 1238, 1240, 1242, 1244, 1246, 1248, 1250, 1252, 1254, 1256, 1258, 1260, 1262, 1264, 1266, 1268, 1270, 1272, 1274, 1276, 1278, 1280, 1282, 1284, 1286, 1288, 1290, 1292, 1294, 1296, 1298, 1300, 1302, 1304, 1306, 1308, 1310, 1312]]
/-- of a class: its fields' words lie in the tables, its fields' types are right, its fields' names differ -/
def pd_chkC (c : Nat) (ps : List Nat) : Bool := match pm_nth vwCl c, pm_nth pd_tyL c with
  | some q, some ty => decide (u_ws q.1 q.2.1 q.2.2 = ps.filterMap (fun i => lw_tbl[i]?)) && (u_ws q.1 q.2.1 q.2.2).all goodWord && (List.range q.2.2).all (fun k => decide (parseFieldDescriptor (q.2.1 k).2.2.1 = some (ty k)) && decide (defaultValue (ty k) = vp_V (pd_df c) k)) && decide ((pd_df c).length = q.2.2)
  | _, _ => false
set_option maxRecDepth 100000 in
theorem pd_C : pm_allI pd_chkC 0 pd_lay = true := by decide +kernel

theorem pd_nmd : ∀ (c : Nat) (q : vw_C), vwCl[c]? = some q → ∀ a, a < q.2.2 → ∀ b, b < q.2.2 → a ≠ b → (q.2.1 a).2.1 ≠ (q.2.1 b).2.1 := by
  intro c q h
  match c, h with
  | 0, h => cases (Option.some.inj h : _ = q); exact nmX0
  | 1, h => cases (Option.some.inj h : _ = q); exact nmX1
  | 2, h => cases (Option.some.inj h : _ = q); exact nmX2
  | 3, h => cases (Option.some.inj h : _ = q); exact nmX3
  | 4, h => cases (Option.some.inj h : _ = q); exact nmX4
  | 5, h => cases (Option.some.inj h : _ = q); exact nmX5
  | 6, h => cases (Option.some.inj h : _ = q); exact nmX6
  | 7, h => cases (Option.some.inj h : _ = q); exact nmX7
  | 8, h => cases (Option.some.inj h : _ = q); exact nmX8
  | 9, h => cases (Option.some.inj h : _ = q); exact nmX9
  | 10, h => cases (Option.some.inj h : _ = q); exact nmX10
  | 11, h => cases (Option.some.inj h : _ = q); exact nmX11
  | c + 12, h => simp [vwCl] at h
theorem pd_refs : pd_dL.all (fun l => l.all (fun v => match v with | .ref _ => false | .retAddr _ => false | _ => true)) = true := by decide +kernel
theorem pd_noref (c : Nat) (aC : Nat → ClassId) (b : Nat) : (pd_df c).map (pm_tr aC b) = pd_df c := by
  unfold pd_df
  cases hc : pm_nth pd_dL c with
  | none => rfl
  | some l =>
    have h := List.all_eq_true.mp pd_refs l (pm_nth_mem hc)
    dsimp only
    have h2 : ∀ v ∈ l, pm_tr aC b v = id v := by
      intro v hv
      have h3 := List.all_eq_true.mp h v hv
      cases v <;> first | rfl | cases h3
    rw [List.map_congr_left h2, List.map_id]
def pd_kb (t : Nat) (ty : FieldType) : Bool := match t, ty with
  | 0, .int => true
  | 1, .long => true
  | 2, .object _ => true
  | 2, .array _ => true
  | 3, .boolean => true
  | _, _ => false
theorem pd_kb_ok {t : Nat} {ty : FieldType} (h : pd_kb t ty = true) : pm_kindOk t ty := by
  unfold pd_kb at h
  split at h
  · exact Or.inl ⟨rfl, rfl⟩
  · exact Or.inr (Or.inl ⟨rfl, rfl⟩)
  · exact Or.inr (Or.inr (Or.inl ⟨rfl, fun a => ⟨rfl, rfl⟩⟩))
  · exact Or.inr (Or.inr (Or.inl ⟨rfl, fun a => ⟨rfl, rfl⟩⟩))
  · exact Or.inr (Or.inr (Or.inr ⟨rfl, rfl⟩))
  · cases h
def pd_chkF (o : Nat) (e : Nat × (Nat × Nat × Nat) × Nat) : Bool := match pm_nth vwCl e.2.1.1, pm_nth pd_tyL e.2.1.1 with
  | some q, some ty => (pm_nth pd_lay e.2.1.1).isSome && (decide (e.2.1.2.1 < q.2.2) && (decide ((q.2.1 e.2.1.2.1).1 = q.1) && (pd_tb e.2.2 (.fieldLink (pd_own o) e.1 q.1 (q.2.1 e.2.1.2.1).2.1 (q.2.1 e.2.1.2.1).2.2.1) && (pd_kb (e.2.1.2.2 % 10) (ty e.2.1.2.1) && (cond (Nat.ble 10 e.2.1.2.2) (q.2.1 e.2.1.2.1).2.2.2 (!(q.2.1 e.2.1.2.1).2.2.2) && cond (Nat.ble 10 e.2.1.2.2 && Nat.ble e.2.1.2.2 19) (decide (pd_own o = q.1)) true)))))
  | _, _ => false
theorem pd_F : pm_allI (fun o l => l.all (pd_chkF o)) 0 pd_FL = true := by decide +kernel
theorem pd_classOf {c : Nat} {ps : List Nat} (hp : pm_nth pd_lay c = some ps) {q : vw_C} (hq : pm_nth vwCl c = some q) {ty : Nat → FieldType} (ht : pm_nth pd_tyL c = some ty) : (∀ w ∈ u_ws q.1 q.2.1 q.2.2, w ∈ PG) ∧ (∀ k, k < q.2.2 → parseFieldDescriptor (q.2.1 k).2.2.1 = some (ty k) ∧ defaultValue (ty k) = vp_V (pd_df c) k) ∧ (pd_df c).length = q.2.2 := by
  have h := pm_allI_at pd_C hp
  rw [Nat.zero_add] at h
  unfold pd_chkC at h
  rw [hq, ht] at h
  dsimp only at h
  obtain ⟨h, h4⟩ := Bool.and_eq_true_iff.mp h
  obtain ⟨h, h3⟩ := Bool.and_eq_true_iff.mp h
  obtain ⟨h1, h2⟩ := Bool.and_eq_true_iff.mp h
  have h1 := of_decide_eq_true h1
  refine ⟨fun w hw => ?_, fun k hk => ?_, of_decide_eq_true h4⟩
  · have hg := List.all_eq_true.mp h2 w hw
    rw [h1] at hw
    obtain ⟨i, -, hi⟩ := List.mem_filterMap.mp hw
    exact pd_w hi hg
  · have h5 := Bool.and_eq_true_iff.mp (List.all_eq_true.mp h3 k (List.mem_range.mpr hk))
    exact ⟨of_decide_eq_true h5.1, of_decide_eq_true h5.2⟩
theorem pd_okF : pm_okF PT PG := by
  intro o j ci f t h
  have h : pd_fld o j = some (ci, f, t) := h
  unfold pd_fld at h
  split at h
  case h_2 => cases h
  case h_1 l e1 =>
  obtain ⟨e, he, e2⟩ := Option.map_eq_some_iff.mp h
  have hc := pm_allI_at pd_F e1
  rw [Nat.zero_add] at hc
  have hc := List.all_eq_true.mp hc (j, e) (pm_fd_mem he)
  obtain ⟨⟨ci', f', t'⟩, pos⟩ := e
  cases e2
  unfold pd_chkF at hc
  dsimp only at hc
  split at hc
  case h_2 => cases hc
  case h_1 q ty q1 q2 =>
  obtain ⟨c0, hc⟩ := Bool.and_eq_true_iff.mp hc
  obtain ⟨c1, hc⟩ := Bool.and_eq_true_iff.mp hc
  obtain ⟨c2, hc⟩ := Bool.and_eq_true_iff.mp hc
  obtain ⟨c3, hc⟩ := Bool.and_eq_true_iff.mp hc
  obtain ⟨c4, hc⟩ := Bool.and_eq_true_iff.mp hc
  obtain ⟨c5, c6⟩ := Bool.and_eq_true_iff.mp hc
  obtain ⟨ps, hps⟩ := Option.isSome_iff_exists.mp c0
  obtain ⟨k1, k2, k3⟩ := pd_classOf hps q1 q2
  have hq : vwCl[ci]? = some q := by rw [← pm_nth_get]; exact q1
  refine ⟨q.1, q.2.1, q.2.2, ty, hq, of_decide_eq_true c1, of_decide_eq_true c2, k1, pd_tb_in c3, pd_nmd ci q hq, fun k hk => (k2 k hk).1, pd_kb_ok c4, fun ht => ?_, fun ht => ?_, fun ht ht2 => ?_⟩
  · have hb : Nat.ble 10 t = false := by
      cases hb : Nat.ble 10 t with
      | false => rfl
      | true => have := Nat.le_of_ble_eq_true hb; omega
    rw [hb] at c5
    simpa using c5
  · have hb : Nat.ble 10 t = true := Nat.ble_eq_true_of_le ht
    rw [hb] at c5
    exact c5
  · have hb : Nat.ble 10 t = true := Nat.ble_eq_true_of_le ht
    have hb2 : Nat.ble t 19 = true := Nat.ble_eq_true_of_le (by omega)
    rw [hb, hb2] at c6
    exact of_decide_eq_true c6
def pd_pr (t n : Nat) : Bool := decide ((parseMethodDescriptor (pm_y PT t).desc).map (fun d => d.parameters.length) = some n)
def pd_chkW (o : Nat) (e : Nat × (Nat × Nat) × List Nat) : Bool := match e.2.1.1, e.2.2 with
  | 0, [a, b, c] => (pd_at e.2.1.2).isSome && (pd_tb a (.methodLink (pd_own o) e.1 (pm_y PT e.2.1.2)) && (pd_tb b (.instanceMethod (pm_y PT e.2.1.2)) && (pd_tb c (.selects (pm_y PT e.2.1.2).cls (pm_y PT e.2.1.2) (pm_y PT e.2.1.2)) && (Nat.ble 1 (pm_na PT e.2.1.2) && (pd_pr e.2.1.2 (pm_na PT e.2.1.2 - 1) && (match pm_nth vwCl (pm_ci PT e.2.1.2) with
    | some q => decide (q.1 = (pm_y PT e.2.1.2).cls)
    | none => false))))))
  | 2, [a, b] => (pd_at e.2.1.2).isSome && (pd_tb a (.methodLink (pd_own o) e.1 (pm_y PT e.2.1.2)) && (pd_tb b (.static (pm_y PT e.2.1.2)) && pd_pr e.2.1.2 (pm_na PT e.2.1.2)))
  | 3, [a, b] => (pd_at e.2.1.2).isSome && (pd_nb a (.methodLinkNest (pd_own o) e.1 (pm_y PT e.2.1.2) "GiftsOfCourts") && (pd_tb b (.static (pm_y PT e.2.1.2)) && pd_pr e.2.1.2 (pm_na PT e.2.1.2)))
  | 4, [a, b] => (pd_at e.2.1.2).isSome && (pd_tb a (.methodLink (pd_own o) e.1 (pm_y PT e.2.1.2)) && (pd_tb b (.instanceMethod (pm_y PT e.2.1.2)) && (decide ((pm_y PT e.2.1.2).name = "<init>") && ((pm_ret PT e.2.1.2).isNone && (Nat.ble 1 (pm_na PT e.2.1.2) && pd_pr e.2.1.2 (pm_na PT e.2.1.2 - 1))))))
  | 5, [a, b] => (pd_at e.2.1.2).isSome && (pd_nb a (.methodLinkNest (pd_own o) e.1 (pm_y PT e.2.1.2) "GiftsOfCourts") && (pd_tb b (.instanceMethod (pm_y PT e.2.1.2)) && (decide ((pm_y PT e.2.1.2).name = "<init>") && ((pm_ret PT e.2.1.2).isNone && (Nat.ble 1 (pm_na PT e.2.1.2) && pd_pr e.2.1.2 (pm_na PT e.2.1.2 - 1))))))
  | 6, [a] => pd_tb a (.methodLink (pd_own o) e.1 Lib.objectInit)
  | 7, [a] => pd_tb a (.methodLink (pd_own o) e.1 Lib.Math.min.name)
  | 8, [a] => pd_tb a (.methodLink (pd_own o) e.1 Lib.Math.max.name)
  | 9, [a] => pd_tb a (.methodLink (pd_own o) e.1 arraycopyName)
  | 10, [a] => pd_tb a (.methodLink (pd_own o) e.1 st_yL)
  | 11, [a] => pd_tb a (.methodLink (pd_own o) e.1 st_yA)
  | _, _ => false
theorem pd_pr_ok {t n : Nat} (h : pd_pr t n = true) : pm_pars PT t n := by
  have h1 : (parseMethodDescriptor (pm_y PT t).desc).map (fun d => d.parameters.length) = some n := of_decide_eq_true h
  exact h1
