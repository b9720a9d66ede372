/-! what the tables must say, and the soundness of one step -/
def pm_kindOk (t : Nat) (ty : FieldType) : Prop := (t = 0 ∧ ty = .int) ∨ (t = 1 ∧ ty = .long) ∨ (t = 2 ∧ ∀ a : Nat, narrow ty (.ref a) = .ref a ∧ fits ty (.ref a) = true) ∨ (t = 3 ∧ ty = .boolean)
def pm_okF (T : pm_Tab) (G : List Cond) : Prop := ∀ o j ci f t, pm_fld T o j = some (ci, f, t) → ∃ (C : String) (F : u_T) (N : Nat) (ty : Nat → FieldType), (pm_cl T)[ci]? = some (C, F, N) ∧ f < N ∧ (F f).1 = C ∧ (∀ w ∈ u_ws C F N, w ∈ G) ∧ Cond.fieldLink (pm_own T o) j C (F f).2.1 (F f).2.2.1 ∈ G ∧ (∀ a, a < N → ∀ b, b < N → a ≠ b → (F a).2.1 ≠ (F b).2.1) ∧ (∀ k, k < N → parseFieldDescriptor (F k).2.2.1 = some (ty k)) ∧ pm_kindOk (t % 10) (ty f) ∧ (t < 10 → (F f).2.2.2 = false) ∧ (10 ≤ t → (F f).2.2.2 = true) ∧ (10 ≤ t → t < 20 → pm_own T o = C)
def pm_okM (T : pm_Tab) (G : List Cond) (t : Nat) : Prop := plainName (pm_y T t).cls = true ∧ pm_own T (pm_o T t) = (pm_y T t).cls ∧ Cond.code (pm_y T t) (pm_code T t) (pm_max T t) (pm_ret T t) ∈ G ∧ Cond.initialized (pm_y T t).cls ∈ G ∧ ((pm_y T t).cls ≠ "java/lang/invoke/MethodHandle" ∧ (pm_y T t).cls ≠ "java/lang/invoke/VarHandle") ∧ (pm_init T t = true → (pm_y T t).name = "<init>")
def pm_pars (T : pm_Tab) (t n : Nat) : Prop := (parseMethodDescriptor (pm_y T t).desc).map (fun d => d.parameters.length) = some n
def pm_okW (T : pm_Tab) (G Ns : List Cond) (o j w t : Nat) : Prop := match w with
  | 0 => pm_okM T G t ∧ Cond.methodLink (pm_own T o) j (pm_y T t) ∈ G ∧ Cond.instanceMethod (pm_y T t) ∈ G ∧ Cond.selects (pm_y T t).cls (pm_y T t) (pm_y T t) ∈ G ∧ (∃ n, pm_na T t = n + 1 ∧ pm_pars T t n) ∧ ∃ F N, (pm_cl T)[pm_ci T t]? = some ((pm_y T t).cls, F, N)
  | 1 => False
  | 2 => pm_okM T G t ∧ Cond.methodLink (pm_own T o) j (pm_y T t) ∈ G ∧ Cond.static (pm_y T t) ∈ G ∧ pm_pars T t (pm_na T t)
  | 3 => pm_okM T G t ∧ (∃ host, Cond.methodLinkNest (pm_own T o) j (pm_y T t) host ∈ Ns) ∧ Cond.static (pm_y T t) ∈ G ∧ pm_pars T t (pm_na T t)
  | 4 => pm_okM T G t ∧ Cond.methodLink (pm_own T o) j (pm_y T t) ∈ G ∧ Cond.instanceMethod (pm_y T t) ∈ G ∧ (pm_y T t).name = "<init>" ∧ pm_ret T t = none ∧ ∃ n, pm_na T t = n + 1 ∧ pm_pars T t n
  | 5 => pm_okM T G t ∧ (∃ host, Cond.methodLinkNest (pm_own T o) j (pm_y T t) host ∈ Ns) ∧ Cond.instanceMethod (pm_y T t) ∈ G ∧ (pm_y T t).name = "<init>" ∧ pm_ret T t = none ∧ ∃ n, pm_na T t = n + 1 ∧ pm_pars T t n
  | 6 => Cond.methodLink (pm_own T o) j Lib.objectInit ∈ G ∧ Cond.instanceMethod Lib.objectInit ∈ G ∧ Cond.code Lib.objectInit ⟨#[0xb1]⟩ 1 none ∈ G
  | 7 => Cond.methodLink (pm_own T o) j Lib.Math.min.name ∈ G ∧ Cond.static Lib.Math.min.name ∈ G ∧ Cond.initialized "java/lang/Math" ∈ G ∧ Cond.code Lib.Math.min.name Lib.Math.min.code 2 (some .int) ∈ G
  | 8 => Cond.methodLink (pm_own T o) j Lib.Math.max.name ∈ G ∧ Cond.static Lib.Math.max.name ∈ G ∧ Cond.initialized "java/lang/Math" ∈ G ∧ Cond.code Lib.Math.max.name Lib.Math.max.code 2 (some .int) ∈ G
  | 9 => Cond.methodLink (pm_own T o) j arraycopyName ∈ G ∧ Cond.native arraycopyName ∈ G ∧ Cond.static arraycopyName ∈ G ∧ Cond.initialized "java/lang/System" ∈ G
  | 10 => Cond.methodLink (pm_own T o) j st_yL ∈ G ∧ ∀ w ∈ st_ws, w ∈ G
  | 11 => Cond.methodLink (pm_own T o) j st_yA ∈ G ∧ ∀ w ∈ st_ws, w ∈ G
  | _ => False
def pm_okC (T : pm_Tab) (G Ns : List Cond) : Prop := ∀ o j q, pm_clk T o j = some q → (q < 1000 → ∃ (C : String) (F : u_T) (N : Nat) (ty : Nat → FieldType), (pm_cl T)[q]? = some (C, F, N) ∧ (∀ w ∈ u_ws C F N, w ∈ G) ∧ (∀ k, k < N → parseFieldDescriptor (F k).2.2.1 = some (ty k)) ∧ Cond.classLink (pm_own T o) j C ∈ G ∧ Cond.instantiable C N ∈ G ∧ Cond.initialized C ∈ G ∧ (pm_df T q).length = N ∧ (∀ j, j < N → defaultValue (ty j) = vp_V (pm_df T q) j) ∧ ∀ (aC : Nat → ClassId) (b : Nat), (pm_df T q).map (pm_tr aC b) = pm_df T q) ∧ (1000 ≤ q → ∀ o', o = 100 + o' → ∃ C : String, (pm_ty T)[q - 1000]? = some (.object C) ∧ Cond.classLink (pm_own T o') j C ∈ G ∧ Cond.arrayOver (.object C) ∈ Ns)
def pm_ok (T : pm_Tab) (G Ns : List Cond) : Prop :=
  (∀ k pc i len, pm_ins T k pc = some (i, len) → decode (pm_code T k) pc = .ok (i, len)) ∧
  (∀ w ∈ G, goodWord w = true) ∧
  (∀ w ∈ Ns, (∀ (s U : State), s.vm = U.vm → va_Nw w s → va_Nw w U) ∧ ∀ (s U : State), s.WarmedH U.vm → va_Nw w s → va_Nw w U) ∧
  pm_okF T G ∧ (∀ o j w t, pm_mlk T o j = some (w, t) → pm_okW T G Ns o j w t) ∧ pm_okC T G Ns ∧
  (∀ ty, pm_tysAt T ty ≠ none → Cond.arrayClass ty ∈ G ∨ ∃ C, ty = .object C) ∧
  (∀ o j v, pm_con T o j = some v → Jvm.Cond.constant (pm_own T o) j v ∈ G) ∧ (∀ o j v, pm_conL T o j = some v → Jvm.Cond.constantLong (pm_own T o) j v ∈ G)
def pm_tys (T : pm_Tab) (aC : Nat → ClassId) : List (ClassId × FieldType) := (List.range (pm_ty T).length).map (fun i => (aC i, (pm_ty T).getD i .int))
theorem pm_tys_get {T : pm_Tab} {aC : Nat → ClassId} {kd : Nat} {ty : FieldType} (h : (pm_ty T)[kd]? = some ty) : (pm_tys T aC)[kd]? = some (aC kd, ty) := by
  have hl : kd < (pm_ty T).length := (List.getElem?_eq_some_iff.mp h).1
  have e := (List.getElem?_eq_some_iff.mp h).2
  simp [pm_tys, hl, List.getD, e]
theorem pm_tysAt_get {T : pm_Tab} {kd : Nat} {ty : FieldType} (h : pm_tysAt T ty = some kd) : (pm_ty T)[kd]? = some ty := by
  unfold pm_tysAt at h
  obtain ⟨hl, h1, -⟩ := List.findIdx?_eq_some_iff_getElem.mp h
  rw [List.getElem?_eq_getElem hl]
  exact congrArg some (eq_of_beq h1)
/-- the String constants: each an object of String with its bytes, outside of A -/
def pm_ZS (aC : Nat → ClassId) (adV : Nat → Nat) (A : Nat → Prop) (U : State) (H : Heap) : Prop := ∀ i : Nat, i < 5 → va_O "java/lang/String" (aC (1000 + i)) A U H ∧ va_OF "java/lang/String" "coder" "B" (.int 0) (aC (1000 + i)) A U H ∧ va_OF "java/lang/String" "value" "[B" (.ref (adV i)) (aC (1000 + i)) A U H ∧ va_T .byte (adV i) (st_tx i).length (fun j => .int ((st_tx i).getD j 0)) A U H
def pm_Z (T : pm_Tab) (aC : Nat → ClassId) (b : Nat) (U : State) : Prop := (∀ o j i, st_str o j = some i → ∃ tx, vk_R (pm_own T o) j tx (aC (1000 + i)) U) ∧ va_Z "java/lang/String" "COMPACT_STRINGS" "Z" (.int 1) (fun q => b ≤ q) U U.heap ∧ (∃ v, va_Z "jdk/internal/util/Preconditions" "SIOOBE_FORMATTER" "Ljava/util/function/BiFunction;" v (fun q => b ≤ q) U U.heap ∧ v.category = 1) ∧ ∃ adV, pm_ZS aC adV (fun q => b ≤ q) U U.heap
theorem pm_Z.same {T : pm_Tab} {aC : Nat → ClassId} {b : Nat} {u U : State} (hv : U.vm = u.vm) (hh : U.heap = u.heap) (h : pm_Z T aC b u) : pm_Z T aC b U := by
  have ha : u.vm.Alike U.vm := by rw [hv]; exact Vm.Alike.refl u.vm
  obtain ⟨h1, h2, ⟨v, h3, h4⟩, adV, h5⟩ := h
  refine ⟨fun o j i e => ?_, ?_, ⟨v, ?_, h4⟩, adV, fun i hi => ?_⟩
  · obtain ⟨tx, q⟩ := h1 o j i e
    exact ⟨tx, vk_R.same hv q⟩
  · rw [hh]; exact va_Z.moved ha h2
  · rw [hh]; exact va_Z.moved ha h3
  · rw [hh]
    obtain ⟨q1, q2, q3, q4⟩ := h5 i hi
    exact ⟨va_O.moved ha q1, va_OF.moved ha q2, va_OF.moved ha q3, va_T.moved ha q4⟩
theorem pm_Z.warm {T : pm_Tab} {aC : Nat → ClassId} {b : Nat} {s U : State} {locs : List Loc} (hW : s.WarmedH U.vm) (hS : va_S (fun q => b ≤ q) s.heap U.heap locs) (h : pm_Z T aC b s) : pm_Z T aC b U := by
  have ha : s.vm.Alike U.vm := hW.alike
  obtain ⟨h1, h2, ⟨v, h3, h4⟩, adV, h5⟩ := h
  refine ⟨fun o j i e => ?_, ?_, ⟨v, ?_, h4⟩, adV, fun i hi => ?_⟩
  · obtain ⟨tx, q⟩ := h1 o j i e
    exact ⟨tx, vk_R.warm hW q⟩
  · exact va_Z.moved ha (h2.kept hS.2.1)
  · exact va_Z.moved ha (h3.kept hS.2.1)
  · obtain ⟨q1, q2, q3, q4⟩ := h5 i hi
    exact ⟨va_O.moved ha (q1.kept hS.2.1), va_OF.moved ha (q2.kept hS.2.1), va_OF.moved ha (q3.kept hS.2.1), va_T.moved ha (q4.kept hS.2.1)⟩
def pm_K (T : pm_Tab) (Ns : List Cond) (D : va_G) (aC : Nat → ClassId) (b : Nat) (U : State) : Prop := va_K D (pm_cl T) (pm_tys T aC) U ∧ (∀ w ∈ Ns, va_Nw w U) ∧ pm_Z T aC b U
/-- the method k is being walked -/
def pm_C (T : pm_Tab) (G Ns : List Cond) (D : va_G) (aC : Nat → ClassId) (b k : Nat) (p : Program) (s : State) (m : MethodId) (args : Array Value) (meth : Method) (c : Code) : Prop :=
  p.tables.exec = Jvm.exec ∧ c.code = pm_code T k ∧ c.maxLocals = pm_max T k ∧ s.vm.findClass (pm_own T (pm_o T k)) = some m.cls ∧ (∀ w ∈ G, w.before args s = true) ∧ pm_K T Ns D aC b s ∧ (pm_init T k = true → meth.name = "<init>")
section PMV
variable {p : Program} {l : Launch} {e : Env} {R : Room} {s : State} {m : MethodId} {args : Array Value} {below : List Frame} {meth : Method} {c : Code} {H : Heap} {locs : List Loc} {cells slots : Nat} {Q : State → Prop}
/-- the heap's size, by the walk's own account -/
theorem pm_sized {g : JFrame} (k : H.size ≤ s.heap.size + cells → W p l e R s m args below meth c H locs cells slots Q g) : W p l e R s m args below meth c H locs cells slots Q g := fun T hT X => k (by rw [← hT]; exact X.heapSize) T hT X
/-- from the pure state st the real machine comes to Q -/
def pm_V (p : Program) (l : Launch) (e : Env) (R : Room) (s : State) (m : MethodId) (args : Array Value) (below : List Frame) (meth : Method) (c : Code) (Q : State → Prop) (T : pm_Tab) (D : va_G) (aC : Nat → ClassId) (b k sz0 sl0 : Nat) (st : pm_St) : Prop :=
  ∀ (H : Heap) (locs : List Loc) (ls : Array Slot), va_P D (pm_cl T) (pm_w aC b st.2.2.2.1 st.2.2.2.2.1) H → va_S (fun q => b ≤ q) s.heap H locs → pm_loc aC b ls (pm_max T k) st.2.1 → W p l e R s m args below meth c H locs (st.2.2.2.2.1 - sz0) (st.2.2.2.2.2 - sl0) Q (F0 m st.1 ls (st.2.2.1.map (pm_tr aC b)))
variable {T : pm_Tab} {G Ns : List Cond} {D : va_G} {aC : Nat → ClassId} {b k fr lo pc sz sl sz0 sl0 : Nat} {L : pm_L} {S : List Value} {h : pm_H} {st' : pm_St}
theorem pm_bi_inv {f : Int32 → Int32 → Int32} (hh : pm_bi f pc L S h sz sl = some st') : ∃ x y r, S = .int y :: .int x :: r ∧ st' = (pc + 1, L, .int (f x y) :: r, h, sz, sl) := by
  unfold pm_bi at hh
  split at hh
  · cases hh; exact ⟨_, _, _, rfl, rfl⟩
  · cases hh
theorem pm_bd_inv {f : Int32 → Int32 → Int32} (hh : pm_bd f pc L S h sz sl = some st') : ∃ x y r, S = .int y :: .int x :: r ∧ ¬ y = 0 ∧ st' = (pc + 1, L, .int (f x y) :: r, h, sz, sl) := by
  unfold pm_bd at hh
  split at hh
  · split at hh
    · cases hh
    · rename_i hy; cases hh; exact ⟨_, _, _, rfl, hy, rfl⟩
  · cases hh
theorem pm_bl_inv {f : Int64 → Int64 → Int64} (hh : pm_bl f pc L S h sz sl = some st') : ∃ x y r, S = .long y :: .long x :: r ∧ st' = (pc + 1, L, .long (f x y) :: r, h, sz, sl) := by
  unfold pm_bl at hh
  split at hh
  · cases hh; exact ⟨_, _, _, rfl, rfl⟩
  · cases hh
theorem pm_bdL_inv {f : Int64 → Int64 → Int64} (hh : pm_bdL f pc L S h sz sl = some st') : ∃ x y r, S = .long y :: .long x :: r ∧ ¬ y = 0 ∧ st' = (pc + 1, L, .long (f x y) :: r, h, sz, sl) := by
  unfold pm_bdL at hh
  split at hh
  · split at hh
    · cases hh
    · rename_i hy; cases hh; exact ⟨_, _, _, rfl, hy, rfl⟩
  · cases hh
theorem pm_ui_inv {f : Int32 → Value} (hh : pm_ui f pc L S h sz sl = some st') : ∃ x r, S = .int x :: r ∧ st' = (pc + 1, L, f x :: r, h, sz, sl) := by
  unfold pm_ui at hh
  split at hh
  · cases hh; exact ⟨_, _, rfl, rfl⟩
  · cases hh
theorem pm_lo_inv {t n i : Nat} (hh : pm_lo t n pc i L S h sz sl = some st') : ∃ v, pm_get L i = some v ∧ pm_isT t v = true ∧ st' = (pc + n, L, v :: S, h, sz, sl) := by
  unfold pm_lo pm_ld at hh
  cases hg : pm_get L i with
  | none => rw [hg] at hh; cases hh
  | some v =>
    rw [hg] at hh
    dsimp only at hh
    by_cases ht : pm_isT t v = true
    · rw [if_pos ht] at hh; cases hh; exact ⟨v, rfl, ht, rfl⟩
    · rw [if_neg ht] at hh; cases hh
theorem pm_isT_0 {v : Value} (hh : pm_isT 0 v = true) : ∃ x, v = .int x := by cases v <;> first | exact ⟨_, rfl⟩ | cases hh
theorem pm_isT_1 {v : Value} (hh : pm_isT 1 v = true) : ∃ x, v = .long x := by cases v <;> first | exact ⟨_, rfl⟩ | cases hh
theorem pm_isT_2 {v : Value} (hh : pm_isT 2 v = true) : ∃ x, v = .ref x ∨ v = .retAddr x := by cases v <;> first | exact ⟨_, Or.inl rfl⟩ | exact ⟨_, Or.inr rfl⟩ | cases hh
theorem pm_so_inv {t n mx i : Nat} (hh : pm_so t n mx pc i L S h sz sl = some st') : ∃ v r, S = v :: r ∧ pm_isT t v = true ∧ i < mx ∧ st' = (pc + n, pm_st1 L i v, r, h, sz, sl) := by
  unfold pm_so at hh
  split at hh
  · split at hh
    · rename_i hc; cases hh; exact ⟨_, _, rfl, hc.1, hc.2, rfl⟩
    · cases hh
  · cases hh
theorem pm_sL_inv {n mx i : Nat} (hh : pm_sL n mx pc i L S h sz sl = some st') : ∃ x r, S = .long x :: r ∧ i + 1 < mx ∧ st' = (pc + n, pm_st2 L i (.long x), r, h, sz, sl) := by
  unfold pm_sL at hh
  split at hh
  · split at hh
    · rename_i hc; cases hh; exact ⟨_, _, rfl, hc, rfl⟩
    · cases hh
  · cases hh
theorem pm_jp_inv {off : Int} (hh : pm_jp pc off L S h sz sl = some st') : ∃ t : Nat, (pc : Int) + off = (t : Int) ∧ st' = (t, L, S, h, sz, sl) := by
  unfold pm_jp pm_tgt at hh
  by_cases hp : 0 ≤ (pc : Int) + off
  · rw [if_pos hp] at hh; cases hh; exact ⟨_, (Int.toNat_of_nonneg hp).symm, rfl⟩
  · rw [if_neg hp] at hh; cases hh
theorem pm_br_inv {x : Bool} {off : Int} (hh : pm_br x pc off L S h sz sl = some st') : ∃ t : Nat, (pc : Int) + off = (t : Int) ∧ ((x = true ∧ st' = (t, L, S, h, sz, sl)) ∨ (x = false ∧ st' = (pc + 3, L, S, h, sz, sl))) := by
  unfold pm_br pm_tgt at hh
  by_cases hp : 0 ≤ (pc : Int) + off
  · rw [if_pos hp] at hh
    refine ⟨_, (Int.toNat_of_nonneg hp).symm, ?_⟩
    cases x with
    | true => cases hh; exact Or.inl ⟨rfl, rfl⟩
    | false => cases hh; exact Or.inr ⟨rfl, rfl⟩
  · rw [if_neg hp] at hh; cases hh
theorem pm_iar_inv {ty : FieldType} {a kd n : Nat} {f : Nat → Int32} (hh : pm_iar T ty h sz a = some (kd, n, f)) : a < sz ∧ h a = .inl (kd, n, .inl f) ∧ (pm_ty T)[kd]? = some ty := by
  unfold pm_iar at hh
  split at hh
  · rename_i ha
    split at hh
    · rename_i e
      split at hh
      · rename_i hk; cases hh; exact ⟨ha, e, hk⟩
      · cases hh
    · cases hh
  · cases hh
theorem pm_lar_inv {a kd n : Nat} {f : Nat → Int64} (hh : pm_lar T h sz a = some (kd, n, f)) : a < sz ∧ h a = .inl (kd, n, .inr (.inl f)) ∧ (pm_ty T)[kd]? = some .long := by
  unfold pm_lar at hh
  split at hh
  · rename_i ha
    split at hh
    · rename_i e
      split at hh
      · rename_i hk; cases hh; exact ⟨ha, e, hk⟩
      · cases hh
    · cases hh
  · cases hh
theorem pm_qar_inv {a kd n : Nat} {f : Nat → Option Nat} (hh : pm_qar h sz a = some (kd, n, f)) : a < sz ∧ h a = .inl (kd, n, .inr (.inr (.inr (.inr f)))) := by
  unfold pm_qar at hh
  split at hh
  · rename_i ha
    split at hh
    · rename_i e; cases hh; exact ⟨ha, e⟩
    · cases hh
  · cases hh
theorem pm_obj_inv {a : Nat} {o : Nat × List Value} (hh : pm_obj h sz a = some o) : a < sz ∧ h a = .inr o := by
  unfold pm_obj at hh
  split at hh
  · rename_i ha
    split at hh
    · rename_i e; cases hh; exact ⟨ha, e⟩
    · cases hh
  · cases hh
theorem pm_in_of {i : Int32} {n : Nat} (hh : pm_in i n = true) : vp_in i n := by
  have h2 : ¬ (i < 0 ∨ n ≤ i.toNatClampNeg) := of_decide_eq_true hh
  exact h2
theorem pm_cmp_t {cc : Jvm.ClassFile.Cond} {x y : Int32} {P : Prop} [Decidable P] (e : pm_cmp cc x y = decide P) : (pm_cmp cc x y = true → P) ∧ (pm_cmp cc x y = false → ¬ P) := by
  rw [e]
  exact ⟨of_decide_eq_true, of_decide_eq_false⟩
end PMV
