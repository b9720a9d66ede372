/-! runs, told backwards: further steps -/
section RNB
variable {n fr lo sl k pc j f t a c : Nat} {h : pm_H} {L : pm_L} {r : List Value} {R : pm_Rs}
theorem rn_if {cc : Jvm.ClassFile.Cond} {off : Int} {x : Int32} (hi : pm_ins PT k pc = some (.ifCond cc off, 3)) (ht : pm_tgt pc off = some t) (hh : pm_run PT n fr lo k (pc, L, .int x :: r, h, 198, sl) = some R) : ∃ m, pm_run PT m fr lo k (cond (pm_cmp cc x 0) t (pc + 3), L, r, h, 198, sl) = some R := by
  refine rn_i hi rfl rfl ?_ hh
  show pm_br (pm_cmp cc x 0) pc off L r h 198 sl = _
  unfold pm_br
  rw [ht]
  cases pm_cmp cc x 0 <;> rfl
theorem rn_icmp {cc : Jvm.ClassFile.Cond} {off : Int} {x y : Int32} (hi : pm_ins PT k pc = some (.if_icmp cc off, 3)) (ht : pm_tgt pc off = some t) (hh : pm_run PT n fr lo k (pc, L, .int y :: .int x :: r, h, 198, sl) = some R) : ∃ m, pm_run PT m fr lo k (cond (pm_cmp cc x y) t (pc + 3), L, r, h, 198, sl) = some R := by
  refine rn_i hi rfl rfl ?_ hh
  show pm_br (pm_cmp cc x y) pc off L r h 198 sl = _
  unfold pm_br
  rw [ht]
  cases pm_cmp cc x y <;> rfl
theorem rn_iam {m : Nat} {i : Int32} {g : Nat → Int32} (hi : pm_ins PT k pc = some (.iaload, 1)) (ha : h a = .inl (0, m, .inl g)) (hin : pm_in i m = true) (hl : a < 198) (hh : pm_run PT n fr lo k (pc, L, .int i :: .ref a :: r, h, 198, sl) = some R) : ∃ q, pm_run PT q fr lo k (pc + 1, L, .int (g i.toNatClampNeg) :: r, h, 198, sl) = some R := by
  refine rn_i hi rfl rfl ?_ hh
  show pm_ia PT .int pc L (.int i :: .ref a :: r) h 198 sl = _
  unfold pm_ia
  dsimp only
  rw [pm_iar_m ha hl]
  dsimp only
  rw [if_pos hin]
theorem rn_ism {m : Nat} {i x : Int32} {g : Nat → Int32} (hi : pm_ins PT k pc = some (.iastore, 1)) (ha : h a = .inl (0, m, .inl g)) (hin : pm_in i m = true) (hl : a < 198) (hh : pm_run PT n fr lo k (pc, L, .int x :: .int i :: .ref a :: r, h, 198, sl) = some R) : ∃ q, pm_run PT q fr lo k (pc + 1, L, r, aset h a m (upd g i.toNatClampNeg x), 198, sl) = some R := by
  refine rn_i hi rfl rfl ?_ hh
  show pm_iS PT .int (fun x => x) pc L (.int x :: .int i :: .ref a :: r) h 198 sl = _
  unfold pm_iS
  dsimp only
  rw [pm_iar_m ha hl]
  dsimp only
  rw [if_pos hin]
  rfl
theorem rn_cam {m : Nat} {i : Int32} {g : Nat → Int32} (hi : pm_ins PT k pc = some (.caload, 1)) (ha : h a = .inl (1, m, .inl g)) (hin : pm_in i m = true) (hl : a < 198) (hh : pm_run PT n fr lo k (pc, L, .int i :: .ref a :: r, h, 198, sl) = some R) : ∃ q, pm_run PT q fr lo k (pc + 1, L, .int (g i.toNatClampNeg) :: r, h, 198, sl) = some R := by
  refine rn_i hi rfl rfl ?_ hh
  show pm_ia PT .char pc L (.int i :: .ref a :: r) h 198 sl = _
  unfold pm_ia
  dsimp only
  have e : pm_iar PT .char h 198 a = some (1, m, g) := by
    unfold pm_iar
    rw [if_pos hl, ha]
    exact if_pos rfl
  rw [e]
  dsimp only
  rw [if_pos hin]
theorem rn_ret {v : Int32} (hi : pm_ins PT k pc = some (.ireturn, 1)) (hr : pm_ret PT k = some .int ∨ pm_ret PT k = some .boolean) (hh : pm_run PT n fr lo k (pc, L, .int v :: r, h, 198, sl) = some R) : r = [] ∧ R = (some (.int v), h, 198, sl) := by
  cases n with
  | zero => cases hh
  | succ n =>
    unfold pm_run at hh
    split at hh
    · rename_i r' e1
      cases hh
      unfold pm_end at e1
      dsimp only at e1
      rw [hi] at e1
      dsimp only at e1
      split at e1
      · split at e1
        · rename_i rv er
          cases e1
          unfold pm_rets at er
          split at er
          · cases ‹Instr.ireturn = _›
          · rename_i v' hS
            cases hS
            refine ⟨rfl, ?_⟩
            rcases hr with hr | hr
            · rw [hr] at er
              cases er
              rfl
            · rw [hr] at er
              dsimp only at er
              split at er
              · cases er
                rfl
              · cases er
          · cases ‹Instr.ireturn = _›
          · cases er
        · cases e1
      · cases e1
    · rename_i e0
      split at hh
      · rename_i st' e2
        exfalso
        unfold pm_step at e2
        dsimp only at e2
        rw [hi] at e2
        dsimp only at e2
        split at e2
        · cases e2
        · cases e2
      · cases hh
end RNB
