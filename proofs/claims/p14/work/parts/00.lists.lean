/-! lists by place -/
def pm_nth {α : Type} : List α → Nat → Option α
  | [], _ => none
  | a :: _, 0 => some a
  | _ :: r, n + 1 => pm_nth r n
def pm_fd {α : Type} : List (Nat × α) → Nat → Option α
  | [], _ => none
  | e :: r, pc => cond (Nat.beq e.1 pc) (some e.2) (pm_fd r pc)
def pm_ch {α : Type} (cs : List (List (Nat × α))) (pc : Nat) : Option α := match pm_nth cs (pc / 16) with
  | some c => pm_fd c pc
  | none => none
