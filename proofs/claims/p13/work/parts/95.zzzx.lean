/-! settle: both sides answer alike -/
section QS8
variable {n fr lo sl cc gc g c : Nat} {q : QT} {h h1 h2 : pm_H} {v w x y : Int32} {R : pm_Rs} {e r G D hd ha : Nat → Int32} {dx mx : Int32}
/-- one COURT less -/
def er (i : Nat) : List Nat → List Nat
  | [] => []
  | x :: l => if x = i then l else x :: er i l
/-- the most groups that cancel out, by what is owed to each -/
def gi (W : Nat → Int32) : Nat → List Nat → Int32
  | 0, _ => nI 0
  | k + 1, l => (l.foldl (fun a i => imax a (gi W k (er i l))) (nI 0)) + (cond (pm_cmp .ne (l.foldl (fun s i => s + W i) (nI 0)) 0) (nI 0) (nI 1))
def ol (t : Nat → Bool) : Nat → Nat → List Nat
  | 0, _ => []
  | j + 1, i => cond (t i) (i :: ol t j (i + 1)) (ol t j (i + 1))
def gl (W : Nat → Int32) (n m : Nat) : Int32 := gi W (ol (fun b => m.testBit b) n 0).length (ol (fun b => m.testBit b) n 0)
/-- who owes or is owed at all -/
def opn (W : Nat → Int32) (a : Nat) : Bool := !(pm_cmp .eq (W a) 0)
end QS8
