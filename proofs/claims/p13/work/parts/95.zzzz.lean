/-! ring: both sides answer alike -/
section QG8
variable {n fr lo sl cc gc : Nat} {q : QT} {h h1 h2 : pm_H} {v w x y : Int32} {R : pm_Rs} {e r G D hd ha d : Nat → Int32} {dx mx : Int32}
/-- who owes whom -/
def cE (d : Nat → Int32) (a b : Nat) : Bool := !(pm_cmp .le (d (a * 6 + b)) 0)
end QG8
