/-! runs told exactly, written by ext.py -/
section EZ
def v10_4b (q : QT) (cc gc : Nat) (h : pm_H) (i : Nat) (x2 : Int32) : Int32 × pm_H := cond (pm_cmp .eq ((v8 q cc gc (Ar h 16) i) - (v7 q cc gc (Ar h 16) i)) 0) (x2, h) (x2 + Int32.ofInt 1, aset h 153 6 (upd (Ar h 153) ((x2).toNatClampNeg) ((v8 q cc gc (Ar h 16) i) - (v7 q cc gc (Ar h 16) i))))
def v10_4 (q : QT) (cc gc : Nat) (j i : Nat) (a : Int32 × pm_H) : Int32 × pm_H := lp (fun i a => v10_4b q cc gc a.2 i a.1) j i a
def v10 (q : QT) (cc gc : Nat) (h : pm_H) : Int32 × pm_H := ((v10_4 q cc gc cc 0 ((nI 0), h)).1, (v10_4 q cc gc cc 0 ((nI 0), h)).2)
end EZ
