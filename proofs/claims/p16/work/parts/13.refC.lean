/-! the reference's answers: pure -/
def f01 (x : Int32) : Int32 := if 0 < x then 1 else 0
def inF (x a b : Int32) : Int32 := if x < a then 0 else if b < x then 0 else 1
def isPairF (r k : Int32) : Int32 := if inF r 0 3 = 0 then 0 else if inF k 0 4 = 0 then 0 else 1
def isNodeF (r n : Int32) : Int32 := if inF r 0 3 = 0 then 0 else if inF n 0 8 = 0 then 0 else 1






def capW (x : Int32) : Int32 := if x ≤ 99 then x else 99
def loanMI (I : SI) (r k : Nat) (more : Int32) : SI := st2 (st2 I 102 14 0) 103 (5 * r + k) (capW ((st2 I 102 14 0) 103 (5 * r + k) + more))
def strikeMI (I : SI) (r k : Nat) : SI := st2 (st2 I 102 14 0) 103 (5 * r + k) 0
def barMI (I : SI) (k : Nat) (h : Int32) : SI := st2 (st2 I 102 14 0) 104 k h
def walkMI (I : SI) (d b : Int32) : SI := st2 (st2 (st2 I 102 14 0) 102 2 d) 102 3 b
def fdM (I : SI) : Nat → SI × Int32
  | 0 => (st2 I 102 14 0, 0)
  | k + 1 => (st2 (fdM I k).1 103 k ((fdM I k).1 103 k / 2), (fdM I k).2 + (if 0 < st2 (fdM I k).1 103 k ((fdM I k).1 103 k / 2) 103 k then 1 else 0))






















