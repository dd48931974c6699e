/-! drills of the reference -/
def lg1 (N : Nat → Nat) (f x : Nat) : Nat → Nat := fun j => if 17 + 31 * f ≤ j ∧ j < 17 + 31 * f + x then N (j + 3) else N j
/-- a drill is entered: N with its log made free, k entries before it -/
def dl0 (N : Nat → Nat) (f k m l : Nat) : Nat → Nat := un (un (un (un (un (un (un (un (un N (17 + 31 * f + 3 * k) (N 3)) (18 + 31 * f + 3 * k) m) (19 + 31 * f + 3 * k) l) (16 + 31 * f) (k + 1)) (15 + 31 * f) (N (15 + 31 * f) + 1)) (35 + 31 * f + N 3 / 100) 1) (319 + 2 * l) (N (319 + 2 * l) + 1)) 4 (N 4 + 1)) 5 (N 5 + m)
def dlN (N : Nat → Nat) (f m l : Nat) : Nat → Nat := if N (16 + 31 * f) = 6 then dl0 (lg1 N f 15) f 5 m l else dl0 N f (N (16 + 31 * f)) m l
