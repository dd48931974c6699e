def shOn (N : Nat → Nat) (f d : Nat) : Bool := decide (0 < lack N (plan N (able N d)) f)
def svOn (N : Nat → Nat) (p d : Nat) : Nat := b01 (decide (0 < (plan N (able N d)).1 p))
