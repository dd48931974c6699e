/-- a drill can't be held: no need, or short -/
def noDrill (N : Nat → Nat) (f : Nat) : Prop := nd N f = 0 ∨ 0 < lack N (plan N (able N (N 3))) f
/-- by how much floors would be short by more, on all days of a leave -/
def moreIn (N : Nat → Nat) (p a b : Nat) : Nat := sm (fun i => more N p (a + i)) (b + 1 - a)
theorem moreIn_le {N : Nat → Nat} (hI : PInv N) (h6 : N 6 ≤ 40) {p a b : Nat} (hp : p < 16) (hb : b ≤ 399) : moreIn N p a b ≤ 12000 := by
  have : moreIn N p a b ≤ (b + 1 - a) * 30 := sm_le (fun j hj => more_le hI h6 hp (by omega))
  omega
