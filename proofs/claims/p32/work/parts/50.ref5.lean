/-! the reference's sets and sums -/
def inRow (N : Nat → Nat) (p f : Nat) : Bool := decide (plIn N f p < mn N f)
theorem or_k {P : Nat → Bool} {k : Nat} (hk : k < 16) (c : P k = true) : nI (bs P k) ||| (nI 1 <<< (nI k &&& 31)) = nI (bs P (k + 1)) := by
  rw [nx_shl (by omega), nx_or]
  simp only [bs, if_pos c]
theorem or_0 {P : Nat → Bool} {k : Nat} (c : ¬ P k = true) : nI (bs P k) ||| nI 0 = nI (bs P (k + 1)) := by
  rw [nx_or]
  simp only [bs, if_neg c]
theorem bs_n {P : Nat → Bool} {k : Nat} (c : ¬ P k = true) : nI (bs P k) = nI (bs P (k + 1)) := by
  simp only [bs, if_neg c, Nat.or_zero]
def isDue (N : Nat → Nat) (q f : Nat) : Bool := decide (0 < N (8 + 31 * f)) && decide (N (35 + 31 * f + q) = 0)
def lvMany (N : Nat → Nat) (p k : Nat) : Nat := if N (350 + 3 * k) = p then 1 else 0
def lvDays (N : Nat → Nat) (p k : Nat) : Nat := if N (350 + 3 * k) = p then N (352 + 3 * k) - N (351 + 3 * k) + 1 else 0
def shortF (N : Nat → Nat) (d : Nat) : Nat := sm (fun f => b01 (decide (0 < lack N (plan N (able N d)) f))) 10
