theorem shortF_le {N : Nat → Nat} {d : Nat} : shortF N d ≤ 10 := by
  have := sm_le (g := fun f => b01 (decide (0 < lack N (plan N (able N d)) f))) (b := 1) (n := 10) (fun j _ => b01_le _)
  unfold shortF
  omega
