theorem lv_one {b : Nat} {N : Nat → Nat} (hI : Inv b N) {p d k : Nat} (hk : k < N 6) (h : lvP N p d k = true) : lvOn N p d = k := by
  have hlt : lvOn N p d < N 6 := ovOn_some (a := d) (b := d) hk h
  have h2 : lvP N p d (lvOn N p d) = true := fnd_lt _ _ _ (by unfold lvOn at hlt; omega)
  have e1 := of_decide_eq_true h
  have e2 := of_decide_eq_true h2
  by_cases c : lvOn N p d = k
  · exact c
  · have := hI.2.2.2.2.2.2.1 _ _ hlt hk c (by rw [e1.1, e2.1])
    omega
