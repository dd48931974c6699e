/-! the best day -/
theorem b01_le (b : Bool) : b01 b ≤ 1 := by cases b <;> decide
theorem pop_le (n : Nat) : pop n ≤ 16 := by
  have := sm_le (g := fun k => b01 (n.testBit k)) (b := 1) (n := 16) (fun j _ => b01_le _)
  unfold pop
  omega
theorem rdy_lt {N : Nat → Nat} {d : Nat} : rdy N d < 1024 := bs_lt _ 10
def bst (N : Nat → Nat) (t : Nat) : Nat → Nat × Nat
  | 0 => (0, 0)
  | k + 1 => if pop (bst N t k).2 < pop (rdy N (t + k)) then (t + k + 1, rdy N (t + k)) else bst N t k
theorem bst_lt {N : Nat → Nat} {t : Nat} : ∀ k, (bst N t k).2 < 1024 ∧ (bst N t k).1 ≤ t + k := by
  intro k
  induction k with
  | zero => exact ⟨(by decide : 0 < 1024), Nat.zero_le _⟩
  | succ k ih =>
    rw [bst]
    split
    · exact ⟨rdy_lt, Nat.le_refl _⟩
    · exact ⟨ih.1, by omega⟩
def noD (n : Nat) : Int32 := if n = 0 then -5 else nI (n - 1)
theorem noD_s (n : Nat) : noD (n + 1) = nI n := if_neg (Nat.succ_ne_zero n)
theorem noD_0 {n : Nat} (h : n < 1000) : noD n = -5 ↔ n = 0 := by
  unfold noD
  split
  · rename_i c
    exact ⟨fun _ => c, fun _ => rfl⟩
  · rename_i c
    rw [nz_m5 (by omega)]
    exact ⟨False.elim, fun e => c e⟩
