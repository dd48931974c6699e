theorem nx_ush' {k j : Nat} (hk : k < 65536) (hj : j < 32) : ((nI k).toUInt32 >>> ((nI j).toUInt32 &&& Int32.toUInt32 31)).toInt32 = nI (k >>> j) := by
  have hc : ∀ j, j < 32 → (((nI j).toUInt32 &&& Int32.toUInt32 31).toBitVec % 32).toNat = j := by decide +kernel
  rw [pk_ushrN (by omega) _ j (hc j hj), Nat.shiftRight_eq_div_pow]
theorem bitCount_ok {n : Nat} (h : n < 65536) {Q : Int32 → Prop} (hQ : Q (nI (pop n))) : wp_J6_bitCount_0f7a4 (nI n) Q := by
  have hx := pcX_t h
  simp only [pcX, Bool.and_eq_true, Nat.ble_eq, Nat.beq_eq] at hx
  obtain ⟨h1, h2, h3, h4, h5, h6⟩ := hx
  unfold wp_J6_bitCount_0f7a4
  intro a1 e1 a2 e2 a3 e3 a4 e4 a5 e5
  have f1 : a1 = nI (pcA n) := by rw [e1, nx_ush' h (by omega), nx_and2, nz_sub h1]; rfl
  have f2 : a2 = nI (pcB (pcA n)) := by rw [e2, f1, nx_ush' (by omega) (by omega), nx_and2, nx_and2, nI_add]; rfl
  have f3 : a3 = nI (pcC (pcB (pcA n))) := by rw [e3, f2, nx_ush' (by omega) (by omega), nI_add, nx_and2]; rfl
  have f4 : a4 = nI (pcD (pcC (pcB (pcA n)))) := by rw [e4, f3, nx_ush' (by omega) (by omega), nI_add]; rfl
  have f5 : a5 = nI (pcE (pcD (pcC (pcB (pcA n))))) := by rw [e5, f4, nx_ush' (by omega) (by omega), nI_add]; rfl
  rw [f5, nx_and2, h6]
  exact hQ
theorem sm_zero {g : Nat → Nat} : ∀ {n m : Nat}, (∀ j, n ≤ j → j < m → g j = 0) → n ≤ m → sm g m = sm g n := by
  intro n m
  induction m with
  | zero => intro _ h; rw [show n = 0 by omega]
  | succ m ih =>
    intro h hn
    by_cases e : n = m + 1
    · rw [e]
    · rw [sm_add, ih (fun j a b => h j a (by omega)) (by omega), h m (by omega) (by omega), Nat.add_zero]
/-- the bits of a set of places, counted -/
theorem pop_bs (P : Nat → Bool) {n : Nat} (hn : n ≤ 16) : pop (bs P n) = sm (fun k => b01 (P k)) n := by
  unfold pop
  rw [sm_zero (n := n) (m := 16) (fun j a _ => by show b01 _ = 0; rw [bs_bit, decide_eq_false (by omega), Bool.false_and]; rfl) hn]
  refine sm_congr (fun j hj => ?_)
  rw [bs_bit, decide_eq_true hj, Bool.true_and]
