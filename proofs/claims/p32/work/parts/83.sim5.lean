/-! what is told -/
theorem nz_nn {x : Int32} (h : 0 ≤ x) : ∃ n, n < 2147483648 ∧ x = nI n := by
  rw [Int32.le_iff_toInt_le] at h
  have h0 : (0 : Int32).toInt = 0 := rfl
  have h1 := Int32.toInt_lt x
  refine ⟨x.toInt.toNat, by omega, ?_⟩
  apply Int32.toInt_inj.mp
  rw [nI_toInt (by omega)]
  omega
theorem nz_neg {x : Int32} (h : ¬ 0 ≤ x) : x < 0 := by
  rw [Int32.le_iff_toInt_le] at h
  rw [Int32.lt_iff_toInt_lt]
  omega
theorem nz_nneg {x : Int32} (h : ¬ x < 0) : 0 ≤ x := by
  rw [Int32.lt_iff_toInt_lt] at h
  rw [Int32.le_iff_toInt_le]
  omega
theorem personAt_hi {V2 V3 : Nat → Int32} {f k : Nat} (hk : 5 ≤ k) (hk2 : k < 2147483648) {Q : Int32 → Prop} (h : Q (-5)) : wp_X5_personAt V2 V3 (nI f) (nI k) Q := by
  unfold wp_X5_personAt wb_X5_personAt_25
  exact ⟨fun c => absurd ((nz_lt (by omega) (by omega)).mp c) (by omega), fun _ => ifP ((nz_le (by omega) (by omega)).mpr hk) (ifP nI_0 h)⟩
