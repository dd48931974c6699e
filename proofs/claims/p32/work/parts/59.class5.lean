/-! drills of the class -/
theorem add_31 {V11 V12 V13 : Nat → Int32} {f : Nat} (hf : f < 10) {K : (Nat → Int32) → (Nat → Int32) → (Nat → Int32) → Prop} (hK : ∀ W11 W12 W13, (∀ j, W11 j = if 6 * f + 0 < j ∧ j ≤ 6 * f + 5 then V11 (j - 1) else V11 j) → (∀ j, W12 j = if 6 * f + 0 < j ∧ j ≤ 6 * f + 5 then V12 (j - 1) else V12 j) → (∀ j, W13 j = if 6 * f + 0 < j ∧ j ≤ 6 * f + 5 then V13 (j - 1) else V13 j) → K W11 W12 W13) : ∀ (k : Nat), k ≤ 5 → ∀ W11 W12 W13, (∀ j, W11 j = if 6 * f + k < j ∧ j ≤ 6 * f + 5 then V11 (j - 1) else V11 j) → (∀ j, W12 j = if 6 * f + k < j ∧ j ≤ 6 * f + 5 then V12 (j - 1) else V12 j) → (∀ j, W13 j = if 6 * f + k < j ∧ j ≤ 6 * f + 5 then V13 (j - 1) else V13 j) → wb_X0_add_31 (nI (f * 6)) K (k + 1) W11 W12 W13 (nI (f * 6 + k)) := by
  intro k
  induction k with
  | zero =>
    intro hk W11 W12 W13 h1 h2 h3
    rw [wb_X0_add_31]
    exact ifP (by rw [nz_le (by omega) (by omega)]; omega) (hK _ _ _ h1 h2 h3)
  | succ k ih =>
    intro hk W11 W12 W13 h1 h2 h3
    have step : ∀ V W : Nat → Int32, (∀ j, W j = if 6 * f + (k + 1) < j ∧ j ≤ 6 * f + 5 then V (j - 1) else V j) → ∀ j, upd W (f * 6 + (k + 1)) (W (f * 6 + (k + 1) - 1)) j = if 6 * f + k < j ∧ j ≤ 6 * f + 5 then V (j - 1) else V j := by
      intro V W h j
      unfold upd
      by_cases e : j = f * 6 + (k + 1)
      · rw [if_pos e, if_pos (by omega), h, if_neg (by omega), e]
      · rw [if_neg e, h]
        by_cases e2 : 6 * f + (k + 1) < j ∧ j ≤ 6 * f + 5
        · rw [if_pos e2, if_pos (by omega)]
        · rw [if_neg e2, if_neg (by omega)]
    rw [wb_X0_add_31, show nI (f * 6 + (k + 1)) + -1 = nI (f * 6 + k) from pk_m1 (f * 6 + k)]
    simp (disch := omega) only [sN, nI_add, pk_mul, nz_cl, nz_le, nz_lt, nz_eq, nz_eq0, nz_le0, nz_lt0, nz_0lt, nz_m5, nz_inT, true_and, and_true, forall_eq, not_false_eq_true, not_true_eq_false, true_imp_iff, false_imp_iff, implies_true, nz_sub]
    refine ⟨fun c => absurd c (by omega), fun _ => ?_⟩
    exact ih (by omega) _ _ _ (step V11 W11 h1) (step V12 W12 h2) (step V13 W13 h3)
theorem total_loop {V8 : Nat → Int32} {N : Nat → Nat} (h8 : ∀ f, f < 10 → V8 f = nI (N (15 + 31 * f))) {K : Int32 → Prop} (hK : K (nI (sm (fun f => N (15 + 31 * f)) 10))) : ∀ (m k : Nat), k + m = 10 → wb_X0_total_4 V8 K (m + 1) (nI (sm (fun f => N (15 + 31 * f)) k)) (nI k) := by
  intro m
  induction m with
  | zero =>
    intro k hk
    obtain rfl : k = 10 := by omega
    rw [wb_X0_total_4]
    exact ifP (by decide) hK
  | succ m ih =>
    intro k hk
    have next := ih (k + 1) (by omega)
    rw [sm_add] at next
    rw [wb_X0_total_4]
    simp (disch := omega) only [sN, nI_add, pk_mul, nz_cl, nz_le, nz_lt, nz_eq, nz_eq0, nz_le0, nz_lt0, nz_0lt, nz_m5, nz_inT, true_and, and_true, forall_eq, not_false_eq_true, not_true_eq_false, true_imp_iff, false_imp_iff, implies_true, h8 k (by omega)]
    exact ⟨fun c => absurd c (by omega), fun _ => next⟩
theorem total_ok {V8 : Nat → Int32} {N : Nat → Nat} (h8 : ∀ f, f < 10 → V8 f = nI (N (15 + 31 * f))) {Q : Int32 → Prop} (h : Q (nI (sm (fun f => N (15 + 31 * f)) 10))) : wp_X0_total V8 Q :=
  ⟨11, total_loop h8 h 10 0 (by omega)⟩
theorem dl0_n {N : Nat → Nat} {f k m l j : Nat} (h1 : j ≠ 17 + 31 * f + 3 * k) (h2 : j ≠ 18 + 31 * f + 3 * k) (h3 : j ≠ 19 + 31 * f + 3 * k) (h4 : j ≠ 16 + 31 * f) (h5 : j ≠ 15 + 31 * f) (h6 : j ≠ 35 + 31 * f + N 3 / 100) (h7 : j ≠ 319 + 2 * l) (h8 : j ≠ 4) (h9 : j ≠ 5) : dl0 N f k m l j = N j := by
  unfold dl0
  rw [un_n h9, un_n h8, un_n h7, un_n h6, un_n h5, un_n h4, un_n h3, un_n h2, un_n h1]
theorem dl0_log {N : Nat → Nat} {f k m l : Nat} (hf : f < 10) (hk : k < 6) (h3 : N 3 ≤ 399) : dl0 N f k m l (17 + 31 * f + 3 * k) = N 3 ∧ dl0 N f k m l (18 + 31 * f + 3 * k) = m ∧ dl0 N f k m l (19 + 31 * f + 3 * k) = l ∧ dl0 N f k m l (16 + 31 * f) = k + 1 ∧ dl0 N f k m l (15 + 31 * f) = N (15 + 31 * f) + 1 ∧ dl0 N f k m l (35 + 31 * f + N 3 / 100) = 1 ∧ dl0 N f k m l (319 + 2 * l) = N (319 + 2 * l) + 1 ∧ dl0 N f k m l 4 = N 4 + 1 ∧ dl0 N f k m l 5 = N 5 + m := by
  unfold dl0
  refine ⟨?_, ?_, ?_, ?_, ?_, ?_, ?_, ?_, ?_⟩
  · rw [un_n (by omega), un_n (by omega), un_n (by omega), un_n (by omega), un_n (by omega), un_n (by omega), un_n (by omega), un_n (by omega), un_s]
  · rw [un_n (by omega), un_n (by omega), un_n (by omega), un_n (by omega), un_n (by omega), un_n (by omega), un_n (by omega), un_s]
  · rw [un_n (by omega), un_n (by omega), un_n (by omega), un_n (by omega), un_n (by omega), un_n (by omega), un_s]
  · rw [un_n (by omega), un_n (by omega), un_n (by omega), un_n (by omega), un_n (by omega), un_s]
  · rw [un_n (by omega), un_n (by omega), un_n (by omega), un_n (by omega), un_s]
  · rw [un_n (by omega), un_n (by omega), un_n (by omega), un_s]
  · rw [un_n (by omega), un_n (by omega), un_s]
  · rw [un_n (by omega), un_s]
  · rw [un_s]

