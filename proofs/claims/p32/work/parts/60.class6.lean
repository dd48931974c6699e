theorem lg1_o {N : Nat → Nat} {f j : Nat} (h : j < 17 + 31 * f ∨ 32 + 31 * f ≤ j) : lg1 N f 15 j = N j := by
  unfold lg1
  rw [if_neg (by omega)]
theorem lg1_i {N : Nat → Nat} {f j : Nat} (h : 17 + 31 * f ≤ j) (h2 : j < 32 + 31 * f) : lg1 N f 15 j = N (j + 3) := by
  unfold lg1
  rw [if_pos (by omega)]
/-- how many a log holds behind one more -/
def lgm (k : Nat) : Nat := if k = 6 then 5 else k
theorem dlN_eq {N : Nat → Nat} {f m l : Nat} : dlN N f m l = dl0 (if N (16 + 31 * f) = 6 then lg1 N f 15 else N) f (lgm (N (16 + 31 * f))) m l := by
  unfold dlN lgm
  split <;> rfl
theorem dlB {N : Nat → Nat} {f j : Nat} (h : j < 17 + 31 * f ∨ 32 + 31 * f ≤ j) : (if N (16 + 31 * f) = 6 then lg1 N f 15 else N) j = N j := by
  split
  · exact lg1_o h
  · rfl
/-- a place that a drill leaves as it was -/
theorem dlN_n {N : Nat → Nat} {f m l j : Nat} (hf : f < 10) (h3 : N 3 ≤ 399) (h6 : N (16 + 31 * f) ≤ 6) (hj : j < 15 + 31 * f ∨ 39 + 31 * f ≤ j ∨ (35 + 31 * f ≤ j ∧ j ≠ 35 + 31 * f + N 3 / 100)) (h7 : j ≠ 319 + 2 * l) (h8 : j ≠ 4) (h9 : j ≠ 5) : dlN N f m l j = N j := by
  have e3 : (if N (16 + 31 * f) = 6 then lg1 N f 15 else N) 3 = N 3 := dlB (by omega)
  have hk : lgm (N (16 + 31 * f)) < 6 := by unfold lgm; split <;> omega
  rw [dlN_eq, dl0_n (by omega) (by omega) (by omega) (by omega) (by omega) (by rw [e3]; omega) h7 h8 h9, dlB (by omega)]
theorem dlN_at {N : Nat → Nat} {f m l : Nat} (hf : f < 10) (hl : l < 16) (h3 : N 3 ≤ 399) (h6 : N (16 + 31 * f) ≤ 6) : dlN N f m l (16 + 31 * f) = lgm (N (16 + 31 * f)) + 1 ∧ dlN N f m l (15 + 31 * f) = N (15 + 31 * f) + 1 ∧ dlN N f m l (35 + 31 * f + N 3 / 100) = 1 ∧ dlN N f m l (319 + 2 * l) = N (319 + 2 * l) + 1 ∧ dlN N f m l 4 = N 4 + 1 ∧ dlN N f m l 5 = N 5 + m := by
  have e3 : (if N (16 + 31 * f) = 6 then lg1 N f 15 else N) 3 = N 3 := dlB (by omega)
  have hk : lgm (N (16 + 31 * f)) < 6 := by unfold lgm; split <;> omega
  obtain ⟨-, -, -, g4, g5, g6, g7, g8, g9⟩ := dl0_log (N := if N (16 + 31 * f) = 6 then lg1 N f 15 else N) (m := m) (l := l) hf hk (by rw [e3]; exact h3)
  rw [e3] at g6
  rw [dlB (by omega)] at g5 g7 g8 g9
  rw [dlN_eq]
  exact ⟨g4, g5, g6, g7, g8, g9⟩
theorem dlN_lg {N : Nat → Nat} {f m l r w : Nat} (hf : f < 10) (h3 : N 3 ≤ 399) (h6 : N (16 + 31 * f) ≤ 6) (hw : w < 3) (hr : 0 < r) (hr2 : r ≤ lgm (N (16 + 31 * f))) : dlN N f m l (17 + w + 31 * f + 3 * (lgm (N (16 + 31 * f)) - r)) = N (17 + w + 31 * f + 3 * (N (16 + 31 * f) - r)) := by
  have e3 : (if N (16 + 31 * f) = 6 then lg1 N f 15 else N) 3 = N 3 := dlB (by omega)
  have hk : lgm (N (16 + 31 * f)) < 6 := by unfold lgm; split <;> omega
  rw [dlN_eq, dl0_n (by omega) (by omega) (by omega) (by omega) (by omega) (by rw [e3]; omega) (by omega) (by omega) (by omega)]
  unfold lgm at hr2 hk ⊢
  by_cases c : N (16 + 31 * f) = 6
  · rw [if_pos c] at hr2
    rw [if_pos c, if_pos c, lg1_i (by omega) (by omega)]
    congr 1
    omega
  · rw [if_neg c, if_neg c]
theorem dlN_l0 {N : Nat → Nat} {f m l : Nat} (hf : f < 10) (h3 : N 3 ≤ 399) (h6 : N (16 + 31 * f) ≤ 6) : dlN N f m l (17 + 31 * f + 3 * lgm (N (16 + 31 * f))) = N 3 ∧ dlN N f m l (18 + 31 * f + 3 * lgm (N (16 + 31 * f))) = m ∧ dlN N f m l (19 + 31 * f + 3 * lgm (N (16 + 31 * f))) = l := by
  have e3 : (if N (16 + 31 * f) = 6 then lg1 N f 15 else N) 3 = N 3 := dlB (by omega)
  have hk : lgm (N (16 + 31 * f)) < 6 := by unfold lgm; split <;> omega
  obtain ⟨g1, g2, g3, -⟩ := dl0_log (N := if N (16 + 31 * f) = 6 then lg1 N f 15 else N) (m := m) (l := l) hf hk (by rw [e3]; exact h3)
  rw [e3] at g1
  rw [dlN_eq]
  exact ⟨g1, g2, g3⟩

