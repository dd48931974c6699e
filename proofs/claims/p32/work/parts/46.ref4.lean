/-! by how much floors would be short by more -/
theorem lack_le {N : Nat → Nat} (hI : PInv N) (P : PS) (f : Nat) : lack N P f ≤ 3 := by
  have := nd_le hI f
  unfold lack
  omega
/-- what a person's leave on a day alone would cost -/
def more (N : Nat → Nat) (p d : Nat) : Nat := sm (fun f => lack (grN N p d d) (plan (grN N p d d) (able (grN N p d d) d)) f - lack N (plan N (able N d)) f) 10
theorem un_id {N : Nat → Nat} {k : Nat} : un N k (N k) = N := by
  funext j
  unfold un
  split
  · rename_i e
    rw [e]
  · rfl
theorem grN_un {N : Nat → Nat} {p a b j : Nat} (h6 : N 6 ≤ 40) (h : j < 350 + 3 * N 6) (h2 : j ≠ 6) : grN N p a b j = N j := by
  unfold grN
  rw [un_n h2, un_n (by omega), un_n (by omega), un_n (by omega)]
theorem grN_6 {N : Nat → Nat} {p a b : Nat} : grN N p a b 6 = N 6 + 1 := un_s
theorem grN_at {N : Nat → Nat} {p a b : Nat} (h6 : N 6 ≤ 40) : grN N p a b (350 + 3 * N 6) = p ∧ grN N p a b (351 + 3 * N 6) = a ∧ grN N p a b (352 + 3 * N 6) = b := by
  unfold grN
  refine ⟨?_, ?_, ?_⟩
  · rw [un_n (by omega), un_n (by omega), un_n (by omega), un_s]
  · rw [un_n (by omega), un_n (by omega), show 351 + 3 * N 6 = 350 + 3 * N 6 + 1 by omega, un_s]
  · rw [un_n (by omega), show 352 + 3 * N 6 = 350 + 3 * N 6 + 2 by omega, un_s]
/-- behind the leaves there is nothing -/
def Zero (N : Nat → Nat) : Prop := ∀ j, 350 + 3 * N 6 ≤ j → N j = 0
theorem dr_gr {N : Nat → Nat} (h6 : N 6 ≤ 40) (hz : Zero N) {p a b : Nat} : drN (grN N p a b) (N 6) = N := by
  funext j
  unfold drN dr1
  rw [grN_6]
  by_cases c1 : 350 + 3 * (N 6 + 1 - 1) ≤ j ∧ j < 350 + 3 * (N 6 + 1)
  · rw [if_pos c1, hz j (by omega)]
  · rw [if_neg c1]
    by_cases c2 : j = 6
    · rw [if_pos c2, c2]
      omega
    · rw [if_neg c2, if_neg (by omega)]
      unfold grN
      rw [un_n c2, un_n (by omega), un_n (by omega), un_n (by omega)]
theorem PInv_gr {N : Nat → Nat} (hI : PInv N) (h6 : N 6 ≤ 40) {p a b : Nat} (hp : p < 16) (ha : a ≤ 399) (hb : b ≤ 399) : PInv (grN N p a b) := by
  obtain ⟨h1, h2, h3, -, h4, h5⟩ := hI
  obtain ⟨g1, g2, g3⟩ := grN_at (p := p) (a := a) (b := b) h6
  refine ⟨?_, fun f hf => ?_, fun q hq => ?_, ?_, ?_, fun k hk => ?_⟩
  · rw [grN_un h6 (by omega) (by omega)]
    exact h1
  · have := h2 f hf
    rw [grN_un h6 (by omega) (by omega), grN_un h6 (by omega) (by omega)]
    refine ⟨this.1, this.2.1, fun k hk => ?_⟩
    rw [grN_un h6 (by omega) (by omega)]
    exact this.2.2 k hk
  · rw [grN_un h6 (by omega) (by omega)]
    exact h3 q hq
  · rw [grN_6]
    omega
  · rw [grN_un h6 (by omega) (by omega)]
    exact h4
  · rw [grN_6] at hk
    rcases Nat.lt_or_ge k (N 6) with q | q
    · rw [grN_un h6 (by omega) (by omega), grN_un h6 (by omega) (by omega), grN_un h6 (by omega) (by omega)]
      exact h5 k q
    · obtain rfl : k = N 6 := by omega
      rw [g1, g2, g3]
      exact ⟨hp, ha, hb⟩
theorem sm_add {g : Nat → Nat} {n : Nat} : sm g (n + 1) = sm g n + g n := rfl
theorem more_le {N : Nat → Nat} (hI : PInv N) (h6 : N 6 ≤ 40) {p d : Nat} (hp : p < 16) (hd : d ≤ 399) : more N p d ≤ 30 := by
  have hI2 := PInv_gr hI h6 (p := p) (a := d) (b := d) hp hd hd
  refine sm_le (b := 3) (n := 10) (fun f _ => ?_)
  have := lack_le hI2 (plan (grN N p d d) (able (grN N p d d) d)) f
  show _ - _ ≤ 3
  omega
