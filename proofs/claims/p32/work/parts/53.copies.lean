/-! rows that are copied -/
theorem cp_step {A B : Nat → Nat} {o k : Nat} : sN (un (fun j => if o ≤ j ∧ j < o + k then A (j - o) else B j) (o + k) (A k)) = sN (fun j => if o ≤ j ∧ j < o + (k + 1) then A (j - o) else B j) := by
  funext j
  simp only [sN, un]
  by_cases e : j = o + k
  · rw [if_pos e, if_pos (by omega)]
    congr 2
    omega
  · rw [if_neg e]
    by_cases e2 : o ≤ j ∧ j < o + k
    · rw [if_pos e2, if_pos (by omega)]
    · rw [if_neg e2, if_neg (by omega)]
theorem cp_0 {A B : Nat → Nat} {o : Nat} : (fun j => if o ≤ j ∧ j < o + 0 then A (j - o) else B j) = B := by
  funext j
  rw [if_neg (by omega)]
/-- a row's place k of the first 474 -/
def cp (A B : Nat → Nat) (o k : Nat) : Nat → Nat := fun j => if o ≤ j ∧ j < o + k then A (j - o) else B j
theorem cp_z {A B : Nat → Nat} {o : Nat} : cp A B o 0 = B := cp_0
theorem cp_s {A B : Nat → Nat} {o k : Nat} : sN (un (cp A B o k) (o + k) (A k)) = sN (cp A B o (k + 1)) := cp_step
theorem cp_s0 {A B : Nat → Nat} {k : Nat} : sN (un (cp A B 0 k) k (A k)) = sN (cp A B 0 (k + 1)) := by
  have := cp_s (A := A) (B := B) (o := 0) (k := k)
  rw [Nat.zero_add] at this
  exact this
/-- the state k of a row of states -/
def stK (HN : Nat → Nat) (k : Nat) : Nat → Nat := fun j => if j < 474 then HN (474 * k + j) else 0
/-- nothing stands behind the row's end -/
def Fin474 (N : Nat → Nat) : Prop := ∀ j, 474 ≤ j → N j = 0
theorem Zero.fin {N : Nat → Nat} (hz : Zero N) (h6 : N 6 ≤ 40) : Fin474 N := fun j hj => hz j (by omega)
theorem cp_full {A B : Nat → Nat} (hA : Fin474 A) (hB : Fin474 B) : cp A B 0 474 = A := by
  funext j
  unfold cp
  by_cases c : j < 474
  · rw [if_pos (by omega), Nat.sub_zero]
  · rw [if_neg (by omega), hA j (by omega), hB j (by omega)]
theorem cp_stK {HN B : Nat → Nat} {q : Nat} (hB : Fin474 B) : cp (fun j => HN (474 * q + j)) B 0 474 = stK HN q := by
  funext j
  unfold cp stK
  by_cases c : j < 474
  · rw [if_pos (by omega), if_pos c, Nat.sub_zero]
  · rw [if_neg (by omega), if_neg c, hB j (by omega)]
theorem stK_fin {HN : Nat → Nat} {q : Nat} : Fin474 (stK HN q) := fun j hj => if_neg (by omega)
/-- where the state k stood before one more was kept -/
def old (m k : Nat) : Nat := if m = 4 then k + 1 else k
theorem stK_rec_t {N HN : Nat → Nat} (hN : Fin474 N) {m : Nat} : stK (recH N HN m) (recM m) = N := by
  funext j
  unfold stK recH
  by_cases c : j < 474
  · rw [if_pos c, if_pos (by omega)]
    congr 1
    omega
  · rw [if_neg c, hN j (by omega)]
theorem stK_rec_b {N HN : Nat → Nat} {m k : Nat} (hm : m ≤ 4) (hk : k < recM m) : stK (recH N HN m) k = stK HN (old m k) := by
  funext j
  unfold stK recH
  by_cases c : j < 474
  · rw [if_pos c, if_pos c, if_neg (by omega)]
    unfold recS old
    unfold recM at hk
    by_cases e : m = 4
    · rw [if_pos e] at hk
      rw [if_pos e, if_pos e, if_pos (by omega)]
      congr 1
      omega
    · rw [if_neg e, if_neg e]
  · rw [if_neg c, if_neg c]
/-- the last state kept, written anew -/
theorem stK_cp_t {A HN : Nat → Nat} {q : Nat} (hA : Fin474 A) : stK (cp A HN (474 * q) 474) q = A := by
  funext j
  unfold stK cp
  by_cases c : j < 474
  · rw [if_pos c, if_pos (by omega)]
    congr 1
    omega
  · rw [if_neg c, hA j (by omega)]
theorem stK_cp_b {A HN : Nat → Nat} {q k : Nat} (hk : k < q) : stK (cp A HN (474 * q) 474) k = stK HN k := by
  funext j
  unfold stK cp
  by_cases c : j < 474
  · rw [if_pos c, if_pos c, if_neg (by omega)]
  · rw [if_neg c, if_neg c]

