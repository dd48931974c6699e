/-! bits -/
theorem nx_or (a b : Nat) : nI a ||| nI b = nI (a ||| b) := by
  refine Int32.toBitVec_inj.mp ?_
  rw [Int32.toBitVec_or]
  show BitVec.ofNat 32 a ||| BitVec.ofNat 32 b = BitVec.ofNat 32 (a ||| b)
  rw [BitVec.ofNat_or]
theorem nx_and2 (a b : Nat) : nI a &&& nI b = nI (a &&& b) := by
  refine Int32.toBitVec_inj.mp ?_
  rw [Int32.toBitVec_and]
  show BitVec.ofNat 32 a &&& BitVec.ofNat 32 b = BitVec.ofNat 32 (a &&& b)
  rw [BitVec.ofNat_and]
theorem nx_xor2 (a b : Nat) : nI a ^^^ nI b = nI (a ^^^ b) := by
  refine Int32.toBitVec_inj.mp ?_
  rw [Int32.toBitVec_xor]
  show BitVec.ofNat 32 a ^^^ BitVec.ofNat 32 b = BitVec.ofNat 32 (a ^^^ b)
  rw [BitVec.ofNat_xor]
/-- all but b -/
theorem nx_not (a b : Nat) : nI a &&& (nI b ^^^ (-1)) = nI (a ^^^ (a &&& b)) := by
  rw [← nx_xor2, ← nx_and2]
  refine Int32.toBitVec_inj.mp ?_
  rw [Int32.toBitVec_and, Int32.toBitVec_xor, Int32.toBitVec_xor, Int32.toBitVec_and]
  refine BitVec.eq_of_getLsbD_eq (fun i hi => ?_)
  rw [BitVec.getLsbD_and, BitVec.getLsbD_xor, BitVec.getLsbD_xor, BitVec.getLsbD_and]
  have h1 : ∀ i, i < 32 → (-1 : Int32).toBitVec.getLsbD i = true := by decide +kernel
  rw [h1 i hi]
  cases (nI a).toBitVec.getLsbD i <;> cases (nI b).toBitVec.getLsbD i <;> rfl
theorem nx_m1 (a : Nat) : nI a &&& (-1) = nI a := by
  refine Int32.toBitVec_inj.mp ?_
  rw [Int32.toBitVec_and]
  refine BitVec.eq_of_getLsbD_eq (fun i hi => ?_)
  rw [BitVec.getLsbD_and]
  have h1 : ∀ i, i < 32 → (-1 : Int32).toBitVec.getLsbD i = true := by decide +kernel
  rw [h1 i hi, Bool.and_true]
theorem nx_cnt31 : ∀ n, n < 32 → ((nI n &&& 31).toBitVec.smod 32).toNat = n := by decide +kernel
theorem nx_shl {k : Nat} (hk : k < 31) : nI 1 <<< (nI k &&& 31) = nI (2 ^ k) := by
  rw [pk_shlN (n := 1) _ k (nx_cnt31 k (by omega)) (by rw [Nat.one_mul]; exact Nat.lt_of_lt_of_le (Nat.pow_lt_pow_right (by decide) hk) (by decide)), Nat.one_mul]
theorem nx_tb (a k : Nat) : a / 2 ^ k &&& 1 = b01 (a.testBit k) := by
  unfold b01
  rw [Nat.testBit_eq_decide_div_mod_eq, show (1 : Nat) = 2 ^ 1 - 1 from rfl, Nat.and_two_pow_sub_one_eq_mod]
  have := Nat.mod_lt (a / 2 ^ k) (show 0 < 2 ^ 1 by decide)
  by_cases c : a / 2 ^ k % 2 = 1
  · rw [if_pos (by simpa using c)]
    exact c
  · rw [if_neg (by simpa using c)]
    omega
theorem nx_shr {a k : Nat} (ha : a < 2147483648) (hk : k < 32) : (nI a >>> (nI k &&& 31)) &&& nI 1 = nI (b01 (a.testBit k)) := by
  rw [pk_shrN ha _ k (nx_cnt31 k hk), nx_and2, nx_tb]
theorem bs_lt' (P : Nat → Bool) {n : Nat} (hn : n ≤ 16) : bs P n < 65536 := Nat.lt_of_lt_of_le (bs_lt P n) (Nat.pow_le_pow_right (by decide) hn : 2 ^ n ≤ 2 ^ 16)
theorem bs_not (P R : Nat → Bool) (n : Nat) : bs P n ^^^ (bs P n &&& bs R n) = bs (fun j => P j && !R j) n := by
  refine Nat.eq_of_testBit_eq (fun i => ?_)
  rw [Nat.testBit_xor, Nat.testBit_and, bs_bit, bs_bit, bs_bit]
  cases decide (i < n) <;> cases P i <;> cases R i <;> rfl
theorem bs_not1 (P : Nat → Bool) (n k : Nat) : bs P n ^^^ (bs P n &&& 2 ^ k) = bs (fun j => P j && !decide (j = k)) n := by
  refine Nat.eq_of_testBit_eq (fun i => ?_)
  rw [Nat.testBit_xor, Nat.testBit_and, bs_bit, bs_bit, Nat.testBit_two_pow]
  by_cases e : k = i
  · rw [decide_eq_true (show k = i from e), decide_eq_true (show i = k from e.symm)]
    cases decide (i < n) <;> cases P i <;> rfl
  · rw [decide_eq_false (show ¬ k = i from e), decide_eq_false (show ¬ i = k from fun q => e q.symm)]
    cases decide (i < n) <;> cases P i <;> rfl
theorem bs_or1 (P : Nat → Bool) {n k : Nat} (hk : k < n) : bs P n ||| 2 ^ k = bs (fun j => P j || decide (j = k)) n := by
  refine Nat.eq_of_testBit_eq (fun i => ?_)
  rw [Nat.testBit_or, bs_bit, bs_bit, Nat.testBit_two_pow]
  by_cases e : k = i
  · subst e
    rw [decide_eq_true (show k = k from rfl), decide_eq_true hk]
    cases P k <;> rfl
  · rw [decide_eq_false (show ¬ k = i from e), decide_eq_false (show ¬ i = k from fun q => e q.symm)]
    cases decide (i < n) <;> cases P i <;> rfl
theorem bs_0 (n : Nat) : bs (fun _ => false) n = 0 := by
  induction n with
  | zero => rfl
  | succ n ih => simp [bs, ih]
theorem bs_tb (a : Nat) {n : Nat} (h : a < 2 ^ n) : bs (fun j => a.testBit j) n = a := by
  refine Nat.eq_of_testBit_eq (fun i => ?_)
  rw [bs_bit]
  by_cases c : i < n
  · rw [decide_eq_true c, Bool.true_and]
  · rw [decide_eq_false c, Bool.false_and, Nat.testBit_lt_two_pow (Nat.lt_of_lt_of_le h (Nat.pow_le_pow_right (by decide) (by omega)))]
/-! how many bits -/
def allB (p : Nat → Bool) : Nat → Bool
  | 0 => true
  | n + 1 => p n && allB p n
theorem allB_t {p : Nat → Bool} : ∀ {n : Nat}, allB p n = true → ∀ k, k < n → p k = true := by
  intro n
  induction n with
  | zero => intro _ k hk; omega
  | succ n ih =>
    intro h k hk
    rw [allB, Bool.and_eq_true] at h
    by_cases e : k = n
    · rw [e]
      exact h.1
    · exact ih h.2 k (by omega)
def pop (n : Nat) : Nat := sm (fun k => b01 (n.testBit k)) 16
def pcA (n : Nat) : Nat := n - ((n >>> 1) &&& 1431655765)
def pcB (n : Nat) : Nat := (n &&& 858993459) + ((n >>> 2) &&& 858993459)
def pcC (n : Nat) : Nat := (n + (n >>> 4)) &&& 252645135
def pcD (n : Nat) : Nat := n + (n >>> 8)
def pcE (n : Nat) : Nat := n + (n >>> 16)
def pcX (n : Nat) : Bool := Nat.ble ((n >>> 1) &&& 1431655765) n && (Nat.ble (pcA n) 65535 && (Nat.ble (pcB (pcA n)) 65535 && (Nat.ble (pcC (pcB (pcA n))) 65535 && (Nat.ble (pcD (pcC (pcB (pcA n)))) 65535 && Nat.beq (pcE (pcD (pcC (pcB (pcA n)))) &&& 63) (pop n)))))

