/-! whole numbers as nI, below 2^31 -/
theorem nz_eq0 {n : Nat} (h : n < 2147483648) : nI n = 0 ↔ n = 0 := by rw [← nI_0]; exact nI_eq h (by decide)
theorem nz_le0 {n : Nat} (h : n < 2147483648) : nI n ≤ 0 ↔ n = 0 := by rw [← nI_0, nI_leI h (by decide)]; omega
theorem nz_lt0 {n : Nat} (h : n < 2147483648) : nI n < 0 ↔ False := by rw [← nI_0, nI_ltI h (by decide)]; simp
theorem nz_0lt {n : Nat} (h : n < 2147483648) : 0 < nI n ↔ 0 < n := by rw [← nI_0, nI_ltI (by decide) h]
theorem nz_0le {n : Nat} (h : n < 2147483648) : 0 ≤ nI n ↔ True := by rw [← nI_0, nI_leI (by decide) h]; simp
theorem nz_m {n k : Nat} (hk : k ≤ 1000 ∧ 0 < k) (h : n < 2147483648) : nI n = -nI k ↔ False := by
  refine ⟨fun e => ?_, False.elim⟩
  have e2 := congrArg Int32.toInt e
  have e3 : (-nI k).toInt = -(k : Int) := sb_negT (by omega)
  rw [nI_toInt h, e3] at e2
  omega
theorem nz_m5 {n : Nat} (h : n < 2147483648) : nI n = -5 ↔ False := nz_m (k := 5) (by omega) h
theorem nz_sub {a b : Nat} (h : b ≤ a) : nI a - nI b = nI (a - b) := pk_sub h
theorem nz_in {n N : Nat} (h : n < N) (hN : N < 2147483648) : vp_in (nI n) N := vp_in_nI h hN
theorem nz_cl {n : Nat} (h : n < 2147483648) : (nI n).toNatClampNeg = n := nI_clamp h
theorem nz_1 : (1 : Int32) = nI 1 := by decide
/-- a number told from outside: in a range, or not -/
theorem nz_or (x : Int32) (N : Nat) (hN : N < 2147483648) : (∃ n, n < N ∧ x = nI n) ∨ (x < 0 ∨ nI N ≤ x) := by
  rcases pk_ix x hN with h | h | h
  · exact Or.inr (Or.inl h)
  · exact Or.inr (Or.inr h)
  · exact Or.inl h
theorem nz_le {a b : Nat} (ha : a < 2147483648) (hb : b < 2147483648) : nI a ≤ nI b ↔ a ≤ b := nI_leI ha hb
theorem nz_lt {a b : Nat} (ha : a < 2147483648) (hb : b < 2147483648) : nI a < nI b ↔ a < b := nI_ltI ha hb
theorem nz_eq {a b : Nat} (ha : a < 2147483648) (hb : b < 2147483648) : nI a = nI b ↔ a = b := nI_eq ha hb
/-- a row of Nats, changed at a place -/
def un (N : Nat → Nat) (k v : Nat) : Nat → Nat := fun j => if j = k then v else N j
theorem un_s {N : Nat → Nat} {k v : Nat} : un N k v k = v := if_pos rfl
theorem un_n {N : Nat → Nat} {k v j : Nat} (h : j ≠ k) : un N k v j = N j := if_neg h
theorem un_nI {N : Nat → Nat} {k v : Nat} (hk : k < 2147483648) : upd (fun j => nI (N j)) (nI k).toNatClampNeg (nI v) = fun j => nI (un N k v j) := by
  rw [nI_clamp hk]
  funext j
  unfold upd un
  split <;> rfl
/-- the first place from i on, below i + n, with P; i + n without one -/
def fnd (P : Nat → Bool) : Nat → Nat → Nat
  | 0, i => i
  | n + 1, i => if P i = true then i else fnd P n (i + 1)
theorem fnd_le (P : Nat → Bool) : ∀ (n i : Nat), i ≤ fnd P n i ∧ fnd P n i ≤ i + n := by
  intro n
  induction n with
  | zero => intro i; simp [fnd]
  | succ n ih =>
    intro i
    unfold fnd
    split
    · omega
    · have := ih (i + 1)
      omega
theorem fnd_lt (P : Nat → Bool) : ∀ (n i : Nat), fnd P n i < i + n → P (fnd P n i) = true := by
  intro n
  induction n with
  | zero => intro i h; simp [fnd] at h
  | succ n ih =>
    intro i h
    unfold fnd at h ⊢
    split
    · assumption
    · rename_i q
      rw [if_neg q] at h
      exact ih (i + 1) (by omega)
theorem fnd_min (P : Nat → Bool) : ∀ (n i j : Nat), i ≤ j → j < fnd P n i → P j = false := by
  intro n
  induction n with
  | zero => intro i j h1 h2; simp [fnd] at h2; omega
  | succ n ih =>
    intro i j h1 h2
    unfold fnd at h2
    split at h2
    · omega
    · rename_i q
      rcases Nat.eq_or_lt_of_le h1 with rfl | h
      · exact Bool.eq_false_iff.mpr q
      · exact ih (i + 1) j h h2
theorem fnd_eq (P : Nat → Bool) {n i j : Nat} (h1 : i ≤ j) (h2 : j < i + n) (h3 : P j = true) (h4 : ∀ k, i ≤ k → k < j → P k = false) : fnd P n i = j := by
  have a := fnd_le P n i
  rcases Nat.lt_trichotomy (fnd P n i) j with q | q | q
  · have := fnd_lt P n i (by omega)
    rw [h4 _ a.1 q] at this
    cases this
  · exact q
  · have := fnd_min P n i j h1 q
    rw [h3] at this
    cases this
theorem fnd_none (P : Nat → Bool) {n i : Nat} (h : ∀ k, i ≤ k → k < i + n → P k = false) : fnd P n i = i + n := by
  have a := fnd_le P n i
  rcases Nat.lt_or_ge (fnd P n i) (i + n) with q | q
  · have := fnd_lt P n i q
    rw [h _ a.1 q] at this
    cases this
  · omega
/-- a sum -/
def sm (g : Nat → Nat) : Nat → Nat
  | 0 => 0
  | n + 1 => sm g n + g n
theorem sm_congr {g h : Nat → Nat} : ∀ {n : Nat}, (∀ j, j < n → g j = h j) → sm g n = sm h n := by
  intro n
  induction n with
  | zero => intro _; rfl
  | succ n ih => intro q; simp only [sm]; rw [ih (fun j hj => q j (by omega)), q n (by omega)]
theorem sm_le {g : Nat → Nat} {b : Nat} : ∀ {n : Nat}, (∀ j, j < n → g j ≤ b) → sm g n ≤ n * b := by
  intro n
  induction n with
  | zero => intro _; simp [sm]
  | succ n ih =>
    intro q
    simp only [sm]
    have := ih (fun j hj => q j (by omega))
    have := q n (by omega)
    rw [Nat.succ_mul]
    omega
/-- a set of places, as a number -/
def bs (P : Nat → Bool) : Nat → Nat
  | 0 => 0
  | n + 1 => bs P n ||| (if P n = true then 2 ^ n else 0)
theorem bs_lt (P : Nat → Bool) : ∀ n, bs P n < 2 ^ n := by
  intro n
  induction n with
  | zero => simp [bs]
  | succ n ih =>
    simp only [bs]
    have h1 : bs P n < 2 ^ (n + 1) := by rw [Nat.pow_succ]; omega
    refine Nat.or_lt_two_pow h1 ?_
    split
    · exact Nat.pow_lt_pow_right (by decide) (by omega)
    · exact Nat.two_pow_pos _
theorem bs_congr {P P2 : Nat → Bool} : ∀ {n : Nat}, (∀ j, j < n → P j = P2 j) → bs P n = bs P2 n := by
  intro n
  induction n with
  | zero => intro _; rfl
  | succ n ih => intro q; simp only [bs]; rw [ih (fun j hj => q j (by omega)), q n (by omega)]
theorem bs_bit (P : Nat → Bool) : ∀ (n j : Nat), (bs P n).testBit j = (decide (j < n) && P j) := by
  intro n
  induction n with
  | zero => intro j; simp [bs]
  | succ n ih =>
    intro j
    simp only [bs]
    rw [Nat.testBit_or, ih j]
    by_cases hp : P n = true
    · rw [if_pos hp, Nat.testBit_two_pow]
      rcases Nat.lt_trichotomy j n with q | q | q
      · rw [decide_eq_true q, decide_eq_true (by omega : j < n + 1), decide_eq_false (by omega : ¬ n = j)]; simp
      · subst q
        rw [hp]; simp
      · rw [decide_eq_false (by omega : ¬ j < n), decide_eq_false (by omega : ¬ j < n + 1), decide_eq_false (by omega : ¬ n = j)]; simp
    · rw [if_neg hp, Nat.zero_testBit]
      rcases Nat.lt_trichotomy j n with q | q | q
      · rw [decide_eq_true q, decide_eq_true (by omega : j < n + 1)]; simp
      · subst q
        rw [Bool.eq_false_iff.mpr hp]
        simp
      · rw [decide_eq_false (by omega : ¬ j < n), decide_eq_false (by omega : ¬ j < n + 1)]; simp
theorem nz_inT {n N : Nat} (h : n < N) (hN : N < 2147483648) : vp_in (nI n) N ↔ True := iff_true_intro (vp_in_nI h hN)
/-- a row of Nats as whole numbers -/
def sN (N : Nat → Nat) : Nat → Int32 := fun j => nI (N j)

