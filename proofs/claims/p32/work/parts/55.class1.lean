/-! the class's small methods -/
theorem cFloor_t {f : Nat} (hf : f < 10) {Q : Int32 → Prop} (h : Q (nI 1)) : wp_X6_isFloor (nI f) Q := by
  unfold wp_X6_isFloor
  simp (disch := omega) only [sN, nI_add, pk_mul, nz_cl, nz_le, nz_lt, nz_eq, nz_eq0, nz_le0, nz_lt0, nz_0lt, nz_m5, nz_inT, true_and, and_true, forall_eq, not_false_eq_true, not_true_eq_false, true_imp_iff, false_imp_iff, implies_true]
  exact ⟨fun c => absurd c (by omega), fun _ => ⟨fun c => absurd c (by omega), fun _ => h⟩⟩
theorem cPerson_t {f : Nat} (hf : f < 16) {Q : Int32 → Prop} (h : Q (nI 1)) : wp_X6_isPerson (nI f) Q := by
  unfold wp_X6_isPerson
  simp (disch := omega) only [sN, nI_add, pk_mul, nz_cl, nz_le, nz_lt, nz_eq, nz_eq0, nz_le0, nz_lt0, nz_0lt, nz_m5, nz_inT, true_and, and_true, forall_eq, not_false_eq_true, not_true_eq_false, true_imp_iff, false_imp_iff, implies_true]
  exact ⟨fun c => absurd c (by omega), fun _ => ⟨fun c => absurd c (by omega), fun _ => h⟩⟩
theorem cDay_t {f : Nat} (hf : f < 400) {Q : Int32 → Prop} (h : Q (nI 1)) : wp_X6_isDay (nI f) Q := by
  unfold wp_X6_isDay
  simp (disch := omega) only [sN, nI_add, pk_mul, nz_cl, nz_le, nz_lt, nz_eq, nz_eq0, nz_le0, nz_lt0, nz_0lt, nz_m5, nz_inT, true_and, and_true, forall_eq, not_false_eq_true, not_true_eq_false, true_imp_iff, false_imp_iff, implies_true]
  exact ⟨fun c => absurd c (by omega), fun _ => ⟨fun c => absurd c (by omega), fun _ => h⟩⟩
theorem cWithin_t {x a b : Nat} (hx : x < 2147483648) (ha : a < 2147483648) (hb : b < 2147483648) (h1 : a ≤ x) (h2 : x ≤ b) {Q : Int32 → Prop} (h : Q (nI 1)) : wp_X6_isWithin (nI x) (nI a) (nI b) Q := by
  unfold wp_X6_isWithin
  simp (disch := omega) only [sN, nI_add, pk_mul, nz_cl, nz_le, nz_lt, nz_eq, nz_eq0, nz_le0, nz_lt0, nz_0lt, nz_m5, nz_inT, true_and, and_true, forall_eq, not_false_eq_true, not_true_eq_false, true_imp_iff, false_imp_iff, implies_true]
  exact ⟨fun c => absurd c (by omega), fun _ => ⟨fun c => absurd c (by omega), fun _ => h⟩⟩
theorem nz_out {x : Int32} {a b : Nat} (ha : a < 2147483648) (hb : b < 2147483647) (h1 : ∀ n, a ≤ n → n ≤ b → ¬ x = nI n) (c : ¬ x < nI a) (c2 : ¬ nI b < x) : False := by
  rcases nz_or x (b + 1) (by omega) with ⟨n, hn, rfl⟩ | q | q
  · by_cases hab : a ≤ n
    · exact absurd rfl (h1 n hab (by omega))
    · exact absurd (nI_lt (by omega) (by omega)) c
  · refine absurd ?_ c
    rw [Int32.lt_iff_toInt_lt, nI_toInt ha]
    rw [Int32.lt_iff_toInt_lt] at q
    have : (0 : Int32).toInt = 0 := rfl
    omega
  · refine absurd ?_ c2
    rw [Int32.lt_iff_toInt_lt, nI_toInt (by omega)]
    rw [Int32.le_iff_toInt_le, nI_toInt (by omega)] at q
    omega
theorem cWithin_f {x : Int32} {a b : Nat} (ha : a < 2147483648) (hb : b < 2147483647) (h1 : ∀ n, a ≤ n → n ≤ b → ¬ x = nI n) {Q : Int32 → Prop} (h : Q (nI 0)) : wp_X6_isWithin x (nI a) (nI b) Q := by
  unfold wp_X6_isWithin
  exact ⟨fun _ => h, fun c => ⟨fun _ => h, fun c2 => absurd (nz_out ha hb h1 c c2) id⟩⟩
theorem nz_nle {x : Int32} {b : Nat} (hb : b < 2147483647) (c : ¬ nI (b + 1) ≤ x) : ¬ nI b < x := by
  intro h
  refine c ?_
  rw [Int32.lt_iff_toInt_lt, nI_toInt (by omega)] at h
  rw [Int32.le_iff_toInt_le, nI_toInt (by omega)]
  omega
theorem cFloor_f {x : Int32} (hx : ¬ ∃ f, f < 10 ∧ x = nI f) {Q : Int32 → Prop} (h : Q (nI 0)) : wp_X6_isFloor x Q := by
  unfold wp_X6_isFloor
  exact ⟨fun _ => h, fun c => ⟨fun _ => h, fun c2 => absurd (nz_out (a := 0) (b := 9) (by omega) (by omega) (fun n _ h2 e => hx ⟨n, by omega, e⟩) c (nz_nle (b := 9) (by omega) c2)) id⟩⟩
theorem cPerson_f {x : Int32} (hx : ¬ ∃ f, f < 16 ∧ x = nI f) {Q : Int32 → Prop} (h : Q (nI 0)) : wp_X6_isPerson x Q := by
  unfold wp_X6_isPerson
  exact ⟨fun _ => h, fun c => ⟨fun _ => h, fun c2 => absurd (nz_out (a := 0) (b := 15) (by omega) (by omega) (fun n _ h2 e => hx ⟨n, by omega, e⟩) c (nz_nle (b := 15) (by omega) c2)) id⟩⟩
theorem cDay_f {x : Int32} (hx : ¬ ∃ f, f < 400 ∧ x = nI f) {Q : Int32 → Prop} (h : Q (nI 0)) : wp_X6_isDay x Q := by
  unfold wp_X6_isDay
  exact ⟨fun _ => h, fun c => ⟨fun _ => h, fun c2 => absurd (nz_out (a := 0) (b := 399) (by omega) (by omega) (fun n _ h2 e => hx ⟨n, by omega, e⟩) c c2) id⟩⟩
theorem cIn_ok {a k : Nat} (ha : a < 2147483648) (hk : k < 32) {Q : Int32 → Prop} (h1 : a.testBit k = true → Q (nI 1)) (h0 : a.testBit k = false → Q (nI 0)) : wp_X6_isIn (nI a) (nI k) Q := by
  unfold wp_X6_isIn
  rw [nx_shr ha hk]
  cases e : a.testBit k
  · exact ifP nI_0 (h0 e)
  · exact ifN nz10 (h1 e)
/-- the class's values against the numbers -/
def RRows (V2 V3 : Nat → Int32) (N : Nat → Nat) : Prop := (∀ f, f < 10 → V2 f = nI (N (9 + 31 * f))) ∧ ∀ f, f < 10 → ∀ k, k < N (9 + 31 * f) → V3 (5 * f + k) = nI (N (10 + 31 * f + k))
def RLeaves (g : Int32) (V5 V6 V7 : Nat → Int32) (N : Nat → Nat) : Prop := g = nI (N 6) ∧ ∃ σ, Pm σ (N 6) ∧ ∀ i, i < N 6 → V5 i = nI (N (350 + 3 * σ i)) ∧ V6 i = nI (N (351 + 3 * σ i)) ∧ V7 i = nI (N (352 + 3 * σ i))
def RLog (V8 V11 V12 V13 : Nat → Int32) (N : Nat → Nat) : Prop := (∀ f, f < 10 → V8 f = nI (N (15 + 31 * f))) ∧ ∀ f, f < 10 → ∀ r, r < N (16 + 31 * f) → V11 (6 * f + r) = nI (N (17 + 31 * f + 3 * (N (16 + 31 * f) - 1 - r))) ∧ V12 (6 * f + r) = nI (N (18 + 31 * f + 3 * (N (16 + 31 * f) - 1 - r))) ∧ V13 (6 * f + r) = nI (N (19 + 31 * f + 3 * (N (16 + 31 * f) - 1 - r)))
def qSet (N : Nat → Nat) (f : Nat) : Nat := bs (fun q => decide (N (35 + 31 * f + q) = 1)) 4
def RS (V : SV) (N : Nat → Nat) : Prop := (∀ w, w < 3 → V 0 w = nI (N w)) ∧ (∀ f, f < 10 → V 1 f = nI (N (8 + 31 * f))) ∧ RRows (V 2) (V 3) N ∧ (∀ p, p < 16 → V 4 p = nI (N (318 + 2 * p))) ∧ RLeaves (V 14 1) (V 5) (V 6) (V 7) N ∧ RLog (V 8) (V 11) (V 12) (V 13) N ∧ (∀ f, f < 10 → V 9 f = nI (qSet N f)) ∧ (∀ p, p < 16 → V 10 p = nI (N (319 + 2 * p))) ∧ V 14 0 = nI (N 3) ∧ V 14 2 = nI (N 5)
/-- what the acts keep -/
def Inv (b : Nat) (N : Nat → Nat) : Prop := PInv N ∧ N 6 ≤ 40 ∧ N 2 ≤ 1 ∧ N 3 ≤ 399 ∧ Zero N ∧ (∀ k, k < N 6 → N (351 + 3 * k) ≤ N (352 + 3 * k)) ∧ (∀ i k, i < N 6 → k < N 6 → i ≠ k → N (350 + 3 * i) = N (350 + 3 * k) → N (352 + 3 * i) < N (351 + 3 * k) ∨ N (352 + 3 * k) < N (351 + 3 * i)) ∧ (∀ f q, f < 10 → q < 4 → N (35 + 31 * f + q) ≤ 1) ∧ (∀ f, f < 10 → N (15 + 31 * f) ≤ b ∧ N (16 + 31 * f) = min (N (15 + 31 * f)) 6) ∧ N 4 = sm (fun f => N (15 + 31 * f)) 10
theorem personAt_ok {V2 V3 : Nat → Int32} {N : Nat → Nat} (hI : PInv N) (hR : RRows V2 V3 N) {f k : Nat} (hf : f < 10) (hk : k < 5) {Q : Int32 → Prop} (h1 : k < mn N f → Q (nI (rw_ N f k))) (h0 : mn N f ≤ k → Q (-5)) : wp_X5_personAt V2 V3 (nI f) (nI k) Q := by
  have h5 := mn_le hI f
  have hm := mn_at (N := N) hf
  unfold wp_X5_personAt wb_X5_personAt_25
  simp (disch := omega) only [sN, nI_add, pk_mul, nz_cl, nz_le, nz_lt, nz_eq, nz_eq0, nz_le0, nz_lt0, nz_0lt, nz_m5, nz_inT, true_and, and_true, forall_eq, not_false_eq_true, not_true_eq_false, true_imp_iff, false_imp_iff, implies_true, hR.1 f hf, ← hm]
  refine ⟨fun c => absurd c (by omega), fun _ => ⟨fun c => absurd c (by omega), fun _ => ⟨fun c => h0 c, fun c => ifN (by decide) ?_⟩⟩⟩
  have := hR.2 f hf k (by omega)
  rw [Nat.mul_comm f 5, this, ← rw_at (N := N) hf hk]
  exact h1 (by omega)
theorem placeOf_loop {V2 V3 : Nat → Int32} {N : Nat → Nat} (hI : PInv N) (hR : RRows V2 V3 N) {f p : Nat} (hf : f < 10) (hp : p < 16) {K : Prop} {Q : Int32 → Prop} : ∀ (m k : Nat), k + m = 5 → (∀ z, mn N f - k = z → (fnd (plP N f p) z k < mn N f → Q (nI (fnd (plP N f p) z k))) ∧ (mn N f ≤ fnd (plP N f p) z k → K)) → wb_X5_placeOf_2 V2 V3 (nI f) (nI p) K Q (m + 1) (nI k) := by
  have h5 := mn_le hI f
  intro m
  induction m with
  | zero =>
    intro k hk h
    obtain rfl : k = 5 := by omega
    rw [wb_X5_placeOf_2]
    exact ifP (by decide) ((h 0 (by omega)).2 h5)
  | succ m ih =>
    intro k hk h
    rw [wb_X5_placeOf_2]
    simp (disch := omega) only [sN, nI_add, pk_mul, nz_cl, nz_le, nz_lt, nz_eq, nz_eq0, nz_le0, nz_lt0, nz_0lt, nz_m5, nz_inT, true_and, and_true, forall_eq, not_false_eq_true, not_true_eq_false, true_imp_iff, false_imp_iff, implies_true]
    refine ⟨fun c => absurd c (by omega), fun _ => personAt_ok hI hR hf (by omega) (fun c => ?_) (fun c => ?_)⟩
    · have hr := rw_lt hI hf c
      have hh := h (mn N f - (k + 1) + 1) (by omega)
      simp (disch := omega) only [sN, nI_add, pk_mul, nz_cl, nz_le, nz_lt, nz_eq, nz_eq0, nz_le0, nz_lt0, nz_0lt, nz_m5, nz_inT, true_and, and_true, forall_eq, not_false_eq_true, not_true_eq_false, true_imp_iff, false_imp_iff, implies_true]
      refine ⟨fun c2 => ?_, fun c2 => ?_⟩
      · have hn : ¬ plP N f p k = true := fun e => c2 (of_decide_eq_true e)
        simp only [fnd, if_neg hn] at hh
        exact ih (k + 1) (by omega) (fun z hz => by rw [← hz]; exact hh)
      · have hy : plP N f p k = true := decide_eq_true c2
        simp only [fnd, if_pos hy] at hh
        exact hh.1 c
    · refine ifN' (fun e => ?_) ?_
      · have := (nz_m5 (n := p) (by omega)).mp e.symm
        exact this
      · try simp (disch := omega) only [sN, nI_add, pk_mul, nz_cl, nz_le, nz_lt, nz_eq, nz_eq0, nz_le0, nz_lt0, nz_0lt, nz_m5, nz_inT, true_and, and_true, forall_eq, not_false_eq_true, not_true_eq_false, true_imp_iff, false_imp_iff, implies_true]
        have hh := (h 0 (by omega)).2 (by simp only [fnd]; exact c)
        exact ih (k + 1) (by omega) (fun z hz => ⟨fun q => absurd q (by have := (fnd_le (plP N f p) z (k + 1)).1; omega), fun _ => hh⟩)
theorem placeOf_ok {V2 V3 : Nat → Int32} {N : Nat → Nat} (hI : PInv N) (hR : RRows V2 V3 N) {f p : Nat} (hf : f < 10) (hp : p < 16) {Q : Int32 → Prop} (h1 : plIn N f p < mn N f → Q (nI (plIn N f p))) (h2 : plIn N f p = mn N f → Q (-5)) : wp_X5_placeOf V2 V3 (nI f) (nI p) Q :=
  ⟨6, placeOf_loop hI hR hf hp 5 0 (by omega) (fun z hz => by
    rw [Nat.sub_zero] at hz
    rw [← hz]
    have := (fnd_le (plP N f p) (mn N f) 0).2
    exact ⟨h1, fun q => h2 (by unfold plIn; omega)⟩)⟩

