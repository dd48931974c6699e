/-! leaves of the class -/
def RLv (σ : Nat → Nat) (V5 V6 V7 : Nat → Int32) (N : Nat → Nat) : Prop := ∀ i, i < N 6 → V5 i = nI (N (350 + 3 * σ i)) ∧ V6 i = nI (N (351 + 3 * σ i)) ∧ V7 i = nI (N (352 + 3 * σ i))
theorem find_loop {σ : Nat → Nat} {V5 V6 V7 : Nat → Int32} {N : Nat → Nat} (hI : PInv N) (h6 : N 6 ≤ 40) (hσ : Pm σ (N 6)) (hR : RLv σ V5 V6 V7 N) {p a b : Nat} (hp : p < 16) (ha : a < 1000) (hb : b < 1000) {K : Prop} {Q : Int32 → Prop} (h1 : ∀ i, i < N 6 → ovl N p a b (σ i) = true → Q (nI i)) : ∀ (m k : Nat), k + m = N 6 → (∀ i, i < k → ovl N p a b (σ i) = false) → ((∀ i, i < N 6 → ovl N p a b (σ i) = false) → K) → wb_X2_find_3 (nI (N 6)) V5 V6 V7 (nI p) (nI a) (nI b) K Q (m + 1) (nI k) := by
  intro m
  induction m with
  | zero =>
    intro k hk hn hK
    rw [wb_X2_find_3]
    simp (disch := omega) only [sN, nI_add, pk_mul, nz_cl, nz_le, nz_lt, nz_eq, nz_eq0, nz_le0, nz_lt0, nz_0lt, nz_m5, nz_inT, true_and, and_true, forall_eq, not_false_eq_true, not_true_eq_false, true_imp_iff, false_imp_iff, implies_true]
    exact ⟨fun _ => hK (fun i hi => hn i (by omega)), fun c => absurd (by omega) c⟩
  | succ m ih =>
    intro k hk hn hK
    have hs := hσ.1 k (by omega)
    have hlk := hI.2.2.2.2.2 (σ k) hs
    obtain ⟨e5, e6, e7⟩ := hR k (by omega)
    have next : ovl N p a b (σ k) = false → wb_X2_find_3 (nI (N 6)) V5 V6 V7 (nI p) (nI a) (nI b) K Q (m + 1) (nI (k + 1)) := fun q => ih (k + 1) (by omega) (fun i hi => by
      by_cases e : i = k
      · rw [e]
        exact q
      · exact hn i (by omega)) hK
    rw [wb_X2_find_3]
    simp (disch := omega) only [sN, nI_add, pk_mul, nz_cl, nz_le, nz_lt, nz_eq, nz_eq0, nz_le0, nz_lt0, nz_0lt, nz_m5, nz_inT, true_and, and_true, forall_eq, not_false_eq_true, not_true_eq_false, true_imp_iff, false_imp_iff, implies_true, e5, e6, e7]
    refine ⟨fun c => absurd c (by omega), fun _ => ⟨fun c => absurd c (by omega), fun _ => ⟨fun c => next ?_, fun c1 => ⟨fun c => next ?_, fun c2 => ⟨fun c => next ?_, fun c3 => h1 k (by omega) ?_⟩⟩⟩⟩⟩
    · exact decide_eq_false (fun q => c q.1)
    · exact decide_eq_false (fun q => absurd q.2.1 (by omega))
    · exact decide_eq_false (fun q => absurd q.2.2 (by omega))
    · exact decide_eq_true ⟨c1, by omega, by omega⟩
theorem ovOn_none {σ : Nat → Nat} {N : Nat → Nat} (hσ : Pm σ (N 6)) {p a b : Nat} (h : ∀ i, i < N 6 → ovl N p a b (σ i) = false) : ovOn N p a b = N 6 := by
  have := fnd_none (ovl N p a b) (n := N 6) (i := 0) (fun k _ hk => by
    obtain ⟨i, hi, e⟩ := hσ.ont (t := k) (by omega)
    rw [← e]
    exact h i hi)
  unfold ovOn
  omega
theorem ovOn_some {N : Nat → Nat} {p a b k : Nat} (hk : k < N 6) (h : ovl N p a b k = true) : ovOn N p a b < N 6 := by
  have hl := fnd_le (ovl N p a b) (N 6) 0
  unfold ovOn
  rcases Nat.lt_or_ge (fnd (ovl N p a b) (N 6) 0) (N 6) with q | q
  · exact q
  · have := fnd_min (ovl N p a b) (N 6) 0 k (by omega) (by omega)
    rw [h] at this
    cases this
theorem find_ok {σ : Nat → Nat} {V5 V6 V7 : Nat → Int32} {N : Nat → Nat} (hI : PInv N) (h6 : N 6 ≤ 40) (hσ : Pm σ (N 6)) (hR : RLv σ V5 V6 V7 N) {p a b : Nat} (hp : p < 16) (ha : a < 1000) (hb : b < 1000) {Q : Int32 → Prop} (h1 : ∀ i, i < N 6 → ovl N p a b (σ i) = true → Q (nI i)) (h0 : ovOn N p a b = N 6 → Q (-5)) : wp_X2_find (nI (N 6)) V5 V6 V7 (nI p) (nI a) (nI b) Q :=
  ⟨N 6 + 1, find_loop hI h6 hσ hR hp ha hb h1 (N 6) 0 (by omega) (fun i hi => absurd hi (by omega)) (fun q => h0 (ovOn_none hσ q))⟩
/-- who is away -/
def awK (σ : Nat → Nat) (N : Nat → Nat) (d k : Nat) (p : Nat) : Bool := exB (fun i => lvP N p d (σ i)) k
theorem awayOn_loop {σ : Nat → Nat} {V5 V6 V7 : Nat → Int32} {N : Nat → Nat} (hI : PInv N) (h6 : N 6 ≤ 40) (hσ : Pm σ (N 6)) (hR : RLv σ V5 V6 V7 N) {d : Nat} (hd : d < 1000) {K : Int32 → Prop} (hK : K (nI (bs (awK σ N d (N 6)) 16))) : ∀ (m k : Nat), k + m = N 6 → wb_X2_awayOn_4 (nI (N 6)) V5 V6 V7 (nI d) K (m + 1) (nI (bs (awK σ N d k) 16)) (nI k) := by
  intro m
  induction m with
  | zero =>
    intro k hk
    obtain rfl : k = N 6 := by omega
    rw [wb_X2_awayOn_4]
    exact ifP (by rw [nz_le (by omega) (by omega)]; omega) hK
  | succ m ih =>
    intro k hk
    have hs := hσ.1 k (by omega)
    have hlk := hI.2.2.2.2.2 (σ k) hs
    obtain ⟨e5, e6, e7⟩ := hR k (by omega)
    have next := ih (k + 1) (by omega)
    have same : (∀ p, lvP N p d (σ k) = false) → bs (awK σ N d (k + 1)) 16 = bs (awK σ N d k) 16 := fun q => bs_congr (fun j hj => by
      unfold awK
      rw [exB, q j, Bool.or_false])
    rw [wb_X2_awayOn_4]
    simp (disch := omega) only [sN, nI_add, pk_mul, nz_cl, nz_le, nz_lt, nz_eq, nz_eq0, nz_le0, nz_lt0, nz_0lt, nz_m5, nz_inT, true_and, and_true, forall_eq, not_false_eq_true, not_true_eq_false, true_imp_iff, false_imp_iff, implies_true, e5, e6, e7]
    refine ⟨fun c => absurd c (by omega), fun _ => ⟨fun c => absurd c (by omega), fun _ => ⟨fun c => ?_, fun c1 => ⟨fun c => ?_, fun c2 => ?_⟩⟩⟩⟩
    · rw [same (fun p => decide_eq_false (fun q => absurd q.2.1 (by omega)))] at next
      exact next
    · rw [same (fun p => decide_eq_false (fun q => absurd q.2.2 (by omega)))] at next
      exact next
    · rw [nx_shl (by omega), nx_or, bs_or1 _ (by omega)]
      have e : bs (awK σ N d (k + 1)) 16 = bs (fun j => awK σ N d k j || decide (j = N (350 + 3 * σ k))) 16 := bs_congr (fun j hj => by
        unfold awK
        rw [exB]
        congr 1
        unfold lvP
        by_cases q : j = N (350 + 3 * σ k)
        · rw [decide_eq_true q, decide_eq_true ⟨q.symm, by omega, by omega⟩]
        · rw [decide_eq_false q, decide_eq_false (fun r => q r.1.symm)])
      rw [e] at next
      exact next
theorem awayOn_ok {σ : Nat → Nat} {V5 V6 V7 : Nat → Int32} {N : Nat → Nat} (hI : PInv N) (h6 : N 6 ≤ 40) (hσ : Pm σ (N 6)) (hR : RLv σ V5 V6 V7 N) {d : Nat} (hd : d < 1000) {Q : Int32 → Prop} (h : Q (nI (bs (fun p => away N p d) 16))) : wp_X2_awayOn (nI (N 6)) V5 V6 V7 (nI d) Q := by
  have e : bs (fun p => away N p d) 16 = bs (awK σ N d (N 6)) 16 := bs_congr (fun j hj => by
    rw [away_exB, ← exB_perm hσ]
    rfl)
  have e0 : bs (awK σ N d 0) 16 = 0 := bs_0 16
  refine ⟨N 6 + 1, ?_⟩
  have := awayOn_loop hI h6 hσ hR hd (K := Q) (by rw [← e]; exact h) (N 6) 0 (by omega)
  rw [e0] at this
  exact this
theorem cleavesOf_loop {σ : Nat → Nat} {V5 V6 V7 : Nat → Int32} {N : Nat → Nat} (hI : PInv N) (h6 : N 6 ≤ 40) (hσ : Pm σ (N 6)) (hR : RLv σ V5 V6 V7 N) {p : Nat} (hp : p < 16) {K : Int32 → Prop} (hK : K (nI (sm (fun i => lvMany N p (σ i)) (N 6)))) : ∀ (m k : Nat), k + m = N 6 → wb_X2_leavesOf_4 (nI (N 6)) V5 (nI p) K (m + 1) (nI (sm (fun i => lvMany N p (σ i)) k)) (nI k) := by
  intro m
  induction m with
  | zero =>
    intro k hk
    obtain rfl : k = N 6 := by omega
    rw [wb_X2_leavesOf_4]
    exact ifP (by rw [nz_le (by omega) (by omega)]; omega) hK
  | succ m ih =>
    intro k hk
    have hs := hσ.1 k (by omega)
    have hlk := hI.2.2.2.2.2 (σ k) hs
    obtain ⟨e5, e6, e7⟩ := hR k (by omega)
    have next := ih (k + 1) (by omega)
    rw [sm_add, lvMany] at next
    rw [wb_X2_leavesOf_4]
    simp (disch := omega) only [sN, nI_add, pk_mul, nz_cl, nz_le, nz_lt, nz_eq, nz_eq0, nz_le0, nz_lt0, nz_0lt, nz_m5, nz_inT, true_and, and_true, forall_eq, not_false_eq_true, not_true_eq_false, true_imp_iff, false_imp_iff, implies_true, e5, e6, e7]
    refine ⟨fun c => absurd c (by omega), fun _ => ⟨fun c => absurd c (by omega), fun _ => ⟨fun c => ?_, fun c => ?_⟩⟩⟩
    · rw [if_neg c] at next
      exact next
    · rw [if_pos c] at next
      exact next
theorem cleavesOf_ok {σ : Nat → Nat} {V5 V6 V7 : Nat → Int32} {N : Nat → Nat} (hI : PInv N) (h6 : N 6 ≤ 40) (hσ : Pm σ (N 6)) (hR : RLv σ V5 V6 V7 N) {p : Nat} (hp : p < 16) {Q : Int32 → Prop} (h : Q (nI (sm (lvMany N p) (N 6)))) : wp_X2_leavesOf (nI (N 6)) V5 (nI p) Q :=
  ⟨N 6 + 1, cleavesOf_loop hI h6 hσ hR hp (by rw [sm_perm _ _ hσ (lvMany N p)]; exact h) (N 6) 0 (by omega)⟩
theorem cdaysOf_loop {σ : Nat → Nat} {V5 V6 V7 : Nat → Int32} {N : Nat → Nat} (hI : PInv N) (h6 : N 6 ≤ 40) (ho : ∀ k, k < N 6 → N (351 + 3 * k) ≤ N (352 + 3 * k)) (hσ : Pm σ (N 6)) (hR : RLv σ V5 V6 V7 N) {p : Nat} (hp : p < 16) {K : Int32 → Prop} (hK : K (nI (sm (fun i => lvDays N p (σ i)) (N 6)))) : ∀ (m k : Nat), k + m = N 6 → wb_X2_daysOf_4 (nI (N 6)) V5 V6 V7 (nI p) K (m + 1) (nI (sm (fun i => lvDays N p (σ i)) k)) (nI k) := by
  intro m
  induction m with
  | zero =>
    intro k hk
    obtain rfl : k = N 6 := by omega
    rw [wb_X2_daysOf_4]
    exact ifP (by rw [nz_le (by omega) (by omega)]; omega) hK
  | succ m ih =>
    intro k hk
    have hs := hσ.1 k (by omega)
    have hlk := hI.2.2.2.2.2 (σ k) hs
    have hok := ho (σ k) hs
    obtain ⟨e5, e6, e7⟩ := hR k (by omega)
    have next := ih (k + 1) (by omega)
    rw [sm_add, lvDays] at next
    rw [wb_X2_daysOf_4]
    simp (disch := omega) only [sN, nI_add, pk_mul, nz_cl, nz_le, nz_lt, nz_eq, nz_eq0, nz_le0, nz_lt0, nz_0lt, nz_m5, nz_inT, true_and, and_true, forall_eq, not_false_eq_true, not_true_eq_false, true_imp_iff, false_imp_iff, implies_true, e5, e6, e7, nz_sub]
    refine ⟨fun c => absurd c (by omega), fun _ => ⟨fun c => absurd c (by omega), fun _ => ⟨fun c => ?_, fun c => ?_⟩⟩⟩
    · rw [if_neg c] at next
      exact next
    · rw [if_pos c] at next
      exact next
theorem cdaysOf_ok {σ : Nat → Nat} {V5 V6 V7 : Nat → Int32} {N : Nat → Nat} (hI : PInv N) (h6 : N 6 ≤ 40) (ho : ∀ k, k < N 6 → N (351 + 3 * k) ≤ N (352 + 3 * k)) (hσ : Pm σ (N 6)) (hR : RLv σ V5 V6 V7 N) {p : Nat} (hp : p < 16) {Q : Int32 → Prop} (h : Q (nI (sm (lvDays N p) (N 6)))) : wp_X2_daysOf (nI (N 6)) V5 V6 V7 (nI p) Q :=
  ⟨N 6 + 1, cdaysOf_loop hI h6 ho hσ hR hp (by rw [sm_perm _ _ hσ (lvDays N p)]; exact h) (N 6) 0 (by omega)⟩

