/-! the reference's sets and sums -/
def inRow (N : Nat → Nat) (p f : Nat) : Bool := decide (plIn N f p < mn N f)
theorem or_k {P : Nat → Bool} {k : Nat} (hk : k < 16) (c : P k = true) : nI (bs P k) ||| (nI 1 <<< (nI k &&& 31)) = nI (bs P (k + 1)) := by
  rw [nx_shl (by omega), nx_or]
  simp only [bs, if_pos c]
theorem or_0 {P : Nat → Bool} {k : Nat} (c : ¬ P k = true) : nI (bs P k) ||| nI 0 = nI (bs P (k + 1)) := by
  rw [nx_or]
  simp only [bs, if_neg c]
theorem bs_n {P : Nat → Bool} {k : Nat} (c : ¬ P k = true) : nI (bs P k) = nI (bs P (k + 1)) := by
  simp only [bs, if_neg c, Nat.or_zero]
theorem floorsOf_loop {N : Nat → Nat} (hI : PInv N) {p : Nat} (hp : p < 16) {K : Int32 → Prop} (hK : K (nI (bs (inRow N p) 10))) : ∀ (m k : Nat), k + m = 10 → wb_X7_floorsOf_4 (sN N) (nI p) K (m + 1) (nI (bs (inRow N p) k)) (nI k) := by
  intro m
  induction m with
  | zero =>
    intro k hk
    obtain rfl : k = 10 := by omega
    rw [wb_X7_floorsOf_4]
    exact ifP (by decide) hK
  | succ m ih =>
    intro k hk
    have next := ih (k + 1) (by omega)
    have h5 := mn_le hI k
    rw [wb_X7_floorsOf_4]
    simp (disch := omega) only [sN, nI_add, pk_mul, nz_cl, nz_le, nz_lt, nz_eq, nz_eq0, nz_le0, nz_lt0, nz_0lt, nz_m5, nz_inT, true_and, and_true, forall_eq, not_false_eq_true, not_true_eq_false, true_imp_iff, false_imp_iff, implies_true]
    refine ⟨fun c => absurd c (by omega), fun _ => placeIn_ok hI (by omega) hp (fun c => ?_) (fun c => ?_)⟩
    · refine ifN (by rw [nz_m5 (by omega)]; exact id) ?_
      rw [or_k (by omega) (decide_eq_true c)]
      exact next
    · refine ifP rfl ?_
      rw [or_0 (by rw [inRow, decide_eq_false (by omega)]; decide)]
      exact next
theorem floorsOf_ok {N : Nat → Nat} (hI : PInv N) {p : Nat} (hp : p < 16) {Q : Int32 → Prop} (h : Q (nI (bs (inRow N p) 10))) : wp_X7_floorsOf (sN N) (nI p) Q :=
  ⟨11, floorsOf_loop hI hp h 10 0 (by omega)⟩
def isDue (N : Nat → Nat) (q f : Nat) : Bool := decide (0 < N (8 + 31 * f)) && decide (N (35 + 31 * f + q) = 0)
theorem dueIn_loop {N : Nat → Nat} (hI : PInv N) (hq1 : ∀ f q, f < 10 → q < 4 → N (35 + 31 * f + q) ≤ 1) {q : Nat} (hq : q < 4) {K : Int32 → Prop} (hK : K (nI (bs (isDue N q) 10))) : ∀ (m k : Nat), k + m = 10 → wb_X7_dueIn_4 (sN N) (nI q) K (m + 1) (nI (bs (isDue N q) k)) (nI k) := by
  intro m
  induction m with
  | zero =>
    intro k hk
    obtain rfl : k = 10 := by omega
    rw [wb_X7_dueIn_4]
    exact ifP (by decide) hK
  | succ m ih =>
    intro k hk
    have next := ih (k + 1) (by omega)
    have h3 := (hI.2.1 k (by omega)).1
    have h1 := hq1 k q (by omega) hq
    rw [wb_X7_dueIn_4]
    simp (disch := omega) only [sN, nI_add, pk_mul, nz_cl, nz_le, nz_lt, nz_eq, nz_eq0, nz_le0, nz_lt0, nz_0lt, nz_m5, nz_inT, true_and, and_true, forall_eq, not_false_eq_true, not_true_eq_false, true_imp_iff, false_imp_iff, implies_true]
    refine ⟨fun c => absurd c (by omega), fun _ => of_ok (by omega) (by omega) ?_⟩
    simp (disch := omega) only [sN, nI_add, pk_mul, nz_cl, nz_le, nz_lt, nz_eq, nz_eq0, nz_le0, nz_lt0, nz_0lt, nz_m5, nz_inT, true_and, and_true, forall_eq, not_false_eq_true, not_true_eq_false, true_imp_iff, false_imp_iff, implies_true, Nat.add_zero]
    refine ⟨fun c => ?_, fun c => of_ok (by omega) (by omega) ?_⟩
    · rw [or_0 (by rw [isDue, decide_eq_false (by omega), Bool.false_and]; decide)]
      exact next
    · rw [show 8 + 31 * k + (27 + q) = 35 + 31 * k + q by omega]
      simp (disch := omega) only [sN, nI_add, pk_mul, nz_cl, nz_le, nz_lt, nz_eq, nz_eq0, nz_le0, nz_lt0, nz_0lt, nz_m5, nz_inT, true_and, and_true, forall_eq, not_false_eq_true, not_true_eq_false, true_imp_iff, false_imp_iff, implies_true]
      refine ⟨fun c2 => ?_, fun c2 => ?_⟩
      · rw [or_0 (by rw [isDue, decide_eq_false c2, Bool.and_false]; decide)]
        exact next
      · rw [or_k (by omega) (by rw [isDue, decide_eq_true (by omega), decide_eq_true c2]; rfl)]
        exact next
theorem dueIn_ok {N : Nat → Nat} (hI : PInv N) (hq1 : ∀ f q, f < 10 → q < 4 → N (35 + 31 * f + q) ≤ 1) {q : Nat} (hq : q < 4) {Q : Int32 → Prop} (h : Q (nI (bs (isDue N q) 10))) : wp_X7_dueIn (sN N) (nI q) Q :=
  ⟨11, dueIn_loop hI hq1 hq h 10 0 (by omega)⟩
def lvMany (N : Nat → Nat) (p k : Nat) : Nat := if N (350 + 3 * k) = p then 1 else 0
def lvDays (N : Nat → Nat) (p k : Nat) : Nat := if N (350 + 3 * k) = p then N (352 + 3 * k) - N (351 + 3 * k) + 1 else 0
theorem leavesOf_many {N : Nat → Nat} (hI : PInv N) {p : Nat} (hp : p < 16) {K : Int32 → Prop} (hK : K (nI (sm (lvMany N p) (N 6)))) : ∀ (m k : Nat), k + m = N 6 → wb_X7_leavesOf_5 (sN N) (nI p) (nI 0) K (m + 1) (nI (sm (lvMany N p) k)) (nI k) := by
  obtain ⟨-, -, -, h6, -, hl⟩ := hI
  intro m
  induction m with
  | zero =>
    intro k hk
    obtain rfl : k = N 6 := by omega
    rw [wb_X7_leavesOf_5]
    simp (disch := omega) only [sN, nI_add, pk_mul, nz_cl, nz_le, nz_lt, nz_eq, nz_eq0, nz_le0, nz_lt0, nz_0lt, nz_m5, nz_inT, true_and, and_true, forall_eq, not_false_eq_true, not_true_eq_false, true_imp_iff, false_imp_iff, implies_true]
    exact ⟨fun _ => hK, fun c => absurd (Nat.le_refl _) c⟩
  | succ m ih =>
    intro k hk
    have next := ih (k + 1) (by omega)
    rw [sm_add, lvMany] at next
    have hlk := hl k (by omega)
    rw [wb_X7_leavesOf_5]
    simp (disch := omega) only [sN, nI_add, pk_mul, nz_cl, nz_le, nz_lt, nz_eq, nz_eq0, nz_le0, nz_lt0, nz_0lt, nz_m5, nz_inT, true_and, and_true, forall_eq, not_false_eq_true, not_true_eq_false, true_imp_iff, false_imp_iff, implies_true]
    refine ⟨fun c => absurd c (by omega), fun _ => ?_⟩
    unfold wb_X7_leavesOf_42
    refine ofLeave_ok (by omega) (by omega) ?_
    simp (disch := omega) only [sN, nI_add, pk_mul, nz_cl, nz_le, nz_lt, nz_eq, nz_eq0, nz_le0, nz_lt0, nz_0lt, nz_m5, nz_inT, true_and, and_true, forall_eq, not_false_eq_true, not_true_eq_false, true_imp_iff, false_imp_iff, implies_true, Nat.add_zero]
    refine ⟨fun c => ?_, fun c => ?_⟩
    · rw [if_neg c] at next
      exact next
    · rw [if_pos c] at next
      exact next
theorem leavesOf_days {N : Nat → Nat} (hI : PInv N) (ho : ∀ k, k < N 6 → N (351 + 3 * k) ≤ N (352 + 3 * k)) {p : Nat} (hp : p < 16) {K : Int32 → Prop} (hK : K (nI (sm (lvDays N p) (N 6)))) : ∀ (m k : Nat), k + m = N 6 → wb_X7_leavesOf_5 (sN N) (nI p) (nI 1) K (m + 1) (nI (sm (lvDays N p) k)) (nI k) := by
  obtain ⟨-, -, -, h6, -, hl⟩ := hI
  intro m
  induction m with
  | zero =>
    intro k hk
    obtain rfl : k = N 6 := by omega
    rw [wb_X7_leavesOf_5]
    simp (disch := omega) only [sN, nI_add, pk_mul, nz_cl, nz_le, nz_lt, nz_eq, nz_eq0, nz_le0, nz_lt0, nz_0lt, nz_m5, nz_inT, true_and, and_true, forall_eq, not_false_eq_true, not_true_eq_false, true_imp_iff, false_imp_iff, implies_true]
    exact ⟨fun _ => hK, fun c => absurd (Nat.le_refl _) c⟩
  | succ m ih =>
    intro k hk
    have next := ih (k + 1) (by omega)
    rw [sm_add, lvDays] at next
    have hlk := hl k (by omega)
    have hok := ho k (by omega)
    rw [wb_X7_leavesOf_5]
    simp (disch := omega) only [sN, nI_add, pk_mul, nz_cl, nz_le, nz_lt, nz_eq, nz_eq0, nz_le0, nz_lt0, nz_0lt, nz_m5, nz_inT, true_and, and_true, forall_eq, not_false_eq_true, not_true_eq_false, true_imp_iff, false_imp_iff, implies_true]
    refine ⟨fun c => absurd c (by omega), fun _ => ifN (by decide) (ofLeave_ok (by omega) (by omega) (ofLeave_ok (by omega) (by omega) ?_))⟩
    unfold wb_X7_leavesOf_42
    refine ofLeave_ok (by omega) (by omega) ?_
    rw [show 350 + 3 * k + 2 = 352 + 3 * k by omega, show 350 + 3 * k + 1 = 351 + 3 * k by omega]
    simp (disch := omega) only [sN, nI_add, pk_mul, nz_cl, nz_le, nz_lt, nz_eq, nz_eq0, nz_le0, nz_lt0, nz_0lt, nz_m5, nz_inT, true_and, and_true, forall_eq, not_false_eq_true, not_true_eq_false, true_imp_iff, false_imp_iff, implies_true, Nat.add_zero, nz_sub]
    refine ⟨fun c => ?_, fun c => ?_⟩
    · rw [if_neg c] at next
      exact next
    · rw [if_pos c] at next
      exact next
theorem shortFloors_loop {N : Nat → Nat} (hI : PInv N) {ct : Nat → Int32} {P : PS} (hct : ∀ f, f < 10 → ct f = nI (P.2.2.1 f)) (hle : ∀ f, f < 10 → P.2.2.1 f ≤ nd N f) {K : Int32 → Prop} (hK : K (nI (sm (fun f => b01 (decide (0 < lack N P f))) 10))) : ∀ (m k : Nat), k + m = 10 → wb_X7_shortFloors_9 (sN N) ct K (m + 1) (nI (sm (fun f => b01 (decide (0 < lack N P f))) k)) (nI k) := by
  intro m
  induction m with
  | zero =>
    intro k hk
    obtain rfl : k = 10 := by omega
    rw [wb_X7_shortFloors_9]
    exact ifP (by decide) hK
  | succ m ih =>
    intro k hk
    have next := ih (k + 1) (by omega)
    rw [sm_add, b01] at next
    have h3 := lack_le hI P k
    rw [wb_X7_shortFloors_9]
    simp (disch := omega) only [sN, nI_add, pk_mul, nz_cl, nz_le, nz_lt, nz_eq, nz_eq0, nz_le0, nz_lt0, nz_0lt, nz_m5, nz_inT, true_and, and_true, forall_eq, not_false_eq_true, not_true_eq_false, true_imp_iff, false_imp_iff, implies_true]
    refine ⟨fun c => absurd c (by omega), fun _ => shortBy_ok hct hle (by omega) ?_⟩
    simp (disch := omega) only [sN, nI_add, pk_mul, nz_cl, nz_le, nz_lt, nz_eq, nz_eq0, nz_le0, nz_lt0, nz_0lt, nz_m5, nz_inT, true_and, and_true, forall_eq, not_false_eq_true, not_true_eq_false, true_imp_iff, false_imp_iff, implies_true]
    refine ⟨fun c => ?_, fun c => ?_⟩
    · rw [if_neg (by rw [decide_eq_false (by omega)]; decide)] at next
      exact next
    · rw [if_pos (decide_eq_true (by omega))] at next
      exact next
def shortF (N : Nat → Nat) (d : Nat) : Nat := sm (fun f => b01 (decide (0 < lack N (plan N (able N d)) f))) 10
theorem shortFloors_ok {N : Nat → Nat} (hI : PInv N) {d : Nat} (hd : d ≤ 399) {s1 s2 s3 s4 : Nat → Int32} {Q : Int32 → (Nat → Int32) → (Nat → Int32) → (Nat → Int32) → (Nat → Int32) → Prop} (h : ∀ s1 s2 s3 s4, Q (nI (shortF N d)) s1 s2 s3 s4) : wp_X7_shortFloors (sN N) s1 s2 s3 s4 (nI d) Q := by
  unfold wp_X7_shortFloors
  refine plans_ok hI (by omega) (fun t1 t2 t3 t4 hR => ⟨11, ?_⟩)
  exact shortFloors_loop hI hR.2.1 (PI_plan hI _).2.1 (h _ _ _ _) 10 0 (by omega)
theorem shortInAll_loop {N : Nat → Nat} (hI : PInv N) {ct : Nat → Int32} {P : PS} (hct : ∀ f, f < 10 → ct f = nI (P.2.2.1 f)) (hle : ∀ f, f < 10 → P.2.2.1 f ≤ nd N f) {K : Int32 → Prop} (hK : K (nI (sm (lack N P) 10))) : ∀ (m k : Nat), k + m = 10 → wb_X7_shortInAll_14 (sN N) ct K (m + 1) (nI (sm (lack N P) k)) (nI k) := by
  intro m
  induction m with
  | zero =>
    intro k hk
    obtain rfl : k = 10 := by omega
    rw [wb_X7_shortInAll_14]
    exact ifP (by decide) hK
  | succ m ih =>
    intro k hk
    have next := ih (k + 1) (by omega)
    rw [sm_add] at next
    have h3 := lack_le hI P k
    rw [wb_X7_shortInAll_14]
    simp (disch := omega) only [sN, nI_add, pk_mul, nz_cl, nz_le, nz_lt, nz_eq, nz_eq0, nz_le0, nz_lt0, nz_0lt, nz_m5, nz_inT, true_and, and_true, forall_eq, not_false_eq_true, not_true_eq_false, true_imp_iff, false_imp_iff, implies_true]
    refine ⟨fun c => absurd c (by omega), fun _ => shortBy_ok hct hle (by omega) ?_⟩
    try simp (disch := omega) only [sN, nI_add, pk_mul, nz_cl, nz_le, nz_lt, nz_eq, nz_eq0, nz_le0, nz_lt0, nz_0lt, nz_m5, nz_inT, true_and, and_true, forall_eq, not_false_eq_true, not_true_eq_false, true_imp_iff, false_imp_iff, implies_true]
    exact next
theorem shortInAll_ok {N : Nat → Nat} (hI : PInv N) (hd : N 3 ≤ 399) {s1 s2 s3 s4 : Nat → Int32} {Q : Int32 → (Nat → Int32) → (Nat → Int32) → (Nat → Int32) → (Nat → Int32) → Prop} (h : ∀ s1 s2 s3 s4, Q (nI (sm (lack N (plan N (able N (N 3)))) 10)) s1 s2 s3 s4) : wp_X7_shortInAll (sN N) s1 s2 s3 s4 Q := by
  unfold wp_X7_shortInAll
  simp (disch := omega) only [sN, nI_add, pk_mul, nz_cl, nz_le, nz_lt, nz_eq, nz_eq0, nz_le0, nz_lt0, nz_0lt, nz_m5, nz_inT, true_and, and_true, forall_eq, not_false_eq_true, not_true_eq_false, true_imp_iff, false_imp_iff, implies_true]
  refine plans_ok hI (by omega) (fun t1 t2 t3 t4 hR => ⟨11, ?_⟩)
  exact shortInAll_loop hI hR.2.1 (PI_plan hI _).2.1 (h _ _ _ _) 10 0 (by omega)
theorem persons_64 {x k : Nat} {b : Bool} {K : Int32 → Int32 → Prop} (h : K (nI (x + b01 b)) (nI (k + 1))) : wb_X7_persons_64 (nI x) (nI k) K (nI (b01 b)) := by
  unfold wb_X7_persons_64
  simp (disch := omega) only [sN, nI_add, pk_mul, nz_cl, nz_le, nz_lt, nz_eq, nz_eq0, nz_le0, nz_lt0, nz_0lt, nz_m5, nz_inT, true_and, and_true, forall_eq, not_false_eq_true, not_true_eq_false, true_imp_iff, false_imp_iff, implies_true]
  cases b
  · exact ifP nI_0 h
  · exact ifN nz10 h
theorem persons_loop {N : Nat → Nat} (hI : PInv N) (h3 : N 3 ≤ 399) {sv : Nat → Int32} {g : Nat → Bool} {w : Nat} (hw : w ≤ 1) (hg1 : w = 1 → ∀ p, p < 16 → (sv p = -5 ↔ g p = false)) (hg0 : w = 0 → ∀ p, p < 16 → g p = away N p (N 3)) {K : Int32 → Prop} (hK : K (nI (sm (fun p => b01 (g p)) 16))) : ∀ (m k : Nat), k + m = 16 → wb_X7_persons_14 (sN N) sv (nI w) K (m + 1) (nI (sm (fun p => b01 (g p)) k)) (nI k) := by
  intro m
  induction m with
  | zero =>
    intro k hk
    obtain rfl : k = 16 := by omega
    rw [wb_X7_persons_14]
    exact ifP (by decide) hK
  | succ m ih =>
    intro k hk
    have next := ih (k + 1) (by omega)
    rw [sm_add] at next
    have h6 := hI.2.2.2.1
    rw [wb_X7_persons_14]
    simp (disch := omega) only [sN, nI_add, pk_mul, nz_cl, nz_le, nz_lt, nz_eq, nz_eq0, nz_le0, nz_lt0, nz_0lt, nz_m5, nz_inT, true_and, and_true, forall_eq, not_false_eq_true, not_true_eq_false, true_imp_iff, false_imp_iff, implies_true]
    refine ⟨fun c => absurd c (by omega), fun _ => ⟨fun c => ?_, fun c => ?_⟩⟩
    · have e := hg0 c k (by omega)
      refine leaveOn_ok hI (by omega) (by omega) (fun q => ?_) (fun q => ?_)
      · refine ifN (by rw [nz_m5 (by omega)]; exact id) (persons_64 (b := true) ?_)
        rw [show g k = true by rw [e, away, decide_eq_true q]] at next
        exact next
      · refine ifP rfl (persons_64 (b := false) ?_)
        rw [show g k = false by rw [e, away, decide_eq_false (by omega)]] at next
        exact next
    · have e := hg1 (by omega) k (by omega)
      refine ⟨fun q => persons_64 (b := false) ?_, fun q => persons_64 (b := true) ?_⟩
      · rw [e.mp q] at next
        exact next
      · rw [show g k = true by cases hh : g k; exact absurd (e.mpr hh) q; rfl] at next
        exact next
