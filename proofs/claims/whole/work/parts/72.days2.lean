def shOn (N : Nat → Nat) (f d : Nat) : Bool := decide (0 < lack N (plan N (able N d)) f)
theorem cfirst_17 {V : SV} {N : Nat → Nat} (hI : PInv N) (h6 : N 6 ≤ 40) (hS : RS V N) {f : Nat} (hf : f < 10) {K : Int32 → (Nat → Int32) → (Nat → Int32) → (Nat → Int32) → (Nat → Int32) → (Nat → Int32) → Prop} {Q : Int32 → Int32 → (Nat → Int32) → (Nat → Int32) → (Nat → Int32) → (Nat → Int32) → (Nat → Int32) → Prop} : ∀ (m k : Nat), k + m = 400 → (fnd (shOn N f) m k < 400 → ∀ s1 O1 n1 z1 h1 t1, Q (nI (fnd (shOn N f) m k)) s1 O1 n1 z1 h1 t1) → (fnd (shOn N f) m k = 400 → ∀ s1 O1 n1 z1 h1 t1, K s1 O1 n1 z1 h1 t1) → ∀ s1 O1 n1 z1 h1 t1, wb_X6_firstShort_17 (V 0) (V 1) (V 2) (V 3) (V 4) (V 14 1) (V 5) (V 6) (V 7) (nI f) K Q (m + 1) s1 O1 n1 z1 h1 t1 (nI k) := by
  intro m
  induction m with
  | zero =>
    intro k hk hQ hK s1 O1 n1 z1 h1 t1
    obtain rfl : k = 400 := by omega
    rw [wb_X6_firstShort_17]
    exact ifP (by decide) (hK rfl _ _ _ _ _ _)
  | succ m ih =>
    intro k hk hQ hK s1 O1 n1 z1 h1 t1
    rw [wb_X6_firstShort_17]
    try simp (disch := omega) only [sN, nI_add, pk_mul, nz_cl, nz_le, nz_lt, nz_eq, nz_eq0, nz_le0, nz_lt0, nz_0lt, nz_m5, nz_inT, true_and, and_true, forall_eq, not_false_eq_true, not_true_eq_false, true_imp_iff, false_imp_iff, implies_true]
    refine ⟨fun c => absurd c (by omega), fun _ => clay_ok hI h6 hS (by omega) (ab := able N k) x3_0 (fun s1 O1 n1 z1 h1 t1 hR => lack4_ok hR.2.1 hR.1.2.1 (PI_plan hI _).2.1 hf ?_)⟩
    have l := lack_le hI (plan N (able N k)) f
    try simp (disch := omega) only [sN, nI_add, pk_mul, nz_cl, nz_le, nz_lt, nz_eq, nz_eq0, nz_le0, nz_lt0, nz_0lt, nz_m5, nz_inT, true_and, and_true, forall_eq, not_false_eq_true, not_true_eq_false, true_imp_iff, false_imp_iff, implies_true]
    refine ⟨fun c => ?_, fun c => ?_⟩
    · have e : ¬ shOn N f k = true := fun e => absurd (of_decide_eq_true e) (by omega)
      simp only [fnd, if_neg e] at hQ hK
      exact ih (k + 1) (by omega) hQ hK _ _ _ _ _ _
    · have e : shOn N f k = true := decide_eq_true (by omega)
      simp only [fnd, if_pos e] at hQ
      exact hQ (by omega) _ _ _ _ _ _
theorem rfirst_21 {N : Nat → Nat} (hI : PInv N) {f : Nat} (hf : f < 10) {th : Int32} {K : (Nat → Int32) → (Nat → Int32) → (Nat → Int32) → (Nat → Int32) → Prop} {Q : Int32 → Int32 → (Nat → Int32) → (Nat → Int32) → (Nat → Int32) → (Nat → Int32) → Prop} : ∀ (m k : Nat), k + m = 400 → (fnd (shOn N f) m k < 400 → ∀ q1 q2 q3 q4, Q (nI (fnd (shOn N f) m k)) th q1 q2 q3 q4) → (fnd (shOn N f) m k = 400 → ∀ q1 q2 q3 q4, K q1 q2 q3 q4) → ∀ q1 q2 q3 q4, wb_X7_firstShort_21 th (sN N) (nI f) K Q (m + 1) q1 q2 q3 q4 (nI k) := by
  intro m
  induction m with
  | zero =>
    intro k hk hQ hK q1 q2 q3 q4
    obtain rfl : k = 400 := by omega
    rw [wb_X7_firstShort_21]
    exact ifP (by decide) (hK rfl _ _ _ _)
  | succ m ih =>
    intro k hk hQ hK q1 q2 q3 q4
    rw [wb_X7_firstShort_21]
    simp (disch := omega) only [nz_lt]
    refine ⟨fun c => absurd c (by omega), fun _ => plans_ok hI (by omega) (fun q1 q2 q3 q4 hR => shortBy_ok hR.2.1 (PI_plan hI _).2.1 hf ?_)⟩
    have l := lack_le hI (plan N (able N k)) f
    simp (disch := omega) only [nz_le0, nI_add, forall_eq]
    refine ⟨fun c => ?_, fun c => ?_⟩
    · have e : ¬ shOn N f k = true := fun e => absurd (of_decide_eq_true e) (by omega)
      simp only [fnd, if_neg e] at hQ hK
      exact ih (k + 1) (by omega) hQ hK _ _ _ _
    · have e : shOn N f k = true := decide_eq_true (by omega)
      simp only [fnd, if_pos e] at hQ
      exact hQ (by omega) _ _ _ _
def svOn (N : Nat → Nat) (p d : Nat) : Nat := b01 (decide (0 < (plan N (able N d)).1 p))
theorem cload_52 {V : SV} {N : Nat → Nat} (hI : PInv N) (h6 : N 6 ≤ 40) (hS : RS V N) {p t e : Nat} (hp : p < 16) (ht : t ≤ 399) (he : e ≤ 399) {K : Int32 → (Nat → Int32) → (Nat → Int32) → (Nat → Int32) → (Nat → Int32) → (Nat → Int32) → Int32 → Prop} (hK : ∀ s1 O1 n1 z1 h1 t1, K s1 O1 n1 z1 h1 t1 (nI (sm (fun i => svOn N p (t + i)) (e + 1 - t)))) : ∀ (m k : Nat), k + m = e + 1 - t → ∀ s1 O1 n1 z1 h1 t1, wb_X6_load_52 (V 0) (V 1) (V 2) (V 3) (V 4) (V 14 1) (V 5) (V 6) (V 7) (nI p) (nI e) K (m + 1) s1 O1 n1 z1 h1 t1 (nI (sm (fun i => svOn N p (t + i)) k)) (nI (t + k)) := by
  intro m
  induction m with
  | zero =>
    intro k hk s1 O1 n1 z1 h1 t1
    obtain rfl : k = e + 1 - t := by omega
    rw [wb_X6_load_52]
    try simp (disch := omega) only [sN, nI_add, pk_mul, nz_cl, nz_le, nz_lt, nz_eq, nz_eq0, nz_le0, nz_lt0, nz_0lt, nz_m5, nz_inT, true_and, and_true, forall_eq, not_false_eq_true, not_true_eq_false, true_imp_iff, false_imp_iff, implies_true]
    exact ⟨fun _ => hK _ _ _ _ _ _, fun c => absurd c (by omega)⟩
  | succ m ih =>
    intro k hk s1 O1 n1 z1 h1 t1
    have next := ih (k + 1) (by omega)
    rw [sm_add] at next
    rw [wb_X6_load_52]
    try simp (disch := omega) only [sN, nI_add, pk_mul, nz_cl, nz_le, nz_lt, nz_eq, nz_eq0, nz_le0, nz_lt0, nz_0lt, nz_m5, nz_inT, true_and, and_true, forall_eq, not_false_eq_true, not_true_eq_false, true_imp_iff, false_imp_iff, implies_true]
    refine ⟨fun c => absurd c (by omega), fun _ => clay_ok hI h6 hS (by omega) (ab := able N (t + k)) x3_0 (fun s1 O1 n1 z1 h1 t1 hR => cfloorOf_ok hI (PI_plan hI _) hR.1 hp (fun c => ?_) (fun c => ?_))⟩
    · have h10 := (PI_plan hI (able N (t + k))).1 p
      rw [show svOn N p (t + k) = 1 by unfold svOn; rw [decide_eq_true c]; rfl] at next
      refine ifN (by rw [nz_m5 (by omega)]; exact id) ?_
      try simp (disch := omega) only [sN, nI_add, pk_mul, nz_cl, nz_le, nz_lt, nz_eq, nz_eq0, nz_le0, nz_lt0, nz_0lt, nz_m5, nz_inT, true_and, and_true, forall_eq, not_false_eq_true, not_true_eq_false, true_imp_iff, false_imp_iff, implies_true]
      exact next _ _ _ _ _ _
    · rw [show svOn N p (t + k) = 0 by unfold svOn; rw [decide_eq_false (by omega)]; rfl, Nat.add_zero] at next
      refine ifP rfl ?_
      try simp (disch := omega) only [sN, nI_add, pk_mul, nz_cl, nz_le, nz_lt, nz_eq, nz_eq0, nz_le0, nz_lt0, nz_0lt, nz_m5, nz_inT, true_and, and_true, forall_eq, not_false_eq_true, not_true_eq_false, true_imp_iff, false_imp_iff, implies_true]
      exact next _ _ _ _ _ _
theorem rload_37 {N : Nat → Nat} (hI : PInv N) (h3 : N 3 ≤ 399) {p n : Nat} (hp : p < 16) (hn : n ≤ 99) {K : (Nat → Int32) → (Nat → Int32) → (Nat → Int32) → (Nat → Int32) → Int32 → Prop} (hK : ∀ q1 q2 q3 q4, K q1 q2 q3 q4 (nI (sm (fun i => svOn N p (N 3 + i)) (min 399 (N 3 + n - 1) + 1 - N 3)))) : ∀ (m k : Nat), k + m = min 399 (N 3 + n - 1) + 1 - N 3 → 0 < n → ∀ q1 q2 q3 q4, wb_X7_load_37 (sN N) (nI p) (nI n) K (m + 1) q1 q2 q3 q4 (nI (sm (fun i => svOn N p (N 3 + i)) k)) (nI (N 3 + k)) := by
  intro m
  induction m with
  | zero =>
    intro k hk h0 q1 q2 q3 q4
    obtain rfl : k = min 399 (N 3 + n - 1) + 1 - N 3 := by omega
    rw [wb_X7_load_37]
    try simp (disch := omega) only [sN, nI_add, pk_mul, nz_cl, nz_le, nz_lt, nz_eq, nz_eq0, nz_le0, nz_lt0, nz_0lt, nz_m5, nz_inT, true_and, and_true, forall_eq, not_false_eq_true, not_true_eq_false, true_imp_iff, false_imp_iff, implies_true]
    exact ⟨fun _ => hK _ _ _ _, fun c => ⟨fun _ => hK _ _ _ _, fun c2 => absurd c2 (by omega)⟩⟩
  | succ m ih =>
    intro k hk h0 q1 q2 q3 q4
    have next := ih (k + 1) (by omega) h0
    rw [sm_add] at next
    rw [wb_X7_load_37]
    simp (disch := omega) only [sN, nz_cl, nI_add, nz_le, nz_lt, nz_inT, true_and]
    refine ⟨fun c => absurd c (by omega), fun _ => ⟨fun c => absurd c (by omega), fun _ => plans_ok hI (by omega) (fun q1 q2 q3 q4 hR => ?_)⟩⟩
    have h10 := (PI_plan hI (able N (N 3 + k))).1 p
    simp (disch := omega) only [nz_cl, nz_inT, true_and, hR.1 p hp]
    by_cases c : (plan N (able N (N 3 + k))).1 p = 0
    · rw [show svOn N p (N 3 + k) = 0 by unfold svOn; rw [decide_eq_false (by omega)]; rfl] at next
      rw [if_pos c]
      refine ifP rfl ?_
      simp only [forall_eq, nI_add]
      exact next _ _ _ _
    · rw [show svOn N p (N 3 + k) = 1 by unfold svOn; rw [decide_eq_true (by omega)]; rfl] at next
      rw [if_neg c]
      refine ifN (by rw [nz_m5 (by omega)]; exact id) ?_
      simp only [forall_eq, nI_add]
      exact next _ _ _ _
