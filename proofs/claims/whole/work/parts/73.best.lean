/-! the best day -/
theorem b01_le (b : Bool) : b01 b ≤ 1 := by cases b <;> decide
theorem pop_le (n : Nat) : pop n ≤ 16 := by
  have := sm_le (g := fun k => b01 (n.testBit k)) (b := 1) (n := 16) (fun j _ => b01_le _)
  unfold pop
  omega
theorem rdy_lt {N : Nat → Nat} {d : Nat} : rdy N d < 1024 := bs_lt _ 10
def bst (N : Nat → Nat) (t : Nat) : Nat → Nat × Nat
  | 0 => (0, 0)
  | k + 1 => if pop (bst N t k).2 < pop (rdy N (t + k)) then (t + k + 1, rdy N (t + k)) else bst N t k
theorem bst_lt {N : Nat → Nat} {t : Nat} : ∀ k, (bst N t k).2 < 1024 ∧ (bst N t k).1 ≤ t + k := by
  intro k
  induction k with
  | zero => exact ⟨(by decide : 0 < 1024), Nat.zero_le _⟩
  | succ k ih =>
    rw [bst]
    split
    · exact ⟨rdy_lt, Nat.le_refl _⟩
    · exact ⟨ih.1, by omega⟩
def noD (n : Nat) : Int32 := if n = 0 then -5 else nI (n - 1)
theorem noD_s (n : Nat) : noD (n + 1) = nI n := if_neg (Nat.succ_ne_zero n)
theorem noD_0 {n : Nat} (h : n < 1000) : noD n = -5 ↔ n = 0 := by
  unfold noD
  split
  · rename_i c
    exact ⟨fun _ => c, fun _ => rfl⟩
  · rename_i c
    rw [nz_m5 (by omega)]
    exact ⟨False.elim, fun e => c e⟩
theorem cbest_26 {V : SV} {b : Nat} {N : Nat → Nat} (hI : Inv b N) (hS : RS V N) {t : Nat} (ht : t ≤ 399) {K : Int32 → (Nat → Int32) → (Nat → Int32) → (Nat → Int32) → (Nat → Int32) → (Nat → Int32) → Int32 → Int32 → Prop} (hK : ∀ s1 O1 n1 z1 h1 t1, K s1 O1 n1 z1 h1 t1 (noD (bst N t (400 - t)).1) (nI (bst N t (400 - t)).2)) : ∀ (m k : Nat), k + m = 400 - t → ∀ s1 O1 n1 z1 h1 t1, wb_X6_bestDay_26 (V 0) (V 1) (V 2) (V 3) (V 4) (V 14 1) (V 5) (V 6) (V 7) (V 9) K (m + 1) s1 O1 n1 z1 h1 t1 (noD (bst N t k).1) (nI (bst N t k).2) (nI (t + k)) := by
  intro m
  induction m with
  | zero =>
    intro k hk s1 O1 n1 z1 h1 t1
    obtain rfl : k = 400 - t := by omega
    rw [wb_X6_bestDay_26]
    try simp (disch := omega) only [sN, nI_add, pk_mul, nz_cl, nz_le, nz_lt, nz_eq, nz_eq0, nz_le0, nz_lt0, nz_0lt, nz_m5, nz_inT, true_and, and_true, forall_eq, not_false_eq_true, not_true_eq_false, true_imp_iff, false_imp_iff, implies_true]
    exact ⟨fun _ => hK _ _ _ _ _ _, fun c => absurd c (by omega)⟩
  | succ m ih =>
    intro k hk s1 O1 n1 z1 h1 t1
    have next := ih (k + 1) (by omega)
    rw [bst] at next
    have l1 := rdy_lt (N := N) (d := t + k)
    have l2 := (bst_lt (N := N) (t := t) k).1
    have p1 := pop_le (rdy N (t + k))
    have p2 := pop_le (bst N t k).2
    rw [wb_X6_bestDay_26]
    try simp (disch := omega) only [sN, nI_add, pk_mul, nz_cl, nz_le, nz_lt, nz_eq, nz_eq0, nz_le0, nz_lt0, nz_0lt, nz_m5, nz_inT, true_and, and_true, forall_eq, not_false_eq_true, not_true_eq_false, true_imp_iff, false_imp_iff, implies_true]
    refine ⟨fun c => absurd c (by omega), fun _ => cready_ok hI hS (by omega) (fun s1 O1 n1 z1 h1 t1 => bitCount_ok (by omega) (bitCount_ok (by omega) ?_))⟩
    try simp (disch := omega) only [sN, nI_add, pk_mul, nz_cl, nz_le, nz_lt, nz_eq, nz_eq0, nz_le0, nz_lt0, nz_0lt, nz_m5, nz_inT, true_and, and_true, forall_eq, not_false_eq_true, not_true_eq_false, true_imp_iff, false_imp_iff, implies_true]
    refine ⟨fun c => ?_, fun c => ?_⟩
    · rw [if_neg (by omega)] at next
      exact next _ _ _ _ _ _
    · rw [if_pos (by omega)] at next
      simp only [noD_s] at next
      exact next _ _ _ _ _ _
theorem ones_n {a : Nat} (ha : a < 1024) {Q : Int32 → Prop} (h : Q (nI (pop a))) : wp_X7_ones (nI a) Q := by
  have e := bs_tb a (n := 10) ha
  rw [← e, pop_bs _ (by omega)] at h
  rw [← e]
  exact ones_ok _ h
theorem rbest_58 {N : Nat → Nat} (hI : PInv N) {d : Nat} {q1 q2 q3 q4 : Nat → Int32} (hR : RP7 q1 q2 q3 q4 (plan N (able N d))) {K : Int32 → Prop} (hK : K (nI (rdy N d))) : ∀ (m k : Nat), k + m = 10 → wb_X7_bestDay_58 (sN N) q3 K (m + 1) (nI (bs (rdK N d k) 10)) (nI k) := by
  have hP := PI_plan hI (able N d)
  intro m
  induction m with
  | zero =>
    intro k hk
    obtain rfl : k = 10 := by omega
    rw [wb_X7_bestDay_58]
    exact ifP (by decide) hK
  | succ m ih =>
    intro k hk
    have next := ih (k + 1) (by omega)
    have l := lack_le hI (plan N (able N d)) k
    rw [wb_X7_bestDay_58]
    simp (disch := omega) only [nz_le]
    refine ⟨fun c => absurd c (by omega), fun _ => shortBy_ok hR.2.1 hP.2.1 (by omega) ?_⟩
    simp (disch := omega) only [nz_le0, forall_eq, nI_add, nx_m1]
    refine ⟨fun c => ?_, fun c => ?_⟩
    · rw [rdK_n c]
      exact next
    · rw [rdK_y (by omega) (by omega)]
      exact next
theorem rbest_30 {b : Nat} {N : Nat → Nat} (hI : Inv b N) {t : Nat} (ht : t ≤ 399) {K : (Nat → Int32) → (Nat → Int32) → (Nat → Int32) → (Nat → Int32) → Int32 → Int32 → Prop} (hK : ∀ q1 q2 q3 q4, K q1 q2 q3 q4 (noD (bst N t (400 - t)).1) (nI (bst N t (400 - t)).2)) : ∀ (m k : Nat), k + m = 400 - t → ∀ q1 q2 q3 q4, wb_X7_bestDay_30 (sN N) K (m + 1) q1 q2 q3 q4 (noD (bst N t k).1) (nI (bst N t k).2) (nI (t + k)) := by
  intro m
  induction m with
  | zero =>
    intro k hk q1 q2 q3 q4
    obtain rfl : k = 400 - t := by omega
    rw [wb_X7_bestDay_30]
    try simp (disch := omega) only [sN, nI_add, pk_mul, nz_cl, nz_le, nz_lt, nz_eq, nz_eq0, nz_le0, nz_lt0, nz_0lt, nz_m5, nz_inT, true_and, and_true, forall_eq, not_false_eq_true, not_true_eq_false, true_imp_iff, false_imp_iff, implies_true]
    exact ⟨fun _ => hK _ _ _ _, fun c => absurd c (by omega)⟩
  | succ m ih =>
    intro k hk q1 q2 q3 q4
    have next := ih (k + 1) (by omega)
    rw [bst] at next
    have l1 := rdy_lt (N := N) (d := t + k)
    have l2 := (bst_lt (N := N) (t := t) k).1
    have p1 := pop_le (rdy N (t + k))
    have p2 := pop_le (bst N t k).2
    rw [wb_X7_bestDay_30]
    simp (disch := omega) only [nz_lt]
    refine ⟨fun c => absurd c (by omega), fun _ => plans_ok hI.1 (by omega) (fun q1 q2 q3 q4 hR => ?_)⟩
    rw [pk_div (by omega) (by omega) (by omega)]
    refine dueIn_ok hI.1 hI.2.2.2.2.2.2.2.1 (q := (t + k) / 100) (by omega) ⟨11, ?_⟩
    rw [rdK_0]
    refine rbest_58 hI.1 hR ?_ 10 0 (by omega)
    refine ones_n l1 (ones_n l2 ?_)
    simp (disch := omega) only [nz_le]
    refine ⟨fun c => ifP nI_0 ?_, fun c => ifN nz10 ?_⟩
    · rw [if_neg (by omega)] at next
      unfold wb_X7_bestDay_125
      refine ifP nI_0 ?_
      simp only [forall_eq, nI_add]
      exact next _ _ _ _
    · rw [if_pos (by omega)] at next
      simp only [noD_s] at next
      unfold wb_X7_bestDay_125
      refine ifN nz10 ?_
      simp only [forall_eq, nI_add]
      exact next _ _ _ _
