/-! the class's walks over days -/
theorem fshort_23 {N : Nat → Nat} (hI : PInv N) {P : PS} (hP : PI N P) {s1 : Int32} {n1 z1 h1 t1 : Nat → Int32} (hR : RP6 s1 n1 z1 h1 t1 N P) {K : Int32 → Prop} (hK : K (nI (sm (fun f => b01 (decide (0 < lack N P f))) 10))) : ∀ (m k : Nat), k + m = 10 → wb_X6_floorsShortToday_23 n1 z1 K (m + 1) (nI (sm (fun f => b01 (decide (0 < lack N P f))) k)) (nI k) := by
  intro m
  induction m with
  | zero =>
    intro k hk
    obtain rfl : k = 10 := by omega
    rw [wb_X6_floorsShortToday_23]
    exact ifP (by decide) hK
  | succ m ih =>
    intro k hk
    have next := ih (k + 1) (by omega)
    rw [sm_add] at next
    have l := lack_le hI P k
    rw [wb_X6_floorsShortToday_23]
    simp (disch := omega) only [sN, nI_add, pk_mul, nz_cl, nz_le, nz_lt, nz_eq, nz_eq0, nz_le0, nz_lt0, nz_0lt, nz_m5, nz_inT, true_and, and_true, forall_eq, not_false_eq_true, not_true_eq_false, true_imp_iff, false_imp_iff, implies_true]
    refine ⟨fun c => absurd c (by omega), fun _ => lack4_ok hR.2.1 hR.1.2.1 hP.2.1 (by omega) ?_⟩
    simp (disch := omega) only [sN, nI_add, pk_mul, nz_cl, nz_le, nz_lt, nz_eq, nz_eq0, nz_le0, nz_lt0, nz_0lt, nz_m5, nz_inT, true_and, and_true, forall_eq, not_false_eq_true, not_true_eq_false, true_imp_iff, false_imp_iff, implies_true]
    refine ⟨fun c => ?_, fun c => ?_⟩
    · rw [show b01 (decide (0 < lack N P k)) = 0 by rw [decide_eq_false (by omega)]; rfl, Nat.add_zero] at next
      exact next
    · rw [show b01 (decide (0 < lack N P k)) = 1 by rw [decide_eq_true (by omega)]; rfl] at next
      exact next
theorem cfloorsShort_ok {V : SV} {N : Nat → Nat} (hI : PInv N) (h6 : N 6 ≤ 40) (hS : RS V N) {t : Nat} (ht : t ≤ 399) {s1 : Int32} {O1 n1 z1 h1 t1 : Nat → Int32} {Q : Int32 → Int32 → (Nat → Int32) → (Nat → Int32) → (Nat → Int32) → (Nat → Int32) → (Nat → Int32) → Prop} (h : ∀ s1 O1 n1 z1 h1 t1, Q (nI (shortF N t)) s1 O1 n1 z1 h1 t1) : wp_X6_floorsShortToday (nI t) (V 0) (V 1) (V 2) (V 3) (V 4) (V 14 1) (V 5) (V 6) (V 7) s1 O1 n1 z1 h1 t1 Q := by
  unfold wp_X6_floorsShortToday
  refine clay_ok hI h6 hS (by omega) (ab := able N t) x3_0 (fun s1 O1 n1 z1 h1 t1 hR => ⟨11, fshort_23 hI (PI_plan hI _) hR (h _ _ _ _ _ _) 10 0 (by omega)⟩)
theorem wlack_23 {N : Nat → Nat} (hI : PInv N) {P : PS} (hP : PI N P) {s1 : Int32} {n1 z1 h1 t1 : Nat → Int32} (hR : RP6 s1 n1 z1 h1 t1 N P) {K : Int32 → Prop} (hK : K (nI (sm (lack N P) 10))) : ∀ (m k : Nat), k + m = 10 → wb_X6_wardensLackingToday_23 n1 z1 K (m + 1) (nI (sm (lack N P) k)) (nI k) := by
  intro m
  induction m with
  | zero =>
    intro k hk
    obtain rfl : k = 10 := by omega
    rw [wb_X6_wardensLackingToday_23]
    exact ifP (by decide) hK
  | succ m ih =>
    intro k hk
    have next := ih (k + 1) (by omega)
    have l := lack_le hI P k
    rw [wb_X6_wardensLackingToday_23]
    simp (disch := omega) only [sN, nI_add, pk_mul, nz_cl, nz_le, nz_lt, nz_eq, nz_eq0, nz_le0, nz_lt0, nz_0lt, nz_m5, nz_inT, true_and, and_true, forall_eq, not_false_eq_true, not_true_eq_false, true_imp_iff, false_imp_iff, implies_true]
    refine ⟨fun c => absurd c (by omega), fun _ => lack4_ok hR.2.1 hR.1.2.1 hP.2.1 (by omega) ?_⟩
    simp (disch := omega) only [sN, nI_add, pk_mul, nz_cl, nz_le, nz_lt, nz_eq, nz_eq0, nz_le0, nz_lt0, nz_0lt, nz_m5, nz_inT, true_and, and_true, forall_eq, not_false_eq_true, not_true_eq_false, true_imp_iff, false_imp_iff, implies_true]
    exact next
theorem cwardensLacking_ok {V : SV} {N : Nat → Nat} (hI : PInv N) (h6 : N 6 ≤ 40) (hS : RS V N) {t : Nat} (ht : t ≤ 399) {s1 : Int32} {O1 n1 z1 h1 t1 : Nat → Int32} {Q : Int32 → Int32 → (Nat → Int32) → (Nat → Int32) → (Nat → Int32) → (Nat → Int32) → (Nat → Int32) → Prop} (h : ∀ s1 O1 n1 z1 h1 t1, Q (nI (sm (lack N (plan N (able N t))) 10)) s1 O1 n1 z1 h1 t1) : wp_X6_wardensLackingToday (nI t) (V 0) (V 1) (V 2) (V 3) (V 4) (V 14 1) (V 5) (V 6) (V 7) s1 O1 n1 z1 h1 t1 Q := by
  unfold wp_X6_wardensLackingToday
  refine clay_ok hI h6 hS (by omega) (ab := able N t) x3_0 (fun s1 O1 n1 z1 h1 t1 hR => ⟨11, wlack_23 hI (PI_plan hI _) hR (h _ _ _ _ _ _) 10 0 (by omega)⟩)
/-- floors that are ready for a drill on a day, the first k looked at -/
def rdK (N : Nat → Nat) (d k j : Nat) : Bool := isDue N (d / 100) j && !(decide (j < k) && decide (0 < lack N (plan N (able N d)) j))
def rdy (N : Nat → Nat) (d : Nat) : Nat := bs (rdK N d 10) 10
theorem rdK_0 {N : Nat → Nat} {d : Nat} : bs (isDue N (d / 100)) 10 = bs (rdK N d 0) 10 := bs_congr (fun j _ => by
  unfold rdK
  rw [decide_eq_false (Nat.not_lt_zero j)]
  simp)
theorem rdK_n {N : Nat → Nat} {d k : Nat} (h : lack N (plan N (able N d)) k = 0) : bs (rdK N d k) 10 = bs (rdK N d (k + 1)) 10 := bs_congr (fun j _ => by
  unfold rdK
  by_cases e : j = k
  · subst e
    rw [h]
    simp
  · rw [show decide (j < k + 1) = decide (j < k) from decide_eq_decide.mpr (by omega)])
theorem rdK_y {N : Nat → Nat} {d k : Nat} (hk : k < 10) (h : 0 < lack N (plan N (able N d)) k) : nI (bs (rdK N d k) 10) &&& ((nI 1 <<< (nI k &&& 31)) ^^^ (-1)) = nI (bs (rdK N d (k + 1)) 10) := by
  rw [nx_shl (by omega), nx_not, bs_not1]
  congr 1
  refine bs_congr (fun j _ => ?_)
  unfold rdK
  by_cases e : j = k
  · subst e
    rw [decide_eq_true h, decide_eq_true (rfl : j = j), decide_eq_true (Nat.lt_succ_self j)]
    simp
  · rw [show decide (j < k + 1) = decide (j < k) from decide_eq_decide.mpr (by omega), decide_eq_false e]
    simp
