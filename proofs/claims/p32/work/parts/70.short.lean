theorem x3_0 {a : Nat} : nI a &&& (nI 0 ^^^ (-1)) = nI a := by rw [nx_not, Nat.and_zero, Nat.xor_zero]
theorem x3_1 {N : Nat → Nat} {d p : Nat} (hp : p < 16) : nI (bs (able N d) 16) &&& ((nI 1 <<< (nI p &&& 31)) ^^^ (-1)) = nI (bs (abX N d p) 16) := by
  rw [nx_shl (by omega), nx_not, bs_not1]
  rfl
theorem cshort_6 {V : SV} {N : Nat → Nat} (hI : PInv N) (h6 : N 6 ≤ 40) (hS : RS V N) {p a b : Nat} (hp : p < 16) (ha : a ≤ 399) (hb : b ≤ 399) {K : Int32 → (Nat → Int32) → (Nat → Int32) → (Nat → Int32) → (Nat → Int32) → (Nat → Int32) → Int32 → (Nat → Int32) → (Nat → Int32) → (Nat → Int32) → (Nat → Int32) → (Nat → Int32) → Int32 → Prop} (hK : ∀ s1 O1 n1 z1 h1 t1 s2 O2 n2 z2 h2 t2, K s1 O1 n1 z1 h1 t1 s2 O2 n2 z2 h2 t2 (nI (moreIn N p a b))) : ∀ (m k : Nat), k + m = b + 1 - a → ∀ s1 O1 n1 z1 h1 t1 s2 O2 n2 z2 h2 t2, wb_X6_shortByMore_6 (V 0) (V 1) (V 2) (V 3) (V 4) (V 14 1) (V 5) (V 6) (V 7) (nI p) (nI b) K (m + 1) s1 O1 n1 z1 h1 t1 s2 O2 n2 z2 h2 t2 (nI (sm (fun i => more N p (a + i)) k)) (nI (a + k)) := by
  intro m
  induction m with
  | zero =>
    intro k hk s1 O1 n1 z1 h1 t1 s2 O2 n2 z2 h2 t2
    obtain rfl : k = b + 1 - a := by omega
    rw [wb_X6_shortByMore_6]
    simp (disch := omega) only [sN, nI_add, pk_mul, nz_cl, nz_le, nz_lt, nz_eq, nz_eq0, nz_le0, nz_lt0, nz_0lt, nz_m5, nz_inT, true_and, and_true, forall_eq, not_false_eq_true, not_true_eq_false, true_imp_iff, false_imp_iff, implies_true]
    exact ⟨fun _ => hK _ _ _ _ _ _ _ _ _ _ _ _, fun c => absurd c (by omega)⟩
  | succ m ih =>
    intro k hk s1 O1 n1 z1 h1 t1 s2 O2 n2 z2 h2 t2
    rw [wb_X6_shortByMore_6]
    simp (disch := omega) only [sN, nI_add, pk_mul, nz_cl, nz_le, nz_lt, nz_eq, nz_eq0, nz_le0, nz_lt0, nz_0lt, nz_m5, nz_inT, true_and, and_true, forall_eq, not_false_eq_true, not_true_eq_false, true_imp_iff, false_imp_iff, implies_true]
    refine ⟨fun c => absurd c (by omega), fun _ => ⟨fun c => absurd c (by omega), fun _ => clay_ok hI h6 hS (by omega) (ab := able N (a + k)) x3_0 (fun s1 O1 n1 z1 h1 t1 hR => cfloorOf_ok hI (PI_plan hI _) hR.1 hp (fun c => ?_) (fun c => ?_))⟩⟩
    · have h10 := (PI_plan hI (able N (a + k))).1 p
      refine ifN (by rw [nz_m5 (by omega)]; exact id) ?_
      refine clay_ok hI h6 hS (by omega) (ab := abX N (a + k) p) (x3_1 hp) (fun s2 O2 n2 z2 h2 t2 hR2 => lackBeyond_ok hI (PI_plan hI _) (PI_plan hI _) hR2 hR ?_)
      rw [← more_eq hI h6]
      try simp (disch := omega) only [sN, nI_add, pk_mul, nz_cl, nz_le, nz_lt, nz_eq, nz_eq0, nz_le0, nz_lt0, nz_0lt, nz_m5, nz_inT, true_and, and_true, forall_eq, not_false_eq_true, not_true_eq_false, true_imp_iff, false_imp_iff, implies_true]
      exact ih (k + 1) (by omega) _ _ _ _ _ _ _ _ _ _ _ _
    · refine ifP rfl ?_
      try simp (disch := omega) only [sN, nI_add, pk_mul, nz_cl, nz_le, nz_lt, nz_eq, nz_eq0, nz_le0, nz_lt0, nz_0lt, nz_m5, nz_inT, true_and, and_true, forall_eq, not_false_eq_true, not_true_eq_false, true_imp_iff, false_imp_iff, implies_true]
      have h0 : sm (fun i => more N p (a + i)) (k + 1) = sm (fun i => more N p (a + i)) k := by
        rw [sm_add, more_0 hI h6 c]
        rfl
      have next := ih (k + 1) (by omega) s1 O1 n1 z1 h1 t1 s2 O2 n2 z2 h2 t2
      rw [h0] at next
      exact next
theorem cshort_ok {V : SV} {N : Nat → Nat} (hI : PInv N) (h6 : N 6 ≤ 40) (hS : RS V N) {p a b : Nat} (hp : p < 16) (ha : a ≤ 399) (hb : b ≤ 399) {s1 : Int32} {O1 n1 z1 h1 t1 : Nat → Int32} {s2 : Int32} {O2 n2 z2 h2 t2 : Nat → Int32} {Q : Int32 → Int32 → (Nat → Int32) → (Nat → Int32) → (Nat → Int32) → (Nat → Int32) → (Nat → Int32) → Int32 → (Nat → Int32) → (Nat → Int32) → (Nat → Int32) → (Nat → Int32) → (Nat → Int32) → Prop} (h : ∀ s1 O1 n1 z1 h1 t1 s2 O2 n2 z2 h2 t2, Q (nI (moreIn N p a b)) s1 O1 n1 z1 h1 t1 s2 O2 n2 z2 h2 t2) : wp_X6_shortByMore (V 0) (V 1) (V 2) (V 3) (V 4) (V 14 1) (V 5) (V 6) (V 7) s1 O1 n1 z1 h1 t1 s2 O2 n2 z2 h2 t2 (nI p) (nI a) (nI b) Q :=
  ⟨b + 1 - a + 1, cshort_6 hI h6 hS hp ha hb h (b + 1 - a) 0 (by omega) _ _ _ _ _ _ _ _ _ _ _ _⟩

