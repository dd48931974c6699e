/-! rows of the class -/
theorem nd_un {N : Nat → Nat} : True := trivial
theorem appendToRow_ok {V2 V3 : Nat → Int32} {N : Nat → Nat} (hI : PInv N) (hR : RRows V2 V3 N) {f p : Nat} (hf : f < 10) {Q : Int32 → (Nat → Int32) → (Nat → Int32) → Prop} (hfull : mn N f = 5 → Q (-3) V2 V3) (h : mn N f < 5 → ∀ W2 W3, RRows W2 W3 (enN N f p) → Q (nI (N (9 + 31 * f) + 1)) W2 W3) : wp_X5_appendToRow V2 V3 (nI f) (nI p) Q := by
  have h5 := mn_le hI f
  have hm := mn_at (N := N) hf
  unfold wp_X5_appendToRow
  simp (disch := omega) only [sN, nI_add, pk_mul, nz_cl, nz_le, nz_lt, nz_eq, nz_eq0, nz_le0, nz_lt0, nz_0lt, nz_m5, nz_inT, true_and, and_true, forall_eq, not_false_eq_true, not_true_eq_false, true_imp_iff, false_imp_iff, implies_true, hR.1 f hf]
  by_cases c : mn N f = 5
  · refine cWithin_f (by omega) (by omega) (fun n a b e => ?_) (ifP' nI_0 (hfull c))
    have := (nz_eq (by omega) (by omega)).mp e
    omega
  · refine cWithin_t (by omega) (by omega) (by omega) (by omega) (by omega) (ifN' nz10 ?_)
    refine ⟨vp_in_nI (by omega) (by omega), ?_⟩
    try simp (disch := omega) only [sN, nI_add, pk_mul, nz_cl, nz_le, nz_lt, nz_eq, nz_eq0, nz_le0, nz_lt0, nz_0lt, nz_m5, nz_inT, true_and, and_true, forall_eq, not_false_eq_true, not_true_eq_false, true_imp_iff, false_imp_iff, implies_true]
    refine h (by omega) _ _ ⟨fun g hg => ?_, fun g hg k hk => ?_⟩
    · unfold upd enN
      by_cases e : g = f
      · subst e
        rw [if_pos rfl, un_s]
      · rw [if_neg e, un_n (by omega), un_n (by omega)]
        exact hR.1 g hg
    · unfold upd
      unfold enN at hk ⊢
      by_cases e : g = f
      · subst e
        rw [un_s] at hk
        by_cases ek : k = N (9 + 31 * g)
        · subst ek
          rw [if_pos (by omega), un_n (by omega), un_s]
        · rw [if_neg (by omega), un_n (by omega), un_n (by omega)]
          exact hR.2 g hg k (by omega)
      · rw [un_n (by omega), un_n (by omega)] at hk
        have hg5 := mn_le hI g
        rw [mn_at hg] at hg5
        rw [if_neg (by omega), un_n (by omega), un_n (by omega)]
        exact hR.2 g hg k hk
theorem removeFromRow_13 {V3 : Nat → Int32} {f a : Nat} (hf : f < 10) {K : (Nat → Int32) → Prop} (hK : ∀ W, (∀ j, W j = if 5 * f + a ≤ j ∧ j < 5 * f + 4 then V3 (j + 1) else V3 j) → K W) : ∀ (m k : Nat), a ≤ k → k + m = 4 → ∀ W, (∀ j, W j = if 5 * f + a ≤ j ∧ j < 5 * f + k then V3 (j + 1) else V3 j) → wb_X5_removeFromRow_13 (nI (f * 5)) K (m + 1) W (nI (k + 1)) := by
  intro m
  induction m with
  | zero =>
    intro k h3 hk W hW
    obtain rfl : k = 4 := by omega
    rw [wb_X5_removeFromRow_13]
    exact ifP (by decide) (hK _ hW)
  | succ m ih =>
    intro k h3 hk W hW
    rw [wb_X5_removeFromRow_13]
    simp (disch := omega) only [sN, nI_add, pk_mul, nz_cl, nz_le, nz_lt, nz_eq, nz_eq0, nz_le0, nz_lt0, nz_0lt, nz_m5, nz_inT, true_and, and_true, forall_eq, not_false_eq_true, not_true_eq_false, true_imp_iff, false_imp_iff, implies_true, nz_sub]
    refine ⟨fun c => absurd c (by omega), fun _ => ?_⟩
    refine ih (k + 1) (by omega) (by omega) _ (fun j => ?_)
    unfold upd
    by_cases e : j = f * 5 + (k + 1) - 1
    · rw [if_pos e, if_pos (by omega), hW, if_neg (by omega)]
      congr 1
      omega
    · rw [if_neg e, hW]
      by_cases e2 : 5 * f + a ≤ j ∧ j < 5 * f + k
      · rw [if_pos e2, if_pos (by omega)]
      · rw [if_neg e2, if_neg (by omega)]
theorem removeFromRow_ok {V2 V3 : Nat → Int32} {N : Nat → Nat} (hI : PInv N) (hR : RRows V2 V3 N) {f a : Nat} (hf : f < 10) (ha : a < N (9 + 31 * f)) {Q : Int32 → (Nat → Int32) → (Nat → Int32) → Prop} (h : ∀ W2 W3, RRows W2 W3 (stN N f a) → Q (nI (N (9 + 31 * f) - 1)) W2 W3) : wp_X5_removeFromRow V2 V3 (nI f) (nI a) Q := by
  have h5 := mn_le hI f
  have hm := mn_at (N := N) hf
  unfold wp_X5_removeFromRow
  simp (disch := omega) only [sN, nI_add, pk_mul, nz_cl, nz_le, nz_lt, nz_eq, nz_eq0, nz_le0, nz_lt0, nz_0lt, nz_m5, nz_inT, true_and, and_true, forall_eq, not_false_eq_true, not_true_eq_false, true_imp_iff, false_imp_iff, implies_true]
  rw [if_neg (by omega)]
  simp (disch := omega) only [sN, nI_add, pk_mul, nz_cl, nz_le, nz_lt, nz_eq, nz_eq0, nz_le0, nz_lt0, nz_0lt, nz_m5, nz_inT, true_and, and_true, forall_eq, not_false_eq_true, not_true_eq_false, true_imp_iff, false_imp_iff, implies_true]
  refine ⟨4 - a + 1, removeFromRow_13 hf (fun W hW => ?_) (4 - a) a (Nat.le_refl _) (by omega) V3 (fun j => by rw [if_neg (by omega)])⟩
  rw [hR.1 f hf, nz_sub (by omega), pk_us]
  refine h _ _ ⟨fun g hg => ?_, fun g hg k hk => ?_⟩
  · unfold upd stN
    rw [un_n (by omega), st1]
    by_cases e : g = f
    · subst e
      rw [if_pos rfl, if_pos rfl]
    · rw [if_neg e, if_neg (by omega), if_neg (by omega)]
      exact hR.1 g hg
  · have hg5 := mn_le hI g
    rw [mn_at hg] at hg5
    unfold stN at hk ⊢
    rw [un_n (by omega), st1] at hk
    rw [hW]
    by_cases e : g = f
    · subst e
      rw [if_pos rfl] at hk
      rw [un_n (by omega), st1]
      by_cases c : a ≤ k
      · rw [if_pos (by omega), if_neg (by omega), if_pos (by omega)]
        have := hR.2 g hg (k + 1) (by omega)
        rw [show 5 * g + k + 1 = 5 * g + (k + 1) by omega, this]
        rfl
      · rw [if_neg (by omega), if_neg (by omega), if_neg (by omega)]
        exact hR.2 g hg k (by omega)
    · rw [if_neg (by omega), if_neg (by omega)] at hk
      rw [un_n (by omega), st1, if_neg (by omega), if_neg (by omega), if_neg (by omega)]
      exact hR.2 g hg k hk
theorem cfloorsOf_loop {V2 V3 : Nat → Int32} {N : Nat → Nat} (hI : PInv N) (hR : RRows V2 V3 N) {p : Nat} (hp : p < 16) {K : Int32 → Prop} (hK : K (nI (bs (inRow N p) 10))) : ∀ (m k : Nat), k + m = 10 → wb_X5_floorsOf_4 V2 V3 (nI p) K (m + 1) (nI (bs (inRow N p) k)) (nI k) := by
  intro m
  induction m with
  | zero =>
    intro k hk
    obtain rfl : k = 10 := by omega
    rw [wb_X5_floorsOf_4]
    exact ifP (by decide) hK
  | succ m ih =>
    intro k hk
    have next := ih (k + 1) (by omega)
    have h5 := mn_le hI k
    rw [wb_X5_floorsOf_4]
    simp (disch := omega) only [sN, nI_add, pk_mul, nz_cl, nz_le, nz_lt, nz_eq, nz_eq0, nz_le0, nz_lt0, nz_0lt, nz_m5, nz_inT, true_and, and_true, forall_eq, not_false_eq_true, not_true_eq_false, true_imp_iff, false_imp_iff, implies_true]
    refine ⟨fun c => absurd c (by omega), fun _ => placeOf_ok hI hR (by omega) hp (fun c => ?_) (fun c => ?_)⟩
    · refine ifN (by rw [nz_m5 (by omega)]; exact id) ?_
      rw [or_k (by omega) (decide_eq_true c)]
      exact next
    · refine ifP rfl ?_
      rw [bs_n (by rw [inRow, decide_eq_false (by omega)]; decide)]
      exact next
theorem cfloorsOf_ok {V2 V3 : Nat → Int32} {N : Nat → Nat} (hI : PInv N) (hR : RRows V2 V3 N) {p : Nat} (hp : p < 16) {Q : Int32 → Prop} (h : Q (nI (bs (inRow N p) 10))) : wp_X5_floorsOf V2 V3 (nI p) Q :=
  ⟨11, cfloorsOf_loop hI hR hp h 10 0 (by omega)⟩
theorem floorsDueIn_loop {N : Nat → Nat} {V1 V9 : Nat → Int32} (hI : PInv N) (hq1 : ∀ f q, f < 10 → q < 4 → N (35 + 31 * f + q) ≤ 1) (h1 : ∀ f, f < 10 → V1 f = nI (N (8 + 31 * f))) (h9 : ∀ f, f < 10 → V9 f = nI (qSet N f)) {q : Nat} (hq : q < 4) {K : Int32 → Prop} (hK : K (nI (bs (isDue N q) 10))) : ∀ (m k : Nat), k + m = 10 → wb_X5_floorsDueIn_4 V1 V9 (nI q) K (m + 1) (nI (bs (isDue N q) k)) (nI k) := by
  intro m
  induction m with
  | zero =>
    intro k hk
    obtain rfl : k = 10 := by omega
    rw [wb_X5_floorsDueIn_4]
    exact ifP (by decide) hK
  | succ m ih =>
    intro k hk
    have next := ih (k + 1) (by omega)
    have h3 := (hI.2.1 k (by omega)).1
    have hq2 := hq1 k q (by omega) hq
    have hqs : qSet N k < 65536 := bs_lt' _ (by omega)
    have hb : (qSet N k).testBit q = decide (N (35 + 31 * k + q) = 1) := by unfold qSet; rw [bs_bit, decide_eq_true hq, Bool.true_and]
    rw [wb_X5_floorsDueIn_4]
    simp (disch := omega) only [sN, nI_add, pk_mul, nz_cl, nz_le, nz_lt, nz_eq, nz_eq0, nz_le0, nz_lt0, nz_0lt, nz_m5, nz_inT, true_and, and_true, forall_eq, not_false_eq_true, not_true_eq_false, true_imp_iff, false_imp_iff, implies_true, h1 k (by omega), h9 k (by omega)]
    refine ⟨fun c => absurd c (by omega), fun _ => ⟨fun c => ?_, fun c => cIn_ok (by omega) (by omega) (fun e => ?_) (fun e => ?_)⟩⟩
    · rw [bs_n (by rw [isDue, decide_eq_false (by omega), Bool.false_and]; decide)]
      exact next
    · rw [hb] at e
      refine ifN' nz10 ?_
      have e2 := of_decide_eq_true e
      rw [bs_n (by rw [isDue, decide_eq_false (show ¬ N (35 + 31 * k + q) = 0 by omega), Bool.and_false]; decide)]
      exact next
    · rw [hb] at e
      refine ifP' nI_0 ?_
      have e2 := of_decide_eq_false e
      rw [or_k (by omega) (by rw [isDue, decide_eq_true (show 0 < N (8 + 31 * k) by omega), decide_eq_true (show N (35 + 31 * k + q) = 0 by omega)]; rfl)]
      exact next
theorem floorsDueIn_ok {N : Nat → Nat} {V1 V9 : Nat → Int32} (hI : PInv N) (hq1 : ∀ f q, f < 10 → q < 4 → N (35 + 31 * f + q) ≤ 1) (h1 : ∀ f, f < 10 → V1 f = nI (N (8 + 31 * f))) (h9 : ∀ f, f < 10 → V9 f = nI (qSet N f)) {q : Nat} (hq : q < 4) {Q : Int32 → Prop} (h : Q (nI (bs (isDue N q) 10))) : wp_X5_floorsDueIn V1 V9 (nI q) Q :=
  ⟨11, floorsDueIn_loop hI hq1 h1 h9 hq h 10 0 (by omega)⟩

