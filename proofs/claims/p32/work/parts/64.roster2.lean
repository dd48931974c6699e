theorem isFree_ok {ab : Nat → Bool} {P : PS} {p : Nat} (hp : p < 16) {Q : Int32 → Prop} (h1 : (ab p && decide (P.1 p = 0)) = true → Q (nI 1)) (h0 : (ab p && decide (P.1 p = 0)) = false → Q (nI 0)) : wp_X6_isIn (nI (bs ab 16) &&& (nI (bs (svB P) 16) ^^^ (-1))) (nI p) Q := by
  rw [nx_not, bs_not]
  have e : (bs (fun j => ab j && !svB P j) 16).testBit p = (ab p && decide (P.1 p = 0)) := by
    rw [bs_bit, decide_eq_true hp, Bool.true_and, svB]
    congr 1
    by_cases c : P.1 p = 0
    · simp [c]
    · simp [c]
      omega
  refine cIn_ok (Nat.lt_trans (bs_lt' _ (by omega)) (by omega)) (by omega) (fun q => h1 (by rw [← e]; exact q)) (fun q => h0 (by rw [← e]; exact q))
theorem takeFromRow_loop {N : Nat → Nat} {V2 V3 nn : Nat → Int32} {ab : Nat → Bool} (hI : PInv N) (hR : RRows V2 V3 N) (hn : ∀ f, f < 10 → nn f = nI (nd N f)) {f : Nat} (hf : f < 10) {P : PS} (hP : PI N P) {K : Int32 → (Nat → Int32) → (Nat → Int32) → Prop} (hK : ∀ s2 z2 t2, RP4 s2 z2 t2 (prow N ab f (mn N f) P) → K s2 z2 t2) : ∀ (m k : Nat), k + m = 5 → ∀ sv sz tk, RP4 sv sz tk (prow N ab f (min k (mn N f)) P) → wb_X4_takeFromRow_11 nn V2 V3 (nI f) (nI (bs ab 16)) K (m + 1) sv sz tk (nI k) := by
  have h5 := mn_le hI f
  have hn3 := nd_le hI f
  intro m
  induction m with
  | zero =>
    intro k hk sv sz tk h
    obtain rfl : k = 5 := by omega
    rw [show min 5 (mn N f) = mn N f by omega] at h
    rw [wb_X4_takeFromRow_11]
    exact ifP (by decide) (hK _ _ _ h)
  | succ m ih =>
    intro k hk sv sz tk h
    have hPk := PI_row hI hP (ab := ab) hf (min k (mn N f)) (by omega)
    have next := ih (k + 1) (by omega)
    rw [wb_X4_takeFromRow_11]
    simp (disch := omega) only [sN, nI_add, pk_mul, nz_cl, nz_le, nz_lt, nz_eq, nz_eq0, nz_le0, nz_lt0, nz_0lt, nz_m5, nz_inT, true_and, and_true, forall_eq, not_false_eq_true, not_true_eq_false, true_imp_iff, false_imp_iff, implies_true]
    refine ⟨fun c => absurd c (by omega), fun _ => lack4_ok hn h.2.1 hPk.2.1 hf ?_⟩
    have hl := lack_le hI (prow N ab f (min k (mn N f)) P) f
    simp (disch := omega) only [sN, nI_add, pk_mul, nz_cl, nz_le, nz_lt, nz_eq, nz_eq0, nz_le0, nz_lt0, nz_0lt, nz_m5, nz_inT, true_and, and_true, forall_eq, not_false_eq_true, not_true_eq_false, true_imp_iff, false_imp_iff, implies_true]
    refine ⟨fun c => ?_, fun c => personAt_ok hI hR hf (by omega) (fun ck => ?_) (fun ck => ?_)⟩
    · have e := row_full (N := N) (ab := ab) (f := f) (P := P) (k := min k (mn N f)) (by unfold lack at c; omega) (mn N f - min k (mn N f))
      rw [show min k (mn N f) + (mn N f - min k (mn N f)) = mn N f by omega] at e
      refine hK _ _ _ ?_
      rw [e]
      exact h
    · have hr := rw_lt hI hf ck
      rw [show min k (mn N f) = k by omega] at h hPk c
      rw [show min (k + 1) (mn N f) = k + 1 by omega] at next
      simp only [prow, ptry] at next
      refine ifN (by rw [nz_m5 (by omega)]; exact id) ?_
      rw [h.1]
      refine isFree_ok hr (fun q => ?_) (fun q => ?_)
      · refine ifN nz10 ?_
        rw [← h.1]
        refine take_ok h hf hr (by have := hPk.2.1 f hf; unfold lack at c; omega) (fun s2 z2 t2 h2 => ?_)
        try simp (disch := omega) only [sN, nI_add, pk_mul, nz_cl, nz_le, nz_lt, nz_eq, nz_eq0, nz_le0, nz_lt0, nz_0lt, nz_m5, nz_inT, true_and, and_true, forall_eq, not_false_eq_true, not_true_eq_false, true_imp_iff, false_imp_iff, implies_true]
        rw [if_pos (by unfold pcan; rw [q, decide_eq_true (by unfold lack at c; omega)]; rfl)] at next
        exact next _ _ _ h2
      · refine ifP nI_0 ?_
        rw [← h.1]
        try simp (disch := omega) only [sN, nI_add, pk_mul, nz_cl, nz_le, nz_lt, nz_eq, nz_eq0, nz_le0, nz_lt0, nz_0lt, nz_m5, nz_inT, true_and, and_true, forall_eq, not_false_eq_true, not_true_eq_false, true_imp_iff, false_imp_iff, implies_true]
        rw [if_neg (by unfold pcan; rw [q]; simp)] at next
        exact next _ _ _ h
    · refine ifP rfl ?_
      rw [show min k (mn N f) = min (k + 1) (mn N f) by omega] at h
      try simp (disch := omega) only [sN, nI_add, pk_mul, nz_cl, nz_le, nz_lt, nz_eq, nz_eq0, nz_le0, nz_lt0, nz_0lt, nz_m5, nz_inT, true_and, and_true, forall_eq, not_false_eq_true, not_true_eq_false, true_imp_iff, false_imp_iff, implies_true]
      exact next _ _ _ h
theorem takeFromRow_ok {N : Nat → Nat} {V2 V3 nn : Nat → Int32} {ab : Nat → Bool} (hI : PInv N) (hR : RRows V2 V3 N) (hn : ∀ f, f < 10 → nn f = nI (nd N f)) {f : Nat} (hf : f < 10) {P : PS} (hP : PI N P) {sv : Int32} {sz tk : Nat → Int32} (h4 : RP4 sv sz tk P) {Q : Int32 → (Nat → Int32) → (Nat → Int32) → Prop} (hQ : ∀ s2 z2 t2, RP4 s2 z2 t2 (prow N ab f (mn N f) P) → Q s2 z2 t2) : wp_X4_takeFromRow sv nn sz tk V2 V3 (nI f) (nI (bs ab 16)) Q := by
  unfold wp_X4_takeFromRow
  refine cFloor_t hf (ifN' nz10 ⟨6, takeFromRow_loop hI hR hn hf hP hQ 5 0 (by omega) _ _ _ ?_⟩)
  rw [Nat.zero_min]
  exact h4
theorem RP4_hlp {sv : Int32} {sz tk : Nat → Int32} {P : PS} {f : Nat} (h : RP4 sv sz tk P) : RP4 sv sz tk (phlp P f) := h
theorem takeHelpers_loop {N : Nat → Nat} {nn : Nat → Int32} {ab : Nat → Bool} (hI : PInv N) (hn : ∀ f, f < 10 → nn f = nI (nd N f)) {f : Nat} (hf : f < 10) {P : PS} (hP : PI N P) {K : Int32 → (Nat → Int32) → (Nat → Int32) → (Nat → Int32) → Prop} (hK : ∀ s2 z2 h2 t2, RP4 s2 z2 t2 (phelp N ab f 16 P) → (∀ f2, f2 < 10 → h2 f2 = nI ((phelp N ab f 16 P).2.2.2 f2)) → K s2 z2 h2 t2) : ∀ (m k : Nat), k + m = 16 → ∀ sv sz hp tk, RP4 sv sz tk (phelp N ab f k P) → (∀ f2, f2 < 10 → hp f2 = nI ((phelp N ab f k P).2.2.2 f2)) → wb_X4_takeHelpers_10 nn (nI f) (nI (bs ab 16)) K (m + 1) sv sz hp tk (nI k) := by
  have hn3 := nd_le hI f
  intro m
  induction m with
  | zero =>
    intro k hk sv sz hp tk h hh
    obtain rfl : k = 16 := by omega
    rw [wb_X4_takeHelpers_10]
    exact ifP (by decide) (hK _ _ _ _ h hh)
  | succ m ih =>
    intro k hk sv sz hp tk h hh
    have hPk := PI_help hI hP (ab := ab) hf k (by omega)
    have next := ih (k + 1) (by omega)
    simp only [phelp, ptryH] at next
    rw [wb_X4_takeHelpers_10]
    simp (disch := omega) only [sN, nI_add, pk_mul, nz_cl, nz_le, nz_lt, nz_eq, nz_eq0, nz_le0, nz_lt0, nz_0lt, nz_m5, nz_inT, true_and, and_true, forall_eq, not_false_eq_true, not_true_eq_false, true_imp_iff, false_imp_iff, implies_true]
    refine ⟨fun c => absurd c (by omega), fun _ => lack4_ok hn h.2.1 hPk.2.1 hf ?_⟩
    have hl := lack_le hI (phelp N ab f k P) f
    simp (disch := omega) only [sN, nI_add, pk_mul, nz_cl, nz_le, nz_lt, nz_eq, nz_eq0, nz_le0, nz_lt0, nz_0lt, nz_m5, nz_inT, true_and, and_true, forall_eq, not_false_eq_true, not_true_eq_false, true_imp_iff, false_imp_iff, implies_true]
    refine ⟨fun c => ?_, fun c => ?_⟩
    · have e := help_full (N := N) (ab := ab) (f := f) (P := P) (k := k) (by unfold lack at c; omega) (16 - k)
      rw [show k + (16 - k) = 16 by omega] at e
      refine hK _ _ _ _ ?_ ?_
      · rw [e]
        exact h
      · rw [e]
        exact hh
    · rw [h.1]
      refine isFree_ok (by omega) (fun q => ?_) (fun q => ?_)
      · refine ifN nz10 ?_
        rw [← h.1]
        refine take_ok h hf (by omega) (by have := hPk.2.1 f hf; unfold lack at c; omega) (fun s2 z2 t2 h2 => ?_)
        rw [if_pos (by unfold pcan; rw [q, decide_eq_true (by unfold lack at c; omega)]; rfl)] at next
        simp (disch := omega) only [sN, nI_add, pk_mul, nz_cl, nz_le, nz_lt, nz_eq, nz_eq0, nz_le0, nz_lt0, nz_0lt, nz_m5, nz_inT, true_and, and_true, forall_eq, not_false_eq_true, not_true_eq_false, true_imp_iff, false_imp_iff, implies_true, hh f hf]
        refine next _ _ _ _ (RP4_hlp h2) (fun f2 hf2 => ?_)
        unfold upd phlp ptake un
        dsimp only
        split
        · rfl
        · exact hh f2 hf2
      · refine ifP nI_0 ?_
        rw [← h.1]
        try simp (disch := omega) only [sN, nI_add, pk_mul, nz_cl, nz_le, nz_lt, nz_eq, nz_eq0, nz_le0, nz_lt0, nz_0lt, nz_m5, nz_inT, true_and, and_true, forall_eq, not_false_eq_true, not_true_eq_false, true_imp_iff, false_imp_iff, implies_true]
        rw [if_neg (by unfold pcan; rw [q]; simp)] at next
        exact next _ _ _ _ h hh
theorem takeHelpers_ok {N : Nat → Nat} {nn : Nat → Int32} {ab : Nat → Bool} (hI : PInv N) (hn : ∀ f, f < 10 → nn f = nI (nd N f)) {f : Nat} (hf : f < 10) {P : PS} (hP : PI N P) {sv : Int32} {sz hp tk : Nat → Int32} (h4 : RP4 sv sz tk P) (hh : ∀ f2, f2 < 10 → hp f2 = nI (P.2.2.2 f2)) {Q : Int32 → (Nat → Int32) → (Nat → Int32) → (Nat → Int32) → Prop} (hQ : ∀ s2 z2 h2 t2, RP4 s2 z2 t2 (phelp N ab f 16 P) → (∀ f2, f2 < 10 → h2 f2 = nI ((phelp N ab f 16 P).2.2.2 f2)) → Q s2 z2 h2 t2) : wp_X4_takeHelpers sv nn sz hp tk (nI f) (nI (bs ab 16)) Q := by
  unfold wp_X4_takeHelpers
  exact cFloor_t hf (ifN' nz10 ⟨17, takeHelpers_loop hI hn hf hP hQ 16 0 (by omega) _ _ _ _ h4 hh⟩)

