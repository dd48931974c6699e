/-! the reference's planning -/
theorem shortBy_ok {N : Nat → Nat} {ct : Nat → Int32} {P : PS} (hct : ∀ f, f < 10 → ct f = nI (P.2.2.1 f)) (hle : ∀ f, f < 10 → P.2.2.1 f ≤ nd N f) {f : Nat} (hf : f < 10) {Q : Int32 → Prop} (h : Q (nI (lack N P f))) : wp_X7_shortBy (sN N) ct (nI f) Q := by
  unfold wp_X7_shortBy
  refine of_ok hf (by omega) ?_
  have h1 := hle f hf
  rw [nd_at hf] at h1
  simp (disch := omega) only [sN, nI_add, pk_mul, nz_cl, nz_le, nz_lt, nz_eq, nz_eq0, nz_le0, nz_lt0, nz_0lt, nz_m5, nz_inT, true_and, and_true, forall_eq, not_false_eq_true, not_true_eq_false, true_imp_iff, false_imp_iff, implies_true, hct f hf, Nat.add_zero]
  unfold lack at h
  rw [nd_at hf] at h
  rw [nz_sub h1]
  exact h
def plP (N : Nat → Nat) (f p k : Nat) : Bool := decide (rw_ N f k = p)
/-- the place of a person in a row; the row's length if it isn't there -/
def plIn (N : Nat → Nat) (f p : Nat) : Nat := fnd (plP N f p) (mn N f) 0
theorem placeIn_loop {N : Nat → Nat} (hI : PInv N) {f p : Nat} (hf : f < 10) (hp : p < 16) {K : Prop} {Q : Int32 → Prop} : ∀ (m k : Nat), k + m = mn N f → (fnd (plP N f p) m k < mn N f → Q (nI (fnd (plP N f p) m k))) → (fnd (plP N f p) m k = mn N f → K) → wb_X7_placeIn_2 (sN N) (nI f) (nI p) K Q (m + 1) (nI k) := by
  have h5 := mn_le hI f
  have hm := mn_at (N := N) hf
  intro m
  induction m with
  | zero =>
    intro k hk hQ hK
    rw [wb_X7_placeIn_2]
    refine of_ok hf (by omega) ?_
    rw [show 8 + 31 * f + 1 = 9 + 31 * f by omega, ← hm]
    simp (disch := omega) only [sN, nI_add, pk_mul, nz_cl, nz_le, nz_lt, nz_eq, nz_eq0, nz_le0, nz_lt0, nz_0lt, nz_m5, nz_inT, true_and, and_true, forall_eq, not_false_eq_true, not_true_eq_false, true_imp_iff, false_imp_iff, implies_true]
    exact ⟨fun _ => hK (by simp only [fnd]; omega), fun c => absurd (by omega) c⟩
  | succ m ih =>
    intro k hk hQ hK
    rw [wb_X7_placeIn_2]
    refine of_ok hf (by omega) ?_
    rw [show 8 + 31 * f + 1 = 9 + 31 * f by omega, ← hm]
    simp (disch := omega) only [sN, nI_add, pk_mul, nz_cl, nz_le, nz_lt, nz_eq, nz_eq0, nz_le0, nz_lt0, nz_0lt, nz_m5, nz_inT, true_and, and_true, forall_eq, not_false_eq_true, not_true_eq_false, true_imp_iff, false_imp_iff, implies_true]
    refine ⟨fun c => absurd c (by omega), fun _ => of_ok hf (by omega) ?_⟩
    have hr := rw_lt hI hf (k := k) (by omega)
    rw [show 8 + 31 * f + (2 + k) = 10 + 31 * f + k by omega, ← rw_at (N := N) (k := k) hf (by omega)]
    simp (disch := omega) only [sN, nI_add, pk_mul, nz_cl, nz_le, nz_lt, nz_eq, nz_eq0, nz_le0, nz_lt0, nz_0lt, nz_m5, nz_inT, true_and, and_true, forall_eq, not_false_eq_true, not_true_eq_false, true_imp_iff, false_imp_iff, implies_true]
    refine ⟨fun c => ?_, fun c => ?_⟩
    · have hn : ¬ plP N f p k = true := fun e => c (of_decide_eq_true e)
      simp only [fnd, if_neg hn] at hQ hK
      exact ih (k + 1) (by omega) hQ hK
    · have hy : plP N f p k = true := decide_eq_true c
      simp only [fnd, if_pos hy] at hQ
      exact hQ (by omega)
theorem placeIn_ok {N : Nat → Nat} (hI : PInv N) {f p : Nat} (hf : f < 10) (hp : p < 16) {Q : Int32 → Prop} (h1 : plIn N f p < mn N f → Q (nI (plIn N f p))) (h2 : plIn N f p = mn N f → Q (-5)) : wp_X7_placeIn (sN N) (nI f) (nI p) Q :=
  ⟨mn N f + 1, placeIn_loop hI hf hp (mn N f) 0 (by omega) h1 h2⟩
/-- one-to-one within n numbers: onto -/
theorem onto : ∀ (n : Nat) (g : Nat → Nat), (∀ i, i < n → g i < n) → (∀ i j, i < n → j < n → g i = g j → i = j) → ∀ t, t < n → ∃ i, i < n ∧ g i = t := by
  intro n
  induction n with
  | zero => intro g _ _ t ht; omega
  | succ n ih =>
    intro g hg hi t ht
    by_cases hx : ∃ i0, i0 < n + 1 ∧ g i0 = n
    · obtain ⟨i0, h0, h0n⟩ := hx
      by_cases htn : t = n
      · exact ⟨i0, h0, by omega⟩
      · have key := ih (fun i => if i = i0 then g n else g i) (fun i hin => ?_) (fun i j hin hjn e => ?_) t (by omega)
        · obtain ⟨i, hin, e⟩ := key
          try dsimp only at e
          split at e
          · exact ⟨n, by omega, e⟩
          · exact ⟨i, by omega, e⟩
        · try dsimp only
          split
          · rename_i q
            have h1 := hg n (by omega)
            rcases Nat.lt_or_ge (g n) n with r | r
            · exact r
            · have := hi n i0 (by omega) h0 (by omega)
              omega
          · rename_i q
            have h1 := hg i (by omega)
            rcases Nat.lt_or_ge (g i) n with r | r
            · exact r
            · have := hi i i0 (by omega) h0 (by omega)
              omega
        · try dsimp only at e
          split at e <;> split at e
          · omega
          · have := hi n j (by omega) (by omega) e
            omega
          · have := hi i n (by omega) (by omega) e
            omega
          · exact hi i j (by omega) (by omega) e
    · have hg2 : ∀ i, i < n + 1 → g i < n := fun i hin => by
        have h1 := hg i hin
        rcases Nat.lt_or_ge (g i) n with r | r
        · exact r
        · exact absurd ⟨i, hin, by omega⟩ hx
      obtain ⟨i, hin, e⟩ := ih g (fun i hin => hg2 i (by omega)) (fun i j a b e => hi i j (by omega) (by omega) e) (g n) (hg2 n (by omega))
      have := hi i n (by omega) (by omega) e
      omega
theorem ahead_ex {N : Nat → Nat} {t : Nat} (ht : t < 10) : fnd (fun f => ahead N f == t) 10 0 < 10 := by
  obtain ⟨i, hi, e⟩ := onto 10 (ahead N) (fun i hi => ahead_10 hi) (fun i j hi hj e => ahead_inj hi hj e) t ht
  have h := fnd_le (fun f => ahead N f == t) 10 0
  rcases Nat.lt_or_ge (fnd (fun f => ahead N f == t) 10 0) 10 with q | q
  · exact q
  · have := fnd_min (fun f => ahead N f == t) 10 0 i (by omega) (by omega)
    rw [beq_eq_false_iff_ne] at this
    exact absurd e this
theorem ord_lt {N : Nat → Nat} {t : Nat} (ht : t < 10) : ord N t < 10 := by
  unfold ord
  split
  · exact ht
  · split
    · omega
    · exact ahead_ex ht
theorem choosing_41 {N : Nat → Nat} (hI : PInv N) {f : Nat} (hf : f < 10) {K : Int32 → Prop} : ∀ (m e : Nat), e + m = 10 → K (nI (ahead N f)) → wb_X7_choosing_41 (sN N) (nI f) K (m + 1) (nI (sm (fun e => if mn N e < mn N f ∨ (mn N e = mn N f ∧ e < f) then 1 else 0) e)) (nI e) := by
  have hmf := mn_le hI f
  have hm := mn_at (N := N) hf
  intro m
  induction m with
  | zero =>
    intro e he hK
    obtain rfl : e = 10 := by omega
    rw [wb_X7_choosing_41]
    simp (disch := omega) only [sN, nI_add, pk_mul, nz_cl, nz_le, nz_lt, nz_eq, nz_eq0, nz_le0, nz_lt0, nz_0lt, nz_m5, nz_inT, true_and, and_true, forall_eq, not_false_eq_true, not_true_eq_false, true_imp_iff, false_imp_iff, implies_true]
    exact ⟨fun _ => hK, fun c => absurd (by omega) c⟩
  | succ m ih =>
    intro e he hK
    have hme := mn_le hI e
    have he10 : e < 10 := by omega
    have hm2 := mn_at (N := N) he10
    have next := ih (e + 1) (by omega) hK
    simp only [sm] at next
    rw [wb_X7_choosing_41]
    simp (disch := omega) only [sN, nI_add, pk_mul, nz_cl, nz_le, nz_lt, nz_eq, nz_eq0, nz_le0, nz_lt0, nz_0lt, nz_m5, nz_inT, true_and, and_true, forall_eq, not_false_eq_true, not_true_eq_false, true_imp_iff, false_imp_iff, implies_true]
    refine ⟨fun c => absurd c (by omega), fun _ => of_ok he10 (by omega) (of_ok hf (by omega) ?_)⟩
    rw [show 8 + 31 * f + 1 = 9 + 31 * f by omega, show 8 + 31 * e + 1 = 9 + 31 * e by omega, ← hm, ← hm2]
    simp (disch := omega) only [sN, nI_add, pk_mul, nz_cl, nz_le, nz_lt, nz_eq, nz_eq0, nz_le0, nz_lt0, nz_0lt, nz_m5, nz_inT, true_and, and_true, forall_eq, not_false_eq_true, not_true_eq_false, true_imp_iff, false_imp_iff, implies_true]
    refine ⟨fun c => ?_, fun c => of_ok he10 (by omega) (of_ok hf (by omega) ?_)⟩
    · rw [if_pos (Or.inl c)] at next
      exact next
    · rw [show 8 + 31 * f + 1 = 9 + 31 * f by omega, show 8 + 31 * e + 1 = 9 + 31 * e by omega, ← hm, ← hm2]
      simp (disch := omega) only [sN, nI_add, pk_mul, nz_cl, nz_le, nz_lt, nz_eq, nz_eq0, nz_le0, nz_lt0, nz_0lt, nz_m5, nz_inT, true_and, and_true, forall_eq, not_false_eq_true, not_true_eq_false, true_imp_iff, false_imp_iff, implies_true]
      refine ⟨fun c2 => ?_, fun c2 => ⟨fun c3 => ?_, fun c3 => ?_⟩⟩
      · rw [if_neg (by omega)] at next
        exact next
      · rw [if_neg (by omega)] at next
        exact next
      · rw [if_pos (by omega)] at next
        exact next
theorem choosing_30 {N : Nat → Nat} (hI : PInv N) {t : Nat} (ht : t < 10) {K : Prop} {Q : Int32 → Prop} : ∀ (m f : Nat), f + m = 10 → (fnd (fun f => ahead N f == t) m f < 10) → Q (nI (fnd (fun f => ahead N f == t) m f)) → wb_X7_choosing_30 (sN N) (nI t) K Q (m + 1) (nI f) := by
  intro m
  induction m with
  | zero =>
    intro f hf h1 hQ
    simp only [fnd] at h1
    omega
  | succ m ih =>
    intro f hf h1 hQ
    have ha := ahead_10 (N := N) (f := f) (by omega)
    rw [wb_X7_choosing_30]
    simp (disch := omega) only [sN, nI_add, pk_mul, nz_cl, nz_le, nz_lt, nz_eq, nz_eq0, nz_le0, nz_lt0, nz_0lt, nz_m5, nz_inT, true_and, and_true, forall_eq, not_false_eq_true, not_true_eq_false, true_imp_iff, false_imp_iff, implies_true]
    refine ⟨fun c => absurd c (by omega), fun _ => ⟨11, ?_⟩⟩
    refine choosing_41 hI (by omega) 10 0 (by omega) ?_
    simp (disch := omega) only [sN, nI_add, pk_mul, nz_cl, nz_le, nz_lt, nz_eq, nz_eq0, nz_le0, nz_lt0, nz_0lt, nz_m5, nz_inT, true_and, and_true, forall_eq, not_false_eq_true, not_true_eq_false, true_imp_iff, false_imp_iff, implies_true]
    refine ⟨fun c => ?_, fun c => ?_⟩
    · have hn : ¬ (ahead N f == t) = true := by simpa using c
      simp only [fnd, if_neg hn] at h1 hQ
      exact ih (f + 1) (by omega) h1 hQ
    · have hy : (ahead N f == t) = true := by simpa using c
      simp only [fnd, if_pos hy] at hQ
      exact hQ
theorem choosing_ok {N : Nat → Nat} (hI : PInv N) {t : Nat} (ht : t < 10) {Q : Int32 → Prop} (h : Q (nI (ord N t))) : wp_X7_choosing (sN N) (nI t) Q := by
  have h0 := hI.1
  unfold wp_X7_choosing
  simp (disch := omega) only [sN, nI_add, pk_mul, nz_cl, nz_le, nz_lt, nz_eq, nz_eq0, nz_le0, nz_lt0, nz_0lt, nz_m5, nz_inT, true_and, and_true, forall_eq, not_false_eq_true, not_true_eq_false, true_imp_iff, false_imp_iff, implies_true]
  unfold ord at h
  refine ⟨fun c => ⟨11, choosing_30 hI ht 10 0 (by omega) (ahead_ex ht) ?_⟩, fun c => ⟨fun c2 => ?_, fun c2 => ?_⟩⟩
  · rw [if_neg (by omega), if_neg (by omega)] at h
    exact h
  · rw [if_neg (by omega), if_pos (by omega)] at h
    rw [nz_sub (by omega)]
    exact h
  · rw [if_pos (by omega)] at h
    exact h
theorem takesRow_loop {N : Nat → Nat} (hI : PInv N) {d : Nat} (hd : d < 1000) {f : Nat} (hf : f < 10) {P : PS} (hP : PI N P) {hp : Nat → Int32} {K : (Nat → Int32) → (Nat → Int32) → (Nat → Int32) → Prop} (hK : ∀ s2 t2 c2, RP7 s2 t2 c2 hp (prow N (able N d) f (mn N f) P) → K s2 t2 c2) : ∀ (m k : Nat), k + m = mn N f → ∀ sv tk ct, RP7 sv tk ct hp (prow N (able N d) f k P) → wb_X7_takesRow_2 (sN N) (nI f) (nI d) K (m + 1) sv tk ct (nI k) := by
  have h5 := mn_le hI f
  have hm := mn_at (N := N) hf
  have hn := nd_at (N := N) hf
  have hn3 := nd_le hI f
  intro m
  induction m with
  | zero =>
    intro k hk sv tk ct hR
    obtain rfl : k = mn N f := by omega
    rw [wb_X7_takesRow_2]
    refine of_ok hf (by omega) ?_
    rw [show 8 + 31 * f + 1 = 9 + 31 * f by omega, ← hm]
    simp (disch := omega) only [sN, nI_add, pk_mul, nz_cl, nz_le, nz_lt, nz_eq, nz_eq0, nz_le0, nz_lt0, nz_0lt, nz_m5, nz_inT, true_and, and_true, forall_eq, not_false_eq_true, not_true_eq_false, true_imp_iff, false_imp_iff, implies_true]
    exact ⟨fun _ => hK _ _ _ hR, fun c => absurd (Nat.le_refl _) c⟩
  | succ m ih =>
    intro k hk sv tk ct hR
    have hPk := PI_row hI hP (ab := able N d) hf k (by omega)
    have hr := rw_lt hI hf (k := k) (by omega)
    have hct := hPk.2.1 f hf
    have next := ih (k + 1) (by omega)
    simp only [prow, ptry] at next
    generalize prow N (able N d) f k P = Pk at hR hPk hct next
    rw [wb_X7_takesRow_2]
    refine of_ok hf (by omega) ?_
    rw [show 8 + 31 * f + 1 = 9 + 31 * f by omega, ← hm]
    simp (disch := omega) only [sN, nI_add, pk_mul, nz_cl, nz_le, nz_lt, nz_eq, nz_eq0, nz_le0, nz_lt0, nz_0lt, nz_m5, nz_inT, true_and, and_true, forall_eq, not_false_eq_true, not_true_eq_false, true_imp_iff, false_imp_iff, implies_true]
    refine ⟨fun c => absurd c (by omega), fun _ => of_ok hf (by omega) ?_⟩
    rw [show 8 + 31 * f + (2 + k) = 10 + 31 * f + k by omega, ← rw_at (N := N) (k := k) hf (by omega)]
    try simp (disch := omega) only [sN, nI_add, pk_mul, nz_cl, nz_le, nz_lt, nz_eq, nz_eq0, nz_le0, nz_lt0, nz_0lt, nz_m5, nz_inT, true_and, and_true, forall_eq, not_false_eq_true, not_true_eq_false, true_imp_iff, false_imp_iff, implies_true]
    refine of_ok hf (by omega) ?_
    rw [Nat.add_zero, ← hn, hR.2.1 f hf]
    simp (disch := omega) only [sN, nI_add, pk_mul, nz_cl, nz_le, nz_lt, nz_eq, nz_eq0, nz_le0, nz_lt0, nz_0lt, nz_m5, nz_inT, true_and, and_true, forall_eq, not_false_eq_true, not_true_eq_false, true_imp_iff, false_imp_iff, implies_true]
    refine ⟨fun c => ?_, fun c => ?_⟩
    · rw [if_neg (by intro e; have := (pcan_t e).1; omega)] at next
      exact next _ _ _ hR
    · refine isReady_ok hI hr hd (hPk.1 _) (hR.1 _ hr) (fun e => ?_) (fun e => ?_)
      · simp (disch := omega) only [sN, nI_add, pk_mul, nz_cl, nz_le, nz_lt, nz_eq, nz_eq0, nz_le0, nz_lt0, nz_0lt, nz_m5, nz_inT, true_and, and_true, forall_eq, not_false_eq_true, not_true_eq_false, true_imp_iff, false_imp_iff, implies_true]
        refine ⟨fun c => absurd c (by decide), fun _ => ?_⟩
        refine takes_ok hR hf hr (by omega) (fun s2 t2 c2 h2 => ?_)
        try simp (disch := omega) only [sN, nI_add, pk_mul, nz_cl, nz_le, nz_lt, nz_eq, nz_eq0, nz_le0, nz_lt0, nz_0lt, nz_m5, nz_inT, true_and, and_true, forall_eq, not_false_eq_true, not_true_eq_false, true_imp_iff, false_imp_iff, implies_true]
        rw [if_pos (by unfold pcan; rw [e, decide_eq_true (by omega)]; rfl)] at next
        exact next _ _ _ h2
      · simp (disch := omega) only [sN, nI_add, pk_mul, nz_cl, nz_le, nz_lt, nz_eq, nz_eq0, nz_le0, nz_lt0, nz_0lt, nz_m5, nz_inT, true_and, and_true, forall_eq, not_false_eq_true, not_true_eq_false, true_imp_iff, false_imp_iff, implies_true]
        rw [if_neg (by unfold pcan; rw [e]; simp)] at next
        exact next _ _ _ hR
theorem takesRow_ok {N : Nat → Nat} (hI : PInv N) {d : Nat} (hd : d < 1000) {f : Nat} (hf : f < 10) {P : PS} (hP : PI N P) {sv tk ct hp : Nat → Int32} (hR : RP7 sv tk ct hp P) {Q : (Nat → Int32) → (Nat → Int32) → (Nat → Int32) → Prop} (h : ∀ s2 t2 c2, RP7 s2 t2 c2 hp (prow N (able N d) f (mn N f) P) → Q s2 t2 c2) : wp_X7_takesRow (sN N) sv tk ct (nI f) (nI d) Q :=
  ⟨mn N f + 1, takesRow_loop hI hd hf hP h (mn N f) 0 (by omega) _ _ _ hR⟩
theorem RP7_hlp {sv tk ct hp : Nat → Int32} {P : PS} (hR : RP7 sv tk ct hp P) {f : Nat} (hf : f < 10) : RP7 sv tk ct (upd hp f (hp f + nI 1)) (phlp P f) := by
  obtain ⟨h1, h2, h3, h4⟩ := hR
  refine ⟨h1, h2, fun g hg => ?_, h4⟩
  unfold upd phlp un
  try dsimp only
  split
  · rw [h3 f hf, nI_add]
  · exact h3 g hg
theorem takesHelp_loop {N : Nat → Nat} (hI : PInv N) {d : Nat} (hd : d < 1000) {f : Nat} (hf : f < 10) {P : PS} (hP : PI N P) {K : (Nat → Int32) → (Nat → Int32) → (Nat → Int32) → (Nat → Int32) → Prop} (hK : ∀ s2 t2 c2 h2, RP7 s2 t2 c2 h2 (phelp N (able N d) f 16 P) → K s2 t2 c2 h2) : ∀ (m k : Nat), k + m = 16 → ∀ sv tk ct hp, RP7 sv tk ct hp (phelp N (able N d) f k P) → wb_X7_takesHelp_2 (sN N) (nI f) (nI d) K (m + 1) sv tk ct hp (nI k) := by
  have hn := nd_at (N := N) hf
  have hn3 := nd_le hI f
  intro m
  induction m with
  | zero =>
    intro k hk sv tk ct hp hR
    obtain rfl : k = 16 := by omega
    rw [wb_X7_takesHelp_2]
    exact ⟨fun _ => hK _ _ _ _ hR, fun c => absurd (by decide) c⟩
  | succ m ih =>
    intro k hk sv tk ct hp hR
    have hPk := PI_help hI hP (ab := able N d) hf k (by omega)
    have hct := hPk.2.1 f hf
    have next := ih (k + 1) (by omega)
    simp only [phelp, ptryH] at next
    generalize phelp N (able N d) f k P = Pk at hR hPk hct next
    rw [wb_X7_takesHelp_2]
    simp (disch := omega) only [sN, nI_add, pk_mul, nz_cl, nz_le, nz_lt, nz_eq, nz_eq0, nz_le0, nz_lt0, nz_0lt, nz_m5, nz_inT, true_and, and_true, forall_eq, not_false_eq_true, not_true_eq_false, true_imp_iff, false_imp_iff, implies_true]
    refine ⟨fun c => absurd c (by omega), fun _ => of_ok hf (by omega) ?_⟩
    rw [Nat.add_zero, ← hn, hR.2.1 f hf]
    simp (disch := omega) only [sN, nI_add, pk_mul, nz_cl, nz_le, nz_lt, nz_eq, nz_eq0, nz_le0, nz_lt0, nz_0lt, nz_m5, nz_inT, true_and, and_true, forall_eq, not_false_eq_true, not_true_eq_false, true_imp_iff, false_imp_iff, implies_true]
    refine ⟨fun c => ?_, fun c => ?_⟩
    · rw [if_neg (by intro e; have := (pcan_t e).1; omega)] at next
      exact next _ _ _ _ hR
    · refine isReady_ok hI (by omega) hd (hPk.1 _) (hR.1 _ (by omega)) (fun e => ?_) (fun e => ?_)
      · simp (disch := omega) only [sN, nI_add, pk_mul, nz_cl, nz_le, nz_lt, nz_eq, nz_eq0, nz_le0, nz_lt0, nz_0lt, nz_m5, nz_inT, true_and, and_true, forall_eq, not_false_eq_true, not_true_eq_false, true_imp_iff, false_imp_iff, implies_true]
        refine ⟨fun c => absurd c (by decide), fun _ => ?_⟩
        refine takes_ok hR hf (by omega) (by omega) (fun s2 t2 c2 h2 => ?_)
        try simp (disch := omega) only [sN, nI_add, pk_mul, nz_cl, nz_le, nz_lt, nz_eq, nz_eq0, nz_le0, nz_lt0, nz_0lt, nz_m5, nz_inT, true_and, and_true, forall_eq, not_false_eq_true, not_true_eq_false, true_imp_iff, false_imp_iff, implies_true]
        rw [if_pos (by unfold pcan; rw [e, decide_eq_true (by omega)]; rfl)] at next
        exact next _ _ _ _ (RP7_hlp h2 hf)
      · simp (disch := omega) only [sN, nI_add, pk_mul, nz_cl, nz_le, nz_lt, nz_eq, nz_eq0, nz_le0, nz_lt0, nz_0lt, nz_m5, nz_inT, true_and, and_true, forall_eq, not_false_eq_true, not_true_eq_false, true_imp_iff, false_imp_iff, implies_true]
        rw [if_neg (by unfold pcan; rw [e]; simp)] at next
        exact next _ _ _ _ hR
theorem takesHelp_ok {N : Nat → Nat} (hI : PInv N) {d : Nat} (hd : d < 1000) {f : Nat} (hf : f < 10) {P : PS} (hP : PI N P) {sv tk ct hp : Nat → Int32} (hR : RP7 sv tk ct hp P) {Q : (Nat → Int32) → (Nat → Int32) → (Nat → Int32) → (Nat → Int32) → Prop} (h : ∀ s2 t2 c2 h2, RP7 s2 t2 c2 h2 (phelp N (able N d) f 16 P) → Q s2 t2 c2 h2) : wp_X7_takesHelp (sN N) sv tk ct hp (nI f) (nI d) Q :=
  ⟨17, takesHelp_loop hI hd hf hP h 16 0 (by omega) _ _ _ _ hR⟩
theorem PI_rows {N : Nat → Nat} (hI : PInv N) {ab : Nat → Bool} {P : PS} (h : PI N P) : ∀ t, t ≤ 10 → PI N (prows N ab t P) := by
  intro t
  induction t with
  | zero => intro _; exact h
  | succ t ih => intro ht; exact PI_row hI (ih (by omega)) (ord_lt (by omega)) _ (Nat.le_refl _)
theorem PI_helps {N : Nat → Nat} (hI : PInv N) {ab : Nat → Bool} {P : PS} (h : PI N P) : ∀ t, t ≤ 10 → PI N (phelps N ab t P) := by
  intro t
  induction t with
  | zero => intro _; exact h
  | succ t ih => intro ht; exact PI_help hI (ih (by omega)) (ord_lt (by omega)) 16 (Nat.le_refl _)
theorem PI_plan {N : Nat → Nat} (hI : PInv N) (ab : Nat → Bool) : PI N (plan N ab) := by
  unfold plan
  split
  · exact PI_helps hI (PI_rows hI PI_p0 10 (by omega)) 10 (by omega)
  · exact PI_rows hI PI_p0 10 (by omega)
theorem plans_2 {K : (Nat → Int32) → Prop} (hK : ∀ s2, (∀ p, p < 16 → s2 p = -5) → K s2) : ∀ (m k : Nat), k + m = 16 → ∀ sv : Nat → Int32, (∀ p, p < k → sv p = -5) → wb_X7_plans_2 K (m + 1) sv (nI k) := by
  intro m
  induction m with
  | zero =>
    intro k hk sv hs
    rw [wb_X7_plans_2]
    simp (disch := omega) only [sN, nI_add, pk_mul, nz_cl, nz_le, nz_lt, nz_eq, nz_eq0, nz_le0, nz_lt0, nz_0lt, nz_m5, nz_inT, true_and, and_true, forall_eq, not_false_eq_true, not_true_eq_false, true_imp_iff, false_imp_iff, implies_true]
    exact ⟨fun _ => hK _ (fun p hp => hs p (by omega)), fun c => absurd (by omega) c⟩
  | succ m ih =>
    intro k hk sv hs
    rw [wb_X7_plans_2]
    simp (disch := omega) only [sN, nI_add, pk_mul, nz_cl, nz_le, nz_lt, nz_eq, nz_eq0, nz_le0, nz_lt0, nz_0lt, nz_m5, nz_inT, true_and, and_true, forall_eq, not_false_eq_true, not_true_eq_false, true_imp_iff, false_imp_iff, implies_true]
    refine ⟨fun c => absurd c (by omega), fun _ => ih (k + 1) (by omega) _ (fun p hp => ?_)⟩
    unfold upd
    split
    · rfl
    · exact hs p (by omega)
theorem plans_24 {K : (Nat → Int32) → (Nat → Int32) → Prop} (hK : ∀ c2 h2, (∀ p, p < 10 → c2 p = nI 0) → (∀ p, p < 10 → h2 p = nI 0) → K c2 h2) : ∀ (m k : Nat), k + m = 10 → ∀ c1 h1 : Nat → Int32, (∀ p, p < k → c1 p = nI 0) → (∀ p, p < k → h1 p = nI 0) → wb_X7_plans_24 K (m + 1) c1 h1 (nI k) := by
  intro m
  induction m with
  | zero =>
    intro k hk c1 h1 e1 e2
    rw [wb_X7_plans_24]
    simp (disch := omega) only [sN, nI_add, pk_mul, nz_cl, nz_le, nz_lt, nz_eq, nz_eq0, nz_le0, nz_lt0, nz_0lt, nz_m5, nz_inT, true_and, and_true, forall_eq, not_false_eq_true, not_true_eq_false, true_imp_iff, false_imp_iff, implies_true]
    exact ⟨fun _ => hK _ _ (fun p hp => e1 p (by omega)) (fun p hp => e2 p (by omega)), fun c => absurd (by omega) c⟩
  | succ m ih =>
    intro k hk c1 h1 e1 e2
    rw [wb_X7_plans_24]
    simp (disch := omega) only [sN, nI_add, pk_mul, nz_cl, nz_le, nz_lt, nz_eq, nz_eq0, nz_le0, nz_lt0, nz_0lt, nz_m5, nz_inT, true_and, and_true, forall_eq, not_false_eq_true, not_true_eq_false, true_imp_iff, false_imp_iff, implies_true]
    refine ⟨fun c => absurd c (by omega), fun _ => ih (k + 1) (by omega) _ _ (fun p hp => ?_) (fun p hp => ?_)⟩
    · unfold upd
      split
      · rfl
      · exact e1 p (by omega)
    · unfold upd
      split
      · rfl
      · exact e2 p (by omega)
theorem plans_52 {N : Nat → Nat} (hI : PInv N) {d : Nat} (hd : d < 1000) {hp : Nat → Int32} {K : (Nat → Int32) → (Nat → Int32) → (Nat → Int32) → Prop} (hK : ∀ s2 t2 c2, RP7 s2 t2 c2 hp (prows N (able N d) 10 p0) → K s2 t2 c2) : ∀ (m t : Nat), t + m = 10 → ∀ sv tk ct, RP7 sv tk ct hp (prows N (able N d) t p0) → wb_X7_plans_52 (sN N) (nI d) K (m + 1) sv tk ct (nI t) := by
  intro m
  induction m with
  | zero =>
    intro t ht sv tk ct hR
    obtain rfl : t = 10 := by omega
    rw [wb_X7_plans_52]
    exact ⟨fun _ => hK _ _ _ hR, fun c => absurd (by decide) c⟩
  | succ m ih =>
    intro t ht sv tk ct hR
    have ho := ord_lt (N := N) (t := t) (by omega)
    rw [wb_X7_plans_52]
    simp (disch := omega) only [sN, nI_add, pk_mul, nz_cl, nz_le, nz_lt, nz_eq, nz_eq0, nz_le0, nz_lt0, nz_0lt, nz_m5, nz_inT, true_and, and_true, forall_eq, not_false_eq_true, not_true_eq_false, true_imp_iff, false_imp_iff, implies_true]
    refine ⟨fun c => absurd c (by omega), fun _ => choosing_ok hI (by omega) (takesRow_ok hI hd ho (PI_rows hI PI_p0 t (by omega)) hR (fun s2 t2 c2 h2 => ?_))⟩
    try simp (disch := omega) only [sN, nI_add, pk_mul, nz_cl, nz_le, nz_lt, nz_eq, nz_eq0, nz_le0, nz_lt0, nz_0lt, nz_m5, nz_inT, true_and, and_true, forall_eq, not_false_eq_true, not_true_eq_false, true_imp_iff, false_imp_iff, implies_true]
    exact ih (t + 1) (by omega) _ _ _ h2
theorem plans_76 {N : Nat → Nat} (hI : PInv N) {d : Nat} (hd : d < 1000) {P : PS} (hP : PI N P) {K : (Nat → Int32) → (Nat → Int32) → (Nat → Int32) → (Nat → Int32) → Prop} (hK : ∀ s2 t2 c2 h2, RP7 s2 t2 c2 h2 (if N 1 = 1 then phelps N (able N d) 10 P else P) → K s2 t2 c2 h2) : ∀ (m t : Nat), t + m = 10 → ∀ sv tk ct hp, RP7 sv tk ct hp (if N 1 = 1 then phelps N (able N d) t P else P) → wb_X7_plans_76 (sN N) (nI d) K (m + 1) sv tk ct hp (nI t) := by
  have h1 := hI.2.2.2.2.1
  intro m
  induction m with
  | zero =>
    intro t ht sv tk ct hp hR
    obtain rfl : t = 10 := by omega
    rw [wb_X7_plans_76]
    exact ⟨fun _ => hK _ _ _ _ hR, fun c => absurd (by decide) c⟩
  | succ m ih =>
    intro t ht sv tk ct hp hR
    have ho := ord_lt (N := N) (t := t) (by omega)
    rw [wb_X7_plans_76]
    simp (disch := omega) only [sN, nI_add, pk_mul, nz_cl, nz_le, nz_lt, nz_eq, nz_eq0, nz_le0, nz_lt0, nz_0lt, nz_m5, nz_inT, true_and, and_true, forall_eq, not_false_eq_true, not_true_eq_false, true_imp_iff, false_imp_iff, implies_true]
    refine ⟨fun c => absurd c (by omega), fun _ => ⟨fun c => ?_, fun c => ?_⟩⟩
    · rw [if_neg c] at hR
      exact hK _ _ _ _ (by rw [if_neg c]; exact hR)
    · rw [if_pos c] at hR
      refine choosing_ok hI (by omega) (takesHelp_ok hI hd ho (PI_helps hI hP t (by omega)) hR (fun s2 t2 c2 h2 hr2 => ?_))
      try simp (disch := omega) only [sN, nI_add, pk_mul, nz_cl, nz_le, nz_lt, nz_eq, nz_eq0, nz_le0, nz_lt0, nz_0lt, nz_m5, nz_inT, true_and, and_true, forall_eq, not_false_eq_true, not_true_eq_false, true_imp_iff, false_imp_iff, implies_true]
      exact ih (t + 1) (by omega) _ _ _ _ (by rw [if_pos c]; exact hr2)
theorem plans_ok {N : Nat → Nat} (hI : PInv N) {d : Nat} (hd : d < 1000) {sv tk ct hp : Nat → Int32} {Q : (Nat → Int32) → (Nat → Int32) → (Nat → Int32) → (Nat → Int32) → Prop} (h : ∀ s2 t2 c2 h2, RP7 s2 t2 c2 h2 (plan N (able N d)) → Q s2 t2 c2 h2) : wp_X7_plans (sN N) sv tk ct hp (nI d) Q := by
  refine ⟨17, plans_2 (fun s2 e1 => ⟨11, plans_24 (fun c2 h2 e2 e3 => ⟨11, plans_52 hI hd (hp := h2) (fun s3 t3 c3 h3 => ⟨11, plans_76 hI hd (PI_rows hI PI_p0 10 (by omega)) (fun s4 t4 c4 h4 hr => h _ _ _ _ hr) 10 0 (by omega) _ _ _ _ ?_⟩) 10 0 (by omega) _ _ _ ?_⟩) 10 0 (by omega) _ _ (fun p hp => absurd hp (by omega)) (fun p hp => absurd hp (by omega))⟩) 16 0 (by omega) _ (fun p hp => absurd hp (by omega))⟩
  · exact ⟨fun p hp => by rw [e1 p hp]; rfl, fun f hf => by rw [e2 f hf]; rfl, fun f hf => by rw [e3 f hf]; rfl, fun f hf r hr => absurd hr (by simp [prows, p0])⟩
  · split
    · exact h3
    · exact h3
