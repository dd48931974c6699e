theorem drills_ok {N : Nat → Nat} {tk : Nat → Int32} {f m l : Nat} (hf : f < 10) (hl : l < 16) (h3 : N 3 ≤ 399) (h6 : N (16 + 31 * f) ≤ 6) (ht : tk (3 * f) = nI l) {Q : Int32 → (Nat → Int32) → Prop} (h : Q (nI l) (sN (dlN N f m l))) : wp_X7_drills (sN N) tk (nI f) (nI m) Q := by
  unfold wp_X7_drills
  simp (disch := omega) only [sN, nI_add, pk_mul, nz_cl, nz_le, nz_lt, nz_eq, nz_eq0, nz_le0, nz_lt0, nz_0lt, nz_m5, nz_inT, true_and, and_true, forall_eq, not_false_eq_true, not_true_eq_false, true_imp_iff, false_imp_iff, implies_true, ht]
  refine of_ok hf (by omega) ?_
  rw [show 8 + 31 * f + 8 = 16 + 31 * f by omega]
  simp (disch := omega) only [sN, nI_add, pk_mul, nz_cl, nz_le, nz_lt, nz_eq, nz_eq0, nz_le0, nz_lt0, nz_0lt, nz_m5, nz_inT, true_and, and_true, forall_eq, not_false_eq_true, not_true_eq_false, true_imp_iff, false_imp_iff, implies_true]
  unfold dlN at h
  refine ⟨fun c => ?_, fun c => ⟨16, ?_⟩⟩
  · rw [if_neg c] at h
    exact drills_66 hf (by omega) hl h3 h
  · rw [if_pos c] at h
    have e0 : N = lg1 N f 0 := by funext j; unfold lg1; rw [if_neg (by omega)]
    have := drills_28 (N := N) hf (K := fun T_s5 => ∀ x4_6, x4_6 = nI (N (16 + 31 * f)) + (-1) → wb_X7_drills_66 T_s5 (nI f) (nI m) (nI l) x4_6 Q) ?_ 15 0 (by omega)
    · rw [← e0] at this
      first
        | exact this
        | (simp only [forall_eq] at this; exact this)
    · intro z hz
      rw [c, show nI 6 = nI (5 + 1) from rfl, pk_m1] at hz
      rw [hz]
      refine drills_66 hf (by omega) hl ?_ h
      unfold lg1
      rw [if_neg (by omega)]
      exact h3
/-- a drill can't be held: no need, or short -/
def noDrill (N : Nat → Nat) (f : Nat) : Prop := nd N f = 0 ∨ 0 < lack N (plan N (able N (N 3))) f
theorem refusesDrill_ok {N : Nat → Nat} (hI : PInv N) (hd : N 3 ≤ 399) {f m : Nat} (hf : f < 10) (h1 : 1 ≤ m) (h2 : m ≤ 60) {s1 s2 s3 s4 : Nat → Int32} {Q : Int32 → (Nat → Int32) → (Nat → Int32) → (Nat → Int32) → (Nat → Int32) → Prop} (hn : ∀ s1 s2 s3 s4, noDrill N f → Q (-4) s1 s2 s3 s4) (hy : ∀ s1 s2 s3 s4, ¬ noDrill N f → RP7 s1 s2 s3 s4 (plan N (able N (N 3))) → Q (nI 0) s1 s2 s3 s4) : wp_X7_refusesDrill (sN N) s1 s2 s3 s4 (nI f) (nI m) Q := by
  unfold wp_X7_refusesDrill
  refine isFloor_t hf (ifN' nz10 (in_t (by omega) (by omega) (by omega) h1 h2 (ifN' nz10 ?_)))
  simp (disch := omega) only [sN, nI_add, pk_mul, nz_cl, nz_le, nz_lt, nz_eq, nz_eq0, nz_le0, nz_lt0, nz_0lt, nz_m5, nz_inT, true_and, and_true, forall_eq, not_false_eq_true, not_true_eq_false, true_imp_iff, false_imp_iff, implies_true]
  refine plans_ok hI (by omega) (fun t1 t2 t3 t4 hR => of_ok hf (by omega) ?_)
  rw [Nat.add_zero, ← nd_at (N := N) hf]
  have h3 := nd_le hI f
  have hl := lack_le hI (plan N (able N (N 3))) f
  simp (disch := omega) only [sN, nI_add, pk_mul, nz_cl, nz_le, nz_lt, nz_eq, nz_eq0, nz_le0, nz_lt0, nz_0lt, nz_m5, nz_inT, true_and, and_true, forall_eq, not_false_eq_true, not_true_eq_false, true_imp_iff, false_imp_iff, implies_true]
  refine ⟨fun c => hn _ _ _ _ (Or.inl c), fun c => shortBy_ok hR.2.1 (PI_plan hI _).2.1 hf ?_⟩
  simp (disch := omega) only [sN, nI_add, pk_mul, nz_cl, nz_le, nz_lt, nz_eq, nz_eq0, nz_le0, nz_lt0, nz_0lt, nz_m5, nz_inT, true_and, and_true, forall_eq, not_false_eq_true, not_true_eq_false, true_imp_iff, false_imp_iff, implies_true]
  refine ⟨fun c2 => hy _ _ _ _ (fun q => ?_) hR, fun c2 => hn _ _ _ _ (Or.inr (by omega))⟩
  rcases q with q | q <;> omega
theorem refusesDrill_f1 {N : Nat → Nat} {x : Int32} {y : Int32} (hx : ¬ ∃ f, f < 10 ∧ x = nI f) {s1 s2 s3 s4 : Nat → Int32} {Q : Int32 → (Nat → Int32) → (Nat → Int32) → (Nat → Int32) → (Nat → Int32) → Prop} (h : Q (-1) s1 s2 s3 s4) : wp_X7_refusesDrill (sN N) s1 s2 s3 s4 x y Q := by
  unfold wp_X7_refusesDrill
  exact isFloor_f hx (ifP' nI_0 h)
theorem refusesDrill_f2 {N : Nat → Nat} {f : Nat} (hf : f < 10) {y : Int32} (hy : ¬ ∃ m, 1 ≤ m ∧ m ≤ 60 ∧ y = nI m) {s1 s2 s3 s4 : Nat → Int32} {Q : Int32 → (Nat → Int32) → (Nat → Int32) → (Nat → Int32) → (Nat → Int32) → Prop} (h : Q (-2) s1 s2 s3 s4) : wp_X7_refusesDrill (sN N) s1 s2 s3 s4 (nI f) y Q := by
  unfold wp_X7_refusesDrill
  exact isFloor_t hf (ifN' nz10 (in_f (by omega) (by omega) (fun n a b e => hy ⟨n, a, b, e⟩) (ifP' nI_0 h)))
theorem refusesEnlisting_f {N : Nat → Nat} {x y : Int32} (h : ¬ ((∃ f, f < 10 ∧ x = nI f) ∧ ∃ p, p < 16 ∧ y = nI p)) {Q : Int32 → Prop} (hQ : Q (-1)) : wp_X7_refusesEnlisting (sN N) x y Q := by
  unfold wp_X7_refusesEnlisting
  by_cases c : ∃ f, f < 10 ∧ x = nI f
  · obtain ⟨f, hf, rfl⟩ := c
    exact isFloor_t hf (ifN nz10 (isPerson_f (fun q => h ⟨⟨f, hf, rfl⟩, q⟩) (ifP' nI_0 hQ)))
  · exact isFloor_f c (ifP nI_0 hQ)
theorem refusesEnlisting_ok {N : Nat → Nat} (hI : PInv N) {f p : Nat} (hf : f < 10) (hp : p < 16) {Q : Int32 → Prop} (h1 : inRow N p f = true → Q (-4)) (h2 : inRow N p f = false → mn N f = 5 → Q (-3)) (h3 : inRow N p f = false → mn N f < 5 → Q (nI 0)) : wp_X7_refusesEnlisting (sN N) (nI f) (nI p) Q := by
  have h5 := mn_le hI f
  unfold wp_X7_refusesEnlisting
  refine isFloor_t hf (ifN nz10 (isPerson_t hp (ifN' nz10 (placeIn_ok hI hf hp (fun c => ?_) (fun c => ?_)))))
  · exact ifN (by rw [nz_m5 (by omega)]; exact id) (h1 (decide_eq_true c))
  · have e : inRow N p f = false := decide_eq_false (by omega)
    refine ifP rfl (of_ok hf (by omega) ?_)
    rw [show 8 + 31 * f + 1 = 9 + 31 * f by omega, ← mn_at (N := N) hf]
    simp (disch := omega) only [sN, nI_add, pk_mul, nz_cl, nz_le, nz_lt, nz_eq, nz_eq0, nz_le0, nz_lt0, nz_0lt, nz_m5, nz_inT, true_and, and_true, forall_eq, not_false_eq_true, not_true_eq_false, true_imp_iff, false_imp_iff, implies_true]
    exact ⟨fun c => h3 e (by omega), fun c => h2 e c⟩
theorem refusesDays_f1 {N : Nat → Nat} {x y z : Int32} (hx : ¬ ∃ f, f < 16 ∧ x = nI f) {Q : Int32 → Prop} (h : Q (-1)) : wp_X7_refusesDays (sN N) x y z Q := by
  unfold wp_X7_refusesDays
  exact isPerson_f hx (ifP' nI_0 h)
theorem refusesDays_f2 {N : Nat → Nat} {p : Nat} (hp : p < 16) {y z : Int32} (hx : ¬ ∃ a b, a ≤ b ∧ b ≤ 399 ∧ y = nI a ∧ z = nI b) {Q : Int32 → Prop} (h : Q (-2)) : wp_X7_refusesDays (sN N) (nI p) y z Q := by
  unfold wp_X7_refusesDays
  refine isPerson_t hp (ifN' nz10 ?_)
  by_cases c : ∃ a, a < 400 ∧ y = nI a
  · obtain ⟨a, ha, rfl⟩ := c
    exact isDay_t ha (ifN nz10 (in_f (by omega) (by omega) (fun n h1 h2 e => hx ⟨a, n, h1, h2, rfl, e⟩) (ifP' nI_0 h)))
  · exact isDay_f c (ifP nI_0 h)
theorem refusesDays_ok {N : Nat → Nat} (hI : PInv N) {p a b : Nat} (hp : p < 16) (hab : a ≤ b) (hb : b ≤ 399) {Q : Int32 → Prop} (h1 : ovOn N p a b < N 6 → Q (-4)) (h0 : ovOn N p a b = N 6 → Q (nI 0)) : wp_X7_refusesDays (sN N) (nI p) (nI a) (nI b) Q := by
  unfold wp_X7_refusesDays
  refine isPerson_t hp (ifN' nz10 (isDay_t (by omega) (ifN nz10 (in_t (by omega) (by omega) (by omega) hab hb (ifN' nz10 ?_)))))
  exact isAway_ok hI hp (by omega) (by omega) (fun c => ifN nz10 (h1 c)) (fun c => ifP nI_0 (h0 c))
/-- by how much floors would be short by more, on all days of a leave -/
def moreIn (N : Nat → Nat) (p a b : Nat) : Nat := sm (fun i => more N p (a + i)) (b + 1 - a)
theorem moreIn_le {N : Nat → Nat} (hI : PInv N) (h6 : N 6 ≤ 40) {p a b : Nat} (hp : p < 16) (hb : b ≤ 399) : moreIn N p a b ≤ 12000 := by
  have : moreIn N p a b ≤ (b + 1 - a) * 30 := sm_le (fun j hj => more_le hI h6 hp (by omega))
  omega
theorem refusesLeave_f1 {N : Nat → Nat} {x y z : Int32} (hx : ¬ ∃ f, f < 16 ∧ x = nI f) {s1 s2 s3 s4 s5 : Nat → Int32} {Q : Int32 → (Nat → Int32) → (Nat → Int32) → (Nat → Int32) → (Nat → Int32) → (Nat → Int32) → (Nat → Int32) → Prop} (h : Q (-1) (sN N) s1 s2 s3 s4 s5) : wp_X7_refusesLeave (sN N) s1 s2 s3 s4 s5 x y z Q := by
  unfold wp_X7_refusesLeave
  exact refusesDays_f1 hx ⟨fun c => absurd c (by decide), fun _ => h⟩
theorem refusesLeave_f2 {N : Nat → Nat} {p : Nat} (hp : p < 16) {y z : Int32} (hx : ¬ ∃ a b, a ≤ b ∧ b ≤ 399 ∧ y = nI a ∧ z = nI b) {s1 s2 s3 s4 s5 : Nat → Int32} {Q : Int32 → (Nat → Int32) → (Nat → Int32) → (Nat → Int32) → (Nat → Int32) → (Nat → Int32) → (Nat → Int32) → Prop} (h : Q (-2) (sN N) s1 s2 s3 s4 s5) : wp_X7_refusesLeave (sN N) s1 s2 s3 s4 s5 (nI p) y z Q := by
  unfold wp_X7_refusesLeave
  exact refusesDays_f2 hp hx ⟨fun c => absurd c (by decide), fun _ => h⟩
theorem refusesLeave_ok {N : Nat → Nat} (hI : PInv N) (h6 : N 6 ≤ 40) (h2 : N 2 ≤ 1) (hz : Zero N) {p a b : Nat} (hp : p < 16) (hab : a ≤ b) (hb : b ≤ 399) {s1 s2 s3 s4 s5 : Nat → Int32} {Q : Int32 → (Nat → Int32) → (Nat → Int32) → (Nat → Int32) → (Nat → Int32) → (Nat → Int32) → (Nat → Int32) → Prop} (ho : ovOn N p a b < N 6 → Q (-4) (sN N) s1 s2 s3 s4 s5) (hf : ovOn N p a b = N 6 → N 6 = 40 → Q (-3) (sN N) s1 s2 s3 s4 s5) (hr : ∀ s1 s2 s3 s4 s5, ovOn N p a b = N 6 → N 6 < 40 → N 2 = 1 → 0 < moreIn N p a b → Q (-6) (sN N) s1 s2 s3 s4 s5) (hy : ∀ s1 s2 s3 s4 s5, ovOn N p a b = N 6 → N 6 < 40 → (N 2 = 1 → moreIn N p a b = 0) → Q (nI 0) (sN N) s1 s2 s3 s4 s5) : wp_X7_refusesLeave (sN N) s1 s2 s3 s4 s5 (nI p) (nI a) (nI b) Q := by
  have hm := moreIn_le hI h6 (p := p) (a := a) (b := b) hp hb
  unfold wp_X7_refusesLeave
  refine refusesDays_ok hI hp hab hb (fun c => ⟨fun e => absurd e (by decide), fun _ => ho c⟩) (fun c => ifP nI_0 ?_)
  simp (disch := omega) only [sN, nI_add, pk_mul, nz_cl, nz_le, nz_lt, nz_eq, nz_eq0, nz_le0, nz_lt0, nz_0lt, nz_m5, nz_inT, true_and, and_true, forall_eq, not_false_eq_true, not_true_eq_false, true_imp_iff, false_imp_iff, implies_true]
  refine ⟨fun c2 => ⟨fun c3 => hy _ _ _ _ _ c (by omega) (fun e => absurd e c3), fun c3 => shortByMore_ok hI h6 hz hp (by omega) hb (fun t1 t2 t3 t4 t5 => ?_)⟩, fun c2 => hf c c2⟩
  show (nI (moreIn N p a b) ≤ 0 → _) ∧ (¬ nI (moreIn N p a b) ≤ 0 → _)
  simp (disch := omega) only [sN, nI_add, pk_mul, nz_cl, nz_le, nz_lt, nz_eq, nz_eq0, nz_le0, nz_lt0, nz_0lt, nz_m5, nz_inT, true_and, and_true, forall_eq, not_false_eq_true, not_true_eq_false, true_imp_iff, false_imp_iff, implies_true]
  exact ⟨fun e => hy _ _ _ _ _ c (by omega) (fun _ => e), fun e => hr _ _ _ _ _ c (by omega) c3 (by omega)⟩
