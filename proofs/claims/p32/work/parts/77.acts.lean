/-! the class's acts -/
theorem enterRow_f {V2 V3 : Nat → Int32} {x y : Int32} (h : ¬ ((∃ f, f < 10 ∧ x = nI f) ∧ ∃ p, p < 16 ∧ y = nI p)) {Q : Int32 → (Nat → Int32) → (Nat → Int32) → Prop} (hQ : Q (-1) V2 V3) : wp_X6_enterRow V2 V3 x y Q := by
  unfold wp_X6_enterRow
  by_cases c : ∃ f, f < 10 ∧ x = nI f
  · obtain ⟨f, hf, rfl⟩ := c
    exact cFloor_t hf (ifN nz10 (cPerson_f (fun e => h ⟨⟨f, hf, rfl⟩, e⟩) (ifP' nI_0 hQ)))
  · exact cFloor_f c (ifP nI_0 hQ)
theorem enterRow_ok {N : Nat → Nat} {V2 V3 : Nat → Int32} (hI : PInv N) (hR : RRows V2 V3 N) {f p : Nat} (hf : f < 10) (hp : p < 16) {Q : Int32 → (Nat → Int32) → (Nat → Int32) → Prop} (h1 : inRow N p f = true → Q (-4) V2 V3) (h2 : inRow N p f = false → mn N f = 5 → Q (-3) V2 V3) (h3 : inRow N p f = false → mn N f < 5 → ∀ W2 W3, RRows W2 W3 (enN N f p) → Q (nI (N (9 + 31 * f) + 1)) W2 W3) : wp_X6_enterRow V2 V3 (nI f) (nI p) Q := by
  have h5 := mn_le hI f
  unfold wp_X6_enterRow
  refine cFloor_t hf (ifN nz10 (cPerson_t hp (ifN' nz10 (placeOf_ok hI hR hf hp (fun c => ?_) (fun c => ?_)))))
  · exact ifN (by rw [nz_m5 (by omega)]; exact id) (h1 (decide_eq_true c))
  · have e : inRow N p f = false := decide_eq_false (by omega)
    exact ifP rfl (appendToRow_ok hI hR hf (h2 e) (fun c W2 W3 hW => h3 e c W2 W3 hW))
theorem quitRow_f {V2 V3 : Nat → Int32} {x y : Int32} (h : ¬ ((∃ f, f < 10 ∧ x = nI f) ∧ ∃ p, p < 16 ∧ y = nI p)) {Q : Int32 → (Nat → Int32) → (Nat → Int32) → Prop} (hQ : Q (-1) V2 V3) : wp_X6_quitRow V2 V3 x y Q := by
  unfold wp_X6_quitRow
  by_cases c : ∃ f, f < 10 ∧ x = nI f
  · obtain ⟨f, hf, rfl⟩ := c
    exact cFloor_t hf (ifN nz10 (cPerson_f (fun e => h ⟨⟨f, hf, rfl⟩, e⟩) (ifP' nI_0 hQ)))
  · exact cFloor_f c (ifP nI_0 hQ)
theorem quitRow_ok {N : Nat → Nat} {V2 V3 : Nat → Int32} (hI : PInv N) (hR : RRows V2 V3 N) {f p : Nat} (hf : f < 10) (hp : p < 16) {Q : Int32 → (Nat → Int32) → (Nat → Int32) → Prop} (h0 : plIn N f p = mn N f → Q (-5) V2 V3) (h1 : plIn N f p < mn N f → ∀ W2 W3, RRows W2 W3 (stN N f (plIn N f p)) → Q (nI (N (9 + 31 * f) - 1)) W2 W3) : wp_X6_quitRow V2 V3 (nI f) (nI p) Q := by
  have h5 := mn_le hI f
  have hm := mn_at (N := N) hf
  unfold wp_X6_quitRow
  refine cFloor_t hf (ifN nz10 (cPerson_t hp (ifN' nz10 (placeOf_ok hI hR hf hp (fun c => ?_) (fun c => ?_)))))
  · exact ifN' (by rw [nz_m5 (by omega)]; exact id) (removeFromRow_ok hI hR hf (by omega) (h1 c))
  · exact ifP' rfl (h0 c)
theorem leaveError_f1 {g : Int32} {V5 V6 V7 : Nat → Int32} {x y z : Int32} (h : ¬ ∃ p, p < 16 ∧ x = nI p) {Q : Int32 → Prop} (hQ : Q (-1)) : wp_X6_leaveError g V5 V6 V7 x y z Q := by
  unfold wp_X6_leaveError
  exact cPerson_f h (ifP' nI_0 hQ)
theorem leaveError_f2 {g : Int32} {V5 V6 V7 : Nat → Int32} {p : Nat} (hp : p < 16) {y z : Int32} (h : ¬ ∃ a b, a ≤ b ∧ b ≤ 399 ∧ y = nI a ∧ z = nI b) {Q : Int32 → Prop} (hQ : Q (-2)) : wp_X6_leaveError g V5 V6 V7 (nI p) y z Q := by
  unfold wp_X6_leaveError
  refine cPerson_t hp (ifN' nz10 ?_)
  by_cases c : ∃ a, a < 400 ∧ y = nI a
  · obtain ⟨a, ha, rfl⟩ := c
    exact cDay_t ha (ifN nz10 (cWithin_f (by omega) (by omega) (fun n h1 h2 e => h ⟨a, n, h1, h2, rfl, e⟩) (ifP' nI_0 hQ)))
  · exact cDay_f c (ifP nI_0 hQ)
theorem leaveError_ok {V : SV} {N : Nat → Nat} (hI : PInv N) (h6 : N 6 ≤ 40) (hS : RLeaves (V 14 1) (V 5) (V 6) (V 7) N) {p a b : Nat} (hp : p < 16) (hab : a ≤ b) (hb : b ≤ 399) {Q : Int32 → Prop} (h1 : ovOn N p a b < N 6 → Q (-4)) (h0 : ovOn N p a b = N 6 → Q (nI 0)) : wp_X6_leaveError (V 14 1) (V 5) (V 6) (V 7) (nI p) (nI a) (nI b) Q := by
  obtain ⟨hg, σ, hσ, hR⟩ := hS
  unfold wp_X6_leaveError
  rw [hg]
  refine cPerson_t hp (ifN' nz10 (cDay_t (by omega) (ifN nz10 (cWithin_t (by omega) (by omega) (by omega) hab hb (ifN' nz10 ?_)))))
  refine find_ok hI h6 hσ hR hp (by omega) (by omega) (fun i hi ho => ?_) (fun c => ?_)
  · exact ifN' (by rw [nz_m5 (by omega)]; exact id) (h1 (ovOn_some (hσ.1 i hi) ho))
  · exact ifP' rfl (h0 c)
theorem grantLeave_f1 {V : SV} {x y z : Int32} (h : ¬ ∃ p, p < 16 ∧ x = nI p) {s1 : Int32} {O1 n1 z1 h1 t1 : Nat → Int32} {s2 : Int32} {O2 n2 z2 h2 t2 : Nat → Int32} {Q : Int32 → Int32 → (Nat → Int32) → (Nat → Int32) → (Nat → Int32) → Int32 → (Nat → Int32) → (Nat → Int32) → (Nat → Int32) → (Nat → Int32) → (Nat → Int32) → Int32 → (Nat → Int32) → (Nat → Int32) → (Nat → Int32) → (Nat → Int32) → (Nat → Int32) → Prop} (hQ : Q (-1) (V 14 1) (V 5) (V 6) (V 7) s1 O1 n1 z1 h1 t1 s2 O2 n2 z2 h2 t2) : wp_X6_grantLeave (V 0) (V 1) (V 2) (V 3) (V 4) (V 14 1) (V 5) (V 6) (V 7) s1 O1 n1 z1 h1 t1 s2 O2 n2 z2 h2 t2 x y z Q := by
  unfold wp_X6_grantLeave
  exact leaveError_f1 h ⟨fun c => absurd c (by decide), fun _ => hQ⟩
theorem grantLeave_f2 {V : SV} {p : Nat} (hp : p < 16) {y z : Int32} (h : ¬ ∃ a b, a ≤ b ∧ b ≤ 399 ∧ y = nI a ∧ z = nI b) {s1 : Int32} {O1 n1 z1 h1 t1 : Nat → Int32} {s2 : Int32} {O2 n2 z2 h2 t2 : Nat → Int32} {Q : Int32 → Int32 → (Nat → Int32) → (Nat → Int32) → (Nat → Int32) → Int32 → (Nat → Int32) → (Nat → Int32) → (Nat → Int32) → (Nat → Int32) → (Nat → Int32) → Int32 → (Nat → Int32) → (Nat → Int32) → (Nat → Int32) → (Nat → Int32) → (Nat → Int32) → Prop} (hQ : Q (-2) (V 14 1) (V 5) (V 6) (V 7) s1 O1 n1 z1 h1 t1 s2 O2 n2 z2 h2 t2) : wp_X6_grantLeave (V 0) (V 1) (V 2) (V 3) (V 4) (V 14 1) (V 5) (V 6) (V 7) s1 O1 n1 z1 h1 t1 s2 O2 n2 z2 h2 t2 (nI p) y z Q := by
  unfold wp_X6_grantLeave
  exact leaveError_f2 hp h ⟨fun c => absurd c (by decide), fun _ => hQ⟩
theorem grantLeave_ok {V : SV} {N : Nat → Nat} (hI : PInv N) (h6 : N 6 ≤ 40) (h2 : N 2 ≤ 1) (hS : RS V N) {p a b : Nat} (hp : p < 16) (hab : a ≤ b) (hb : b ≤ 399) {s1 : Int32} {O1 n1 z1 h1 t1 : Nat → Int32} {s2 : Int32} {O2 n2 z2 h2 t2 : Nat → Int32} {Q : Int32 → Int32 → (Nat → Int32) → (Nat → Int32) → (Nat → Int32) → Int32 → (Nat → Int32) → (Nat → Int32) → (Nat → Int32) → (Nat → Int32) → (Nat → Int32) → Int32 → (Nat → Int32) → (Nat → Int32) → (Nat → Int32) → (Nat → Int32) → (Nat → Int32) → Prop} (ho : ovOn N p a b < N 6 → Q (-4) (V 14 1) (V 5) (V 6) (V 7) s1 O1 n1 z1 h1 t1 s2 O2 n2 z2 h2 t2) (hf : ovOn N p a b = N 6 → N 6 = 40 → Q (-3) (V 14 1) (V 5) (V 6) (V 7) s1 O1 n1 z1 h1 t1 s2 O2 n2 z2 h2 t2) (hr : ∀ s1 O1 n1 z1 h1 t1 s2 O2 n2 z2 h2 t2, ovOn N p a b = N 6 → N 6 < 40 → N 2 = 1 → 0 < moreIn N p a b → Q (-6) (V 14 1) (V 5) (V 6) (V 7) s1 O1 n1 z1 h1 t1 s2 O2 n2 z2 h2 t2) (hy : ∀ s1 O1 n1 z1 h1 t1 s2 O2 n2 z2 h2 t2 g W5 W6 W7, ovOn N p a b = N 6 → N 6 < 40 → (N 2 = 1 → moreIn N p a b = 0) → RLeaves g W5 W6 W7 (grN N p a b) → Q (nI (b - a + 1)) g W5 W6 W7 s1 O1 n1 z1 h1 t1 s2 O2 n2 z2 h2 t2) : wp_X6_grantLeave (V 0) (V 1) (V 2) (V 3) (V 4) (V 14 1) (V 5) (V 6) (V 7) s1 O1 n1 z1 h1 t1 s2 O2 n2 z2 h2 t2 (nI p) (nI a) (nI b) Q := by
  have hm := moreIn_le hI h6 (p := p) (a := a) (b := b) hp hb
  have h5 := hS.2.2.2.2.1
  have w2 := hS.1 2 (by omega)
  unfold wp_X6_grantLeave
  refine leaveError_ok hI h6 h5 hp hab hb (fun c => ⟨fun e => absurd e (by decide), fun _ => ho c⟩) (fun c => ifP (by decide) ?_)
  have add : ∀ s1 O1 n1 z1 h1 t1 s2 O2 n2 z2 h2 t2, N 6 < 40 → (N 2 = 1 → moreIn N p a b = 0) → wp_X2_add (V 14 1) (V 5) (V 6) (V 7) (nI p) (nI a) (nI b) (fun r g W5 W6 W7 => Q r g W5 W6 W7 s1 O1 n1 z1 h1 t1 s2 O2 n2 z2 h2 t2) := fun s1 O1 n1 z1 h1 t1 s2 O2 n2 z2 h2 t2 c6 cm => by
    obtain ⟨hg, σ, hσ, hR⟩ := h5
    rw [hg]
    exact cadd_ok c6 hσ hR hab (fun W5 W6 W7 τ hτ hW => hy _ _ _ _ _ _ _ _ _ _ _ _ _ _ _ _ c c6 cm ⟨by rw [grN_6], τ, by rw [grN_6]; exact hτ, hW⟩)
  have hg := h5.1
  refine ⟨fun c6 => ⟨vp_in_nI (by omega) (by omega), ⟨fun e => add _ _ _ _ _ _ _ _ _ _ _ _ ?_ (fun e2 => absurd ?_ e), fun e => cshort_ok hI h6 hS hp (by omega) hb (fun s1 O1 n1 z1 h1 t1 s2 O2 n2 z2 h2 t2 => ⟨fun q => add _ _ _ _ _ _ _ _ _ _ _ _ ?_ (fun _ => ?_), fun q => hr _ _ _ _ _ _ _ _ _ _ _ _ c ?_ ?_ ?_⟩)⟩⟩, fun c6 => hf c ?_⟩
  · rw [hg, nz_lt (by omega) (by omega)] at c6
    exact c6
  · rw [nz_cl (by omega), w2, e2]
  · rw [hg, nz_lt (by omega) (by omega)] at c6
    exact c6
  · rw [nz_le0 (by omega)] at q
    exact q
  · rw [hg, nz_lt (by omega) (by omega)] at c6
    exact c6
  · rw [nz_cl (by omega), w2] at e
    exact (nz_eq (by omega) (by omega)).mp e
  · rw [nz_le0 (by omega)] at q
    omega
  · rw [hg, nz_lt (by omega) (by omega)] at c6
    omega
theorem holdDrill_f1 {V : SV} {x y : Int32} (h : ¬ ∃ f, f < 10 ∧ x = nI f) {s1 : Int32} {O1 n1 z1 h1 t1 : Nat → Int32} {Q : Int32 → Int32 → (Nat → Int32) → (Nat → Int32) → (Nat → Int32) → (Nat → Int32) → (Nat → Int32) → (Nat → Int32) → Int32 → (Nat → Int32) → (Nat → Int32) → (Nat → Int32) → (Nat → Int32) → (Nat → Int32) → Prop} (hQ : Q (-1) (V 14 2) (V 8) (V 9) (V 10) (V 11) (V 12) (V 13) s1 O1 n1 z1 h1 t1) : wp_X6_holdDrill (V 14 0) (V 0) (V 1) (V 2) (V 3) (V 4) (V 14 1) (V 5) (V 6) (V 7) (V 14 2) (V 8) (V 9) (V 10) (V 11) (V 12) (V 13) s1 O1 n1 z1 h1 t1 x y Q := by
  unfold wp_X6_holdDrill
  exact cFloor_f h (ifP' nI_0 hQ)
theorem holdDrill_f2 {V : SV} {f : Nat} (hf : f < 10) {y : Int32} (hy : ¬ ∃ m, 1 ≤ m ∧ m ≤ 60 ∧ y = nI m) {s1 : Int32} {O1 n1 z1 h1 t1 : Nat → Int32} {Q : Int32 → Int32 → (Nat → Int32) → (Nat → Int32) → (Nat → Int32) → (Nat → Int32) → (Nat → Int32) → (Nat → Int32) → Int32 → (Nat → Int32) → (Nat → Int32) → (Nat → Int32) → (Nat → Int32) → (Nat → Int32) → Prop} (hQ : Q (-2) (V 14 2) (V 8) (V 9) (V 10) (V 11) (V 12) (V 13) s1 O1 n1 z1 h1 t1) : wp_X6_holdDrill (V 14 0) (V 0) (V 1) (V 2) (V 3) (V 4) (V 14 1) (V 5) (V 6) (V 7) (V 14 2) (V 8) (V 9) (V 10) (V 11) (V 12) (V 13) s1 O1 n1 z1 h1 t1 (nI f) y Q := by
  unfold wp_X6_holdDrill
  exact cFloor_t hf (ifN' nz10 (cWithin_f (by omega) (by omega) (fun n h1 h2 e => hy ⟨n, h1, h2, e⟩) (ifP' nI_0 hQ)))
theorem holdDrill_ok {b : Nat} {V : SV} {N : Nat → Nat} (hI : Inv b N) (hS : RS V N) {f m : Nat} (hf : f < 10) (k1 : 1 ≤ m) (k2 : m ≤ 60) {s1 : Int32} {O1 n1 z1 h1 t1 : Nat → Int32} {Q : Int32 → Int32 → (Nat → Int32) → (Nat → Int32) → (Nat → Int32) → (Nat → Int32) → (Nat → Int32) → (Nat → Int32) → Int32 → (Nat → Int32) → (Nat → Int32) → (Nat → Int32) → (Nat → Int32) → (Nat → Int32) → Prop} (hn : ∀ s1 O1 n1 z1 h1 t1, noDrill N f → Q (-4) (V 14 2) (V 8) (V 9) (V 10) (V 11) (V 12) (V 13) s1 O1 n1 z1 h1 t1) (hy : ∀ s1 O1 n1 z1 h1 t1 l W8 W9 W10 W11 W12 W13, ¬ noDrill N f → l < 16 → l = (plan N (able N (N 3))).2.1 (3 * f) → RLog W8 W11 W12 W13 (dlN N f m l) → (∀ g, g < 10 → W9 g = nI (qSet (dlN N f m l) g)) → (∀ p, p < 16 → W10 p = nI (dlN N f m l (319 + 2 * p))) → Q (nI l) (nI (dlN N f m l 5)) W8 W9 W10 W11 W12 W13 s1 O1 n1 z1 h1 t1) : wp_X6_holdDrill (V 14 0) (V 0) (V 1) (V 2) (V 3) (V 4) (V 14 1) (V 5) (V 6) (V 7) (V 14 2) (V 8) (V 9) (V 10) (V 11) (V 12) (V 13) s1 O1 n1 z1 h1 t1 (nI f) (nI m) Q := by
  have hP := PI_plan hI.1 (able N (N 3))
  have h3 := hI.2.2.2.1
  have l3 := lack_le hI.1 (plan N (able N (N 3))) f
  have hc := hP.2.1 f hf
  have hS0 := hS
  obtain ⟨_, _, _, _, _, rl, r9, r10, r0, rm⟩ := hS0
  unfold wp_X6_holdDrill
  rw [r0]
  refine cFloor_t hf (ifN' nz10 (cWithin_t (by omega) (by omega) (by omega) k1 k2 (ifN' nz10 (clay_ok hI.1 hI.2.1 hS (by omega) (ab := able N (N 3)) x3_0 (fun s1 O1 n1 z1 h1 t1 hR => ctaken_ok hI.1 hP hR.1 hf (by omega) (fun c => ?_) (fun c => ?_))))))
  · have hl := (hP.2.2.2.1 f hf 0 c).1
    rw [Nat.add_zero] at hl ⊢
    refine ifN (by rw [nz_m5 (by omega)]; exact id) (lack4_ok hR.2.1 hR.1.2.1 hP.2.1 hf ?_)
    simp (disch := omega) only [sN, nI_add, pk_mul, nz_cl, nz_le, nz_lt, nz_eq, nz_eq0, nz_le0, nz_lt0, nz_0lt, nz_m5, nz_inT, true_and, and_true, forall_eq, not_false_eq_true, not_true_eq_false, true_imp_iff, false_imp_iff, implies_true]
    refine ⟨fun q => ?_, fun q => hn _ _ _ _ _ _ (Or.inr (by omega))⟩
    rw [rm]
    have hnd : ¬ noDrill N f := by
      unfold noDrill
      omega
    exact caddDrill_ok hI rl r9 r10 hf hl (fun W8 W9 W10 W11 W12 W13 a1 a2 a3 => hy _ _ _ _ _ _ _ _ _ _ _ _ _ hnd hl rfl a1 a2 a3)
  · refine ifP rfl (hn _ _ _ _ _ _ ?_)
    unfold noDrill lack
    omega
theorem letPass_f {V : SV} {x : Int32} (hx : ¬ ∃ k, 1 ≤ k ∧ k ≤ 99 ∧ x = nI k) {s1 : Int32} {O1 n1 z1 h1 t1 : Nat → Int32} {Q : Int32 → Int32 → Int32 → (Nat → Int32) → (Nat → Int32) → (Nat → Int32) → (Nat → Int32) → (Nat → Int32) → Prop} (hQ : Q (-2) (V 14 0) s1 O1 n1 z1 h1 t1) : wp_X6_letDaysPass (V 14 0) (V 0) (V 1) (V 2) (V 3) (V 4) (V 14 1) (V 5) (V 6) (V 7) s1 O1 n1 z1 h1 t1 x Q := by
  unfold wp_X6_letDaysPass
  exact cWithin_f (by omega) (by omega) (fun n h1 h2 e => hx ⟨n, h1, h2, e⟩) (ifP' nI_0 hQ)
theorem RS_today {b : Nat} {V : SV} {N : Nat → Nat} (hI : Inv b N) (hS : RS V N) {t : Nat} : RS (sv (nI t) (V 0) (V 1) (V 2) (V 3) (V 4) (V 14 1) (V 5) (V 6) (V 7) (V 14 2) (V 8) (V 9) (V 10) (V 11) (V 12) (V 13)) (un N 3 t) :=
  RS_7 (Ag_un (i := 7) (k := 3) rfl) hI hS (by rw [un_s])
theorem Inv_today {b : Nat} {N : Nat → Nat} (hI : Inv b N) {t : Nat} (ht : t ≤ 399) : Inv b (un N 3 t) := Inv_7 (Ag_un (i := 7) (k := 3) rfl) hI (by rw [un_s]; exact ht)
theorem letPass_ok {b : Nat} {V : SV} {N : Nat → Nat} (hI : Inv b N) (hS : RS V N) {k : Nat} (k1 : 1 ≤ k) (k2 : k ≤ 99) {s1 : Int32} {O1 n1 z1 h1 t1 : Nat → Int32} {Q : Int32 → Int32 → Int32 → (Nat → Int32) → (Nat → Int32) → (Nat → Int32) → (Nat → Int32) → (Nat → Int32) → Prop} (hf : 399 < N 3 + k → Q (-3) (V 14 0) s1 O1 n1 z1 h1 t1) (hs : N 3 + k ≤ 399 → ∀ s1 O1 n1 z1 h1 t1, Q (nI (shortF (un N 3 (N 3 + k)) (N 3 + k))) (nI (N 3 + k)) s1 O1 n1 z1 h1 t1) : wp_X6_letDaysPass (V 14 0) (V 0) (V 1) (V 2) (V 3) (V 4) (V 14 1) (V 5) (V 6) (V 7) s1 O1 n1 z1 h1 t1 (nI k) Q := by
  have h3 := hI.2.2.2.1
  have r0 := hS.2.2.2.2.2.2.2.2.1
  unfold wp_X6_letDaysPass
  refine cWithin_t (by omega) (by omega) (by omega) k1 k2 (ifN' nz10 ?_)
  refine ⟨fun c => ?_, fun c => hf ?_⟩
  · rw [r0, nI_add, nz_le (by omega) (by omega)] at c
    intro t et
    rw [r0, nI_add] at et
    subst et
    have hI2 := Inv_today hI (t := N 3 + k) c
    exact cfloorsShort_ok (V := sv (nI (N 3 + k)) (V 0) (V 1) (V 2) (V 3) (V 4) (V 14 1) (V 5) (V 6) (V 7) (V 14 2) (V 8) (V 9) (V 10) (V 11) (V 12) (V 13)) hI2.1 hI2.2.1 (RS_today hI hS) c (fun s1 O1 n1 z1 h1 t1 => hs c _ _ _ _ _ _)
  · rw [r0, nI_add, nz_le (by omega) (by omega)] at c
    omega

