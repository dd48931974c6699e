theorem caddDrill_ok {V8 V9 V10 V11 V12 V13 : Nat → Int32} {b : Nat} {N : Nat → Nat} (hI : Inv b N) (hR : RLog V8 V11 V12 V13 N) (h9 : ∀ f, f < 10 → V9 f = nI (qSet N f)) (h10 : ∀ p, p < 16 → V10 p = nI (N (319 + 2 * p))) {f m l : Nat} (hf : f < 10) (hl : l < 16) {Q : Int32 → (Nat → Int32) → (Nat → Int32) → (Nat → Int32) → (Nat → Int32) → (Nat → Int32) → (Nat → Int32) → Prop} (h : ∀ W8 W9 W10 W11 W12 W13, RLog W8 W11 W12 W13 (dlN N f m l) → (∀ g, g < 10 → W9 g = nI (qSet (dlN N f m l) g)) → (∀ p, p < 16 → W10 p = nI (dlN N f m l (319 + 2 * p))) → Q (nI (dlN N f m l 5)) W8 W9 W10 W11 W12 W13) : wp_X0_add (nI (N 5)) V8 V9 V10 V11 V12 V13 (nI f) (nI (N 3)) (nI m) (nI l) Q := by
  have h3 := hI.2.2.2.1
  have hq1 := hI.2.2.2.2.2.2.2.1
  have hf6 : N (16 + 31 * f) ≤ 6 := by have := (hI.2.2.2.2.2.2.2.2.1 f hf).2; omega
  obtain ⟨a1, a2, a3, a4, a5, a6⟩ := dlN_at (m := m) (l := l) hf hl h3 hf6
  obtain ⟨b1, b2, b3⟩ := dlN_l0 (m := m) (l := l) hf h3 hf6
  unfold wp_X0_add
  refine cFloor_t hf (ifN nz10 (cPerson_t hl (ifN' nz10 ?_)))
  simp (disch := omega) only [sN, nI_add, pk_mul, nz_cl, nz_le, nz_lt, nz_eq, nz_eq0, nz_le0, nz_lt0, nz_0lt, nz_m5, nz_inT, true_and, and_true, forall_eq, not_false_eq_true, not_true_eq_false, true_imp_iff, false_imp_iff, implies_true, nz_sub]
  rw [show f * 6 + 6 - 1 = f * 6 + 5 by omega]
  refine ⟨6, add_31 hf (fun W11 W12 W13 e1 e2 e3 => ?_) 5 (Nat.le_refl _) _ _ _ (fun j => by rw [if_neg (by omega)]) (fun j => by rw [if_neg (by omega)]) (fun j => by rw [if_neg (by omega)])⟩
  rw [hR.1 f hf, h9 f hf, h10 l hl, pk_div (by omega) (by omega) (by omega), nx_shl (by omega), nx_or]
  simp (disch := omega) only [sN, nI_add, pk_mul, nz_cl, nz_le, nz_lt, nz_eq, nz_eq0, nz_le0, nz_lt0, nz_0lt, nz_m5, nz_inT, true_and, and_true, forall_eq, not_false_eq_true, not_true_eq_false, true_imp_iff, false_imp_iff, implies_true]
  rw [← a6]
  refine h _ _ _ _ _ _ ⟨fun g hg => ?_, fun g hg r hr => ?_⟩ (fun g hg => ?_) (fun p hp => ?_)
  · unfold upd
    by_cases e : g = f
    · subst e
      rw [if_pos rfl, a2]
    · rw [if_neg e, dlN_n hf h3 hf6 (by omega) (by omega) (by omega) (by omega)]
      exact hR.1 g hg
  · by_cases e : g = f
    · subst e
      rw [a1] at hr ⊢
      rw [Nat.add_sub_cancel]
      unfold upd
      by_cases c : r = 0
      · subst c
        rw [if_pos (by omega), if_pos (by omega), if_pos (by omega), Nat.sub_zero, b1, b2, b3]
        exact ⟨rfl, rfl, rfl⟩
      · have hk : lgm (N (16 + 31 * g)) ≤ N (16 + 31 * g) ∧ lgm (N (16 + 31 * g)) < 6 := by unfold lgm; split <;> omega
        have c0 := dlN_lg (m := m) (l := l) (w := 0) hf h3 hf6 (by omega) (show 0 < r by omega) (by omega)
        have c1 := dlN_lg (m := m) (l := l) (w := 1) hf h3 hf6 (by omega) (show 0 < r by omega) (by omega)
        have c2 := dlN_lg (m := m) (l := l) (w := 2) hf h3 hf6 (by omega) (show 0 < r by omega) (by omega)
        obtain ⟨d1, d2, d3⟩ := hR.2 g hg (r - 1) (by omega)
        rw [show N (16 + 31 * g) - 1 - (r - 1) = N (16 + 31 * g) - r by omega] at d1 d2 d3
        rw [if_neg (by omega), if_neg (by omega), if_neg (by omega), e1, e2, e3, if_pos (by omega), if_pos (by omega), if_pos (by omega), show 6 * g + r - 1 = 6 * g + (r - 1) by omega, d1, d2, d3, ← c0, ← c1, ← c2]
        exact ⟨rfl, rfl, rfl⟩
    · have em : dlN N f m l (16 + 31 * g) = N (16 + 31 * g) := dlN_n hf h3 hf6 (by omega) (by omega) (by omega) (by omega)
      have hg6 : N (16 + 31 * g) ≤ 6 := by have := (hI.2.2.2.2.2.2.2.2.1 g hg).2; omega
      rw [em] at hr ⊢
      unfold upd
      rw [if_neg (by omega), if_neg (by omega), if_neg (by omega), e1, e2, e3, if_neg (by omega), if_neg (by omega), if_neg (by omega), dlN_n hf h3 hf6 (by omega) (by omega) (by omega) (by omega), dlN_n hf h3 hf6 (by omega) (by omega) (by omega) (by omega), dlN_n hf h3 hf6 (by omega) (by omega) (by omega) (by omega)]
      exact hR.2 g hg r hr
  · rw [qSet_dl hq1 hf hl hg h3 hf6]
    unfold upd
    by_cases e : g = f
    · rw [if_pos e, if_pos e]
    · rw [if_neg e, if_neg e]
      exact h9 g hg
  · unfold upd
    by_cases e : p = l
    · subst e
      rw [if_pos rfl, a4]
    · rw [if_neg e, dlN_n hf h3 hf6 (by omega) (by omega) (by omega) (by omega)]
      exact h10 p hp

