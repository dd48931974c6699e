theorem logged_ok {V8 V11 V12 V13 : Nat → Int32} {b : Nat} {N : Nat → Nat} (hb : b < 1000000) (hI : Inv b N) (hR : RLog V8 V11 V12 V13 N) {f : Nat} (hf : f < 10) {r w : Nat} (hr : r < 2147483648) (hw : w < 3) {Q : Int32 → Prop} (h1 : r < N (16 + 31 * f) → Q (nI (N (17 + w + 31 * f + 3 * (N (16 + 31 * f) - 1 - r))))) (h0 : N (16 + 31 * f) ≤ r → Q (-5)) : wp_X0_logged V8 V11 V12 V13 (nI f) (nI r) (nI w) Q := by
  obtain ⟨hh, hm⟩ := hI.2.2.2.2.2.2.2.2.1 f hf
  unfold wp_X0_logged
  refine cFloor_t hf (ifN nz10 ?_)
  by_cases c : r ≤ 5
  · refine cWithin_t (by omega) (by omega) (by omega) (by omega) c (ifN nz10 ?_)
    simp (disch := omega) only [sN, nI_add, pk_mul, nz_cl, nz_le, nz_lt, nz_eq, nz_eq0, nz_le0, nz_lt0, nz_0lt, nz_m5, nz_inT, true_and, and_true, forall_eq, not_false_eq_true, not_true_eq_false, true_imp_iff, false_imp_iff, implies_true, hR.1 f hf]
    refine ⟨fun c2 => ?_, fun c2 => h0 (by omega)⟩
    obtain ⟨e1, e2, e3⟩ := hR.2 f hf r (by omega)
    rw [Nat.mul_comm f 6, e1, e2, e3]
    have hq := h1 (by omega)
    refine ⟨fun e => ?_, fun e => ⟨fun e' => ?_, fun e' => ?_⟩⟩
    · subst e
      exact hq
    · subst e'
      exact hq
    · obtain rfl : w = 2 := by omega
      exact hq
  · refine cWithin_f (by omega) (by omega) (fun n _ h e => ?_) (ifP nI_0 (h0 (by omega)))
    have := (nz_eq hr (by omega)).mp e
    omega
theorem qSet_dl {N : Nat → Nat} {f m l g : Nat} (hq1 : ∀ f q, f < 10 → q < 4 → N (35 + 31 * f + q) ≤ 1) (hf : f < 10) (hl : l < 16) (hg : g < 10) (h3 : N 3 ≤ 399) (h6 : N (16 + 31 * f) ≤ 6) : qSet (dlN N f m l) g = if g = f then qSet N f ||| 2 ^ (N 3 / 100) else qSet N g := by
  obtain ⟨-, -, a1, -⟩ := dlN_at (m := m) (l := l) hf hl h3 h6
  unfold qSet
  by_cases e : g = f
  · subst e
    rw [if_pos rfl, bs_or1 _ (by omega)]
    refine bs_congr (fun q hq => ?_)
    by_cases c : q = N 3 / 100
    · rw [c, a1]
      simp
    · rw [dlN_n hf h3 h6 (by omega) (by omega) (by omega) (by omega)]
      simp [c]
  · rw [if_neg e]
    refine bs_congr (fun q hq => ?_)
    rw [dlN_n hf h3 h6 (by omega) (by omega) (by omega) (by omega)]

