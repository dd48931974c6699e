/-! the books: logs in order, quarters marked, leaders counted -/
def J1 (N : Nat → Nat) : Prop := ∀ f i, f < 10 → i < N (16 + 31 * f) → N (17 + 31 * f + 3 * i) ≤ N 3 ∧ N (35 + 31 * f + N (17 + 31 * f + 3 * i) / 100) = 1
def J2 (N : Nat → Nat) : Prop := ∀ f i, f < 10 → i + 1 < N (16 + 31 * f) → N (17 + 31 * f + 3 * i) ≤ N (17 + 31 * f + 3 * (i + 1))
def J3 (N : Nat → Nat) : Prop := sm (fun p => N (319 + 2 * p)) 16 = N 4
def K2 (b : Nat) (N : Nat → Nat) : Prop := Inv b N ∧ J1 N ∧ J2 N ∧ J3 N
theorem K2_m {b c : Nat} {N : Nat → Nat} (h : K2 b N) (hc : b ≤ c) : K2 c N := ⟨Inv_m h.1 hc, h.2⟩
theorem Inv.lg {b : Nat} {N : Nat → Nat} (hI : Inv b N) {f : Nat} (hf : f < 10) : N (16 + 31 * f) ≤ 6 := by
  have := (hI.2.2.2.2.2.2.2.2.1 f hf).2
  omega
/-- where the drills stay, and today does not go back -/
theorem K2_keep {b : Nat} {N M : Nat → Nat} (h : K2 b N) (h6 : ∀ j, ar j = 6 → M j = N j) (h3 : N 3 ≤ M 3) (hI : Inv b M) : K2 b M := by
  obtain ⟨hN, k1, k2, k3⟩ := h
  have hd := hN.2.2.2.1
  have e16 : ∀ f, f < 10 → M (16 + 31 * f) = N (16 + 31 * f) := fun f hf => h6 _ (ar_6 hf (by omega) (by omega))
  have e17 : ∀ f i, f < 10 → i < 6 → M (17 + 31 * f + 3 * i) = N (17 + 31 * f + 3 * i) := fun f i hf hi => h6 _ (ar_6 hf (by omega) (by omega))
  refine ⟨hI, fun f i hf hi => ?_, fun f i hf hi => ?_, ?_⟩
  · have hl := hN.lg hf
    rw [e16 f hf] at hi
    obtain ⟨a1, a2⟩ := k1 f i hf hi
    rw [e17 f i hf (by omega)]
    refine ⟨by omega, ?_⟩
    rw [h6 _ (ar_6 (f := f) hf (by omega) (by omega))]
    exact a2
  · have hl := hN.lg hf
    rw [e16 f hf] at hi
    rw [e17 f i hf (by omega), e17 f (i + 1) hf (by omega)]
    exact k2 f i hf hi
  · unfold J3
    rw [h6 4 rfl, ← k3]
    exact sm_congr (fun p hp => h6 _ (ar_6p hp))
theorem K2_Ag {b i : Nat} {N M : Nat → Nat} (h : K2 b N) (hA : Ag i N M) (hi : i ≠ 6) (hi7 : i ≠ 7) (hI : Inv b M) : K2 b M := K2_keep h (fun j hj => hA.d (k := 6) (fun e => hi e.symm) hj) (by rw [hA 3 (fun e => hi7 e.symm)]; exact Nat.le_refl _) hI
theorem lgm_le {n : Nat} (h : n ≤ 6) : lgm n ≤ 5 ∧ lgm n ≤ n := by
  unfold lgm
  split <;> omega
/-- a drill that is entered -/
theorem K2_dl {b : Nat} {N : Nat → Nat} (h : K2 b N) {f m l : Nat} (hf : f < 10) (hl : l < 16) (hI : Inv (b + 1) (dlN N f m l)) : K2 (b + 1) (dlN N f m l) := by
  obtain ⟨hN, k1, k2, k3⟩ := h
  have h3 := hN.2.2.2.1
  have h6 := hN.lg hf
  obtain ⟨l5, ln⟩ := lgm_le h6
  obtain ⟨a16, a15, a35, a319, a4, a5⟩ := dlN_at (m := m) hf hl h3 h6
  have e3 : dlN N f m l 3 = N 3 := dlN_n hf h3 h6 (Or.inl (by omega)) (by omega) (by omega) (by omega)
  have oth : ∀ g j, g < 10 → g ≠ f → 15 + 31 * g ≤ j → j < 39 + 31 * g → dlN N f m l j = N j := fun g j hg hne h1 h2 => dlN_n hf h3 h6 (by omega) (by omega) (by omega) (by omega)
  have ent : ∀ i, i < lgm (N (16 + 31 * f)) → dlN N f m l (17 + 31 * f + 3 * i) = N (17 + 31 * f + 3 * (N (16 + 31 * f) - (lgm (N (16 + 31 * f)) - i))) := fun i hi => by
    have := dlN_lg (m := m) (l := l) (r := lgm (N (16 + 31 * f)) - i) (w := 0) hf h3 h6 (by omega) (by omega) (by omega)
    rw [show 17 + 31 * f + 3 * i = 17 + 0 + 31 * f + 3 * (lgm (N (16 + 31 * f)) - (lgm (N (16 + 31 * f)) - i)) by omega, this]
  have top : dlN N f m l (17 + 31 * f + 3 * lgm (N (16 + 31 * f))) = N 3 := (dlN_l0 hf h3 h6).1
  have q35 : ∀ q, q < 4 → N (35 + 31 * f + q) = 1 → dlN N f m l (35 + 31 * f + q) = 1 := fun q hq hq1 => by
    by_cases e : q = N 3 / 100
    · rw [e]
      exact a35
    · rw [dlN_n hf h3 h6 (Or.inr (Or.inr ⟨by omega, by omega⟩)) (by omega) (by omega) (by omega)]
      exact hq1
  refine ⟨hI, fun g i hg hi => ?_, fun g i hg hi => ?_, ?_⟩
  · rw [e3]
    by_cases e : g = f
    · subst e
      rw [a16] at hi
      by_cases c : i = lgm (N (16 + 31 * g))
      · rw [c, top]
        exact ⟨Nat.le_refl _, a35⟩
      · rw [ent i (by omega)]
        obtain ⟨b1, b2⟩ := k1 g (N (16 + 31 * g) - (lgm (N (16 + 31 * g)) - i)) hg (by omega)
        exact ⟨b1, q35 _ (by omega) b2⟩
    · have hg6 := hN.lg hg
      rw [oth g _ hg e (by omega) (by omega)] at hi
      obtain ⟨b1, b2⟩ := k1 g i hg hi
      rw [oth g _ hg e (by omega) (by omega)]
      refine ⟨b1, ?_⟩
      rw [oth g _ hg e (by omega) (by omega)]
      exact b2
  · by_cases e : g = f
    · subst e
      rw [a16] at hi
      by_cases c : i + 1 = lgm (N (16 + 31 * g))
      · rw [c, top, ent i (by omega)]
        exact (k1 g _ hg (by omega)).1
      · rw [ent i (by omega), ent (i + 1) (by omega)]
        have := k2 g (N (16 + 31 * g) - (lgm (N (16 + 31 * g)) - i)) hg (by omega)
        rw [show N (16 + 31 * g) - (lgm (N (16 + 31 * g)) - i) + 1 = N (16 + 31 * g) - (lgm (N (16 + 31 * g)) - (i + 1)) by omega] at this
        exact this
    · have hg6 := hN.lg hg
      rw [oth g _ hg e (by omega) (by omega)] at hi
      rw [oth g _ hg e (by omega) (by omega), oth g _ hg e (by omega) (by omega)]
      exact k2 g i hg hi
  · unfold J3
    unfold J3 at k3
    rw [a4, ← k3]
    have := sm_upd (h := fun p => N (319 + 2 * p)) (y := N (319 + 2 * l) + 1) (n := 16) (i0 := l) hl
    have e2 : sm (fun i => if i = l then N (319 + 2 * l) + 1 else N (319 + 2 * i)) 16 = sm (fun p => dlN N f m l (319 + 2 * p)) 16 := sm_congr (fun p hp => by
      by_cases c : p = l
      · rw [if_pos c, c, a319]
      · rw [if_neg c, dlN_n hf h3 h6 (Or.inr (Or.inl (by omega))) (by omega) (by omega) (by omega)])
    rw [e2] at this
    omega
/-- each leave is somebody's -/
theorem sm_two {g h : Nat → Nat} : ∀ n, sm (fun i => g i + h i) n = sm g n + sm h n := by
  intro n
  induction n with
  | zero => rfl
  | succ n ih => rw [sm_add, sm_add, sm_add, ih]; omega
theorem sm_is {c : Nat} : ∀ n, sm (fun i => if c = i then 1 else 0) n = if c < n then 1 else 0 := by
  intro n
  induction n with
  | zero => rfl
  | succ n ih =>
    rw [sm_add, ih]
    by_cases h1 : c < n
    · rw [if_pos h1, if_neg (show ¬ c = n by omega), if_pos (show c < n + 1 by omega)]
    · by_cases h2 : c = n
      · rw [if_neg h1, if_pos h2, if_pos (show c < n + 1 by omega)]
      · rw [if_neg h1, if_neg h2, if_neg (show ¬ c < n + 1 by omega)]
theorem lv_all {N : Nat → Nat} : ∀ n, (∀ k, k < n → N (350 + 3 * k) < 16) → sm (fun p => sm (lvMany N p) n) 16 = n := by
  intro n
  induction n with
  | zero => intro _; rfl
  | succ n ih =>
    intro h
    have e : (fun p => sm (lvMany N p) (n + 1)) = fun p => sm (lvMany N p) n + (if N (350 + 3 * n) = p then 1 else 0) := rfl
    rw [e, sm_two, ih (fun k hk => h k (by omega)), sm_is, if_pos (h n (by omega))]
