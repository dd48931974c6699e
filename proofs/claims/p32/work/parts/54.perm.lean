/-! sums and choices over a permutation -/
theorem sm_upd {h : Nat → Nat} {y : Nat} : ∀ {n i0 : Nat}, i0 < n → sm h n + y = sm (fun i => if i = i0 then y else h i) n + h i0 := by
  intro n
  induction n with
  | zero => intro i0 hi; omega
  | succ n ih =>
    intro i0 hi
    rw [sm_add, sm_add]
    by_cases e : i0 = n
    · subst e
      rw [if_pos rfl, sm_congr (g := fun i => if i = i0 then y else h i) (h := h) (fun j hj => if_neg (by omega))]
      omega
    · have := ih (i0 := i0) (by omega)
      rw [if_neg (by omega : ¬ n = i0)]
      omega
/-- one-to-one, within n -/
def Pm (σ : Nat → Nat) (n : Nat) : Prop := (∀ i, i < n → σ i < n) ∧ ∀ i j, i < n → j < n → σ i = σ j → i = j
theorem Pm.ont {σ : Nat → Nat} {n : Nat} (h : Pm σ n) {t : Nat} (ht : t < n) : ∃ i, i < n ∧ σ i = t := onto n σ h.1 h.2 t ht
theorem Pm.cut {σ : Nat → Nat} {n i0 : Nat} (h : Pm σ (n + 1)) (h0 : i0 < n + 1) (e0 : σ i0 = n) : Pm (fun i => if i = i0 then σ n else σ i) n := by
  obtain ⟨h1, h2⟩ := h
  refine ⟨fun i hi => ?_, fun i j hi hj e => ?_⟩
  · by_cases c : i = i0
    · show (if i = i0 then σ n else σ i) < n
      rw [if_pos c]
      have := h1 n (by omega)
      rcases Nat.lt_or_ge (σ n) n with r | r
      · exact r
      · have := h2 n i0 (by omega) h0 (by omega)
        omega
    · show (if i = i0 then σ n else σ i) < n
      rw [if_neg c]
      have := h1 i (by omega)
      rcases Nat.lt_or_ge (σ i) n with r | r
      · exact r
      · have := h2 i i0 (by omega) h0 (by omega)
        omega
  · try dsimp only at e
    split at e <;> split at e
    · omega
    · have := h2 n j (by omega) (by omega) e
      omega
    · have := h2 i n (by omega) (by omega) e
      omega
    · exact h2 i j (by omega) (by omega) e
theorem sm_perm : ∀ (n : Nat) (σ : Nat → Nat), Pm σ n → ∀ g : Nat → Nat, sm (fun i => g (σ i)) n = sm g n := by
  intro n
  induction n with
  | zero => intro _ _ _; rfl
  | succ n ih =>
    intro σ h g
    obtain ⟨i0, h0, e0⟩ := h.ont (t := n) (by omega)
    have hc := ih _ (h.cut h0 e0) g
    rw [sm_add, sm_add, ← hc]
    by_cases e : i0 = n
    · subst e
      rw [e0]
      congr 1
      exact sm_congr (fun j hj => by show g (σ j) = g (if j = i0 then _ else _); rw [if_neg (by omega)])
    · have := sm_upd (h := fun i => g (σ i)) (y := g (σ n)) (n := n) (i0 := i0) (by omega)
      have e2 : sm (fun i => g (if i = i0 then σ n else σ i)) n = sm (fun i => if i = i0 then g (σ n) else g (σ i)) n := sm_congr (fun j hj => by show g (if j = i0 then _ else _) = if j = i0 then _ else _; split <;> rfl)
      rw [e2]
      rw [e0] at this
      exact this
/-- one of the first n -/
def exB (P : Nat → Bool) : Nat → Bool
  | 0 => false
  | n + 1 => exB P n || P n
theorem exB_iff {P : Nat → Bool} : ∀ {n : Nat}, exB P n = true ↔ ∃ k, k < n ∧ P k = true := by
  intro n
  induction n with
  | zero => simp [exB]
  | succ n ih =>
    rw [exB, Bool.or_eq_true, ih]
    constructor
    · rintro (⟨k, hk, h⟩ | h)
      · exact ⟨k, by omega, h⟩
      · exact ⟨n, by omega, h⟩
    · rintro ⟨k, hk, h⟩
      by_cases e : k = n
      · exact Or.inr (e ▸ h)
      · exact Or.inl ⟨k, by omega, h⟩
theorem fnd_exB {P : Nat → Bool} {n : Nat} : decide (fnd P n 0 < n) = exB P n := by
  have hl := fnd_le P n 0
  by_cases c : fnd P n 0 < n
  · rw [decide_eq_true c]
    exact (exB_iff.mpr ⟨_, c, fnd_lt P n 0 (by omega)⟩).symm
  · rw [decide_eq_false c]
    refine (Bool.eq_false_iff.mpr (fun h => ?_)).symm
    obtain ⟨k, hk, hp⟩ := exB_iff.mp h
    have := fnd_min P n 0 k (by omega) (by omega)
    rw [hp] at this
    cases this
theorem exB_perm {P : Nat → Bool} {n : Nat} {σ : Nat → Nat} (h : Pm σ n) : exB (fun i => P (σ i)) n = exB P n := by
  rw [Bool.eq_iff_iff, exB_iff, exB_iff]
  constructor
  · rintro ⟨k, hk, hp⟩
    exact ⟨σ k, h.1 k hk, hp⟩
  · rintro ⟨t, ht, hp⟩
    obtain ⟨i, hi, e⟩ := h.ont ht
    exact ⟨i, hi, by rw [e]; exact hp⟩
theorem away_exB {N : Nat → Nat} {p d : Nat} : away N p d = exB (lvP N p d) (N 6) := fnd_exB

