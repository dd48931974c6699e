/-! what every plan keeps -/
theorem nd_le {N : Nat → Nat} (hI : PInv N) (f : Nat) : nd N f ≤ 3 := by
  unfold nd
  split
  · exact (hI.2.1 f (by assumption)).1
  · omega
theorem mn_le {N : Nat → Nat} (hI : PInv N) (f : Nat) : mn N f ≤ 5 := by
  unfold mn
  split
  · exact (hI.2.1 f (by assumption)).2.1
  · omega
theorem rw_lt {N : Nat → Nat} (hI : PInv N) {f k : Nat} (hf : f < 10) (hk : k < mn N f) : rw_ N f k < 16 := by
  have h5 := mn_le hI f
  rw [mn_at hf] at hk
  have := (hI.2.1 f hf).2.2 k hk
  have h5' := (hI.2.1 f hf).2.1
  rw [rw_at hf (by omega)]
  exact this
theorem PI_p0 {N : Nat → Nat} : PI N p0 := by
  refine ⟨fun p => ?_, fun f hf => ?_, fun f hf => ?_, fun f hf r hr => ?_, fun p hp h => ?_, fun f r r2 hf hr => ?_⟩
  · simp [p0]
  · simp [p0]
  · simp [p0]
  · simp [p0] at hr
  · simp [p0] at h
  · simp [p0] at hr
theorem PI_take {N : Nat → Nat} (hI : PInv N) {P : PS} (h : PI N P) {f p : Nat} (hf : f < 10) (hp : p < 16) (hc : P.2.2.1 f < nd N f) (hs : P.1 p = 0) : PI N (ptake P f p) := by
  obtain ⟨h1, h2, h3, h4, h5, h6⟩ := h
  have h3' := nd_le hI f
  refine ⟨fun q => ?_, fun g hg => ?_, fun g hg => ?_, fun g hg r hr => ?_, fun q hq hq0 => ?_, fun g r r2 hg hr hr2 he => ?_⟩
  · unfold ptake un
    dsimp only
    split
    · omega
    · exact h1 q
  · unfold ptake un
    dsimp only
    split
    · rename_i e
      subst e
      omega
    · exact h2 g hg
  · unfold ptake un
    dsimp only
    have := h3 g hg
    split
    · rename_i e
      subst e
      omega
    · exact this
  · unfold ptake un at hr ⊢
    dsimp only at hr ⊢
    have hg3 := h2 g hg
    have hg4 := nd_le hI g
    by_cases e : g = f
    · subst e
      rw [if_pos rfl] at hr
      by_cases er : r = P.2.2.1 g
      · subst er
        rw [if_pos rfl, if_pos rfl]
        exact ⟨hp, rfl⟩
      · rw [if_neg (by omega)]
        obtain ⟨a, b⟩ := h4 g hg r (by omega)
        refine ⟨a, ?_⟩
        rw [if_neg (fun e2 => by rw [e2, hs] at b; omega)]
        exact b
    · rw [if_neg e] at hr
      rw [if_neg (by omega)]
      obtain ⟨a, b⟩ := h4 g hg r hr
      refine ⟨a, ?_⟩
      rw [if_neg (fun e2 => by rw [e2, hs] at b; omega)]
      exact b
  · unfold ptake un at hq0 ⊢
    dsimp only at hq0 ⊢
    by_cases e : q = p
    · subst e
      rw [if_pos rfl]
      refine ⟨P.2.2.1 f, ?_, ?_⟩
      · rw [if_pos (by omega)]
        omega
      · rw [if_pos (by omega)]
    · rw [if_neg e] at hq0 ⊢
      obtain ⟨r, hr, ht⟩ := h5 q hq hq0
      have hz := h1 q
      have hg3 := h2 (P.1 q - 1) (by omega)
      have hg4 := nd_le hI (P.1 q - 1)
      by_cases ef : P.1 q - 1 = f
      · refine ⟨r, ?_, ?_⟩
        · rw [if_pos ef]
          rw [ef] at hr
          omega
        · rw [ef] at hr ht ⊢
          rw [if_neg (by omega)]
          exact ht
      · refine ⟨r, ?_, ?_⟩
        · rw [if_neg ef]
          exact hr
        · rw [if_neg (by omega)]
          exact ht
  · unfold ptake un at hr hr2 he
    dsimp only at hr hr2 he
    have hg3 := h2 g hg
    have hg4 := nd_le hI g
    by_cases e : g = f
    · subst e
      rw [if_pos rfl] at hr hr2
      by_cases er : r = P.2.2.1 g
      · by_cases er2 : r2 = P.2.2.1 g
        · omega
        · rw [if_pos (by omega), if_neg (by omega)] at he
          have b := (h4 g hg r2 (by omega)).2
          rw [← he, hs] at b
          omega
      · by_cases er2 : r2 = P.2.2.1 g
        · rw [if_neg (by omega), if_pos (by omega)] at he
          have b := (h4 g hg r (by omega)).2
          rw [he, hs] at b
          omega
        · rw [if_neg (by omega), if_neg (by omega)] at he
          exact h6 g r r2 hg (by omega) (by omega) he
    · rw [if_neg e] at hr hr2
      rw [if_neg (by omega), if_neg (by omega)] at he
      exact h6 g r r2 hg hr hr2 he
theorem pcan_t {need : Nat → Nat} {ab : Nat → Bool} {P : PS} {f p : Nat} (h : pcan need ab P f p = true) : P.2.2.1 f < need f ∧ ab p = true ∧ P.1 p = 0 := by
  unfold pcan at h
  simp only [Bool.and_eq_true, decide_eq_true_eq] at h
  exact h
theorem PI_try {N : Nat → Nat} (hI : PInv N) {ab : Nat → Bool} {P : PS} (h : PI N P) {f p : Nat} (hf : f < 10) (hp : p < 16) : PI N (ptry (nd N) ab P f p) := by
  unfold ptry
  split
  · rename_i c
    obtain ⟨a, -, b⟩ := pcan_t c
    exact PI_take hI h hf hp a b
  · exact h
theorem PI_tryH {N : Nat → Nat} (hI : PInv N) {ab : Nat → Bool} {P : PS} (h : PI N P) {f p : Nat} (hf : f < 10) (hp : p < 16) : PI N (ptryH (nd N) ab P f p) := by
  unfold ptryH
  split
  · rename_i c
    obtain ⟨a, -, b⟩ := pcan_t c
    obtain ⟨h1, h2, h3, h4, h5, h6⟩ := PI_take hI h hf hp a b
    refine ⟨h1, h2, fun g hg => ?_, h4, h5, h6⟩
    have := h3 g hg
    have h30 := h.2.2.1 g hg
    unfold phlp ptake un at this ⊢
    dsimp only at this ⊢
    split
    · rename_i e
      subst e
      first
        | omega
        | (rw [if_pos rfl]; omega)
    · rename_i e
      rw [if_neg e] at this
      first
        | exact this
        | (rw [if_neg e]; exact this)
  · exact h
theorem PI_row {N : Nat → Nat} (hI : PInv N) {ab : Nat → Bool} {P : PS} (h : PI N P) {f : Nat} (hf : f < 10) : ∀ k, k ≤ mn N f → PI N (prow N ab f k P) := by
  intro k
  induction k with
  | zero => intro _; exact h
  | succ k ih => intro hk; exact PI_try hI (ih (by omega)) hf (rw_lt hI hf (by omega))
theorem PI_help {N : Nat → Nat} (hI : PInv N) {ab : Nat → Bool} {P : PS} (h : PI N P) {f : Nat} (hf : f < 10) : ∀ k, k ≤ 16 → PI N (phelp N ab f k P) := by
  intro k
  induction k with
  | zero => intro _; exact h
  | succ k ih => intro hk; exact PI_tryH hI (ih (by omega)) hf (by omega)
/-! the order in which floors choose -/
theorem sm_mono {g h : Nat → Nat} : ∀ {n : Nat}, (∀ j, j < n → g j ≤ h j) → sm g n ≤ sm h n := by
  intro n
  induction n with
  | zero => intro _; simp [sm]
  | succ n ih =>
    intro hle
    simp only [sm]
    have := ih (fun j hj => hle j (by omega))
    have := hle n (by omega)
    omega
theorem sm_lt {g h : Nat → Nat} : ∀ {n : Nat}, (∀ j, j < n → g j ≤ h j) → ∀ k, k < n → g k < h k → sm g n < sm h n := by
  intro n
  induction n with
  | zero => intro _ k hk; omega
  | succ n ih =>
    intro hle k hk hlt
    simp only [sm]
    have hn := hle n (by omega)
    have hm := sm_mono (n := n) (fun j hj => hle j (by omega))
    rcases Nat.lt_or_ge k n with q | q
    · have := ih (fun j hj => hle j (by omega)) k q hlt
      omega
    · have e : k = n := by omega
      subst e
      omega
theorem ahead_lt {N : Nat → Nat} {e f : Nat} (he : e < 10) (h : mn N e < mn N f ∨ (mn N e = mn N f ∧ e < f)) : ahead N e < ahead N f := by
  unfold ahead
  refine sm_lt (fun j hj => ?_) e he ?_
  · split
    · rename_i c
      rw [if_pos (by omega)]
      omega
    · omega
  · rw [if_neg (by omega), if_pos h]
    omega
theorem ahead_inj {N : Nat → Nat} {e f : Nat} (he : e < 10) (hf : f < 10) (h : ahead N e = ahead N f) : e = f := by
  rcases Nat.lt_trichotomy (mn N e) (mn N f) with q | q | q
  · have := ahead_lt he (Or.inl q); omega
  · rcases Nat.lt_trichotomy e f with r | r | r
    · have := ahead_lt he (Or.inr ⟨q, r⟩); omega
    · exact r
    · have := ahead_lt hf (Or.inr ⟨q.symm, r⟩); omega
  · have := ahead_lt hf (Or.inl q); omega
theorem ahead_10 {N : Nat → Nat} {f : Nat} (hf : f < 10) : ahead N f < 10 := by
  have h := sm_lt (n := 10) (g := fun e => if mn N e < mn N f ∨ (mn N e = mn N f ∧ e < f) then 1 else 0) (h := fun _ => 1) (fun j hj => by show (if mn N j < mn N f ∨ (mn N j = mn N f ∧ j < f) then 1 else 0) ≤ 1; split <;> omega) f hf (by show (if mn N f < mn N f ∨ (mn N f = mn N f ∧ f < f) then 1 else 0) < 1; rw [if_neg (by omega)]; omega)
  have h2 : sm (fun _ => 1) 10 = 10 := by decide
  unfold ahead
  omega

