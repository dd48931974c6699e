/-! a plan's own properties: who is taken stays taken, rows are used up, helpers too -/
def Mon (P P2 : PS) : Prop := (∀ p, P.1 p ≠ 0 → P2.1 p = P.1 p) ∧ ∀ f, P.2.2.1 f ≤ P2.2.2.1 f
theorem Mon.rf {P : PS} : Mon P P := ⟨fun _ _ => rfl, fun _ => Nat.le_refl _⟩
theorem Mon.tr {P P2 P3 : PS} (h : Mon P P2) (h2 : Mon P2 P3) : Mon P P3 := ⟨fun p hp => by rw [h2.1 p (by rw [h.1 p hp]; exact hp), h.1 p hp], fun f => Nat.le_trans (h.2 f) (h2.2 f)⟩
theorem Mon_take {P : PS} {f p : Nat} (hs : P.1 p = 0) : Mon P (ptake P f p) := by
  refine ⟨fun q hq => ?_, fun g => ?_⟩
  · show un P.1 p (f + 1) q = P.1 q
    exact un_n (fun e => hq (by rw [e]; exact hs))
  · show P.2.2.1 g ≤ un P.2.2.1 f (P.2.2.1 f + 1) g
    unfold un
    split
    · rename_i e
      rw [e]
      omega
    · omega
theorem Mon_try {need : Nat → Nat} {ab : Nat → Bool} {P : PS} {f p : Nat} : Mon P (ptry need ab P f p) := by
  unfold ptry
  split
  · rename_i c
    exact Mon_take (pcan_t c).2.2
  · exact Mon.rf
theorem Mon_tryH {need : Nat → Nat} {ab : Nat → Bool} {P : PS} {f p : Nat} : Mon P (ptryH need ab P f p) := by
  unfold ptryH
  split
  · rename_i c
    exact Mon_take (pcan_t c).2.2
  · exact Mon.rf
theorem Mon_row {N : Nat → Nat} {ab : Nat → Bool} {f : Nat} {P : PS} : ∀ k, Mon P (prow N ab f k P) := by
  intro k
  induction k with
  | zero => exact Mon.rf
  | succ k ih => exact ih.tr Mon_try
theorem Mon_help {N : Nat → Nat} {ab : Nat → Bool} {f : Nat} {P : PS} : ∀ k, Mon P (phelp N ab f k P) := by
  intro k
  induction k with
  | zero => exact Mon.rf
  | succ k ih => exact ih.tr Mon_tryH
theorem Mon_rows {N : Nat → Nat} {ab : Nat → Bool} {P : PS} : ∀ t, Mon P (prows N ab t P) := by
  intro t
  induction t with
  | zero => exact Mon.rf
  | succ t ih => exact ih.tr (Mon_row _)
theorem Mon_helps {N : Nat → Nat} {ab : Nat → Bool} {P : PS} : ∀ t, Mon P (phelps N ab t P) := by
  intro t
  induction t with
  | zero => exact Mon.rf
  | succ t ih => exact ih.tr (Mon_help _)
/-- a person whom a floor might have taken: the floor is full, the person can't, or serves -/
def Use (need : Nat → Nat) (ab : Nat → Bool) (f p : Nat) (P : PS) : Prop := need f ≤ P.2.2.1 f ∨ ab p = false ∨ P.1 p ≠ 0
theorem Use.mon {need : Nat → Nat} {ab : Nat → Bool} {f p : Nat} {P P2 : PS} (h : Use need ab f p P) (hM : Mon P P2) : Use need ab f p P2 := by
  rcases h with h | h | h
  · exact Or.inl (Nat.le_trans h (hM.2 f))
  · exact Or.inr (Or.inl h)
  · exact Or.inr (Or.inr (by rw [hM.1 p h]; exact h))
theorem Use_can {need : Nat → Nat} {ab : Nat → Bool} {f p : Nat} {P : PS} (c : ¬ pcan need ab P f p = true) : Use need ab f p P := by
  unfold pcan at c
  unfold Use
  by_cases h1 : P.2.2.1 f < need f
  · by_cases h2 : ab p = true
    · by_cases h3 : P.1 p = 0
      · exact absurd (by rw [h2, decide_eq_true h1, decide_eq_true h3]; rfl) c
      · exact Or.inr (Or.inr h3)
    · exact Or.inr (Or.inl (Bool.eq_false_iff.mpr h2))
  · exact Or.inl (by omega)
theorem Use_try {need : Nat → Nat} {ab : Nat → Bool} {f p : Nat} {P : PS} : Use need ab f p (ptry need ab P f p) := by
  unfold ptry
  split
  · refine Or.inr (Or.inr ?_)
    show un P.1 p (f + 1) p ≠ 0
    rw [un_s]
    omega
  · rename_i c
    exact Use_can c
theorem Use_tryH {need : Nat → Nat} {ab : Nat → Bool} {f p : Nat} {P : PS} : Use need ab f p (ptryH need ab P f p) := by
  unfold ptryH
  split
  · refine Or.inr (Or.inr ?_)
    show un P.1 p (f + 1) p ≠ 0
    rw [un_s]
    omega
  · rename_i c
    exact Use_can c
theorem Use_row {N : Nat → Nat} {ab : Nat → Bool} {f : Nat} {P : PS} : ∀ k j, j < k → Use (nd N) ab f (rw_ N f j) (prow N ab f k P) := by
  intro k
  induction k with
  | zero => intro j h; omega
  | succ k ih =>
    intro j h
    by_cases e : j = k
    · rw [e]
      exact Use_try
    · exact (ih j (by omega)).mon Mon_try
theorem Use_help {N : Nat → Nat} {ab : Nat → Bool} {f : Nat} {P : PS} : ∀ k j, j < k → Use (nd N) ab f j (phelp N ab f k P) := by
  intro k
  induction k with
  | zero => intro j h; omega
  | succ k ih =>
    intro j h
    by_cases e : j = k
    · rw [e]
      exact Use_tryH
    · exact (ih j (by omega)).mon Mon_tryH
theorem Use_rows {N : Nat → Nat} {ab : Nat → Bool} {P : PS} : ∀ n t, t < n → ∀ j, j < mn N (ord N t) → Use (nd N) ab (ord N t) (rw_ N (ord N t) j) (prows N ab n P) := by
  intro n
  induction n with
  | zero => intro t h; omega
  | succ n ih =>
    intro t h j hj
    by_cases e : t = n
    · rw [e] at hj ⊢
      exact Use_row _ _ hj
    · exact (ih t (by omega) j hj).mon (Mon_row _)
theorem Use_helps {N : Nat → Nat} {ab : Nat → Bool} {P : PS} : ∀ n t, t < n → ∀ p, p < 16 → Use (nd N) ab (ord N t) p (phelps N ab n P) := by
  intro n
  induction n with
  | zero => intro t h; omega
  | succ n ih =>
    intro t h p hp
    by_cases e : t = n
    · rw [e]
      exact Use_help _ _ hp
    · exact (ih t (by omega) p hp).mon (Mon_help _)
/-- every floor has its turn -/
theorem ord_onto {N : Nat → Nat} {f : Nat} (hf : f < 10) : ∃ t, t < 10 ∧ ord N t = f := by
  unfold ord
  by_cases h0 : N 0 = 0
  · exact ⟨f, hf, by rw [if_pos h0]⟩
  · by_cases h1 : N 0 = 1
    · exact ⟨9 - f, by omega, by rw [if_neg h0, if_pos h1]; omega⟩
    · refine ⟨ahead N f, ahead_10 hf, ?_⟩
      rw [if_neg h0, if_neg h1]
      have hl := ahead_ex (N := N) (t := ahead N f) (ahead_10 hf)
      have ht := fnd_lt (fun g => ahead N g == ahead N f) 10 0 (by omega)
      exact ahead_inj hl hf (eq_of_beq ht)
theorem plan_row {N : Nat → Nat} {ab : Nat → Bool} {f j : Nat} (hf : f < 10) (hj : j < mn N f) : Use (nd N) ab f (rw_ N f j) (plan N ab) := by
  obtain ⟨t, ht, rfl⟩ := ord_onto (N := N) hf
  have h := Use_rows (N := N) (ab := ab) (P := p0) 10 t ht j hj
  unfold plan
  split
  · exact h.mon (Mon_helps _)
  · exact h
theorem plan_help {N : Nat → Nat} {ab : Nat → Bool} {f p : Nat} (h1 : N 1 = 1) (hf : f < 10) (hp : p < 16) : Use (nd N) ab f p (plan N ab) := by
  obtain ⟨t, ht, rfl⟩ := ord_onto (N := N) hf
  unfold plan
  rw [if_pos h1]
  exact Use_helps 10 t ht p hp
/-- who serves can -/
def Abl (ab : Nat → Bool) (P : PS) : Prop := ∀ p, P.1 p ≠ 0 → ab p = true
theorem Abl_take {ab : Nat → Bool} {P : PS} {f p : Nat} (h : Abl ab P) (ha : ab p = true) : Abl ab (ptake P f p) := fun q hq => by
  by_cases e : q = p
  · rw [e]
    exact ha
  · refine h q (fun c => hq ?_)
    show un P.1 p (f + 1) q = 0
    rw [un_n e]
    exact c
theorem Abl_try {need : Nat → Nat} {ab : Nat → Bool} {P : PS} {f p : Nat} (h : Abl ab P) : Abl ab (ptry need ab P f p) := by
  unfold ptry
  split
  · rename_i c
    exact Abl_take h (pcan_t c).2.1
  · exact h
theorem Abl_tryH {need : Nat → Nat} {ab : Nat → Bool} {P : PS} {f p : Nat} (h : Abl ab P) : Abl ab (ptryH need ab P f p) := by
  unfold ptryH
  split
  · rename_i c
    exact Abl_take h (pcan_t c).2.1
  · exact h
theorem Abl_row {N : Nat → Nat} {ab : Nat → Bool} {f : Nat} {P : PS} (h : Abl ab P) : ∀ k, Abl ab (prow N ab f k P) := by
  intro k
  induction k with
  | zero => exact h
  | succ k ih => exact Abl_try ih
theorem Abl_help {N : Nat → Nat} {ab : Nat → Bool} {f : Nat} {P : PS} (h : Abl ab P) : ∀ k, Abl ab (phelp N ab f k P) := by
  intro k
  induction k with
  | zero => exact h
  | succ k ih => exact Abl_tryH ih
theorem Abl_rows {N : Nat → Nat} {ab : Nat → Bool} {P : PS} (h : Abl ab P) : ∀ t, Abl ab (prows N ab t P) := by
  intro t
  induction t with
  | zero => exact h
  | succ t ih => exact Abl_row ih _
theorem Abl_helps {N : Nat → Nat} {ab : Nat → Bool} {P : PS} (h : Abl ab P) : ∀ t, Abl ab (phelps N ab t P) := by
  intro t
  induction t with
  | zero => exact h
  | succ t ih => exact Abl_help ih _
theorem plan_able {N : Nat → Nat} {ab : Nat → Bool} {p : Nat} (h : (plan N ab).1 p ≠ 0) : ab p = true := by
  have h0 : Abl ab p0 := fun q hq => absurd rfl hq
  unfold plan at h
  split at h
  · exact Abl_helps (Abl_rows h0 10) 10 p h
  · exact Abl_rows h0 10 p h
/-- without help: who serves stands in the row; nobody helps -/
def Own (N : Nat → Nat) (P : PS) : Prop := (∀ f p, f < 10 → P.1 p = f + 1 → inRow N p f = true) ∧ ∀ f, P.2.2.2 f = 0
theorem inRow_rw {N : Nat → Nat} {f j : Nat} (hj : j < mn N f) : inRow N (rw_ N f j) f = true := by
  refine decide_eq_true ?_
  unfold plIn
  rcases Nat.lt_or_ge (fnd (plP N f (rw_ N f j)) (mn N f) 0) (mn N f) with q | q
  · exact q
  · have := fnd_min (plP N f (rw_ N f j)) (mn N f) 0 j (by omega) (by omega)
    unfold plP at this
    rw [decide_eq_true rfl] at this
    cases this
theorem inRow_ex {N : Nat → Nat} {f p : Nat} (h : inRow N p f = true) : ∃ j, j < mn N f ∧ rw_ N f j = p := by
  have h1 : plIn N f p < mn N f := of_decide_eq_true h
  have h2 := fnd_lt (plP N f p) (mn N f) 0 (by unfold plIn at h1; omega)
  exact ⟨plIn N f p, h1, of_decide_eq_true h2⟩
theorem Own_try {N : Nat → Nat} {ab : Nat → Bool} {P : PS} {f j : Nat} (h : Own N P) (hj : j < mn N f) : Own N (ptry (nd N) ab P f (rw_ N f j)) := by
  unfold ptry
  split
  · refine ⟨fun g p hg e => ?_, fun g => h.2 g⟩
    replace e : un P.1 (rw_ N f j) (f + 1) p = g + 1 := e
    by_cases c : p = rw_ N f j
    · subst c
      rw [un_s] at e
      obtain rfl : f = g := by omega
      exact inRow_rw hj
    · rw [un_n c] at e
      exact h.1 g p hg e
  · exact h
theorem Own_row {N : Nat → Nat} {ab : Nat → Bool} {f : Nat} {P : PS} (h : Own N P) : ∀ k, k ≤ mn N f → Own N (prow N ab f k P) := by
  intro k
  induction k with
  | zero => intro _; exact h
  | succ k ih => intro hk; exact Own_try (ih (by omega)) (by omega)
theorem Own_rows {N : Nat → Nat} {ab : Nat → Bool} {P : PS} (h : Own N P) : ∀ t, Own N (prows N ab t P) := by
  intro t
  induction t with
  | zero => exact h
  | succ t ih => exact Own_row ih _ (Nat.le_refl _)
theorem plan_own {N : Nat → Nat} {ab : Nat → Bool} (h : ¬ N 1 = 1) : Own N (plan N ab) := by
  unfold plan
  rw [if_neg h]
  refine Own_rows ⟨fun f p _ e => ?_, fun f => rfl⟩ 10
  replace e : 0 = f + 1 := e
  omega
