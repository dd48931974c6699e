/-! the reference's planning -/
def plP (N : Nat → Nat) (f p k : Nat) : Bool := decide (rw_ N f k = p)
/-- the place of a person in a row; the row's length if it isn't there -/
def plIn (N : Nat → Nat) (f p : Nat) : Nat := fnd (plP N f p) (mn N f) 0
/-- one-to-one within n numbers: onto -/
theorem onto : ∀ (n : Nat) (g : Nat → Nat), (∀ i, i < n → g i < n) → (∀ i j, i < n → j < n → g i = g j → i = j) → ∀ t, t < n → ∃ i, i < n ∧ g i = t := by
  intro n
  induction n with
  | zero => intro g _ _ t ht; omega
  | succ n ih =>
    intro g hg hi t ht
    by_cases hx : ∃ i0, i0 < n + 1 ∧ g i0 = n
    · obtain ⟨i0, h0, h0n⟩ := hx
      by_cases htn : t = n
      · exact ⟨i0, h0, by omega⟩
      · have key := ih (fun i => if i = i0 then g n else g i) (fun i hin => ?_) (fun i j hin hjn e => ?_) t (by omega)
        · obtain ⟨i, hin, e⟩ := key
          try dsimp only at e
          split at e
          · exact ⟨n, by omega, e⟩
          · exact ⟨i, by omega, e⟩
        · try dsimp only
          split
          · rename_i q
            have h1 := hg n (by omega)
            rcases Nat.lt_or_ge (g n) n with r | r
            · exact r
            · have := hi n i0 (by omega) h0 (by omega)
              omega
          · rename_i q
            have h1 := hg i (by omega)
            rcases Nat.lt_or_ge (g i) n with r | r
            · exact r
            · have := hi i i0 (by omega) h0 (by omega)
              omega
        · try dsimp only at e
          split at e <;> split at e
          · omega
          · have := hi n j (by omega) (by omega) e
            omega
          · have := hi i n (by omega) (by omega) e
            omega
          · exact hi i j (by omega) (by omega) e
    · have hg2 : ∀ i, i < n + 1 → g i < n := fun i hin => by
        have h1 := hg i hin
        rcases Nat.lt_or_ge (g i) n with r | r
        · exact r
        · exact absurd ⟨i, hin, by omega⟩ hx
      obtain ⟨i, hin, e⟩ := ih g (fun i hin => hg2 i (by omega)) (fun i j a b e => hi i j (by omega) (by omega) e) (g n) (hg2 n (by omega))
      have := hi i n (by omega) (by omega) e
      omega
theorem ahead_ex {N : Nat → Nat} {t : Nat} (ht : t < 10) : fnd (fun f => ahead N f == t) 10 0 < 10 := by
  obtain ⟨i, hi, e⟩ := onto 10 (ahead N) (fun i hi => ahead_10 hi) (fun i j hi hj e => ahead_inj hi hj e) t ht
  have h := fnd_le (fun f => ahead N f == t) 10 0
  rcases Nat.lt_or_ge (fnd (fun f => ahead N f == t) 10 0) 10 with q | q
  · exact q
  · have := fnd_min (fun f => ahead N f == t) 10 0 i (by omega) (by omega)
    rw [beq_eq_false_iff_ne] at this
    exact absurd e this
theorem ord_lt {N : Nat → Nat} {t : Nat} (ht : t < 10) : ord N t < 10 := by
  unfold ord
  split
  · exact ht
  · split
    · omega
    · exact ahead_ex ht
theorem RP7_hlp {sv tk ct hp : Nat → Int32} {P : PS} (hR : RP7 sv tk ct hp P) {f : Nat} (hf : f < 10) : RP7 sv tk ct (upd hp f (hp f + nI 1)) (phlp P f) := by
  obtain ⟨h1, h2, h3, h4⟩ := hR
  refine ⟨h1, h2, fun g hg => ?_, h4⟩
  unfold upd phlp un
  try dsimp only
  split
  · rw [h3 f hf, nI_add]
  · exact h3 g hg
theorem PI_rows {N : Nat → Nat} (hI : PInv N) {ab : Nat → Bool} {P : PS} (h : PI N P) : ∀ t, t ≤ 10 → PI N (prows N ab t P) := by
  intro t
  induction t with
  | zero => intro _; exact h
  | succ t ih => intro ht; exact PI_row hI (ih (by omega)) (ord_lt (by omega)) _ (Nat.le_refl _)
theorem PI_helps {N : Nat → Nat} (hI : PInv N) {ab : Nat → Bool} {P : PS} (h : PI N P) : ∀ t, t ≤ 10 → PI N (phelps N ab t P) := by
  intro t
  induction t with
  | zero => intro _; exact h
  | succ t ih => intro ht; exact PI_help hI (ih (by omega)) (ord_lt (by omega)) 16 (Nat.le_refl _)
theorem PI_plan {N : Nat → Nat} (hI : PInv N) (ab : Nat → Bool) : PI N (plan N ab) := by
  unfold plan
  split
  · exact PI_helps hI (PI_rows hI PI_p0 10 (by omega)) 10 (by omega)
  · exact PI_rows hI PI_p0 10 (by omega)
