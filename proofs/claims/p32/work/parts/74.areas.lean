/-! what stands where; what depends on what -/
/-- the kind of a place: 1 settings, 2 needs, 3 rows, 4 training, 5 leaves, 6 drills, 7 today -/
def ar (j : Nat) : Nat := if j < 3 then 1 else if j = 3 then 7 else if j = 6 then 5 else if j < 8 then 6 else if j < 318 then (if (j - 8) % 31 = 0 then 2 else if (j - 8) % 31 < 7 then 3 else 6) else if j < 350 then (if (j - 318) % 2 = 0 then 4 else 6) else 5
theorem ar_1 {j : Nat} (h : j < 3) : ar j = 1 := if_pos h
theorem ar_2 {f : Nat} (h : f < 10) : ar (8 + 31 * f) = 2 := by
  unfold ar
  rw [if_neg (by omega), if_neg (by omega), if_neg (by omega), if_neg (by omega), if_pos (by omega), if_pos (by omega)]
theorem ar_3 {f j : Nat} (h : f < 10) (h1 : 9 + 31 * f ≤ j) (h2 : j < 15 + 31 * f) : ar j = 3 := by
  unfold ar
  rw [if_neg (by omega), if_neg (by omega), if_neg (by omega), if_neg (by omega), if_pos (by omega), if_neg (by omega), if_pos (by omega)]
theorem ar_4 {p : Nat} (h : p < 16) : ar (318 + 2 * p) = 4 := by
  unfold ar
  rw [if_neg (by omega), if_neg (by omega), if_neg (by omega), if_neg (by omega), if_neg (by omega), if_pos (by omega), if_pos (by omega)]
theorem ar_5 {j : Nat} (h : 350 ≤ j) : ar j = 5 := by
  unfold ar
  rw [if_neg (by omega), if_neg (by omega), if_neg (by omega), if_neg (by omega), if_neg (by omega), if_neg (by omega)]
theorem ar_6 {f j : Nat} (h : f < 10) (h1 : 15 + 31 * f ≤ j) (h2 : j < 39 + 31 * f) : ar j = 6 := by
  unfold ar
  rw [if_neg (by omega), if_neg (by omega), if_neg (by omega), if_neg (by omega), if_pos (by omega), if_neg (by omega), if_neg (by omega)]
theorem ar_6p {p : Nat} (h : p < 16) : ar (319 + 2 * p) = 6 := by
  unfold ar
  rw [if_neg (by omega), if_neg (by omega), if_neg (by omega), if_neg (by omega), if_neg (by omega), if_pos (by omega), if_neg (by omega)]
/-- the same, but for one kind of place -/
def Ag (i : Nat) (N M : Nat → Nat) : Prop := ∀ j, ar j ≠ i → M j = N j
theorem Ag.d {i k : Nat} {N M : Nat → Nat} (h : Ag i N M) (hk : k ≠ i) {j : Nat} (hj : ar j = k) : M j = N j := h j (by rw [hj]; exact hk)
def I1 (N : Nat → Nat) : Prop := N 0 ≤ 2 ∧ N 1 ≤ 1 ∧ N 2 ≤ 1
def I2 (N : Nat → Nat) : Prop := ∀ f, f < 10 → N (8 + 31 * f) ≤ 3
def I3 (N : Nat → Nat) : Prop := ∀ f, f < 10 → N (9 + 31 * f) ≤ 5 ∧ ∀ k, k < N (9 + 31 * f) → N (10 + 31 * f + k) < 16
def I4 (N : Nat → Nat) : Prop := ∀ p, p < 16 → N (318 + 2 * p) ≤ 399
def I5 (N : Nat → Nat) : Prop := N 6 ≤ 40 ∧ Zero N ∧ (∀ k, k < N 6 → N (350 + 3 * k) < 16 ∧ N (351 + 3 * k) ≤ N (352 + 3 * k) ∧ N (352 + 3 * k) ≤ 399) ∧ (∀ i k, i < N 6 → k < N 6 → i ≠ k → N (350 + 3 * i) = N (350 + 3 * k) → N (352 + 3 * i) < N (351 + 3 * k) ∨ N (352 + 3 * k) < N (351 + 3 * i))
def I6 (b : Nat) (N : Nat → Nat) : Prop := (∀ f q, f < 10 → q < 4 → N (35 + 31 * f + q) ≤ 1) ∧ (∀ f, f < 10 → N (15 + 31 * f) ≤ b ∧ N (16 + 31 * f) = min (N (15 + 31 * f)) 6) ∧ N 4 = sm (fun f => N (15 + 31 * f)) 10
theorem I1_c {N M : Nat → Nat} (h : ∀ j, ar j = 1 → M j = N j) (hI : I1 N) : I1 M := by
  unfold I1
  rw [h 0 rfl, h 1 rfl, h 2 rfl]
  exact hI
theorem I2_c {N M : Nat → Nat} (h : ∀ j, ar j = 2 → M j = N j) (hI : I2 N) : I2 M := fun f hf => by
  rw [h _ (ar_2 hf)]
  exact hI f hf
theorem I3_c {N M : Nat → Nat} (h : ∀ j, ar j = 3 → M j = N j) (hI : I3 N) : I3 M := fun f hf => by
  have hh := hI f hf
  rw [h _ (ar_3 (f := f) hf (by omega) (by omega))]
  refine ⟨hh.1, fun k hk => ?_⟩
  rw [h _ (ar_3 (f := f) hf (by omega) (by omega))]
  exact hh.2 k hk
theorem I4_c {N M : Nat → Nat} (h : ∀ j, ar j = 4 → M j = N j) (hI : I4 N) : I4 M := fun f hf => by
  rw [h _ (ar_4 hf)]
  exact hI f hf
theorem I5_c {N M : Nat → Nat} (h : ∀ j, ar j = 5 → M j = N j) (hI : I5 N) : I5 M := by
  have h6 : M 6 = N 6 := h 6 rfl
  obtain ⟨a, b, c, d⟩ := hI
  unfold I5
  rw [h6]
  refine ⟨a, fun j hj => ?_, fun k hk => ?_, fun i k hi hk => ?_⟩
  · rw [h6] at hj
    rw [h j (ar_5 (by omega))]
    exact b j hj
  · rw [h _ (ar_5 (by omega)), h _ (ar_5 (by omega)), h _ (ar_5 (by omega))]
    exact c k hk
  · rw [h (350 + 3 * i) (ar_5 (by omega)), h (351 + 3 * i) (ar_5 (by omega)), h (352 + 3 * i) (ar_5 (by omega)), h (350 + 3 * k) (ar_5 (by omega)), h (351 + 3 * k) (ar_5 (by omega)), h (352 + 3 * k) (ar_5 (by omega))]
    exact d i k hi hk
theorem I6_c {b : Nat} {N M : Nat → Nat} (h : ∀ j, ar j = 6 → M j = N j) (hI : I6 b N) : I6 b M := by
  obtain ⟨a, c, d⟩ := hI
  refine ⟨fun f q hf hq => ?_, fun f hf => ?_, ?_⟩
  · rw [h _ (ar_6 (f := f) hf (by omega) (by omega))]
    exact a f q hf hq
  · rw [h _ (ar_6 (f := f) hf (by omega) (by omega)), h _ (ar_6 (f := f) hf (by omega) (by omega))]
    exact c f hf
  · rw [h 4 rfl, d]
    exact sm_congr (fun f hf => (h _ (ar_6 (f := f) hf (by omega) (by omega))).symm)
theorem Inv_iff {b : Nat} {N : Nat → Nat} : Inv b N ↔ I1 N ∧ I2 N ∧ I3 N ∧ I4 N ∧ I5 N ∧ I6 b N ∧ N 3 ≤ 399 := by
  constructor
  · rintro ⟨⟨a0, af, ap, a6, a1, al⟩, b6, b2, b3, bz, bo, bd, bq, bh, b4⟩
    refine ⟨⟨a0, a1, b2⟩, fun f hf => (af f hf).1, fun f hf => (af f hf).2, ap, ⟨b6, bz, fun k hk => ⟨(al k hk).1, bo k hk, (al k hk).2.2⟩, bd⟩, ⟨bq, bh, b4⟩, b3⟩
  · rintro ⟨⟨a0, a1, b2⟩, h2, h3, h4, ⟨b6, bz, bl, bd⟩, ⟨bq, bh, b4⟩, b3⟩
    exact ⟨⟨a0, fun f hf => ⟨h2 f hf, h3 f hf⟩, h4, by omega, a1, fun k hk => ⟨(bl k hk).1, by have := bl k hk; omega, (bl k hk).2.2⟩⟩, b6, b2, b3, bz, fun k hk => (bl k hk).2.1, bd, bq, bh, b4⟩
theorem Inv_1 {b : Nat} {N M : Nat → Nat} (h : Ag 1 N M) (hI : Inv b N) (hi : I1 M) : Inv b M := by
  obtain ⟨_, a2, a3, a4, a5, a6, a7⟩ := Inv_iff.mp hI
  exact Inv_iff.mpr ⟨hi, I2_c (fun j hj => h.d (by decide) hj) a2, I3_c (fun j hj => h.d (by decide) hj) a3, I4_c (fun j hj => h.d (by decide) hj) a4, I5_c (fun j hj => h.d (by decide) hj) a5, I6_c (fun j hj => h.d (by decide) hj) a6, by rw [h 3 (by decide)]; exact a7⟩
theorem Inv_2 {b : Nat} {N M : Nat → Nat} (h : Ag 2 N M) (hI : Inv b N) (hi : I2 M) : Inv b M := by
  obtain ⟨a1, _, a3, a4, a5, a6, a7⟩ := Inv_iff.mp hI
  exact Inv_iff.mpr ⟨I1_c (fun j hj => h.d (by decide) hj) a1, hi, I3_c (fun j hj => h.d (by decide) hj) a3, I4_c (fun j hj => h.d (by decide) hj) a4, I5_c (fun j hj => h.d (by decide) hj) a5, I6_c (fun j hj => h.d (by decide) hj) a6, by rw [h 3 (by decide)]; exact a7⟩
theorem Inv_3 {b : Nat} {N M : Nat → Nat} (h : Ag 3 N M) (hI : Inv b N) (hi : I3 M) : Inv b M := by
  obtain ⟨a1, a2, _, a4, a5, a6, a7⟩ := Inv_iff.mp hI
  exact Inv_iff.mpr ⟨I1_c (fun j hj => h.d (by decide) hj) a1, I2_c (fun j hj => h.d (by decide) hj) a2, hi, I4_c (fun j hj => h.d (by decide) hj) a4, I5_c (fun j hj => h.d (by decide) hj) a5, I6_c (fun j hj => h.d (by decide) hj) a6, by rw [h 3 (by decide)]; exact a7⟩
theorem Inv_4 {b : Nat} {N M : Nat → Nat} (h : Ag 4 N M) (hI : Inv b N) (hi : I4 M) : Inv b M := by
  obtain ⟨a1, a2, a3, _, a5, a6, a7⟩ := Inv_iff.mp hI
  exact Inv_iff.mpr ⟨I1_c (fun j hj => h.d (by decide) hj) a1, I2_c (fun j hj => h.d (by decide) hj) a2, I3_c (fun j hj => h.d (by decide) hj) a3, hi, I5_c (fun j hj => h.d (by decide) hj) a5, I6_c (fun j hj => h.d (by decide) hj) a6, by rw [h 3 (by decide)]; exact a7⟩
theorem Inv_5 {b : Nat} {N M : Nat → Nat} (h : Ag 5 N M) (hI : Inv b N) (hi : I5 M) : Inv b M := by
  obtain ⟨a1, a2, a3, a4, _, a6, a7⟩ := Inv_iff.mp hI
  exact Inv_iff.mpr ⟨I1_c (fun j hj => h.d (by decide) hj) a1, I2_c (fun j hj => h.d (by decide) hj) a2, I3_c (fun j hj => h.d (by decide) hj) a3, I4_c (fun j hj => h.d (by decide) hj) a4, hi, I6_c (fun j hj => h.d (by decide) hj) a6, by rw [h 3 (by decide)]; exact a7⟩
theorem Inv_6 {b c : Nat} {N M : Nat → Nat} (h : Ag 6 N M) (hI : Inv b N) (hi : I6 c M) : Inv c M := by
  obtain ⟨a1, a2, a3, a4, a5, _, a7⟩ := Inv_iff.mp hI
  exact Inv_iff.mpr ⟨I1_c (fun j hj => h.d (by decide) hj) a1, I2_c (fun j hj => h.d (by decide) hj) a2, I3_c (fun j hj => h.d (by decide) hj) a3, I4_c (fun j hj => h.d (by decide) hj) a4, I5_c (fun j hj => h.d (by decide) hj) a5, hi, by rw [h 3 (by decide)]; exact a7⟩
theorem Inv_7 {b : Nat} {N M : Nat → Nat} (h : Ag 7 N M) (hI : Inv b N) (hi : M 3 ≤ 399) : Inv b M := by
  obtain ⟨a1, a2, a3, a4, a5, a6, _⟩ := Inv_iff.mp hI
  exact Inv_iff.mpr ⟨I1_c (fun j hj => h.d (by decide) hj) a1, I2_c (fun j hj => h.d (by decide) hj) a2, I3_c (fun j hj => h.d (by decide) hj) a3, I4_c (fun j hj => h.d (by decide) hj) a4, I5_c (fun j hj => h.d (by decide) hj) a5, I6_c (fun j hj => h.d (by decide) hj) a6, hi⟩
theorem Inv_m {b c : Nat} {N : Nat → Nat} (hI : Inv b N) (h : b ≤ c) : Inv c N := by
  obtain ⟨a1, a2, a3, a4, a5, ⟨a6, a8, a9⟩, a7⟩ := Inv_iff.mp hI
  exact Inv_iff.mpr ⟨a1, a2, a3, a4, a5, ⟨a6, fun f hf => ⟨by have := (a8 f hf).1; omega, (a8 f hf).2⟩, a9⟩, a7⟩

