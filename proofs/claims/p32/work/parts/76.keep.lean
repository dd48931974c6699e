/-! what the acts change, and keep -/
theorem ar5 {j : Nat} (h : ar j ≠ 5) : j < 350 ∧ j ≠ 6 := by
  refine ⟨?_, fun e => h (by rw [e]; rfl)⟩
  rcases Nat.lt_or_ge j 350 with q | q
  · exact q
  · exact absurd (ar_5 q) h
theorem Ag_un {i k v : Nat} {N : Nat → Nat} (h : ar k = i) : Ag i N (un N k v) := fun j hj => un_n (fun e => hj (by rw [e]; exact h))
theorem Ag_en {N : Nat → Nat} {f p : Nat} (hf : f < 10) (hm : N (9 + 31 * f) < 5) : Ag 3 N (enN N f p) := fun j hj => by
  unfold enN
  rw [un_n (fun e => hj (by rw [e]; exact ar_3 hf (by omega) (by omega))), un_n (fun e => hj (by rw [e]; exact ar_3 hf (by omega) (by omega)))]
theorem Ag_st {N : Nat → Nat} {f k : Nat} (hf : f < 10) (hm : N (9 + 31 * f) ≤ 5) (hk : k < N (9 + 31 * f)) : Ag 3 N (stN N f k) := fun j hj => by
  unfold stN
  rw [un_n (fun e => hj (by rw [e]; exact ar_3 hf (by omega) (by omega))), st1, if_neg (fun e => hj (by rw [e]; exact ar_3 hf (by omega) (by omega))), if_neg (fun e => hj (ar_3 hf (by omega) (by omega)))]
theorem Ag_gr {N : Nat → Nat} (h6 : N 6 ≤ 40) {p a b : Nat} : Ag 5 N (grN N p a b) := fun j hj => grN_un h6 (by have := (ar5 hj).1; omega) (ar5 hj).2
theorem Ag_dr {N : Nat → Nat} (h6 : N 6 ≤ 40) {k : Nat} (hk : k < N 6) : Ag 5 N (drN N k) := fun j hj => drN_lo h6 hk (by have := (ar5 hj).1; omega) (ar5 hj).2
theorem Ag_dl {N : Nat → Nat} {f m l : Nat} (hf : f < 10) (hl : l < 16) (h3 : N 3 ≤ 399) (h6 : N (16 + 31 * f) ≤ 6) : Ag 6 N (dlN N f m l) := fun j hj => by
  refine dlN_n hf h3 h6 ?_ (fun e => hj (by rw [e]; exact ar_6p hl)) (fun e => hj (by rw [e]; rfl)) (fun e => hj (by rw [e]; rfl))
  rcases Nat.lt_or_ge j (15 + 31 * f) with q | q
  · exact Or.inl q
  · rcases Nat.lt_or_ge j (39 + 31 * f) with r | r
    · exact absurd (ar_6 hf q r) hj
    · exact Or.inr (Or.inl r)
theorem I3_en {N : Nat → Nat} (h : I3 N) {f p : Nat} (hf : f < 10) (hp : p < 16) (hm : N (9 + 31 * f) < 5) : I3 (enN N f p) := fun g hg => by
  have hg5 := (h g hg).1
  unfold enN
  by_cases e : g = f
  · subst e
    rw [un_s]
    refine ⟨by omega, fun k hk => ?_⟩
    rw [un_n (by omega)]
    by_cases e2 : k = N (9 + 31 * g)
    · rw [e2, un_s]
      exact hp
    · rw [un_n (by omega)]
      exact (h g hg).2 k (by omega)
  · rw [un_n (by omega), un_n (by omega)]
    refine ⟨hg5, fun k hk => ?_⟩
    rw [un_n (by omega), un_n (by omega)]
    exact (h g hg).2 k hk
theorem I3_st {N : Nat → Nat} (h : I3 N) {f a : Nat} (hf : f < 10) (ha : a < N (9 + 31 * f)) : I3 (stN N f a) := fun g hg => by
  have hg5 := (h g hg).1
  have hf5 := (h f hf).1
  unfold stN
  by_cases e : g = f
  · subst e
    rw [un_n (by omega), st1, if_pos rfl]
    refine ⟨by omega, fun k hk => ?_⟩
    rw [un_n (by omega), st1, if_neg (by omega)]
    split
    · exact (h g hg).2 (k + 1) (by omega)
    · exact (h g hg).2 k (by omega)
  · rw [un_n (by omega), st1, if_neg (by omega), if_neg (by omega)]
    refine ⟨hg5, fun k hk => ?_⟩
    rw [un_n (by omega), st1, if_neg (by omega), if_neg (by omega)]
    exact (h g hg).2 k hk
theorem ovOn_all {N : Nat → Nat} {p a b : Nat} (h : ovOn N p a b = N 6) {i : Nat} (hi : i < N 6) : ovl N p a b i = false := fnd_min _ (N 6) 0 i (by omega) (by unfold ovOn at h; omega)
theorem I5_gr {N : Nat → Nat} (h : I5 N) (h6 : N 6 < 40) {p a b : Nat} (hp : p < 16) (hab : a ≤ b) (hb : b ≤ 399) (ho : ovOn N p a b = N 6) : I5 (grN N p a b) := by
  obtain ⟨h6', hz, hl, hd⟩ := h
  obtain ⟨g1, g2, g3⟩ := grN_at (p := p) (a := a) (b := b) h6'
  have lo : ∀ i, i < N 6 → grN N p a b (350 + 3 * i) = N (350 + 3 * i) ∧ grN N p a b (351 + 3 * i) = N (351 + 3 * i) ∧ grN N p a b (352 + 3 * i) = N (352 + 3 * i) := fun i hi => ⟨grN_un h6' (by omega) (by omega), grN_un h6' (by omega) (by omega), grN_un h6' (by omega) (by omega)⟩
  have ov : ∀ i, i < N 6 → N (350 + 3 * i) = p → N (352 + 3 * i) < a ∨ b < N (351 + 3 * i) := fun i hi e => by
    have := of_decide_eq_false (ovOn_all ho hi)
    omega
  refine ⟨by rw [grN_6]; omega, fun j hj => ?_, fun k hk => ?_, fun i k hi hk hne e => ?_⟩
  · rw [grN_6] at hj
    unfold grN
    rw [un_n (by omega), un_n (by omega), un_n (by omega), un_n (by omega)]
    exact hz j (by omega)
  · rw [grN_6] at hk
    by_cases c : k = N 6
    · subst c
      rw [g1, g2, g3]
      exact ⟨hp, hab, hb⟩
    · obtain ⟨l1, l2, l3⟩ := lo k (by omega)
      rw [l1, l2, l3]
      exact hl k (by omega)
  · rw [grN_6] at hi hk
    by_cases ci : i = N 6
    · have ck : k ≠ N 6 := fun c => hne (by rw [ci, c])
      obtain ⟨l1, l2, l3⟩ := lo k (by omega)
      rw [l1, ci, g1] at e
      rw [l2, l3, ci, g2, g3]
      have := ov k (by omega) e.symm
      omega
    · obtain ⟨l1, l2, l3⟩ := lo i (by omega)
      rw [l1] at e
      rw [l2, l3]
      by_cases ck : k = N 6
      · rw [ck, g1] at e
        rw [ck, g2, g3]
        exact ov i (by omega) e
      · obtain ⟨m1, m2, m3⟩ := lo k (by omega)
        rw [m1] at e
        rw [m2, m3]
        exact hd i k (by omega) (by omega) hne e
theorem I5_dr {N : Nat → Nat} (h : I5 N) {c : Nat} (hc : c < N 6) : I5 (drN N c) := by
  obtain ⟨h6, hz, hl, hd⟩ := h
  have src : ∀ i, i < N 6 - 1 → ∃ k, k < N 6 ∧ k ≠ c ∧ (i < c → k = i) ∧ (c ≤ i → k = i + 1) ∧ drN N c (350 + 3 * i) = N (350 + 3 * k) ∧ drN N c (351 + 3 * i) = N (351 + 3 * k) ∧ drN N c (352 + 3 * i) = N (352 + 3 * k) := fun i hi => by
    by_cases q : i < c
    · exact ⟨i, by omega, by omega, fun _ => rfl, fun _ => by omega, drN_lo h6 hc (by omega) (by omega), drN_lo h6 hc (by omega) (by omega), drN_lo h6 hc (by omega) (by omega)⟩
    · refine ⟨i + 1, by omega, by omega, fun _ => by omega, fun _ => rfl, ?_, ?_, ?_⟩
      · rw [drN_hi hc (by omega) (by omega)]
        congr 1
      · rw [drN_hi hc (by omega) (by omega)]
        congr 1
      · rw [drN_hi hc (by omega) (by omega)]
        congr 1
  refine ⟨by rw [drN_6 h6]; omega, fun j hj => ?_, fun i hi => ?_, fun i k hi hk hne e => ?_⟩
  · rw [drN_6 h6] at hj
    unfold drN
    split
    · rfl
    · rw [dr1, if_neg (by omega), if_neg (by omega)]
      exact hz j (by omega)
  · rw [drN_6 h6] at hi
    obtain ⟨k, k1, _, _, _, e1, e2, e3⟩ := src i hi
    rw [e1, e2, e3]
    exact hl k k1
  · rw [drN_6 h6] at hi hk
    obtain ⟨i2, i1, _, ia, ib, e1, e2, e3⟩ := src i hi
    obtain ⟨k2, k1, _, ka, kb, f1, f2, f3⟩ := src k hk
    rw [e1, f1] at e
    rw [e2, e3, f2, f3]
    refine hd i2 k2 i1 k1 ?_ e
    rcases Nat.lt_or_ge i c with q | q <;> rcases Nat.lt_or_ge k c with r | r
    · rw [ia q, ka r]; exact hne
    · rw [ia q, kb r]; omega
    · rw [ib q, ka r]; omega
    · rw [ib q, kb r]; omega
theorem I6_dl {b : Nat} {N : Nat → Nat} (h : I6 b N) (h3 : N 3 ≤ 399) {f m l : Nat} (hf : f < 10) (hl : l < 16) : I6 (b + 1) (dlN N f m l) := by
  obtain ⟨hq, hh, h4⟩ := h
  have h6 : N (16 + 31 * f) ≤ 6 := by have := (hh f hf).2; omega
  obtain ⟨a1, a2, a3, a4, a5, a6⟩ := dlN_at (m := m) hf hl h3 h6
  have oth : ∀ g, g < 10 → g ≠ f → ∀ j, 15 ≤ j → j < 39 → dlN N f m l (j + 31 * g) = N (j + 31 * g) := fun g hg hne j j1 j2 => dlN_n hf h3 h6 (by omega) (by omega) (by omega) (by omega)
  refine ⟨fun g q hg hq4 => ?_, fun g hg => ?_, ?_⟩
  · by_cases e : g = f
    · subst e
      by_cases e2 : q = N 3 / 100
      · rw [e2, a3]
        exact Nat.le_refl _
      · rw [dlN_n hf h3 h6 (by omega) (by omega) (by omega) (by omega)]
        exact hq g q hg hq4
    · have := oth g hg e (35 + q) (by omega) (by omega)
      rw [show 35 + 31 * g + q = 35 + q + 31 * g by omega, this, show 35 + q + 31 * g = 35 + 31 * g + q by omega]
      exact hq g q hg hq4
  · by_cases e : g = f
    · subst e
      rw [a1, a2]
      have := hh g hg
      refine ⟨by omega, ?_⟩
      unfold lgm
      split <;> omega
    · rw [oth g hg e 15 (by omega) (by omega), oth g hg e 16 (by omega) (by omega)]
      have := hh g hg
      exact ⟨by omega, this.2⟩
  · rw [a5, h4]
    exact (sm_one (g := fun g => N (15 + 31 * g)) (h := fun g => dlN N f m l (15 + 31 * g)) (k := f) hf a2 (fun g hg e => oth g hg e 15 (by omega) (by omega))).symm

