/-! the relation, when one kind of place changes -/
theorem S1_c {N M : Nat → Nat} {W : Nat → Int32} (h : ∀ j, ar j = 1 → M j = N j) (hS : ∀ w, w < 3 → W w = nI (N w)) : ∀ w, w < 3 → W w = nI (M w) := fun w hw => by
  rw [h w (ar_1 hw)]
  exact hS w hw
theorem S2_c {N M : Nat → Nat} {W : Nat → Int32} (h : ∀ j, ar j = 2 → M j = N j) (hS : ∀ f, f < 10 → W f = nI (N (8 + 31 * f))) : ∀ f, f < 10 → W f = nI (M (8 + 31 * f)) := fun f hf => by
  rw [h _ (ar_2 hf)]
  exact hS f hf
theorem RRows_c {N M : Nat → Nat} {W2 W3 : Nat → Int32} (hI : ∀ f, f < 10 → N (9 + 31 * f) ≤ 5) (h : ∀ j, ar j = 3 → M j = N j) (hS : RRows W2 W3 N) : RRows W2 W3 M := by
  refine ⟨fun f hf => ?_, fun f hf k hk => ?_⟩
  · rw [h _ (ar_3 (f := f) hf (by omega) (by omega))]
    exact hS.1 f hf
  · rw [h _ (ar_3 (f := f) hf (by omega) (by omega))] at hk
    have := hI f hf
    rw [h _ (ar_3 (f := f) hf (by omega) (by omega))]
    exact hS.2 f hf k hk
theorem S4_c {N M : Nat → Nat} {W : Nat → Int32} (h : ∀ j, ar j = 4 → M j = N j) (hS : ∀ p, p < 16 → W p = nI (N (318 + 2 * p))) : ∀ p, p < 16 → W p = nI (M (318 + 2 * p)) := fun f hf => by
  rw [h _ (ar_4 hf)]
  exact hS f hf
theorem RLeaves_c {N M : Nat → Nat} {g : Int32} {W5 W6 W7 : Nat → Int32} (h : ∀ j, ar j = 5 → M j = N j) (hS : RLeaves g W5 W6 W7 N) : RLeaves g W5 W6 W7 M := by
  have h6 : M 6 = N 6 := h 6 rfl
  unfold RLeaves
  rw [h6]
  obtain ⟨a, σ, hσ, r⟩ := hS
  refine ⟨a, σ, hσ, fun i hi => ?_⟩
  rw [h _ (ar_5 (by omega)), h _ (ar_5 (by omega)), h _ (ar_5 (by omega))]
  exact r i hi
theorem RLog_c {b : Nat} {N M : Nat → Nat} {W8 W11 W12 W13 : Nat → Int32} (hI : I6 b N) (h : ∀ j, ar j = 6 → M j = N j) (hS : RLog W8 W11 W12 W13 N) : RLog W8 W11 W12 W13 M := by
  refine ⟨fun f hf => ?_, fun f hf r hr => ?_⟩
  · rw [h _ (ar_6 (f := f) hf (by omega) (by omega))]
    exact hS.1 f hf
  · have e : M (16 + 31 * f) = N (16 + 31 * f) := h _ (ar_6 (f := f) hf (by omega) (by omega))
    rw [e] at hr ⊢
    have := (hI.2.1 f hf).2
    rw [h (17 + 31 * f + 3 * (N (16 + 31 * f) - 1 - r)) (ar_6 (f := f) hf (by omega) (by omega)), h (18 + 31 * f + 3 * (N (16 + 31 * f) - 1 - r)) (ar_6 (f := f) hf (by omega) (by omega)), h (19 + 31 * f + 3 * (N (16 + 31 * f) - 1 - r)) (ar_6 (f := f) hf (by omega) (by omega))]
    exact hS.2 f hf r hr
theorem S9_c {N M : Nat → Nat} {W : Nat → Int32} (h : ∀ j, ar j = 6 → M j = N j) (hS : ∀ f, f < 10 → W f = nI (qSet N f)) : ∀ f, f < 10 → W f = nI (qSet M f) := fun f hf => by
  have e : qSet M f = qSet N f := bs_congr (fun q hq => by rw [h _ (ar_6 (f := f) hf (by omega) (by omega))])
  rw [e]
  exact hS f hf
theorem S10_c {N M : Nat → Nat} {W : Nat → Int32} (h : ∀ j, ar j = 6 → M j = N j) (hS : ∀ p, p < 16 → W p = nI (N (319 + 2 * p))) : ∀ p, p < 16 → W p = nI (M (319 + 2 * p)) := fun f hf => by
  rw [h _ (ar_6p hf)]
  exact hS f hf
theorem S7_c {N M : Nat → Nat} {g : Int32} (h : ∀ j, ar j = 7 → M j = N j) (hS : g = nI (N 3)) : g = nI (M 3) := by
  rw [h 3 rfl]
  exact hS
theorem Sm_c {N M : Nat → Nat} {g : Int32} (h : ∀ j, ar j = 6 → M j = N j) (hS : g = nI (N 5)) : g = nI (M 5) := by
  rw [h 5 rfl]
  exact hS
theorem RS_1 {b : Nat} {V : SV} {N M : Nat → Nat} (h : Ag 1 N M) (hI : Inv b N) (hS : RS V N) {W0 : Nat → Int32} (w0 : ∀ w, w < 3 → W0 w = nI (M w)) : RS (sv (V 14 0) W0 (V 1) (V 2) (V 3) (V 4) (V 14 1) (V 5) (V 6) (V 7) (V 14 2) (V 8) (V 9) (V 10) (V 11) (V 12) (V 13)) M := by
  obtain ⟨_, _, a3, _, _, a6, _⟩ := Inv_iff.mp hI
  obtain ⟨s0, s1, s2, s3, s4, s5, s6, s7, s8, s9⟩ := hS
  exact ⟨w0, S2_c (fun j hj => h.d (by decide) hj) s1, RRows_c (fun f hf => (a3 f hf).1) (fun j hj => h.d (by decide) hj) s2, S4_c (fun j hj => h.d (by decide) hj) s3, RLeaves_c (fun j hj => h.d (by decide) hj) s4, RLog_c a6 (fun j hj => h.d (by decide) hj) s5, S9_c (fun j hj => h.d (by decide) hj) s6, S10_c (fun j hj => h.d (by decide) hj) s7, S7_c (fun j hj => h.d (by decide) hj) s8, Sm_c (fun j hj => h.d (by decide) hj) s9⟩
theorem RS_2 {b : Nat} {V : SV} {N M : Nat → Nat} (h : Ag 2 N M) (hI : Inv b N) (hS : RS V N) {W1 : Nat → Int32} (w1 : ∀ f, f < 10 → W1 f = nI (M (8 + 31 * f))) : RS (sv (V 14 0) (V 0) W1 (V 2) (V 3) (V 4) (V 14 1) (V 5) (V 6) (V 7) (V 14 2) (V 8) (V 9) (V 10) (V 11) (V 12) (V 13)) M := by
  obtain ⟨_, _, a3, _, _, a6, _⟩ := Inv_iff.mp hI
  obtain ⟨s0, s1, s2, s3, s4, s5, s6, s7, s8, s9⟩ := hS
  exact ⟨S1_c (fun j hj => h.d (by decide) hj) s0, w1, RRows_c (fun f hf => (a3 f hf).1) (fun j hj => h.d (by decide) hj) s2, S4_c (fun j hj => h.d (by decide) hj) s3, RLeaves_c (fun j hj => h.d (by decide) hj) s4, RLog_c a6 (fun j hj => h.d (by decide) hj) s5, S9_c (fun j hj => h.d (by decide) hj) s6, S10_c (fun j hj => h.d (by decide) hj) s7, S7_c (fun j hj => h.d (by decide) hj) s8, Sm_c (fun j hj => h.d (by decide) hj) s9⟩
theorem RS_3 {b : Nat} {V : SV} {N M : Nat → Nat} (h : Ag 3 N M) (hI : Inv b N) (hS : RS V N) {W2 W3 : Nat → Int32} (w2 : RRows W2 W3 M) : RS (sv (V 14 0) (V 0) (V 1) W2 W3 (V 4) (V 14 1) (V 5) (V 6) (V 7) (V 14 2) (V 8) (V 9) (V 10) (V 11) (V 12) (V 13)) M := by
  obtain ⟨_, _, a3, _, _, a6, _⟩ := Inv_iff.mp hI
  obtain ⟨s0, s1, s2, s3, s4, s5, s6, s7, s8, s9⟩ := hS
  exact ⟨S1_c (fun j hj => h.d (by decide) hj) s0, S2_c (fun j hj => h.d (by decide) hj) s1, w2, S4_c (fun j hj => h.d (by decide) hj) s3, RLeaves_c (fun j hj => h.d (by decide) hj) s4, RLog_c a6 (fun j hj => h.d (by decide) hj) s5, S9_c (fun j hj => h.d (by decide) hj) s6, S10_c (fun j hj => h.d (by decide) hj) s7, S7_c (fun j hj => h.d (by decide) hj) s8, Sm_c (fun j hj => h.d (by decide) hj) s9⟩
theorem RS_4 {b : Nat} {V : SV} {N M : Nat → Nat} (h : Ag 4 N M) (hI : Inv b N) (hS : RS V N) {W4 : Nat → Int32} (w4 : ∀ p, p < 16 → W4 p = nI (M (318 + 2 * p))) : RS (sv (V 14 0) (V 0) (V 1) (V 2) (V 3) W4 (V 14 1) (V 5) (V 6) (V 7) (V 14 2) (V 8) (V 9) (V 10) (V 11) (V 12) (V 13)) M := by
  obtain ⟨_, _, a3, _, _, a6, _⟩ := Inv_iff.mp hI
  obtain ⟨s0, s1, s2, s3, s4, s5, s6, s7, s8, s9⟩ := hS
  exact ⟨S1_c (fun j hj => h.d (by decide) hj) s0, S2_c (fun j hj => h.d (by decide) hj) s1, RRows_c (fun f hf => (a3 f hf).1) (fun j hj => h.d (by decide) hj) s2, w4, RLeaves_c (fun j hj => h.d (by decide) hj) s4, RLog_c a6 (fun j hj => h.d (by decide) hj) s5, S9_c (fun j hj => h.d (by decide) hj) s6, S10_c (fun j hj => h.d (by decide) hj) s7, S7_c (fun j hj => h.d (by decide) hj) s8, Sm_c (fun j hj => h.d (by decide) hj) s9⟩
theorem RS_5 {b : Nat} {V : SV} {N M : Nat → Nat} (h : Ag 5 N M) (hI : Inv b N) (hS : RS V N) {W5 W6 W7 : Nat → Int32} {g : Int32} (w5 : RLeaves g W5 W6 W7 M) : RS (sv (V 14 0) (V 0) (V 1) (V 2) (V 3) (V 4) g W5 W6 W7 (V 14 2) (V 8) (V 9) (V 10) (V 11) (V 12) (V 13)) M := by
  obtain ⟨_, _, a3, _, _, a6, _⟩ := Inv_iff.mp hI
  obtain ⟨s0, s1, s2, s3, s4, s5, s6, s7, s8, s9⟩ := hS
  exact ⟨S1_c (fun j hj => h.d (by decide) hj) s0, S2_c (fun j hj => h.d (by decide) hj) s1, RRows_c (fun f hf => (a3 f hf).1) (fun j hj => h.d (by decide) hj) s2, S4_c (fun j hj => h.d (by decide) hj) s3, w5, RLog_c a6 (fun j hj => h.d (by decide) hj) s5, S9_c (fun j hj => h.d (by decide) hj) s6, S10_c (fun j hj => h.d (by decide) hj) s7, S7_c (fun j hj => h.d (by decide) hj) s8, Sm_c (fun j hj => h.d (by decide) hj) s9⟩
theorem RS_6 {b : Nat} {V : SV} {N M : Nat → Nat} (h : Ag 6 N M) (hI : Inv b N) (hS : RS V N) {W8 W9 W10 W11 W12 W13 : Nat → Int32} {g : Int32} (w6 : RLog W8 W11 W12 W13 M) (w9 : ∀ f, f < 10 → W9 f = nI (qSet M f)) (w10 : ∀ p, p < 16 → W10 p = nI (M (319 + 2 * p))) (wm : g = nI (M 5)) : RS (sv (V 14 0) (V 0) (V 1) (V 2) (V 3) (V 4) (V 14 1) (V 5) (V 6) (V 7) g W8 W9 W10 W11 W12 W13) M := by
  obtain ⟨_, _, a3, _, _, a6, _⟩ := Inv_iff.mp hI
  obtain ⟨s0, s1, s2, s3, s4, s5, s6, s7, s8, s9⟩ := hS
  exact ⟨S1_c (fun j hj => h.d (by decide) hj) s0, S2_c (fun j hj => h.d (by decide) hj) s1, RRows_c (fun f hf => (a3 f hf).1) (fun j hj => h.d (by decide) hj) s2, S4_c (fun j hj => h.d (by decide) hj) s3, RLeaves_c (fun j hj => h.d (by decide) hj) s4, w6, w9, w10, S7_c (fun j hj => h.d (by decide) hj) s8, wm⟩
theorem RS_7 {b : Nat} {V : SV} {N M : Nat → Nat} (h : Ag 7 N M) (hI : Inv b N) (hS : RS V N) {g : Int32} (w7 : g = nI (M 3)) : RS (sv g (V 0) (V 1) (V 2) (V 3) (V 4) (V 14 1) (V 5) (V 6) (V 7) (V 14 2) (V 8) (V 9) (V 10) (V 11) (V 12) (V 13)) M := by
  obtain ⟨_, _, a3, _, _, a6, _⟩ := Inv_iff.mp hI
  obtain ⟨s0, s1, s2, s3, s4, s5, s6, s7, s8, s9⟩ := hS
  exact ⟨S1_c (fun j hj => h.d (by decide) hj) s0, S2_c (fun j hj => h.d (by decide) hj) s1, RRows_c (fun f hf => (a3 f hf).1) (fun j hj => h.d (by decide) hj) s2, S4_c (fun j hj => h.d (by decide) hj) s3, RLeaves_c (fun j hj => h.d (by decide) hj) s4, RLog_c a6 (fun j hj => h.d (by decide) hj) s5, S9_c (fun j hj => h.d (by decide) hj) s6, S10_c (fun j hj => h.d (by decide) hj) s7, w7, Sm_c (fun j hj => h.d (by decide) hj) s9⟩

