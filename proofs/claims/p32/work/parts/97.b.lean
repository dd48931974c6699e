/-! the first state -/
def ini1 : Nat → Nat → Nat
  | 0 => fun _ => 0
  | k + 1 => un (ini1 k) (8 + 31 * k) 1
def ini2 : Nat → Nat → Nat
  | 0 => ini1 10
  | k + 1 => un (ini2 k) (318 + 2 * k) 399
def N0 : Nat → Nat := ini2 16
theorem ini1_y : ∀ (k f : Nat), f < k → ini1 k (8 + 31 * f) = 1 := by
  intro k
  induction k with
  | zero => intro f h; omega
  | succ k ih =>
    intro f h
    unfold ini1
    by_cases e : f = k
    · rw [e, un_s]
    · rw [un_n (by omega)]
      exact ih f (by omega)
theorem ini1_n : ∀ (k j : Nat), (∀ f, f < k → j ≠ 8 + 31 * f) → ini1 k j = 0 := by
  intro k
  induction k with
  | zero => intro j _; rfl
  | succ k ih =>
    intro j h
    unfold ini1
    rw [un_n (h k (by omega))]
    exact ih j (fun f hf => h f (by omega))
theorem ini2_y : ∀ (k p : Nat), p < k → ini2 k (318 + 2 * p) = 399 := by
  intro k
  induction k with
  | zero => intro f h; omega
  | succ k ih =>
    intro f h
    unfold ini2
    by_cases e : f = k
    · rw [e, un_s]
    · rw [un_n (by omega)]
      exact ih f (by omega)
theorem ini2_n : ∀ (k j : Nat), (∀ p, p < k → j ≠ 318 + 2 * p) → ini2 k j = ini1 10 j := by
  intro k
  induction k with
  | zero => intro j _; rfl
  | succ k ih =>
    intro j h
    unfold ini2
    rw [un_n (h k (by omega))]
    exact ih j (fun f hf => h f (by omega))
theorem N0_2 {f : Nat} (hf : f < 10) : N0 (8 + 31 * f) = 1 := by
  unfold N0
  rw [ini2_n _ _ (fun p hp => by omega)]
  exact ini1_y 10 f hf
theorem N0_4 {p : Nat} (hp : p < 16) : N0 (318 + 2 * p) = 399 := ini2_y 16 p hp
theorem N0_z {j : Nat} (h1 : ∀ f, f < 10 → j ≠ 8 + 31 * f) (h2 : ∀ p, p < 16 → j ≠ 318 + 2 * p) : N0 j = 0 := by
  unfold N0
  rw [ini2_n _ _ h2]
  exact ini1_n 10 j h1
theorem N0_inv : Inv 0 N0 := by
  refine Inv_iff.mpr ⟨⟨?_, ?_, ?_⟩, fun f hf => ?_, fun f hf => ?_, fun p hp => ?_, ⟨?_, fun j hj => ?_, fun k hk => ?_, fun i k hi => ?_⟩, ⟨fun f q hf hq => ?_, fun f hf => ?_, ?_⟩, ?_⟩
  · rw [N0_z (fun f _ => by omega) (fun p _ => by omega)]; omega
  · rw [N0_z (fun f _ => by omega) (fun p _ => by omega)]; omega
  · rw [N0_z (fun f _ => by omega) (fun p _ => by omega)]; omega
  · rw [N0_2 hf]; omega
  · rw [N0_z (j := 9 + 31 * f) (fun g _ => by omega) (fun p _ => by omega)]
    exact ⟨by omega, fun k hk => by omega⟩
  · rw [N0_4 hp]; omega
  · rw [N0_z (fun f _ => by omega) (fun p _ => by omega)]; omega
  · rw [N0_z (j := 6) (fun f _ => by omega) (fun p _ => by omega)] at hj
    exact N0_z (fun f _ => by omega) (fun p _ => by omega)
  · rw [N0_z (j := 6) (fun f _ => by omega) (fun p _ => by omega)] at hk
    omega
  · rw [N0_z (j := 6) (fun f _ => by omega) (fun p _ => by omega)] at hi
    omega
  · rw [N0_z (fun g _ => by omega) (fun p _ => by omega)]; omega
  · rw [N0_z (j := 15 + 31 * f) (fun g _ => by omega) (fun p _ => by omega), N0_z (j := 16 + 31 * f) (fun g _ => by omega) (fun p _ => by omega)]
    exact ⟨by omega, by omega⟩
  · rw [N0_z (j := 4) (fun g _ => by omega) (fun p _ => by omega)]
    exact (sm_0 (fun f hf => N0_z (fun g _ => by omega) (fun p _ => by omega))).symm
  · rw [N0_z (fun g _ => by omega) (fun p _ => by omega)]; omega
theorem N0_rs {V : SV} (h : x5Z V) : RS V N0 := by
  obtain ⟨⟨h1, h4⟩, t0, t1, t2, v0, v2, v8, v9, v10⟩ := h
  refine ⟨fun w hw => ?_, fun f hf => ?_, ⟨fun f hf => ?_, fun f hf k hk => ?_⟩, fun p hp => ?_, ⟨?_, fun i => i, ⟨fun i hi => ?_, fun i k hi => ?_⟩, fun i hi => ?_⟩, ⟨fun f hf => ?_, fun f hf r hr => ?_⟩, fun f hf => ?_, fun p hp => ?_, ?_, ?_⟩
  · rw [v0, N0_z (fun g _ => by omega) (fun p _ => by omega), nI_0]
  · rw [h1 f hf, N0_2 hf]
  · rw [v2, N0_z (fun g _ => by omega) (fun p _ => by omega), nI_0]
  · rw [N0_z (j := 9 + 31 * f) (fun g _ => by omega) (fun p _ => by omega)] at hk
    omega
  · rw [h4 p hp, N0_4 hp]
  · rw [t1, N0_z (fun g _ => by omega) (fun p _ => by omega), nI_0]
  · rw [N0_z (j := 6) (fun f _ => by omega) (fun p _ => by omega)] at hi
    omega
  · rw [N0_z (j := 6) (fun f _ => by omega) (fun p _ => by omega)] at hi
    omega
  · rw [N0_z (j := 6) (fun f _ => by omega) (fun p _ => by omega)] at hi
    omega
  · rw [v8, N0_z (fun g _ => by omega) (fun p _ => by omega), nI_0]
  · rw [N0_z (j := 16 + 31 * f) (fun g _ => by omega) (fun p _ => by omega)] at hr
    omega
  · have e : qSet N0 f = 0 := by
      unfold qSet
      rw [bs_congr (P2 := fun _ => false) (fun q hq => by rw [N0_z (fun g _ => by omega) (fun p _ => by omega)]; rfl), bs_0]
    rw [v9, e, nI_0]
  · rw [v10, N0_z (fun g _ => by omega) (fun p _ => by omega), nI_0]
  · rw [t0, N0_z (fun g _ => by omega) (fun p _ => by omega), nI_0]
  · rw [t2, N0_z (fun g _ => by omega) (fun p _ => by omega), nI_0]
theorem N0_K2 : K2 0 N0 := by
  refine ⟨N0_inv, fun f i hf hi => ?_, fun f i hf hi => ?_, ?_⟩
  · rw [N0_z (j := 16 + 31 * f) (fun g _ => by omega) (fun p _ => by omega)] at hi
    omega
  · rw [N0_z (j := 16 + 31 * f) (fun g _ => by omega) (fun p _ => by omega)] at hi
    omega
  · unfold J3
    rw [N0_z (j := 4) (fun g _ => by omega) (fun p _ => by omega)]
    exact sm_0 (fun p hp => N0_z (fun g _ => by omega) (fun q _ => by omega))
theorem b_undo {V : SV} {hV : Nat → SV} (h : x5Z V) : wp_X6_undo (V 14 0) (V 0) (V 1) (V 2) (V 3) (V 4) (V 14 1) (V 5) (V 6) (V 7) (V 14 2) (V 8) (V 9) (V 10) (V 11) (V 12) (V 13) hV (nI 0) (fun r a0 a1 a2 a3 a4 a5 a6 a7 a8 a9 a10 a11 a12 a13 a14 a15 a16 hs2 => r = -5 ∧ hs2 = nI 0 ∧ x5Z (sv a0 a1 a2 a3 a4 a5 a6 a7 a8 a9 a10 a11 a12 a13 a14 a15 a16)) := by
  unfold wp_X6_undo
  exact ⟨0, by omega, rfl, fun _ => ⟨rfl, rfl, h⟩, fun c => absurd c (by omega)⟩
theorem b_restore {V B : SV} {hV : Nat → SV} (h : x5Z V) : wp_X6_restore (V 14 0) (V 0) (V 1) (V 2) (V 3) (V 4) (V 14 1) (V 5) (V 6) (V 7) (V 14 2) (V 8) (V 9) (V 10) (V 11) (V 12) (V 13) (B 14 0) (B 0) (B 1) (B 2) (B 3) (B 4) (B 14 1) (B 5) (B 6) (B 7) (B 14 2) (B 8) (B 9) (B 10) (B 11) (B 12) (B 13) hV (nI 0) (nI 0) (fun r a0 a1 a2 a3 a4 a5 a6 a7 a8 a9 a10 a11 a12 a13 a14 a15 a16 _ _ _ _ _ _ _ _ _ _ _ _ _ _ _ _ _ hV2 hs2 => r = -5 ∧ hs2 = nI 0 ∧ x5Z (sv a0 a1 a2 a3 a4 a5 a6 a7 a8 a9 a10 a11 a12 a13 a14 a15 a16)) := by
  unfold wp_X6_restore
  refine ccopy_ok ?_
  unfold wp_X1_snapshotInto
  exact ifP nI_0 ⟨nb0, ifP' nI_0 ⟨rfl, rfl, h⟩⟩
theorem b_stopped {n : Nat} (hn : n ≤ 1) : wp_X6_stopped (-5) (-5) (nI n) (fun r => r = -5) := by
  unfold wp_X6_stopped
  exact cWithin_t (by omega) (by omega) (by omega) (by omega) hn (ifN' nz10 ⟨fun _ => rfl, fun _ => rfl⟩)
theorem b_keep {V B : SV} {oh : Int32} (h : x5Z V) : wp_X6_keep (V 14 0) (V 0) (V 1) (V 2) (V 3) (V 4) (V 14 1) (V 5) (V 6) (V 7) (V 14 2) (V 8) (V 9) (V 10) (V 11) (V 12) (V 13) oh (B 14 0) (B 0) (B 1) (B 2) (B 3) (B 4) (B 14 1) (B 5) (B 6) (B 7) (B 14 2) (B 8) (B 9) (B 10) (B 11) (B 12) (B 13) (fun r hs a0 a1 a2 a3 a4 a5 a6 a7 a8 a9 a10 a11 a12 a13 a14 a15 a16 => r = 0 ∧ hs = nI 1 ∧ x5Z (sv a0 a1 a2 a3 a4 a5 a6 a7 a8 a9 a10 a11 a12 a13 a14 a15 a16)) := by
  unfold wp_X6_keep wp_X1_keepSnapshot
  exact ccopy_ok ⟨h.2.1, rfl, h⟩
def hsnp (hV : Nat → SV) (v : SV) : Nat → SV := fun i => match i with
  | 0 => hV 0
  | 1 => hV 1
  | 2 => hV 2
  | 3 => hV 3
  | _ => v
