/-! the first state -/
def ini1 : Nat → Nat → Nat
  | 0 => fun _ => 0
  | k + 1 => un (ini1 k) (8 + 31 * k) 1
def ini2 : Nat → Nat → Nat
  | 0 => ini1 10
  | k + 1 => un (ini2 k) (318 + 2 * k) 399
def N0 : Nat → Nat := ini2 16
theorem ini1_y : ∀ (k f : Nat), f < k → ini1 k (8 + 31 * f) = 1 := by
  intro k
  induction k with
  | zero => intro f h; omega
  | succ k ih =>
    intro f h
    unfold ini1
    by_cases e : f = k
    · rw [e, un_s]
    · rw [un_n (by omega)]
      exact ih f (by omega)
theorem ini1_n : ∀ (k j : Nat), (∀ f, f < k → j ≠ 8 + 31 * f) → ini1 k j = 0 := by
  intro k
  induction k with
  | zero => intro j _; rfl
  | succ k ih =>
    intro j h
    unfold ini1
    rw [un_n (h k (by omega))]
    exact ih j (fun f hf => h f (by omega))
theorem ini2_y : ∀ (k p : Nat), p < k → ini2 k (318 + 2 * p) = 399 := by
  intro k
  induction k with
  | zero => intro f h; omega
  | succ k ih =>
    intro f h
    unfold ini2
    by_cases e : f = k
    · rw [e, un_s]
    · rw [un_n (by omega)]
      exact ih f (by omega)
theorem ini2_n : ∀ (k j : Nat), (∀ p, p < k → j ≠ 318 + 2 * p) → ini2 k j = ini1 10 j := by
  intro k
  induction k with
  | zero => intro j _; rfl
  | succ k ih =>
    intro j h
    unfold ini2
    rw [un_n (h k (by omega))]
    exact ih j (fun f hf => h f (by omega))
theorem N0_2 {f : Nat} (hf : f < 10) : N0 (8 + 31 * f) = 1 := by
  unfold N0
  rw [ini2_n _ _ (fun p hp => by omega)]
  exact ini1_y 10 f hf
theorem N0_4 {p : Nat} (hp : p < 16) : N0 (318 + 2 * p) = 399 := ini2_y 16 p hp
theorem N0_z {j : Nat} (h1 : ∀ f, f < 10 → j ≠ 8 + 31 * f) (h2 : ∀ p, p < 16 → j ≠ 318 + 2 * p) : N0 j = 0 := by
  unfold N0
  rw [ini2_n _ _ h2]
  exact ini1_n 10 j h1
theorem N0_inv : Inv 0 N0 := by
  refine Inv_iff.mpr ⟨⟨?_, ?_, ?_⟩, fun f hf => ?_, fun f hf => ?_, fun p hp => ?_, ⟨?_, fun j hj => ?_, fun k hk => ?_, fun i k hi => ?_⟩, ⟨fun f q hf hq => ?_, fun f hf => ?_, ?_⟩, ?_⟩
  · rw [N0_z (fun f _ => by omega) (fun p _ => by omega)]; omega
  · rw [N0_z (fun f _ => by omega) (fun p _ => by omega)]; omega
  · rw [N0_z (fun f _ => by omega) (fun p _ => by omega)]; omega
  · rw [N0_2 hf]; omega
  · rw [N0_z (j := 9 + 31 * f) (fun g _ => by omega) (fun p _ => by omega)]
    exact ⟨by omega, fun k hk => by omega⟩
  · rw [N0_4 hp]; omega
  · rw [N0_z (fun f _ => by omega) (fun p _ => by omega)]; omega
  · rw [N0_z (j := 6) (fun f _ => by omega) (fun p _ => by omega)] at hj
    exact N0_z (fun f _ => by omega) (fun p _ => by omega)
  · rw [N0_z (j := 6) (fun f _ => by omega) (fun p _ => by omega)] at hk
    omega
  · rw [N0_z (j := 6) (fun f _ => by omega) (fun p _ => by omega)] at hi
    omega
  · rw [N0_z (fun g _ => by omega) (fun p _ => by omega)]; omega
  · rw [N0_z (j := 15 + 31 * f) (fun g _ => by omega) (fun p _ => by omega), N0_z (j := 16 + 31 * f) (fun g _ => by omega) (fun p _ => by omega)]
    exact ⟨by omega, by omega⟩
  · rw [N0_z (j := 4) (fun g _ => by omega) (fun p _ => by omega)]
    exact (sm_0 (fun f hf => N0_z (fun g _ => by omega) (fun p _ => by omega))).symm
  · rw [N0_z (fun g _ => by omega) (fun p _ => by omega)]; omega
theorem N0_rs {V : SV} (h : x5Z V) : RS V N0 := by
  obtain ⟨⟨h1, h4⟩, t0, t1, t2, v0, v2, v8, v9, v10⟩ := h
  refine ⟨fun w hw => ?_, fun f hf => ?_, ⟨fun f hf => ?_, fun f hf k hk => ?_⟩, fun p hp => ?_, ⟨?_, fun i => i, ⟨fun i hi => ?_, fun i k hi => ?_⟩, fun i hi => ?_⟩, ⟨fun f hf => ?_, fun f hf r hr => ?_⟩, fun f hf => ?_, fun p hp => ?_, ?_, ?_⟩
  · rw [v0, N0_z (fun g _ => by omega) (fun p _ => by omega), nI_0]
  · rw [h1 f hf, N0_2 hf]
  · rw [v2, N0_z (fun g _ => by omega) (fun p _ => by omega), nI_0]
  · rw [N0_z (j := 9 + 31 * f) (fun g _ => by omega) (fun p _ => by omega)] at hk
    omega
  · rw [h4 p hp, N0_4 hp]
  · rw [t1, N0_z (fun g _ => by omega) (fun p _ => by omega), nI_0]
  · rw [N0_z (j := 6) (fun f _ => by omega) (fun p _ => by omega)] at hi
    omega
  · rw [N0_z (j := 6) (fun f _ => by omega) (fun p _ => by omega)] at hi
    omega
  · rw [N0_z (j := 6) (fun f _ => by omega) (fun p _ => by omega)] at hi
    omega
  · rw [v8, N0_z (fun g _ => by omega) (fun p _ => by omega), nI_0]
  · rw [N0_z (j := 16 + 31 * f) (fun g _ => by omega) (fun p _ => by omega)] at hr
    omega
  · have e : qSet N0 f = 0 := by
      unfold qSet
      rw [bs_congr (P2 := fun _ => false) (fun q hq => by rw [N0_z (fun g _ => by omega) (fun p _ => by omega)]; rfl), bs_0]
    rw [v9, e, nI_0]
  · rw [v10, N0_z (fun g _ => by omega) (fun p _ => by omega), nI_0]
  · rw [t0, N0_z (fun g _ => by omega) (fun p _ => by omega), nI_0]
  · rw [t2, N0_z (fun g _ => by omega) (fun p _ => by omega), nI_0]
theorem init_109 {K : (Nat → Int32) → Prop} (hK : K (sN (ini1 10))) : ∀ (m k : Nat), k + m = 10 → wb_X7_init_109 K (m + 1) (sN (ini1 k)) (nI k) := by
  intro m
  induction m with
  | zero =>
    intro k hk
    obtain rfl : k = 10 := by omega
    rw [wb_X7_init_109]
    exact ifP (by decide) hK
  | succ m ih =>
    intro k hk
    rw [wb_X7_init_109]
    refine ifN (fun e => absurd ((nz_le (by omega) (by omega)).mp e) (by omega)) (lay_ok (by omega) (by omega) (fun t et => ?_))
    rw [nI_add] at et
    subst et
    exact ih (k + 1) (by omega)
theorem init_130 {K : (Nat → Int32) → Prop} (hK : K (sN N0)) : ∀ (m k : Nat), k + m = 16 → wb_X7_init_130 K (m + 1) (sN (ini2 k)) (nI k) := by
  intro m
  induction m with
  | zero =>
    intro k hk
    obtain rfl : k = 16 := by omega
    rw [wb_X7_init_130]
    exact ifP (by decide) hK
  | succ m ih =>
    intro k hk
    rw [wb_X7_init_130, ea_tr, Nat.add_zero]
    refine ifN (fun e => absurd ((nz_le (by omega) (by omega)).mp e) (by omega)) ⟨vp_in_nI (by omega) (by omega), fun s2 es t et => ?_⟩
    rw [nI_add] at et
    rw [nz_cl (by omega), upd_sN] at es
    subst et es
    exact ih (k + 1) (by omega)
theorem init_ok : wp_X7_init (fun s => s = sN N0) := by
  refine ⟨11, ?_⟩
  rw [show (fun _ => 0 : Nat → Int32) = sN (ini1 0) from funext (fun _ => nI_0.symm)]
  exact init_109 ⟨17, init_130 (K := fun s => s = sN N0) rfl 16 0 (by omega)⟩ 10 0 (by omega)
