theorem drN_6 {N : Nat → Nat} {k : Nat} (h6 : N 6 ≤ 40) : drN N k 6 = N 6 - 1 := by
  unfold drN dr1
  rw [if_neg (by omega), if_pos rfl]
theorem drN_lo {N : Nat → Nat} {k j : Nat} (h6 : N 6 ≤ 40) (hk : k < N 6) (hj : j < 350 + 3 * k) (h : j ≠ 6) : drN N k j = N j := by
  unfold drN dr1
  rw [if_neg (by omega), if_neg h, if_neg (by omega)]
theorem drN_hi {N : Nat → Nat} {k j : Nat} (hk : k < N 6) (h1 : 350 + 3 * k ≤ j) (h2 : j < 350 + 3 * (N 6 - 1)) : drN N k j = N (j + 3) := by
  unfold drN dr1
  rw [if_neg (by omega), if_neg (by omega), if_pos ⟨h1, h2⟩]
/-- where a leave stands after the leave c was taken out -/
def tau (c k : Nat) : Nat := if k < c then k else k - 1
theorem drN_tau {N : Nat → Nat} {c k w : Nat} (h6 : N 6 ≤ 40) (hc : c < N 6) (hk : k < N 6) (h : k ≠ c) (hw : w < 3) : drN N c (350 + w + 3 * tau c k) = N (350 + w + 3 * k) := by
  unfold tau
  split
  · rw [drN_lo h6 hc (by omega) (by omega)]
  · rw [drN_hi hc (by omega) (by omega)]
    congr 1
    omega
theorem cadd_ok {σ : Nat → Nat} {V5 V6 V7 : Nat → Int32} {N : Nat → Nat} (h6 : N 6 < 40) (hσ : Pm σ (N 6)) (hR : RLv σ V5 V6 V7 N) {p a b : Nat} (hab : a ≤ b) {Q : Int32 → Int32 → (Nat → Int32) → (Nat → Int32) → (Nat → Int32) → Prop} (h : ∀ W5 W6 W7 τ, Pm τ (N 6 + 1) → RLv τ W5 W6 W7 (grN N p a b) → Q (nI (b - a + 1)) (nI (N 6 + 1)) W5 W6 W7) : wp_X2_add (nI (N 6)) V5 V6 V7 (nI p) (nI a) (nI b) Q := by
  unfold wp_X2_add
  refine cWithin_t (by omega) (by omega) (by omega) (by omega) (by omega) (ifN' nz10 ?_)
  simp (disch := omega) only [sN, nI_add, pk_mul, nz_cl, nz_le, nz_lt, nz_eq, nz_eq0, nz_le0, nz_lt0, nz_0lt, nz_m5, nz_inT, true_and, and_true, forall_eq, not_false_eq_true, not_true_eq_false, true_imp_iff, false_imp_iff, implies_true, nz_sub]
  obtain ⟨g1, g2, g3⟩ := grN_at (N := N) (p := p) (a := a) (b := b) (by omega)
  refine h _ _ _ (fun i => if i = N 6 then N 6 else σ i) ⟨fun i hi => ?_, fun i j hi hj e => ?_⟩ (fun i hi => ?_)
  · show (if i = N 6 then N 6 else σ i) < _
    split
    · omega
    · have := hσ.1 i (by omega)
      omega
  · try dsimp only at e
    have hx : ∀ i, i < N 6 + 1 → i ≠ N 6 → σ i < N 6 := fun i q1 q2 => hσ.1 i (by omega)
    split at e <;> split at e
    · omega
    · have := hx j hj (by assumption)
      omega
    · have := hx i hi (by assumption)
      omega
    · exact hσ.2 i j (by omega) (by omega) e
  · rw [grN_6] at hi
    unfold upd
    show (if i = N 6 then _ else _) = nI (grN N p a b (350 + 3 * (if i = N 6 then N 6 else σ i))) ∧ (if i = N 6 then _ else _) = nI (grN N p a b (351 + 3 * (if i = N 6 then N 6 else σ i))) ∧ (if i = N 6 then _ else _) = nI (grN N p a b (352 + 3 * (if i = N 6 then N 6 else σ i)))
    by_cases e : i = N 6
    · rw [if_pos e, if_pos e, if_pos e, if_pos e, g1, g2, g3]
      exact ⟨rfl, rfl, rfl⟩
    · have hs := hσ.1 i (by omega)
      rw [if_neg e, if_neg e, if_neg e, if_neg e, grN_un (by omega) (by omega) (by omega), grN_un (by omega) (by omega) (by omega), grN_un (by omega) (by omega) (by omega)]
      exact hR i (by omega)
theorem removeAt_ok {σ : Nat → Nat} {V5 V6 V7 : Nat → Int32} {N : Nat → Nat} (hI : PInv N) (h6 : N 6 ≤ 40) (ho : ∀ k, k < N 6 → N (351 + 3 * k) ≤ N (352 + 3 * k)) (hσ : Pm σ (N 6)) (hR : RLv σ V5 V6 V7 N) {i : Nat} (hi : i < N 6) {Q : Int32 → Int32 → (Nat → Int32) → (Nat → Int32) → (Nat → Int32) → Prop} (h : ∀ W5 W6 W7 τ, Pm τ (N 6 - 1) → RLv τ W5 W6 W7 (drN N (σ i)) → Q (nI (N (352 + 3 * σ i) - N (351 + 3 * σ i) + 1)) (nI (N 6 - 1)) W5 W6 W7) : wp_X2_removeAt (nI (N 6)) V5 V6 V7 (nI i) Q := by
  have hs := hσ.1 i hi
  have hos := ho (σ i) hs
  obtain ⟨e5, e6, e7⟩ := hR i hi
  unfold wp_X2_removeAt
  simp (disch := omega) only [sN, nI_add, pk_mul, nz_cl, nz_le, nz_lt, nz_eq, nz_eq0, nz_le0, nz_lt0, nz_0lt, nz_m5, nz_inT, true_and, and_true, forall_eq, not_false_eq_true, not_true_eq_false, true_imp_iff, false_imp_iff, implies_true, nz_sub]
  refine cWithin_t (by omega) (by omega) (by omega) (by omega) (by omega) (ifN nz10 (cWithin_t (by omega) (by omega) (by omega) (by omega) (by omega) (ifN' nz10 ?_)))
  simp (disch := omega) only [sN, nI_add, pk_mul, nz_cl, nz_le, nz_lt, nz_eq, nz_eq0, nz_le0, nz_lt0, nz_0lt, nz_m5, nz_inT, true_and, and_true, forall_eq, not_false_eq_true, not_true_eq_false, true_imp_iff, false_imp_iff, implies_true, e5, e6, e7, nz_sub]
  have key : ∀ j, j < N 6 - 1 → (if j = i then σ (N 6 - 1) else σ j) < N 6 ∧ (if j = i then σ (N 6 - 1) else σ j) ≠ σ i := fun j hj => by
    split
    · refine ⟨hσ.1 _ (by omega), fun q => ?_⟩
      have := hσ.2 _ _ (by omega) hi q
      omega
    · refine ⟨hσ.1 _ (by omega), fun q => ?_⟩
      have := hσ.2 _ _ (by omega) hi q
      omega
  refine h _ _ _ (fun j => tau (σ i) (if j = i then σ (N 6 - 1) else σ j)) ⟨fun j hj => ?_, fun j k hj hk e => ?_⟩ (fun j hj => ?_)
  · obtain ⟨k1, k2⟩ := key j hj
    show tau (σ i) (if j = i then σ (N 6 - 1) else σ j) < N 6 - 1
    generalize (if j = i then σ (N 6 - 1) else σ j) = z at k1 k2
    unfold tau
    split <;> omega
  · obtain ⟨k1, k2⟩ := key j hj
    obtain ⟨k3, k4⟩ := key k hk
    have e2 : (if j = i then σ (N 6 - 1) else σ j) = (if k = i then σ (N 6 - 1) else σ k) := by
      have e' : tau (σ i) (if j = i then σ (N 6 - 1) else σ j) = tau (σ i) (if k = i then σ (N 6 - 1) else σ k) := e
      generalize (if j = i then σ (N 6 - 1) else σ j) = z at k1 k2 e'
      generalize (if k = i then σ (N 6 - 1) else σ k) = y at k3 k4 e'
      unfold tau at e'
      split at e' <;> split at e' <;> omega
    split at e2 <;> split at e2
    · omega
    · have := hσ.2 _ _ (by omega) (by omega) e2
      omega
    · have := hσ.2 _ _ (by omega) (by omega) e2
      omega
    · exact hσ.2 _ _ (by omega) (by omega) e2
  · rw [drN_6 h6] at hj
    obtain ⟨k1, k2⟩ := key j hj
    show upd V5 i (V5 (N 6 - 1)) j = nI (drN N (σ i) (350 + 3 * tau (σ i) (if j = i then σ (N 6 - 1) else σ j))) ∧ upd V6 i (V6 (N 6 - 1)) j = nI (drN N (σ i) (351 + 3 * tau (σ i) (if j = i then σ (N 6 - 1) else σ j))) ∧ upd V7 i (V7 (N 6 - 1)) j = nI (drN N (σ i) (352 + 3 * tau (σ i) (if j = i then σ (N 6 - 1) else σ j)))
    have t0 := drN_tau (w := 0) h6 hs k1 k2 (by omega)
    have t1 := drN_tau (w := 1) h6 hs k1 k2 (by omega)
    have t2 := drN_tau (w := 2) h6 hs k1 k2 (by omega)
    rw [t0, t1, t2]
    unfold upd
    by_cases e : j = i
    · rw [if_pos e, if_pos e, if_pos e, if_pos e]
      exact hR (N 6 - 1) (by omega)
    · rw [if_neg e, if_neg e, if_neg e, if_neg e]
      exact hR j (by omega)
theorem ableOn_loop {V4 : Nat → Int32} {N : Nat → Nat} (hI : PInv N) (h4 : ∀ p, p < 16 → V4 p = nI (N (318 + 2 * p))) {d : Nat} (hd : d < 1000) {K : Int32 → Prop} (hK : K (nI (bs (fun p => decide (d ≤ N (318 + 2 * p))) 16))) : ∀ (m k : Nat), k + m = 16 → wb_X5_ableOn_4 V4 (nI d) K (m + 1) (nI (bs (fun p => decide (d ≤ N (318 + 2 * p))) k)) (nI k) := by
  intro m
  induction m with
  | zero =>
    intro k hk
    obtain rfl : k = 16 := by omega
    rw [wb_X5_ableOn_4]
    exact ifP (by decide) hK
  | succ m ih =>
    intro k hk
    have next := ih (k + 1) (by omega)
    have ht := hI.2.2.1 k (by omega)
    rw [wb_X5_ableOn_4]
    simp (disch := omega) only [sN, nI_add, pk_mul, nz_cl, nz_le, nz_lt, nz_eq, nz_eq0, nz_le0, nz_lt0, nz_0lt, nz_m5, nz_inT, true_and, and_true, forall_eq, not_false_eq_true, not_true_eq_false, true_imp_iff, false_imp_iff, implies_true, h4 k (by omega)]
    refine ⟨fun c => absurd c (by omega), fun _ => ⟨fun c => ?_, fun c => ?_⟩⟩
    · rw [bs_n (P := fun p => decide (d ≤ N (318 + 2 * p))) (fun e => absurd (of_decide_eq_true e) (by omega))]
      exact next
    · rw [or_k (P := fun p => decide (d ≤ N (318 + 2 * p))) (by omega) (decide_eq_true (by omega))]
      exact next
theorem ableOn_ok {σ : Nat → Nat} {V4 V5 V6 V7 : Nat → Int32} {N : Nat → Nat} (hI : PInv N) (h6 : N 6 ≤ 40) (h4 : ∀ p, p < 16 → V4 p = nI (N (318 + 2 * p))) (hσ : Pm σ (N 6)) (hR : RLv σ V5 V6 V7 N) {d : Nat} (hd : d < 1000) {Q : Int32 → Prop} (h : Q (nI (bs (able N d) 16))) : wp_X5_ableOn V4 (nI (N 6)) V5 V6 V7 (nI d) Q := by
  refine ⟨17, ableOn_loop hI h4 hd ?_ 16 0 (by omega)⟩
  refine awayOn_ok hI h6 hσ hR hd ?_
  rw [nx_not, bs_not]
  exact h

