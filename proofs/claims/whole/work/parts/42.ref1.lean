/-! the reference's small methods -/
theorem in_t {x a b : Nat} {Q : Int32 → Prop} (hx : x < 2147483648) (ha : a < 2147483648) (hb : b < 2147483648) (h1 : a ≤ x) (h2 : x ≤ b) (h : Q (nI 1)) : wp_X7_in (nI x) (nI a) (nI b) Q := by
  unfold wp_X7_in
  simp (disch := omega) only [sN, nI_add, pk_mul, nz_cl, nz_le, nz_lt, nz_eq, nz_eq0, nz_le0, nz_lt0, nz_0lt, nz_m5, nz_inT, true_and, and_true, forall_eq, not_false_eq_true, not_true_eq_false, true_imp_iff, false_imp_iff, implies_true]
  exact ⟨fun c => absurd c (by omega), fun _ => ⟨fun c => absurd c (by omega), fun _ => h⟩⟩
theorem in_f {x : Int32} {a b : Nat} {Q : Int32 → Prop} (ha : a < 2147483648) (hb : b < 2147483647) (h1 : ∀ n, a ≤ n → n ≤ b → ¬ x = nI n) (h : Q (nI 0)) : wp_X7_in x (nI a) (nI b) Q := by
  unfold wp_X7_in
  refine ⟨fun _ => h, fun c => ⟨fun _ => h, fun c2 => ?_⟩⟩
  rcases nz_or x (b + 1) (by omega) with ⟨n, hn, rfl⟩ | q | q
  · by_cases hab : a ≤ n
    · exact absurd rfl (h1 n hab (by omega))
    · exact absurd (nI_lt (by omega) (by omega)) c
  · refine absurd ?_ c
    rw [Int32.lt_iff_toInt_lt, nI_toInt ha]
    rw [Int32.lt_iff_toInt_lt] at q
    have : (0 : Int32).toInt = 0 := rfl
    omega
  · refine absurd ?_ c2
    rw [Int32.lt_iff_toInt_lt, nI_toInt (by omega)]
    rw [Int32.le_iff_toInt_le, nI_toInt (by omega)] at q
    omega
theorem of_ok {N : Nat → Nat} {f w : Nat} {Q : Int32 → Prop} (hf : f < 10) (hw : w < 31) (h : Q (nI (N (8 + 31 * f + w)))) : wp_X7_of (sN N) (nI f) (nI w) Q := by
  unfold wp_X7_of
  simp (disch := omega) only [sN, nI_add, pk_mul, nz_cl, nz_le, nz_lt, nz_eq, nz_eq0, nz_le0, nz_lt0, nz_0lt, nz_m5, nz_inT, true_and, and_true, forall_eq, not_false_eq_true, not_true_eq_false, true_imp_iff, false_imp_iff, implies_true]
  exact h
theorem lay_ok {N : Nat → Nat} {f w v : Nat} {Q : (Nat → Int32) → Prop} (hf : f < 10) (hw : w < 31) (h : Q (sN (un N (8 + 31 * f + w) v))) : wp_X7_lay (sN N) (nI f) (nI w) (nI v) Q := by
  unfold wp_X7_lay
  simp (disch := omega) only [nI_add, pk_mul, nz_inT, true_and, forall_eq]
  have e : upd (sN N) (nI (8 + 31 * f + w)).toNatClampNeg (nI v) = sN (un N (8 + 31 * f + w) v) := un_nI (by omega)
  rw [e]
  exact h
theorem ofLeave_ok {N : Nat → Nat} {k w : Nat} {Q : Int32 → Prop} (hk : k < 41) (hw : w < 3) (h : Q (nI (N (350 + 3 * k + w)))) : wp_X7_ofLeave (sN N) (nI k) (nI w) Q := by
  unfold wp_X7_ofLeave
  simp (disch := omega) only [sN, nI_add, pk_mul, nz_cl, nz_le, nz_lt, nz_eq, nz_eq0, nz_le0, nz_lt0, nz_0lt, nz_m5, nz_inT, true_and, and_true, forall_eq, not_false_eq_true, not_true_eq_false, true_imp_iff, false_imp_iff, implies_true]
  exact h
theorem leaveOn_loop {N : Nat → Nat} {p d : Nat} (hI : PInv N) (hp : p < 16) (hd : d < 1000) {K : Prop} {Q : Int32 → Prop} : ∀ (m k : Nat), k + m = N 6 → (fnd (lvP N p d) m k < N 6 → Q (nI (fnd (lvP N p d) m k))) → (fnd (lvP N p d) m k = N 6 → K) → wb_X7_leaveOn_2 (sN N) (nI p) (nI d) K Q (m + 1) (nI k) := by
  obtain ⟨-, -, -, h6, -, hl⟩ := hI
  intro m
  induction m with
  | zero =>
    intro k hk hQ hK
    rw [wb_X7_leaveOn_2]
    simp (disch := omega) only [sN, nI_add, pk_mul, nz_cl, nz_le, nz_lt, nz_eq, nz_eq0, nz_le0, nz_lt0, nz_0lt, nz_m5, nz_inT, true_and, and_true, forall_eq, not_false_eq_true, not_true_eq_false, true_imp_iff, false_imp_iff, implies_true]
    exact ⟨fun _ => hK (by simp only [fnd]; omega), fun c => absurd (by omega) c⟩
  | succ m ih =>
    intro k hk hQ hK
    have hlk := hl k (by omega)
    rw [wb_X7_leaveOn_2]
    simp (disch := omega) only [sN, nI_add, pk_mul, nz_cl, nz_le, nz_lt, nz_eq, nz_eq0, nz_le0, nz_lt0, nz_0lt, nz_m5, nz_inT, true_and, and_true, forall_eq, not_false_eq_true, not_true_eq_false, true_imp_iff, false_imp_iff, implies_true]
    refine ⟨fun c => absurd c (by omega), fun _ => ?_⟩
    have next : ¬ lvP N p d k = true → wb_X7_leaveOn_2 (sN N) (nI p) (nI d) K Q (m + 1) (nI (k + 1)) := by
      intro hn
      simp only [fnd, if_neg hn] at hQ hK
      exact ih (k + 1) (by omega) hQ hK
    refine ofLeave_ok (by omega) (by omega) ?_
    simp (disch := omega) only [sN, nI_add, pk_mul, nz_cl, nz_le, nz_lt, nz_eq, nz_eq0, nz_le0, nz_lt0, nz_0lt, nz_m5, nz_inT, true_and, and_true, forall_eq, not_false_eq_true, not_true_eq_false, true_imp_iff, false_imp_iff, implies_true, Nat.add_zero]
    refine ⟨fun c => next (fun e => c (of_decide_eq_true e).1), fun c1 => ofLeave_ok (by omega) (by omega) ?_⟩
    rw [show 350 + 3 * k + 1 = 351 + 3 * k by omega]
    simp (disch := omega) only [sN, nI_add, pk_mul, nz_cl, nz_le, nz_lt, nz_eq, nz_eq0, nz_le0, nz_lt0, nz_0lt, nz_m5, nz_inT, true_and, and_true, forall_eq, not_false_eq_true, not_true_eq_false, true_imp_iff, false_imp_iff, implies_true]
    refine ⟨fun c => next (fun e => absurd (of_decide_eq_true e).2.1 (by omega)), fun c2 => ofLeave_ok (by omega) (by omega) ?_⟩
    rw [show 350 + 3 * k + 2 = 352 + 3 * k by omega]
    simp (disch := omega) only [sN, nI_add, pk_mul, nz_cl, nz_le, nz_lt, nz_eq, nz_eq0, nz_le0, nz_lt0, nz_0lt, nz_m5, nz_inT, true_and, and_true, forall_eq, not_false_eq_true, not_true_eq_false, true_imp_iff, false_imp_iff, implies_true]
    refine ⟨fun c => next (fun e => absurd (of_decide_eq_true e).2.2 (by omega)), fun c3 => ?_⟩
    have hy : lvP N p d k = true := decide_eq_true ⟨c1, by omega, by omega⟩
    simp only [fnd, if_pos hy] at hQ
    exact hQ (by omega)
theorem leaveOn_ok {N : Nat → Nat} {p d : Nat} (hI : PInv N) (hp : p < 16) (hd : d < 1000) {Q : Int32 → Prop} (h1 : lvOn N p d < N 6 → Q (nI (lvOn N p d))) (h2 : lvOn N p d = N 6 → Q (-5)) : wp_X7_leaveOn (sN N) (nI p) (nI d) Q :=
  ⟨N 6 + 1, leaveOn_loop hI hp hd (N 6) 0 (by omega) h1 h2⟩
/-- the plan's rows of the reference against a plan -/
def RP7 (sv tk ct hp : Nat → Int32) (P : PS) : Prop := (∀ p, p < 16 → sv p = if P.1 p = 0 then -5 else nI (P.1 p - 1)) ∧ (∀ f, f < 10 → ct f = nI (P.2.2.1 f)) ∧ (∀ f, f < 10 → hp f = nI (P.2.2.2 f)) ∧ ∀ f, f < 10 → ∀ r, r < P.2.2.1 f → tk (3 * f + r) = nI (P.2.1 (3 * f + r))
/-- what every plan keeps -/
def PI (N : Nat → Nat) (P : PS) : Prop := (∀ p, P.1 p ≤ 10) ∧ (∀ f, f < 10 → P.2.2.1 f ≤ nd N f) ∧ (∀ f, f < 10 → P.2.2.2 f ≤ P.2.2.1 f) ∧ (∀ f, f < 10 → ∀ r, r < P.2.2.1 f → P.2.1 (3 * f + r) < 16 ∧ P.1 (P.2.1 (3 * f + r)) = f + 1) ∧ (∀ p, p < 16 → 0 < P.1 p → ∃ r, r < P.2.2.1 (P.1 p - 1) ∧ P.2.1 (3 * (P.1 p - 1) + r) = p) ∧ (∀ f r r2, f < 10 → r < P.2.2.1 f → r2 < P.2.2.1 f → P.2.1 (3 * f + r) = P.2.1 (3 * f + r2) → r = r2)
theorem isReady_ok {N : Nat → Nat} {p d : Nat} {sv : Nat → Int32} {z : Nat} (hI : PInv N) (hp : p < 16) (hd : d < 1000) (hz : z ≤ 10) (hs : sv p = if z = 0 then -5 else nI (z - 1)) {Q : Int32 → Prop} (h1 : (able N d p && decide (z = 0)) = true → Q (nI 1)) (h0 : (able N d p && decide (z = 0)) = false → Q (nI 0)) : wp_X7_isReady (sN N) sv (nI p) (nI d) Q := by
  have ht := hI.2.2.1 p hp
  unfold wp_X7_isReady
  simp (disch := omega) only [sN, nI_add, pk_mul, nz_cl, nz_le, nz_lt, nz_eq, nz_eq0, nz_le0, nz_lt0, nz_0lt, nz_m5, nz_inT, true_and, and_true, forall_eq, not_false_eq_true, not_true_eq_false, true_imp_iff, false_imp_iff, implies_true, Nat.add_zero]
  refine ⟨fun c => h0 ?_, fun c => ?_⟩
  · simp only [able, decide_eq_false (show ¬ d ≤ N (318 + 2 * p) by omega), Bool.false_and]
  · have hl := fnd_le (lvP N p d) (N 6) 0
    refine leaveOn_ok hI hp hd (fun q => ?_) (fun q => ?_)
    · have h6 := hI.2.2.2.1
      have hq : lvOn N p d < 41 := by omega
      simp (disch := omega) only [sN, nI_add, pk_mul, nz_cl, nz_le, nz_lt, nz_eq, nz_eq0, nz_le0, nz_lt0, nz_0lt, nz_m5, nz_inT, true_and, and_true, forall_eq, not_false_eq_true, not_true_eq_false, true_imp_iff, false_imp_iff, implies_true]
      refine h0 ?_
      simp only [able, away, decide_eq_true q, Bool.not_true, Bool.and_false, Bool.false_and]
    · simp (disch := omega) only [sN, nI_add, pk_mul, nz_cl, nz_le, nz_lt, nz_eq, nz_eq0, nz_le0, nz_lt0, nz_0lt, nz_m5, nz_inT, true_and, and_true, forall_eq, not_false_eq_true, not_true_eq_false, true_imp_iff, false_imp_iff, implies_true]
      have ha : able N d p = true := by
        simp only [able, away, decide_eq_true (show d ≤ N (318 + 2 * p) by omega), decide_eq_false (show ¬ lvOn N p d < N 6 by omega), Bool.not_false, Bool.and_true]
      rw [hs]
      rcases Nat.eq_zero_or_pos z with rfl | hz0
      · exact ⟨fun c => absurd rfl c, fun _ => h1 (by rw [ha]; rfl)⟩
      · rw [if_neg (by omega)]
        simp (disch := omega) only [sN, nI_add, pk_mul, nz_cl, nz_le, nz_lt, nz_eq, nz_eq0, nz_le0, nz_lt0, nz_0lt, nz_m5, nz_inT, true_and, and_true, forall_eq, not_false_eq_true, not_true_eq_false, true_imp_iff, false_imp_iff, implies_true]
        exact h0 (by rw [ha, decide_eq_false (by omega)]; rfl)
theorem takes_ok {sv tk ct hp : Nat → Int32} {P : PS} {f p : Nat} (hR : RP7 sv tk ct hp P) (hf : f < 10) (hp16 : p < 16) (hc : P.2.2.1 f < 3) {Q : (Nat → Int32) → (Nat → Int32) → (Nat → Int32) → Prop} (h : ∀ s2 t2 c2, RP7 s2 t2 c2 hp (ptake P f p) → Q s2 t2 c2) : wp_X7_takes sv tk ct (nI f) (nI p) Q := by
  obtain ⟨h1, h2, h3, h4⟩ := hR
  unfold wp_X7_takes
  simp (disch := omega) only [nz_cl, nz_inT, true_and, forall_eq, h2 f hf, pk_mul, nI_add]
  refine h _ _ _ ⟨fun q hq => ?_, fun g hg => ?_, h3, fun g hg r hr => ?_⟩
  · unfold upd ptake un
    dsimp only
    split
    · rfl
    · exact h1 q hq
  · unfold upd ptake un
    dsimp only
    split
    · rfl
    · exact h2 g hg
  · unfold ptake un at hr ⊢
    unfold upd
    dsimp only at hr ⊢
    by_cases e : 3 * g + r = 3 * f + P.2.2.1 f
    · rw [if_pos e, if_pos e]
    · rw [if_neg e, if_neg e]
      refine h4 g hg r ?_
      split at hr
      · rename_i q
        subst q
        omega
      · omega
