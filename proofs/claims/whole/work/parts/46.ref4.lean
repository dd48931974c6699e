/-! by how much floors would be short by more -/
theorem shortByMore_21 {N : Nat → Nat} {ct : Nat → Int32} {P : PS} (hct : ∀ f, f < 10 → ct f = nI (P.2.2.1 f)) (hle : ∀ f, f < 10 → P.2.2.1 f ≤ nd N f) {K : (Nat → Int32) → Prop} (hK : ∀ b2, (∀ f, f < 10 → b2 f = nI (lack N P f)) → K b2) : ∀ (m k : Nat), k + m = 10 → ∀ b1 : Nat → Int32, (∀ f, f < k → b1 f = nI (lack N P f)) → wb_X7_shortByMore_21 (sN N) ct K (m + 1) b1 (nI k) := by
  intro m
  induction m with
  | zero =>
    intro k hk b1 hb
    obtain rfl : k = 10 := by omega
    rw [wb_X7_shortByMore_21]
    exact ifP (by decide) (hK _ hb)
  | succ m ih =>
    intro k hk b1 hb
    rw [wb_X7_shortByMore_21]
    simp (disch := omega) only [sN, nI_add, pk_mul, nz_cl, nz_le, nz_lt, nz_eq, nz_eq0, nz_le0, nz_lt0, nz_0lt, nz_m5, nz_inT, true_and, and_true, forall_eq, not_false_eq_true, not_true_eq_false, true_imp_iff, false_imp_iff, implies_true]
    refine ⟨fun c => absurd c (by omega), fun _ => shortBy_ok hct hle (by omega) ?_⟩
    try simp (disch := omega) only [sN, nI_add, pk_mul, nz_cl, nz_le, nz_lt, nz_eq, nz_eq0, nz_le0, nz_lt0, nz_0lt, nz_m5, nz_inT, true_and, and_true, forall_eq, not_false_eq_true, not_true_eq_false, true_imp_iff, false_imp_iff, implies_true]
    refine ih (k + 1) (by omega) _ (fun f hf => ?_)
    unfold upd
    split
    · rename_i e
      rw [e]
    · exact hb f (by omega)
theorem lack_le {N : Nat → Nat} (hI : PInv N) (P : PS) (f : Nat) : lack N P f ≤ 3 := by
  have := nd_le hI f
  unfold lack
  omega
theorem shortByMore_65 {N : Nat → Nat} (hI : PInv N) {ct b : Nat → Int32} {P : PS} (hct : ∀ f, f < 10 → ct f = nI (P.2.2.1 f)) (hle : ∀ f, f < 10 → P.2.2.1 f ≤ nd N f) {g : Nat → Nat} (hg : ∀ f, f < 10 → b f = nI (g f)) (hg3 : ∀ f, g f ≤ 3) {z : Nat} {K : Int32 → Prop} (hK : K (nI (z + sm (fun f => lack N P f - g f) 10))) : ∀ (m k : Nat), k + m = 10 → ∀ x4, x4 = nI (z + sm (fun f => lack N P f - g f) k) → wb_X7_shortByMore_65 (sN N) ct b K (m + 1) x4 (nI k) := by
  intro m
  induction m with
  | zero =>
    intro k hk x4 hx
    subst hx
    obtain rfl : k = 10 := by omega
    rw [wb_X7_shortByMore_65]
    exact ifP (by decide) hK
  | succ m ih =>
    intro k hk x4 hx
    subst hx
    have h3 := lack_le hI P k
    have hg3' := hg3 k
    have next := ih (k + 1) (by omega) _ rfl
    simp only [sm] at next
    rw [wb_X7_shortByMore_65]
    simp (disch := omega) only [sN, nI_add, pk_mul, nz_cl, nz_le, nz_lt, nz_eq, nz_eq0, nz_le0, nz_lt0, nz_0lt, nz_m5, nz_inT, true_and, and_true, forall_eq, not_false_eq_true, not_true_eq_false, true_imp_iff, false_imp_iff, implies_true]
    refine ⟨fun c => absurd c (by omega), fun _ => shortBy_ok hct hle (by omega) ?_⟩
    simp (disch := omega) only [sN, nI_add, pk_mul, nz_cl, nz_le, nz_lt, nz_eq, nz_eq0, nz_le0, nz_lt0, nz_0lt, nz_m5, nz_inT, true_and, and_true, forall_eq, not_false_eq_true, not_true_eq_false, true_imp_iff, false_imp_iff, implies_true, hg k (by omega)]
    refine ⟨fun c => ?_, fun c => shortBy_ok hct hle (by omega) ?_⟩
    · rw [show lack N P k - g k = 0 by omega] at next
      exact next
    · simp (disch := omega) only [sN, nI_add, pk_mul, nz_cl, nz_le, nz_lt, nz_eq, nz_eq0, nz_le0, nz_lt0, nz_0lt, nz_m5, nz_inT, true_and, and_true, forall_eq, not_false_eq_true, not_true_eq_false, true_imp_iff, false_imp_iff, implies_true, nz_sub]
      rw [Nat.add_assoc]
      exact next
/-- what a person's leave on a day alone would cost -/
def more (N : Nat → Nat) (p d : Nat) : Nat := sm (fun f => lack (grN N p d d) (plan (grN N p d d) (able (grN N p d d) d)) f - lack N (plan N (able N d)) f) 10
theorem un_id {N : Nat → Nat} {k : Nat} : un N k (N k) = N := by
  funext j
  unfold un
  split
  · rename_i e
    rw [e]
  · rfl
theorem grN_un {N : Nat → Nat} {p a b j : Nat} (h6 : N 6 ≤ 40) (h : j < 350 + 3 * N 6) (h2 : j ≠ 6) : grN N p a b j = N j := by
  unfold grN
  rw [un_n h2, un_n (by omega), un_n (by omega), un_n (by omega)]
theorem grN_6 {N : Nat → Nat} {p a b : Nat} : grN N p a b 6 = N 6 + 1 := un_s
theorem grN_at {N : Nat → Nat} {p a b : Nat} (h6 : N 6 ≤ 40) : grN N p a b (350 + 3 * N 6) = p ∧ grN N p a b (351 + 3 * N 6) = a ∧ grN N p a b (352 + 3 * N 6) = b := by
  unfold grN
  refine ⟨?_, ?_, ?_⟩
  · rw [un_n (by omega), un_n (by omega), un_n (by omega), un_s]
  · rw [un_n (by omega), un_n (by omega), show 351 + 3 * N 6 = 350 + 3 * N 6 + 1 by omega, un_s]
  · rw [un_n (by omega), show 352 + 3 * N 6 = 350 + 3 * N 6 + 2 by omega, un_s]
/-- behind the leaves there is nothing -/
def Zero (N : Nat → Nat) : Prop := ∀ j, 350 + 3 * N 6 ≤ j → N j = 0
theorem dr_gr {N : Nat → Nat} (h6 : N 6 ≤ 40) (hz : Zero N) {p a b : Nat} : drN (grN N p a b) (N 6) = N := by
  funext j
  unfold drN dr1
  rw [grN_6]
  by_cases c1 : 350 + 3 * (N 6 + 1 - 1) ≤ j ∧ j < 350 + 3 * (N 6 + 1)
  · rw [if_pos c1, hz j (by omega)]
  · rw [if_neg c1]
    by_cases c2 : j = 6
    · rw [if_pos c2, c2]
      omega
    · rw [if_neg c2, if_neg (by omega)]
      unfold grN
      rw [un_n c2, un_n (by omega), un_n (by omega), un_n (by omega)]
theorem PInv_gr {N : Nat → Nat} (hI : PInv N) (h6 : N 6 ≤ 40) {p a b : Nat} (hp : p < 16) (ha : a ≤ 399) (hb : b ≤ 399) : PInv (grN N p a b) := by
  obtain ⟨h1, h2, h3, -, h4, h5⟩ := hI
  obtain ⟨g1, g2, g3⟩ := grN_at (p := p) (a := a) (b := b) h6
  refine ⟨?_, fun f hf => ?_, fun q hq => ?_, ?_, ?_, fun k hk => ?_⟩
  · rw [grN_un h6 (by omega) (by omega)]
    exact h1
  · have := h2 f hf
    rw [grN_un h6 (by omega) (by omega), grN_un h6 (by omega) (by omega)]
    refine ⟨this.1, this.2.1, fun k hk => ?_⟩
    rw [grN_un h6 (by omega) (by omega)]
    exact this.2.2 k hk
  · rw [grN_un h6 (by omega) (by omega)]
    exact h3 q hq
  · rw [grN_6]
    omega
  · rw [grN_un h6 (by omega) (by omega)]
    exact h4
  · rw [grN_6] at hk
    rcases Nat.lt_or_ge k (N 6) with q | q
    · rw [grN_un h6 (by omega) (by omega), grN_un h6 (by omega) (by omega), grN_un h6 (by omega) (by omega)]
      exact h5 k q
    · obtain rfl : k = N 6 := by omega
      rw [g1, g2, g3]
      exact ⟨hp, ha, hb⟩
theorem sm_add {g : Nat → Nat} {n : Nat} : sm g (n + 1) = sm g n + g n := rfl
theorem more_le {N : Nat → Nat} (hI : PInv N) (h6 : N 6 ≤ 40) {p d : Nat} (hp : p < 16) (hd : d ≤ 399) : more N p d ≤ 30 := by
  have hI2 := PInv_gr hI h6 (p := p) (a := d) (b := d) hp hd hd
  refine sm_le (b := 3) (n := 10) (fun f _ => ?_)
  have := lack_le hI2 (plan (grN N p d d) (able (grN N p d d) d)) f
  show _ - _ ≤ 3
  omega
theorem shortByMore_6 {N : Nat → Nat} (hI : PInv N) (h6 : N 6 ≤ 40) (hz : Zero N) {p a b : Nat} (hp : p < 16) (ha : a ≤ 399) (hb : b ≤ 399) {K : (Nat → Int32) → (Nat → Int32) → (Nat → Int32) → (Nat → Int32) → (Nat → Int32) → (Nat → Int32) → Int32 → Prop} (hK : ∀ s1 s2 s3 s4 s5, K (sN N) s1 s2 s3 s4 s5 (nI (sm (fun i => more N p (a + i)) (b + 1 - a)))) : ∀ (m k : Nat), k + m = b + 1 - a → ∀ s1 s2 s3 s4 s5, wb_X7_shortByMore_6 (nI p) (nI b) K (m + 1) (sN N) s1 s2 s3 s4 s5 (nI (sm (fun i => more N p (a + i)) k)) (nI (a + k)) := by
  intro m
  induction m with
  | zero =>
    intro k hk s1 s2 s3 s4 s5
    obtain rfl : k = b + 1 - a := by omega
    rw [wb_X7_shortByMore_6]
    exact ifP (nI_lt (by omega) (by omega)) (hK _ _ _ _ _)
  | succ m ih =>
    intro k hk s1 s2 s3 s4 s5
    have hd : a + k ≤ 399 := by omega
    have next := ih (k + 1) (by omega)
    rw [sm_add] at next
    rw [wb_X7_shortByMore_6]
    simp (disch := omega) only [sN, nI_add, pk_mul, nz_cl, nz_le, nz_lt, nz_eq, nz_eq0, nz_le0, nz_lt0, nz_0lt, nz_m5, nz_inT, true_and, and_true, forall_eq, not_false_eq_true, not_true_eq_false, true_imp_iff, false_imp_iff, implies_true]
    refine ⟨fun c => absurd c (by omega), fun _ => plans_ok hI (by omega) (fun t1 t2 t3 t4 hR => ⟨11, ?_⟩)⟩
    have hP := PI_plan hI (able N (a + k))
    refine shortByMore_21 (P := plan N (able N (a + k))) hR.2.1 hP.2.1 (fun b2 hb2 => grants_ok h6 ?_) 10 0 (by omega) _ (fun f hf => absurd hf (by omega))
    have hI2 := PInv_gr hI h6 (p := p) (a := a + k) (b := a + k) hp hd hd
    refine plans_ok hI2 (by omega) (fun u1 u2 u3 u4 hR2 => ⟨11, ?_⟩)
    have hP2 := PI_plan hI2 (able (grN N p (a + k) (a + k)) (a + k))
    refine shortByMore_65 hI2 (P := plan (grN N p (a + k) (a + k)) (able (grN N p (a + k) (a + k)) (a + k))) hR2.2.1 hP2.2.1 (g := fun f => lack N (plan N (able N (a + k))) f) hb2 (fun f => lack_le hI _ f) (z := sm (fun i => more N p (a + i)) k) ?_ 10 0 (by omega) _ rfl
    have e : sN (grN N p (a + k) (a + k)) (nI 6).toNatClampNeg - nI 1 = nI (N 6) := by
      rw [nz_cl (by omega)]
      show nI (grN N p (a + k) (a + k) 6) - nI 1 = _
      rw [grN_6, nz_sub (by omega), Nat.add_sub_cancel]
    simp (disch := omega) only [sN, nI_add, pk_mul, nz_cl, nz_le, nz_lt, nz_eq, nz_eq0, nz_le0, nz_lt0, nz_0lt, nz_m5, nz_inT, true_and, and_true, forall_eq, not_false_eq_true, not_true_eq_false, true_imp_iff, false_imp_iff, implies_true, grN_6, nz_sub, Nat.add_sub_cancel]
    refine drops_ok (by rw [grN_6]; omega) (by rw [grN_6]; omega) ?_
    rw [dr_gr h6 hz]
    exact next _ _ _ _ _
theorem shortByMore_ok {N : Nat → Nat} (hI : PInv N) (h6 : N 6 ≤ 40) (hz : Zero N) {p a b : Nat} (hp : p < 16) (ha : a ≤ 399) (hb : b ≤ 399) {s1 s2 s3 s4 s5 : Nat → Int32} {Q : Int32 → (Nat → Int32) → (Nat → Int32) → (Nat → Int32) → (Nat → Int32) → (Nat → Int32) → (Nat → Int32) → Prop} (h : ∀ s1 s2 s3 s4 s5, Q (nI (sm (fun i => more N p (a + i)) (b + 1 - a))) (sN N) s1 s2 s3 s4 s5) : wp_X7_shortByMore (sN N) s1 s2 s3 s4 s5 (nI p) (nI a) (nI b) Q :=
  ⟨b + 1 - a + 1, shortByMore_6 hI h6 hz hp ha hb (K := fun T_s2 T_serves3 T_took4 T_tookMany5 T_helps6 T_before7 x4_8 => Q x4_8 T_s2 T_serves3 T_took4 T_tookMany5 T_helps6 T_before7) (fun s1 s2 s3 s4 s5 => h s1 s2 s3 s4 s5) (b + 1 - a) 0 (by omega) _ _ _ _ _⟩
