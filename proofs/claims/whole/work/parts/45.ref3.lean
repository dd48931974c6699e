/-! small steps -/
theorem upd_f {N : Nat → Nat} {k v : Nat} : upd (fun j => nI (N j)) k (nI v) = fun j => nI (un N k v j) := by
  funext j
  unfold upd un
  split <;> rfl
theorem upd_sN {N : Nat → Nat} {k v : Nat} : upd (sN N) k (nI v) = sN (un N k v) := upd_f
theorem nz_one0 : (1 : Nat) = 0 ↔ False := by decide
theorem nz10 : ¬ nI 1 = 0 := by decide
theorem ifP {P A B : Prop} (c : P) (h : A) : (P → A) ∧ (¬ P → B) := ⟨fun _ => h, fun n => absurd c n⟩
theorem ifN {P A B : Prop} (c : ¬ P) (h : B) : (P → A) ∧ (¬ P → B) := ⟨fun n => absurd n c, fun _ => h⟩
theorem ifP' {P A B : Prop} (c : P) (h : A) : (¬ P → B) ∧ (P → A) := ⟨fun n => absurd c n, fun _ => h⟩
theorem ifN' {P A B : Prop} (c : ¬ P) (h : B) : (¬ P → B) ∧ (P → A) := ⟨fun _ => h, fun n => absurd n c⟩
/-- 0 or 1 -/
def b01 (b : Bool) : Nat := if b = true then 1 else 0
theorem nb0 : (narrow .boolean (.int (nI 0)) = .int (nI 0)) := by decide
theorem nb1 : (narrow .boolean (.int (nI 1)) = .int (nI 1)) := by decide
theorem isFloor_t {f : Nat} (hf : f < 10) {Q : Int32 → Prop} (h : Q (nI 1)) : wp_X7_isFloor (nI f) Q := in_t (by omega) (by omega) (by omega) (by omega) (by omega) ⟨nb1, h⟩
theorem isPerson_t {f : Nat} (hf : f < 16) {Q : Int32 → Prop} (h : Q (nI 1)) : wp_X7_isPerson (nI f) Q := in_t (by omega) (by omega) (by omega) (by omega) (by omega) ⟨nb1, h⟩
theorem isDay_t {f : Nat} (hf : f < 400) {Q : Int32 → Prop} (h : Q (nI 1)) : wp_X7_isDay (nI f) Q := in_t (by omega) (by omega) (by omega) (by omega) (by omega) ⟨nb1, h⟩
theorem isFloor_f {x : Int32} (hx : ¬ ∃ f, f < 10 ∧ x = nI f) {Q : Int32 → Prop} (h : Q (nI 0)) : wp_X7_isFloor x Q := in_f (by omega) (by omega) (fun n _ h2 e => hx ⟨n, by omega, e⟩) ⟨nb0, h⟩
theorem isPerson_f {x : Int32} (hx : ¬ ∃ f, f < 16 ∧ x = nI f) {Q : Int32 → Prop} (h : Q (nI 0)) : wp_X7_isPerson x Q := in_f (by omega) (by omega) (fun n _ h2 e => hx ⟨n, by omega, e⟩) ⟨nb0, h⟩
theorem isDay_f {x : Int32} (hx : ¬ ∃ f, f < 400 ∧ x = nI f) {Q : Int32 → Prop} (h : Q (nI 0)) : wp_X7_isDay x Q := in_f (by omega) (by omega) (fun n _ h2 e => hx ⟨n, by omega, e⟩) ⟨nb0, h⟩
/-! the history's rows of the reference -/
def recM (m : Nat) : Nat := if m = 4 then 3 else m
def recS (HN : Nat → Nat) (m : Nat) : Nat → Nat := if m = 4 then (fun j => if j < 1422 then HN (j + 474) else HN j) else HN
/-- the states kept, one more behind -/
def recH (N HN : Nat → Nat) (m : Nat) : Nat → Nat := fun j => if 474 * recM m ≤ j ∧ j < 474 * recM m + 474 then N (j - 474 * recM m) else recS HN m j
theorem records_10 {HN : Nat → Nat} {K : (Nat → Int32) → Prop} (hK : K (sN (fun j => if j < 1422 then HN (j + 474) else HN j))) : ∀ (m k : Nat), k + m = 1422 → wb_X7_records_10 K (m + 1) (sN (fun j => if j < k then HN (j + 474) else HN j)) (nI k) := by
  intro m
  induction m with
  | zero =>
    intro k hk
    obtain rfl : k = 1422 := by omega
    rw [wb_X7_records_10]
    exact ifP (by decide) hK
  | succ m ih =>
    intro k hk
    rw [wb_X7_records_10]
    simp (disch := omega) only [sN, nI_add, pk_mul, nz_cl, nz_le, nz_lt, nz_eq, nz_eq0, nz_le0, nz_lt0, nz_0lt, nz_m5, nz_inT, true_and, and_true, forall_eq, not_false_eq_true, not_true_eq_false, true_imp_iff, false_imp_iff, implies_true, upd_sN, upd_f, un_s, un_n, nz_sub, nz_one0]
    refine ⟨fun c => absurd c (by omega), fun _ => ?_⟩
    have := ih (k + 1) (by omega)
    refine Eq.mp ?_ this
    congr 1
    funext j
    simp only [sN, un]
    by_cases e : j = k
    · subst e
      rw [if_pos rfl, if_pos (by omega), if_neg (by omega)]
    · rw [if_neg e]
      by_cases e2 : j < k
      · rw [if_pos e2, if_pos (by omega)]
      · rw [if_neg e2, if_neg (by omega)]
theorem records_51 {N H : Nat → Nat} {q : Nat} (hq : q < 4) {K : (Nat → Int32) → Prop} (hK : K (sN (fun j => if 474 * q ≤ j ∧ j < 474 * q + 474 then N (j - 474 * q) else H j))) : ∀ (m k : Nat), k + m = 474 → wb_X7_records_51 (nI q) (sN N) K (m + 1) (sN (fun j => if 474 * q ≤ j ∧ j < 474 * q + k then N (j - 474 * q) else H j)) (nI k) := by
  intro m
  induction m with
  | zero =>
    intro k hk
    obtain rfl : k = 474 := by omega
    rw [wb_X7_records_51]
    exact ifP (by decide) hK
  | succ m ih =>
    intro k hk
    rw [wb_X7_records_51]
    simp (disch := omega) only [sN, nI_add, pk_mul, nz_cl, nz_le, nz_lt, nz_eq, nz_eq0, nz_le0, nz_lt0, nz_0lt, nz_m5, nz_inT, true_and, and_true, forall_eq, not_false_eq_true, not_true_eq_false, true_imp_iff, false_imp_iff, implies_true, upd_sN, upd_f, un_s, un_n, nz_sub, nz_one0]
    refine ⟨fun c => absurd c (by omega), fun _ => ?_⟩
    have := ih (k + 1) (by omega)
    refine Eq.mp ?_ this
    congr 1
    funext j
    simp only [sN, un]
    by_cases e : j = 474 * q + k
    · subst e
      rw [if_pos rfl, if_pos (by omega)]
      congr 2
      omega
    · rw [if_neg e]
      by_cases e2 : 474 * q ≤ j ∧ j < 474 * q + k
      · rw [if_pos e2, if_pos (by omega)]
      · rw [if_neg e2, if_neg (by omega)]
theorem records_ok {N HN : Nat → Nat} {m : Nat} (hm : m ≤ 4) {Q : Int32 → (Nat → Int32) → Prop} (h : Q (nI (recM m + 1)) (sN (recH N HN m))) : wp_X7_records (nI m) (sN N) (sN HN) Q := by
  unfold wp_X7_records
  rcases Nat.lt_or_ge m 4 with q | q
  · refine ifN' (by rw [nz_eq (by omega) (by omega)]; omega) ⟨475, ?_⟩
    have e : recM m = m := if_neg (by omega)
    have e2 : recS HN m = HN := if_neg (by omega)
    have e0 : (fun j => if 474 * m ≤ j ∧ j < 474 * m + 0 then N (j - 474 * m) else HN j) = HN := by funext j; rw [if_neg (by omega)]
    have := records_51 (N := N) (H := HN) (q := m) q (K := fun T_states3 => ∀ T_stateMany4, T_stateMany4 = nI m + nI 1 → Q T_stateMany4 T_states3) (fun z hz => ?_) 474 0 (by omega)
    · rw [e0] at this
      exact this
    · subst hz
      rw [nI_add]
      unfold recH at h
      rw [e, e2] at h
      exact h
  · obtain rfl : m = 4 := by omega
    refine ifP' rfl ⟨1423, ?_⟩
    have e0 : (fun j => if j < 0 then HN (j + 474) else HN j) = HN := by funext j; rw [if_neg (by omega)]
    have := records_10 (HN := HN) (K := fun T_states6 => ∀ T_stateMany7, T_stateMany7 = nI 4 - nI 1 → (∃ n8, wb_X7_records_51 T_stateMany7 (sN N) (fun T_states9 => ∀ T_stateMany10, T_stateMany10 = T_stateMany7 + nI 1 → Q T_stateMany10 T_states9) n8 T_states6 (nI 0))) (fun z hz => ?_) 1422 0 (by omega)
    · rw [e0] at this
      exact this
    · obtain rfl : z = nI 3 := by rw [hz]; decide
      refine ⟨475, ?_⟩
      have e1 : (fun j => if 474 * 3 ≤ j ∧ j < 474 * 3 + 0 then N (j - 474 * 3) else (fun j => if j < 1422 then HN (j + 474) else HN j) j) = (fun j => if j < 1422 then HN (j + 474) else HN j) := by funext j; rw [if_neg (by omega)]
      have := records_51 (N := N) (H := fun j => if j < 1422 then HN (j + 474) else HN j) (q := 3) (by omega) (K := fun T_states9 => ∀ T_stateMany10, T_stateMany10 = nI 3 + nI 1 → Q T_stateMany10 T_states9) (fun z hz => ?_) 474 0 (by omega)
      · rw [e1] at this
        exact this
      · subst hz
        exact h
/-! leaves -/
def ovl (N : Nat → Nat) (p a b k : Nat) : Bool := decide (N (350 + 3 * k) = p ∧ N (351 + 3 * k) ≤ b ∧ a ≤ N (352 + 3 * k))
def ovOn (N : Nat → Nat) (p a b : Nat) : Nat := fnd (ovl N p a b) (N 6) 0
theorem isAway_1 {N : Nat → Nat} (h6 : N 6 ≤ 41) {x1 x2 x3 : Int32} {K : Int32 → Prop} (hK : K (nI 1)) : ∀ (m k : Nat), k + m = N 6 → wb_X7_isAway_6 (sN N) x1 x2 x3 K (m + 1) (nI 1) (nI k) := by
  intro m
  induction m with
  | zero =>
    intro k hk
    rw [wb_X7_isAway_6]
    simp (disch := omega) only [sN, nI_add, pk_mul, nz_cl, nz_le, nz_lt, nz_eq, nz_eq0, nz_le0, nz_lt0, nz_0lt, nz_m5, nz_inT, true_and, and_true, forall_eq, not_false_eq_true, not_true_eq_false, true_imp_iff, false_imp_iff, implies_true]
    exact ⟨fun _ => hK, fun c => absurd (by omega) c⟩
  | succ m ih =>
    intro k hk
    rw [wb_X7_isAway_6]
    simp (disch := omega) only [sN, nI_add, pk_mul, nz_cl, nz_le, nz_lt, nz_eq, nz_eq0, nz_le0, nz_lt0, nz_0lt, nz_m5, nz_inT, true_and, and_true, forall_eq, not_false_eq_true, not_true_eq_false, true_imp_iff, false_imp_iff, implies_true, upd_sN, upd_f, un_s, un_n, nz_sub, nz_one0]
    exact ⟨fun c => absurd c (by omega), fun _ => ih (k + 1) (by omega)⟩
theorem isAway_loop {N : Nat → Nat} (hI : PInv N) {p a b : Nat} (hp : p < 16) (ha : a < 1000) (hb : b < 1000) {K : Int32 → Prop} : ∀ (m k : Nat), k + m = N 6 → (fnd (ovl N p a b) m k < N 6 → K (nI 1)) → (fnd (ovl N p a b) m k = N 6 → K (nI 0)) → wb_X7_isAway_6 (sN N) (nI p) (nI a) (nI b) K (m + 1) (nI 0) (nI k) := by
  obtain ⟨-, -, -, h6, -, hl⟩ := hI
  intro m
  induction m with
  | zero =>
    intro k hk hQ hK
    rw [wb_X7_isAway_6]
    simp (disch := omega) only [sN, nI_add, pk_mul, nz_cl, nz_le, nz_lt, nz_eq, nz_eq0, nz_le0, nz_lt0, nz_0lt, nz_m5, nz_inT, true_and, and_true, forall_eq, not_false_eq_true, not_true_eq_false, true_imp_iff, false_imp_iff, implies_true]
    exact ⟨fun _ => hK (by simp only [fnd]; omega), fun c => absurd (by omega) c⟩
  | succ m ih =>
    intro k hk hQ hK
    have hlk := hl k (by omega)
    rw [wb_X7_isAway_6]
    simp (disch := omega) only [sN, nI_add, pk_mul, nz_cl, nz_le, nz_lt, nz_eq, nz_eq0, nz_le0, nz_lt0, nz_0lt, nz_m5, nz_inT, true_and, and_true, forall_eq, not_false_eq_true, not_true_eq_false, true_imp_iff, false_imp_iff, implies_true]
    refine ⟨fun c => absurd c (by omega), fun _ => ?_⟩
    have next : ¬ ovl N p a b k = true → wb_X7_isAway_6 (sN N) (nI p) (nI a) (nI b) K (m + 1) (nI 0) (nI (k + 1)) := by
      intro hn
      simp only [fnd, if_neg hn] at hQ hK
      exact ih (k + 1) (by omega) hQ hK
    refine ofLeave_ok (by omega) (by omega) ?_
    simp (disch := omega) only [sN, nI_add, pk_mul, nz_cl, nz_le, nz_lt, nz_eq, nz_eq0, nz_le0, nz_lt0, nz_0lt, nz_m5, nz_inT, true_and, and_true, forall_eq, not_false_eq_true, not_true_eq_false, true_imp_iff, false_imp_iff, implies_true, Nat.add_zero]
    refine ⟨fun c => next (fun e => c (of_decide_eq_true e).1), fun c1 => ofLeave_ok (by omega) (by omega) ?_⟩
    rw [show 350 + 3 * k + 1 = 351 + 3 * k by omega]
    simp (disch := omega) only [sN, nI_add, pk_mul, nz_cl, nz_le, nz_lt, nz_eq, nz_eq0, nz_le0, nz_lt0, nz_0lt, nz_m5, nz_inT, true_and, and_true, forall_eq, not_false_eq_true, not_true_eq_false, true_imp_iff, false_imp_iff, implies_true]
    refine ⟨fun c => next (fun e => absurd (of_decide_eq_true e).2.1 (by omega)), fun c2 => ofLeave_ok (by omega) (by omega) ?_⟩
    rw [show 350 + 3 * k + 2 = 352 + 3 * k by omega]
    simp (disch := omega) only [sN, nI_add, pk_mul, nz_cl, nz_le, nz_lt, nz_eq, nz_eq0, nz_le0, nz_lt0, nz_0lt, nz_m5, nz_inT, true_and, and_true, forall_eq, not_false_eq_true, not_true_eq_false, true_imp_iff, false_imp_iff, implies_true]
    refine ⟨fun c => next (fun e => absurd (of_decide_eq_true e).2.2 (by omega)), fun c3 => ?_⟩
    have hy : ovl N p a b k = true := decide_eq_true ⟨c1, by omega, by omega⟩
    simp only [fnd, if_pos hy] at hQ
    exact isAway_1 h6 (hQ (by omega)) m (k + 1) (by omega)
theorem isAway_ok {N : Nat → Nat} (hI : PInv N) {p a b : Nat} (hp : p < 16) (ha : a < 1000) (hb : b < 1000) {Q : Int32 → Prop} (h1 : ovOn N p a b < N 6 → Q (nI 1)) (h0 : ovOn N p a b = N 6 → Q (nI 0)) : wp_X7_isAway (sN N) (nI p) (nI a) (nI b) Q :=
  ⟨N 6 + 1, isAway_loop hI hp ha hb (N 6) 0 (by omega) (fun c => ⟨nb1, h1 c⟩) (fun c => ⟨nb0, h0 c⟩)⟩
/-- one leave more -/
def grN (N : Nat → Nat) (p a b : Nat) : Nat → Nat := un (un (un (un N (350 + 3 * N 6) p) (350 + 3 * N 6 + 1) a) (350 + 3 * N 6 + 2) b) 6 (N 6 + 1)
theorem grants_ok {N : Nat → Nat} (h6 : N 6 ≤ 40) {p a b : Nat} {Q : (Nat → Int32) → Prop} (h : Q (sN (grN N p a b))) : wp_X7_grants (sN N) (nI p) (nI a) (nI b) Q := by
  unfold wp_X7_grants
  simp (disch := omega) only [sN, nI_add, pk_mul, nz_cl, nz_le, nz_lt, nz_eq, nz_eq0, nz_le0, nz_lt0, nz_0lt, nz_m5, nz_inT, true_and, and_true, forall_eq, not_false_eq_true, not_true_eq_false, true_imp_iff, false_imp_iff, implies_true, upd_sN, upd_f, un_s, un_n, nz_sub, nz_one0]
  exact h
def dr1 (N : Nat → Nat) (k x : Nat) : Nat → Nat := fun j => if j = 6 then N 6 - 1 else if 350 + 3 * k ≤ j ∧ j < 350 + x then N (j + 3) else N j
/-- the leave k less -/
def drN (N : Nat → Nat) (k : Nat) : Nat → Nat := fun j => if 350 + 3 * (N 6 - 1) ≤ j ∧ j < 350 + 3 * N 6 then 0 else dr1 N k (3 * (N 6 - 1)) j
theorem drops_15 {N : Nat → Nat} (h6 : N 6 ≤ 41) {a : Nat} (ha : a + 1 ≤ N 6) {K : (Nat → Int32) → Prop} (hK : K (sN (dr1 N a (3 * (N 6 - 1))))) : ∀ (m k : Nat), 3 * a ≤ k → k + m = 3 * (N 6 - 1) → wb_X7_drops_15 K (m + 1) (sN (dr1 N a k)) (nI k) := by
  have e6 : ∀ k, dr1 N a k 6 = N 6 - 1 := fun k => if_pos rfl
  intro m
  induction m with
  | zero =>
    intro k h3 hk
    obtain rfl : k = 3 * (N 6 - 1) := by omega
    rw [wb_X7_drops_15]
    simp (disch := omega) only [sN, nI_add, pk_mul, nz_cl, nz_le, nz_lt, nz_eq, nz_eq0, nz_le0, nz_lt0, nz_0lt, nz_m5, nz_inT, true_and, and_true, forall_eq, not_false_eq_true, not_true_eq_false, true_imp_iff, false_imp_iff, implies_true, upd_sN, upd_f, un_s, un_n, nz_sub, nz_one0, e6]
    exact ⟨fun _ => hK, fun c => absurd (Nat.le_refl _) c⟩
  | succ m ih =>
    intro k h3 hk
    rw [wb_X7_drops_15]
    simp (disch := omega) only [sN, nI_add, pk_mul, nz_cl, nz_le, nz_lt, nz_eq, nz_eq0, nz_le0, nz_lt0, nz_0lt, nz_m5, nz_inT, true_and, and_true, forall_eq, not_false_eq_true, not_true_eq_false, true_imp_iff, false_imp_iff, implies_true, upd_sN, upd_f, un_s, un_n, nz_sub, nz_one0, e6]
    refine ⟨fun c => absurd c (by omega), fun _ => ?_⟩
    have := ih (k + 1) (by omega) (by omega)
    refine Eq.mp ?_ this
    congr 1
    funext j
    simp only [sN, un, dr1]
    by_cases e : j = 350 + k
    · subst e
      rw [if_neg (by omega), if_pos (by omega), if_pos rfl, if_neg (by omega), if_neg (by omega)]
    · rw [if_neg e]
      by_cases e6 : j = 6
      · rw [if_pos e6, if_pos e6]
      · rw [if_neg e6, if_neg e6]
        by_cases e2 : 350 + 3 * a ≤ j ∧ j < 350 + k
        · rw [if_pos e2, if_pos (by omega)]
        · rw [if_neg e2, if_neg (by omega)]
theorem drops_58 {N : Nat → Nat} {z : Nat} (h6 : z ≤ 40) (ez : N 6 = z) {K : (Nat → Int32) → Prop} (hK : K (sN (fun j => if 350 + 3 * z ≤ j ∧ j < 350 + 3 * z + 3 then 0 else N j))) : ∀ (m k : Nat), k + m = 3 → wb_X7_drops_58 K (m + 1) (sN (fun j => if 350 + 3 * z ≤ j ∧ j < 350 + 3 * z + k then 0 else N j)) (nI k) := by
  intro m
  induction m with
  | zero =>
    intro k hk
    obtain rfl : k = 3 := by omega
    rw [wb_X7_drops_58]
    exact ifP (by decide) hK
  | succ m ih =>
    intro k hk
    have e6 : (if 350 + 3 * z ≤ 6 ∧ 6 < 350 + 3 * z + k then 0 else N 6) = z := by rw [if_neg (by omega)]; exact ez
    rw [wb_X7_drops_58]
    simp (disch := omega) only [sN, nI_add, pk_mul, nz_cl, nz_le, nz_lt, nz_eq, nz_eq0, nz_le0, nz_lt0, nz_0lt, nz_m5, nz_inT, true_and, and_true, forall_eq, not_false_eq_true, not_true_eq_false, true_imp_iff, false_imp_iff, implies_true, upd_sN, upd_f, un_s, un_n, nz_sub, nz_one0, e6]
    refine ⟨fun c => absurd c (by omega), fun _ => ?_⟩
    have := ih (k + 1) (by omega)
    refine Eq.mp ?_ this
    congr 1
    funext j
    simp only [sN, un]
    by_cases e : j = 350 + 3 * z + k
    · rw [if_pos e, if_pos (by omega)]
    · rw [if_neg e]
      by_cases e2 : 350 + 3 * z ≤ j ∧ j < 350 + 3 * z + k
      · rw [if_pos e2, if_pos (by omega)]
      · rw [if_neg e2, if_neg (by omega)]
theorem drops_ok {N : Nat → Nat} (h6 : N 6 ≤ 41) {k : Nat} (hk : k < N 6) {Q : (Nat → Int32) → Prop} (h : Q (sN (drN N k))) : wp_X7_drops (sN N) (nI k) Q := by
  unfold wp_X7_drops
  simp (disch := omega) only [sN, nI_add, pk_mul, nz_cl, nz_le, nz_lt, nz_eq, nz_eq0, nz_le0, nz_lt0, nz_0lt, nz_m5, nz_inT, true_and, and_true, forall_eq, not_false_eq_true, not_true_eq_false, true_imp_iff, false_imp_iff, implies_true, upd_sN, upd_f, un_s, un_n, nz_sub, nz_one0]
  refine ⟨3 * (N 6 - 1) - 3 * k + 1, ?_⟩
  have e0 : un N 6 (N 6 - 1) = dr1 N k (3 * k) := by
    funext j
    unfold un dr1
    split
    · rfl
    · rw [if_neg (by omega)]
  rw [e0]
  refine drops_15 h6 (by omega) ⟨4, ?_⟩ _ (3 * k) (by omega) (by omega)
  have e1 : (fun j => if 350 + 3 * (N 6 - 1) ≤ j ∧ j < 350 + 3 * (N 6 - 1) + 0 then 0 else dr1 N k (3 * (N 6 - 1)) j) = dr1 N k (3 * (N 6 - 1)) := by funext j; rw [if_neg (by omega)]
  have := drops_58 (N := dr1 N k (3 * (N 6 - 1))) (z := N 6 - 1) (by omega) (if_pos rfl) (K := fun T_s6 => Q T_s6) ?_ 3 0 (by omega)
  · rw [e1] at this
    exact this
  · have e2 : (fun j => if 350 + 3 * (N 6 - 1) ≤ j ∧ j < 350 + 3 * (N 6 - 1) + 3 then 0 else dr1 N k (3 * (N 6 - 1)) j) = drN N k := by
      funext j
      unfold drN
      rw [show 350 + 3 * (N 6 - 1) + 3 = 350 + 3 * N 6 by omega]
    rw [e2]
    exact h
/-! rows of floors -/
def enN (N : Nat → Nat) (f p : Nat) : Nat → Nat := un (un N (10 + 31 * f + N (9 + 31 * f)) p) (9 + 31 * f) (N (9 + 31 * f) + 1)
theorem enlists_ok {N : Nat → Nat} {f p : Nat} (hf : f < 10) (hm : N (9 + 31 * f) < 5) {Q : Int32 → (Nat → Int32) → Prop} (h : Q (nI (N (9 + 31 * f) + 1)) (sN (enN N f p))) : wp_X7_enlists (sN N) (nI f) (nI p) Q := by
  unfold wp_X7_enlists
  refine of_ok hf (by omega) ?_
  rw [show 8 + 31 * f + 1 = 9 + 31 * f by omega, nI_add]
  refine lay_ok hf (by omega) (of_ok hf (by omega) ?_)
  rw [show 8 + 31 * f + 1 = 9 + 31 * f by omega, show 8 + 31 * f + (2 + N (9 + 31 * f)) = 10 + 31 * f + N (9 + 31 * f) by omega, un_n (by omega), nI_add]
  refine lay_ok hf (by omega) (of_ok hf (by omega) ?_)
  rw [show 8 + 31 * f + 1 = 9 + 31 * f by omega, un_s]
  exact h
def st1 (N : Nat → Nat) (f a x : Nat) : Nat → Nat := fun j => if j = 9 + 31 * f then N (9 + 31 * f) - 1 else if 10 + 31 * f + a ≤ j ∧ j < 10 + 31 * f + x then N (j + 1) else N j
def stN (N : Nat → Nat) (f k : Nat) : Nat → Nat := un (st1 N f k (N (9 + 31 * f) - 1)) (10 + 31 * f + (N (9 + 31 * f) - 1)) 0
theorem strikes_24 {N : Nat → Nat} {f a : Nat} (hf : f < 10) (hm : N (9 + 31 * f) ≤ 5) (ha : a + 1 ≤ N (9 + 31 * f)) {K : (Nat → Int32) → Prop} (hK : K (sN (st1 N f a (N (9 + 31 * f) - 1)))) : ∀ (m k : Nat), a ≤ k → k + m = N (9 + 31 * f) - 1 → wb_X7_strikes_24 (nI f) K (m + 1) (sN (st1 N f a k)) (nI k) := by
  have e6 : ∀ k, st1 N f a k (8 + 31 * f + 1) = N (9 + 31 * f) - 1 := fun k => if_pos (by omega)
  intro m
  induction m with
  | zero =>
    intro k h3 hk
    obtain rfl : k = N (9 + 31 * f) - 1 := by omega
    rw [wb_X7_strikes_24]
    refine of_ok hf (by omega) ?_
    rw [e6]
    exact ifP (nI_le (by omega) (by omega)) hK
  | succ m ih =>
    intro k h3 hk
    rw [wb_X7_strikes_24]
    refine of_ok hf (by omega) ?_
    rw [e6]
    simp (disch := omega) only [sN, nI_add, pk_mul, nz_cl, nz_le, nz_lt, nz_eq, nz_eq0, nz_le0, nz_lt0, nz_0lt, nz_m5, nz_inT, true_and, and_true, forall_eq, not_false_eq_true, not_true_eq_false, true_imp_iff, false_imp_iff, implies_true, upd_sN, upd_f, un_s, un_n, nz_sub, nz_one0]
    refine ⟨fun c => absurd c (by omega), fun _ => of_ok hf (by omega) (lay_ok hf (by omega) ?_)⟩
    have := ih (k + 1) (by omega) (by omega)
    try simp (disch := omega) only [sN, nI_add, pk_mul, nz_cl, nz_le, nz_lt, nz_eq, nz_eq0, nz_le0, nz_lt0, nz_0lt, nz_m5, nz_inT, true_and, and_true, forall_eq, not_false_eq_true, not_true_eq_false, true_imp_iff, false_imp_iff, implies_true, upd_sN, upd_f, un_s, un_n, nz_sub, nz_one0]
    refine Eq.mp ?_ this
    congr 1
    funext j
    simp only [sN, un, st1]
    by_cases e : j = 8 + 31 * f + (2 + k)
    · subst e
      rw [if_neg (by omega), if_pos (by omega), if_pos rfl, if_neg (by omega), if_neg (by omega)]
      congr 2
    · rw [if_neg e]
      by_cases e6 : j = 9 + 31 * f
      · rw [if_pos e6, if_pos e6]
      · rw [if_neg e6, if_neg e6]
        by_cases e2 : 10 + 31 * f + a ≤ j ∧ j < 10 + 31 * f + k
        · rw [if_pos e2, if_pos (by omega)]
        · rw [if_neg e2, if_neg (by omega)]
theorem strikes_ok {N : Nat → Nat} (hI : PInv N) {f p : Nat} (hf : f < 10) (hp : p < 16) (hk : plIn N f p < mn N f) {Q : Int32 → (Nat → Int32) → Prop} (h : Q (nI (N (9 + 31 * f) - 1)) (sN (stN N f (plIn N f p)))) : wp_X7_strikes (sN N) (nI f) (nI p) Q := by
  have hm := mn_at (N := N) hf
  have hm5 := mn_le hI f
  unfold wp_X7_strikes
  refine placeIn_ok hI hf hp (fun _ => ?_) (fun c => absurd c (by omega))
  generalize plIn N f p = a at hk h
  refine of_ok hf (by omega) ?_
  rw [show 8 + 31 * f + 1 = 9 + 31 * f by omega, nz_sub (by omega)]
  refine lay_ok hf (by omega) ⟨N (9 + 31 * f) - 1 - a + 1, ?_⟩
  have e0 : un N (8 + 31 * f + 1) (N (9 + 31 * f) - 1) = st1 N f a a := by
    funext j
    unfold un st1
    rw [show 8 + 31 * f + 1 = 9 + 31 * f by omega]
    split
    · rfl
    · rw [if_neg (by omega)]
  have e6 : ∀ k, st1 N f a k (8 + 31 * f + 1) = N (9 + 31 * f) - 1 := fun k => if_pos (by omega)
  rw [e0]
  refine strikes_24 hf (by omega) (by omega) (of_ok hf (by omega) ?_) _ a (Nat.le_refl _) (by omega)
  rw [e6, nI_add]
  refine lay_ok hf (by omega) (of_ok hf (by omega) ?_)
  rw [un_n (by omega), e6, show 8 + 31 * f + (2 + (N (9 + 31 * f) - 1)) = 10 + 31 * f + (N (9 + 31 * f) - 1) by omega]
  exact h
