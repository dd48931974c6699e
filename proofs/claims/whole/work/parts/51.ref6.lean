/-! drills of the reference -/
theorem leavesOf_m {N : Nat → Nat} (hI : PInv N) {p : Nat} (hp : p < 16) {Q : Int32 → Prop} (h : Q (nI (sm (lvMany N p) (N 6)))) : wp_X7_leavesOf (sN N) (nI p) (nI 0) Q :=
  ⟨N 6 + 1, leavesOf_many hI hp h (N 6) 0 (by omega)⟩
theorem leavesOf_d {N : Nat → Nat} (hI : PInv N) (ho : ∀ k, k < N 6 → N (351 + 3 * k) ≤ N (352 + 3 * k)) {p : Nat} (hp : p < 16) {Q : Int32 → Prop} (h : Q (nI (sm (lvDays N p) (N 6)))) : wp_X7_leavesOf (sN N) (nI p) (nI 1) Q :=
  ⟨N 6 + 1, leavesOf_days hI ho hp h (N 6) 0 (by omega)⟩
theorem persons_serve {N : Nat → Nat} (hI : PInv N) (hd : N 3 ≤ 399) {s1 s2 s3 s4 : Nat → Int32} {Q : Int32 → (Nat → Int32) → (Nat → Int32) → (Nat → Int32) → (Nat → Int32) → Prop} (h : ∀ s1 s2 s3 s4, Q (nI (sm (fun p => b01 (decide (0 < (plan N (able N (N 3))).1 p))) 16)) s1 s2 s3 s4) : wp_X7_persons (sN N) s1 s2 s3 s4 (nI 1) Q := by
  unfold wp_X7_persons
  simp (disch := omega) only [sN, nI_add, pk_mul, nz_cl, nz_le, nz_lt, nz_eq, nz_eq0, nz_le0, nz_lt0, nz_0lt, nz_m5, nz_inT, true_and, and_true, forall_eq, not_false_eq_true, not_true_eq_false, true_imp_iff, false_imp_iff, implies_true]
  refine plans_ok hI (by omega) (fun t1 t2 t3 t4 hR => ⟨17, ?_⟩)
  refine persons_loop hI hd (g := fun p => decide (0 < (plan N (able N (N 3))).1 p)) (w := 1) (by omega) (fun _ p hp => ?_) (fun c => absurd c (by omega)) (h _ _ _ _) 16 0 (by omega)
  rw [hR.1 p hp]
  have h10 := (PI_plan hI (able N (N 3))).1 p
  constructor
  · intro c
    split at c
    · rename_i q
      rw [q]
      rfl
    · exact absurd c (by rw [nz_m5 (by omega)]; exact id)
  · intro c
    rw [if_pos (by have := of_decide_eq_false c; omega)]
theorem persons_away {N : Nat → Nat} (hI : PInv N) (hd : N 3 ≤ 399) {s1 s2 s3 s4 : Nat → Int32} {Q : Int32 → (Nat → Int32) → (Nat → Int32) → (Nat → Int32) → (Nat → Int32) → Prop} (h : ∀ s1 s2 s3 s4, Q (nI (sm (fun p => b01 (away N p (N 3))) 16)) s1 s2 s3 s4) : wp_X7_persons (sN N) s1 s2 s3 s4 (nI 0) Q := by
  unfold wp_X7_persons
  simp (disch := omega) only [sN, nI_add, pk_mul, nz_cl, nz_le, nz_lt, nz_eq, nz_eq0, nz_le0, nz_lt0, nz_0lt, nz_m5, nz_inT, true_and, and_true, forall_eq, not_false_eq_true, not_true_eq_false, true_imp_iff, false_imp_iff, implies_true]
  refine plans_ok hI (by omega) (fun t1 t2 t3 t4 hR => ⟨17, ?_⟩)
  exact persons_loop hI hd (g := fun p => away N p (N 3)) (w := 0) (by omega) (fun c => absurd c (by omega)) (fun _ p hp => rfl) (h _ _ _ _) 16 0 (by omega)
theorem refusesPass_ok {N : Nat → Nat} (hd : N 3 ≤ 399) {k : Nat} (h1 : 1 ≤ k) (h2 : k ≤ 99) {Q : Int32 → Prop} (hs : N 3 + k ≤ 399 → Q (nI 0)) (hf : 399 < N 3 + k → Q (-3)) : wp_X7_refusesPass (sN N) (nI k) Q := by
  unfold wp_X7_refusesPass
  refine in_t (by omega) (by omega) (by omega) h1 h2 (ifN' nz10 ?_)
  simp (disch := omega) only [sN, nI_add, pk_mul, nz_cl, nz_le, nz_lt, nz_eq, nz_eq0, nz_le0, nz_lt0, nz_0lt, nz_m5, nz_inT, true_and, and_true, forall_eq, not_false_eq_true, not_true_eq_false, true_imp_iff, false_imp_iff, implies_true]
  exact ⟨fun c => hs c, fun c => hf (by omega)⟩
theorem refusesPass_f {N : Nat → Nat} {x : Int32} (hx : ¬ ∃ k, 1 ≤ k ∧ k ≤ 99 ∧ x = nI k) {Q : Int32 → Prop} (h : Q (-2)) : wp_X7_refusesPass (sN N) x Q := by
  unfold wp_X7_refusesPass
  exact in_f (by omega) (by omega) (fun n a b e => hx ⟨n, a, b, e⟩) (ifP' nI_0 h)
def lg1 (N : Nat → Nat) (f x : Nat) : Nat → Nat := fun j => if 17 + 31 * f ≤ j ∧ j < 17 + 31 * f + x then N (j + 3) else N j
theorem drills_28 {N : Nat → Nat} {f : Nat} (hf : f < 10) {K : (Nat → Int32) → Prop} (hK : K (sN (lg1 N f 15))) : ∀ (m k : Nat), k + m = 15 → wb_X7_drills_28 (nI f) K (m + 1) (sN (lg1 N f k)) (nI k) := by
  intro m
  induction m with
  | zero =>
    intro k hk
    obtain rfl : k = 15 := by omega
    rw [wb_X7_drills_28]
    exact ifP (by decide) hK
  | succ m ih =>
    intro k hk
    rw [wb_X7_drills_28]
    simp (disch := omega) only [sN, nI_add, pk_mul, nz_cl, nz_le, nz_lt, nz_eq, nz_eq0, nz_le0, nz_lt0, nz_0lt, nz_m5, nz_inT, true_and, and_true, forall_eq, not_false_eq_true, not_true_eq_false, true_imp_iff, false_imp_iff, implies_true, upd_sN, upd_f, un_s, un_n, nz_sub, nz_one0]
    refine ⟨fun c => absurd c (by omega), fun _ => of_ok hf (by omega) (lay_ok hf (by omega) ?_)⟩
    have := ih (k + 1) (by omega)
    try simp (disch := omega) only [sN, nI_add, pk_mul, nz_cl, nz_le, nz_lt, nz_eq, nz_eq0, nz_le0, nz_lt0, nz_0lt, nz_m5, nz_inT, true_and, and_true, forall_eq, not_false_eq_true, not_true_eq_false, true_imp_iff, false_imp_iff, implies_true, upd_sN, upd_f, un_s, un_n, nz_sub, nz_one0]
    refine Eq.mp ?_ this
    congr 1
    funext j
    simp only [sN, un, lg1]
    by_cases e : j = 8 + 31 * f + (9 + k)
    · subst e
      rw [if_pos (by omega), if_pos rfl, if_neg (by omega)]
      congr 2
    · rw [if_neg e]
      by_cases e2 : 17 + 31 * f ≤ j ∧ j < 17 + 31 * f + k
      · rw [if_pos e2, if_pos (by omega)]
      · rw [if_neg e2, if_neg (by omega)]
/-- a drill is entered: N with its log made free, k entries before it -/
def dl0 (N : Nat → Nat) (f k m l : Nat) : Nat → Nat := un (un (un (un (un (un (un (un (un N (17 + 31 * f + 3 * k) (N 3)) (18 + 31 * f + 3 * k) m) (19 + 31 * f + 3 * k) l) (16 + 31 * f) (k + 1)) (15 + 31 * f) (N (15 + 31 * f) + 1)) (35 + 31 * f + N 3 / 100) 1) (319 + 2 * l) (N (319 + 2 * l) + 1)) 4 (N 4 + 1)) 5 (N 5 + m)
def dlN (N : Nat → Nat) (f m l : Nat) : Nat → Nat := if N (16 + 31 * f) = 6 then dl0 (lg1 N f 15) f 5 m l else dl0 N f (N (16 + 31 * f)) m l
theorem drills_66 {N : Nat → Nat} {f k m l : Nat} (hf : f < 10) (hk : k < 6) (hl : l < 16) (h3 : N 3 ≤ 399) {Q : Int32 → (Nat → Int32) → Prop} (h : Q (nI l) (sN (dl0 N f k m l))) : wb_X7_drills_66 (sN N) (nI f) (nI m) (nI l) (nI k) Q := by
  have hd : N 3 / 100 < 4 := by omega
  unfold wb_X7_drills_66
  simp (disch := omega) only [sN, nI_add, pk_mul, nz_cl, nz_le, nz_lt, nz_eq, nz_eq0, nz_le0, nz_lt0, nz_0lt, nz_m5, nz_inT, true_and, and_true, forall_eq, not_false_eq_true, not_true_eq_false, true_imp_iff, false_imp_iff, implies_true, upd_sN, upd_f, un_s, un_n, nz_sub, nz_one0]
  refine lay_ok hf (by omega) (lay_ok hf (by omega) (lay_ok hf (by omega) (lay_ok hf (by omega) (of_ok hf (by omega) ?_))))
  rw [un_n (by omega), un_n (by omega), un_n (by omega), un_n (by omega), nI_add]
  refine lay_ok hf (by omega) ?_
  have e3 : un (un (un (un (un N (8 + 31 * f + (9 + 3 * k)) (N 3)) (8 + 31 * f + (9 + 3 * k + 1)) m) (8 + 31 * f + (9 + 3 * k + 2)) l) (8 + 31 * f + 8) (k + 1)) (8 + 31 * f + 7) (N (8 + 31 * f + 7) + 1) 3 = N 3 := by
    rw [un_n (by omega), un_n (by omega), un_n (by omega), un_n (by omega), un_n (by omega)]
  simp (disch := omega) only [sN, nI_add, pk_mul, nz_cl, nz_le, nz_lt, nz_eq, nz_eq0, nz_le0, nz_lt0, nz_0lt, nz_m5, nz_inT, true_and, and_true, forall_eq, not_false_eq_true, not_true_eq_false, true_imp_iff, false_imp_iff, implies_true, upd_sN, upd_f, un_s, un_n, nz_sub, nz_one0, e3]
  rw [pk_div (by omega) (by omega) (by omega), nI_add]
  refine lay_ok hf (by omega) ?_
  simp (disch := omega) only [sN, nI_add, pk_mul, nz_cl, nz_le, nz_lt, nz_eq, nz_eq0, nz_le0, nz_lt0, nz_0lt, nz_m5, nz_inT, true_and, and_true, forall_eq, not_false_eq_true, not_true_eq_false, true_imp_iff, false_imp_iff, implies_true, upd_sN, upd_f, un_s, un_n, nz_sub, nz_one0]
  refine Eq.mp ?_ h
  unfold dl0
  rw [show 17 + 31 * f + 3 * k = 8 + 31 * f + (9 + 3 * k) by omega, show 18 + 31 * f + 3 * k = 8 + 31 * f + (9 + 3 * k + 1) by omega, show 19 + 31 * f + 3 * k = 8 + 31 * f + (9 + 3 * k + 2) by omega, show 16 + 31 * f = 8 + 31 * f + 8 by omega, show 15 + 31 * f = 8 + 31 * f + 7 by omega, show 35 + 31 * f + N 3 / 100 = 8 + 31 * f + (27 + N 3 / 100) by omega, show 319 + 2 * l = 318 + 2 * l + 1 by omega]
