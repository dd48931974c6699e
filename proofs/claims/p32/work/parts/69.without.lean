/-! planning without a person -/
theorem nd_gr {N : Nat → Nat} (h6 : N 6 ≤ 40) {p a b : Nat} : nd (grN N p a b) = nd N := by
  funext f
  unfold nd
  split
  · exact grN_un h6 (by omega) (by omega)
  · rfl
theorem mn_gr {N : Nat → Nat} (h6 : N 6 ≤ 40) {p a b : Nat} : mn (grN N p a b) = mn N := by
  funext f
  unfold mn
  split
  · exact grN_un h6 (by omega) (by omega)
  · rfl
theorem rw_gr {N : Nat → Nat} (h6 : N 6 ≤ 40) {p a b : Nat} : rw_ (grN N p a b) = rw_ N := by
  funext f k
  unfold rw_
  split
  · exact grN_un h6 (by omega) (by omega)
  · rfl
theorem ord_gr {N : Nat → Nat} (h6 : N 6 ≤ 40) {p a b : Nat} : ord (grN N p a b) = ord N := by
  have e : ahead (grN N p a b) = ahead N := by
    funext f
    unfold ahead
    rw [mn_gr h6]
  funext t
  unfold ord
  rw [e, grN_un h6 (show 0 < 350 + 3 * N 6 by omega) (by omega)]
theorem prow_cg {N N2 : Nat → Nat} (h1 : nd N2 = nd N) (h3 : rw_ N2 = rw_ N) {ab : Nat → Bool} {f : Nat} {P : PS} : ∀ k, prow N2 ab f k P = prow N ab f k P := by
  intro k
  induction k with
  | zero => rfl
  | succ k ih => rw [prow, prow, ih, h1, h3]
theorem phelp_cg {N N2 : Nat → Nat} (h1 : nd N2 = nd N) {ab : Nat → Bool} {f : Nat} {P : PS} : ∀ k, phelp N2 ab f k P = phelp N ab f k P := by
  intro k
  induction k with
  | zero => rfl
  | succ k ih => rw [phelp, phelp, ih, h1]
theorem prows_cg {N N2 : Nat → Nat} (h1 : nd N2 = nd N) (h2 : mn N2 = mn N) (h3 : rw_ N2 = rw_ N) (h4 : ord N2 = ord N) {ab : Nat → Bool} {P : PS} : ∀ t, prows N2 ab t P = prows N ab t P := by
  intro t
  induction t with
  | zero => rfl
  | succ t ih => rw [prows, prows, ih, h4, h2, prow_cg h1 h3]
theorem phelps_cg {N N2 : Nat → Nat} (h1 : nd N2 = nd N) (h4 : ord N2 = ord N) {ab : Nat → Bool} {P : PS} : ∀ t, phelps N2 ab t P = phelps N ab t P := by
  intro t
  induction t with
  | zero => rfl
  | succ t ih => rw [phelps, phelps, ih, h4, phelp_cg h1]
theorem plan_gr {N : Nat → Nat} (h6 : N 6 ≤ 40) {p a b : Nat} {ab : Nat → Bool} : plan (grN N p a b) ab = plan N ab := by
  unfold plan
  rw [grN_un h6 (show 1 < 350 + 3 * N 6 by omega) (by omega), prows_cg (nd_gr h6) (mn_gr h6) (rw_gr h6) (ord_gr h6), phelps_cg (nd_gr h6) (ord_gr h6)]
theorem lack_gr {N : Nat → Nat} (h6 : N 6 ≤ 40) {p a b : Nat} {P : PS} {f : Nat} : lack (grN N p a b) P f = lack N P f := by
  unfold lack
  rw [nd_gr h6]
/-- able, and not this one -/
def abX (N : Nat → Nat) (d p : Nat) : Nat → Bool := fun q => able N d q && !decide (q = p)
theorem exB_cg {P R : Nat → Bool} : ∀ {n : Nat}, (∀ k, k < n → P k = R k) → exB P n = exB R n := by
  intro n
  induction n with
  | zero => intro _; rfl
  | succ n ih => intro h; rw [exB, exB, ih (fun k hk => h k (by omega)), h n (by omega)]
theorem able_gr {N : Nat → Nat} (h6 : N 6 ≤ 40) {p d q : Nat} (hq : q < 16) : able (grN N p d d) d q = abX N d p q := by
  obtain ⟨g1, g2, g3⟩ := grN_at (p := p) (a := d) (b := d) h6
  unfold abX able
  rw [away_exB, away_exB, grN_6, exB, grN_un h6 (show 318 + 2 * q < 350 + 3 * N 6 by omega) (by omega)]
  have e1 : exB (lvP (grN N p d d) q d) (N 6) = exB (lvP N q d) (N 6) := exB_cg (fun k hk => by
    unfold lvP
    rw [grN_un h6 (show 350 + 3 * k < 350 + 3 * N 6 by omega) (by omega), grN_un h6 (show 351 + 3 * k < 350 + 3 * N 6 by omega) (by omega), grN_un h6 (show 352 + 3 * k < 350 + 3 * N 6 by omega) (by omega)])
  have e2 : lvP (grN N p d d) q d (N 6) = decide (q = p) := by
    unfold lvP
    rw [g1, g2, g3]
    by_cases c : q = p
    · rw [decide_eq_true c, decide_eq_true ⟨c.symm, Nat.le_refl _, Nat.le_refl _⟩]
    · rw [decide_eq_false c, decide_eq_false (fun e => c e.1.symm)]
  rw [e1, e2]
  cases decide (d ≤ N (318 + 2 * q)) <;> cases exB (lvP N q d) (N 6) <;> cases decide (q = p) <;> rfl
/-- a plan asks of nobody above 15 -/
theorem ptry_ab {need : Nat → Nat} {ab a2 : Nat → Bool} {P : PS} {f p : Nat} (h : ab p = a2 p) : ptry need ab P f p = ptry need a2 P f p := by
  unfold ptry pcan
  rw [h]
theorem ptryH_ab {need : Nat → Nat} {ab a2 : Nat → Bool} {P : PS} {f p : Nat} (h : ab p = a2 p) : ptryH need ab P f p = ptryH need a2 P f p := by
  unfold ptryH pcan
  rw [h]
theorem prow_ab {N : Nat → Nat} (hI : PInv N) {ab a2 : Nat → Bool} (h : ∀ p, p < 16 → ab p = a2 p) {f : Nat} (hf : f < 10) {P : PS} : ∀ k, k ≤ mn N f → prow N ab f k P = prow N a2 f k P := by
  intro k
  induction k with
  | zero => intro _; rfl
  | succ k ih => intro hk; rw [prow, prow, ih (by omega), ptry_ab (h _ (rw_lt hI hf (by omega)))]
theorem phelp_ab {N : Nat → Nat} {ab a2 : Nat → Bool} (h : ∀ p, p < 16 → ab p = a2 p) {f : Nat} {P : PS} : ∀ k, k ≤ 16 → phelp N ab f k P = phelp N a2 f k P := by
  intro k
  induction k with
  | zero => intro _; rfl
  | succ k ih => intro hk; rw [phelp, phelp, ih (by omega), ptryH_ab (h _ (by omega))]
theorem prows_ab {N : Nat → Nat} (hI : PInv N) {ab a2 : Nat → Bool} (h : ∀ p, p < 16 → ab p = a2 p) {P : PS} : ∀ t, t ≤ 10 → prows N ab t P = prows N a2 t P := by
  intro t
  induction t with
  | zero => intro _; rfl
  | succ t ih => intro ht; rw [prows, prows, ih (by omega), prow_ab hI h (ord_lt (by omega)) _ (Nat.le_refl _)]
theorem phelps_ab {N : Nat → Nat} {ab a2 : Nat → Bool} (h : ∀ p, p < 16 → ab p = a2 p) {P : PS} : ∀ t, t ≤ 10 → phelps N ab t P = phelps N a2 t P := by
  intro t
  induction t with
  | zero => intro _; rfl
  | succ t ih => intro ht; rw [phelps, phelps, ih (by omega), phelp_ab h _ (Nat.le_refl _)]
theorem plan_ab {N : Nat → Nat} (hI : PInv N) {ab a2 : Nat → Bool} (h : ∀ p, p < 16 → ab p = a2 p) : plan N ab = plan N a2 := by
  unfold plan
  rw [prows_ab hI h _ (Nat.le_refl _), phelps_ab h _ (Nat.le_refl _)]
theorem more_eq {N : Nat → Nat} (hI : PInv N) (h6 : N 6 ≤ 40) {p d : Nat} : more N p d = sm (fun f => lack N (plan N (abX N d p)) f - lack N (plan N (able N d)) f) 10 := by
  unfold more
  rw [plan_gr h6, plan_ab hI (fun q hq => able_gr h6 hq)]
  exact sm_congr (fun f _ => by rw [lack_gr h6])
/-- nobody took him: without him all is the same -/
theorem ptry_wo {need : Nat → Nat} {ab a2 : Nat → Bool} {p : Nat} (h1 : ∀ q, q ≠ p → a2 q = ab q) (h0 : a2 p = false) {P : PS} {f q : Nat} (h : (ptry need ab P f q).1 p = 0) : ptry need a2 P f q = ptry need ab P f q ∧ P.1 p = 0 := by
  unfold ptry at h ⊢
  by_cases e : q = p
  · subst e
    by_cases c : pcan need ab P f q = true
    · rw [if_pos c] at h
      unfold ptake at h
      dsimp only at h
      rw [un_s] at h
      omega
    · rw [if_neg c] at h ⊢
      refine ⟨if_neg (fun c2 => ?_), h⟩
      have := (pcan_t c2).2.1
      rw [h0] at this
      cases this
  · have e2 : pcan need a2 P f q = pcan need ab P f q := by unfold pcan; rw [h1 q e]
    rw [e2]
    refine ⟨rfl, ?_⟩
    split at h
    · unfold ptake at h
      dsimp only at h
      rw [un_n (fun c => e c.symm)] at h
      exact h
    · exact h
theorem ptryH_wo {need : Nat → Nat} {ab a2 : Nat → Bool} {p : Nat} (h1 : ∀ q, q ≠ p → a2 q = ab q) (h0 : a2 p = false) {P : PS} {f q : Nat} (h : (ptryH need ab P f q).1 p = 0) : ptryH need a2 P f q = ptryH need ab P f q ∧ P.1 p = 0 := by
  unfold ptryH at h ⊢
  by_cases e : q = p
  · subst e
    by_cases c : pcan need ab P f q = true
    · rw [if_pos c] at h
      unfold phlp ptake at h
      dsimp only at h
      rw [un_s] at h
      omega
    · rw [if_neg c] at h ⊢
      refine ⟨if_neg (fun c2 => ?_), h⟩
      have := (pcan_t c2).2.1
      rw [h0] at this
      cases this
  · have e2 : pcan need a2 P f q = pcan need ab P f q := by unfold pcan; rw [h1 q e]
    rw [e2]
    refine ⟨rfl, ?_⟩
    split at h
    · unfold phlp ptake at h
      dsimp only at h
      rw [un_n (fun c => e c.symm)] at h
      exact h
    · exact h
theorem prow_wo {N : Nat → Nat} {ab a2 : Nat → Bool} {p : Nat} (h1 : ∀ q, q ≠ p → a2 q = ab q) (h0 : a2 p = false) {f : Nat} {P : PS} : ∀ k, (prow N ab f k P).1 p = 0 → prow N a2 f k P = prow N ab f k P ∧ P.1 p = 0 := by
  intro k
  induction k with
  | zero => intro h; exact ⟨rfl, h⟩
  | succ k ih =>
    intro h
    rw [prow] at h
    have a := ptry_wo h1 h0 h
    have b := ih a.2
    refine ⟨?_, b.2⟩
    rw [prow, prow, b.1]
    exact a.1
theorem phelp_wo {N : Nat → Nat} {ab a2 : Nat → Bool} {p : Nat} (h1 : ∀ q, q ≠ p → a2 q = ab q) (h0 : a2 p = false) {f : Nat} {P : PS} : ∀ k, (phelp N ab f k P).1 p = 0 → phelp N a2 f k P = phelp N ab f k P ∧ P.1 p = 0 := by
  intro k
  induction k with
  | zero => intro h; exact ⟨rfl, h⟩
  | succ k ih =>
    intro h
    rw [phelp] at h
    have a := ptryH_wo h1 h0 h
    have b := ih a.2
    refine ⟨?_, b.2⟩
    rw [phelp, phelp, b.1]
    exact a.1
theorem prows_wo {N : Nat → Nat} {ab a2 : Nat → Bool} {p : Nat} (h1 : ∀ q, q ≠ p → a2 q = ab q) (h0 : a2 p = false) {P : PS} : ∀ t, (prows N ab t P).1 p = 0 → prows N a2 t P = prows N ab t P ∧ P.1 p = 0 := by
  intro t
  induction t with
  | zero => intro h; exact ⟨rfl, h⟩
  | succ t ih =>
    intro h
    rw [prows] at h
    have a := prow_wo h1 h0 _ h
    have b := ih a.2
    refine ⟨?_, b.2⟩
    rw [prows, prows, b.1]
    exact a.1
theorem phelps_wo {N : Nat → Nat} {ab a2 : Nat → Bool} {p : Nat} (h1 : ∀ q, q ≠ p → a2 q = ab q) (h0 : a2 p = false) {P : PS} : ∀ t, (phelps N ab t P).1 p = 0 → phelps N a2 t P = phelps N ab t P ∧ P.1 p = 0 := by
  intro t
  induction t with
  | zero => intro h; exact ⟨rfl, h⟩
  | succ t ih =>
    intro h
    rw [phelps] at h
    have a := phelp_wo h1 h0 _ h
    have b := ih a.2
    refine ⟨?_, b.2⟩
    rw [phelps, phelps, b.1]
    exact a.1
theorem plan_wo {N : Nat → Nat} {ab a2 : Nat → Bool} {p : Nat} (h1 : ∀ q, q ≠ p → a2 q = ab q) (h0 : a2 p = false) (h : (plan N ab).1 p = 0) : plan N a2 = plan N ab := by
  unfold plan at h ⊢
  split at h
  · rename_i c
    have a := phelps_wo h1 h0 _ h
    have b := prows_wo h1 h0 _ a.2
    rw [if_pos c, if_pos c, b.1]
    exact a.1
  · rename_i c
    rw [if_neg c, if_neg c]
    exact (prows_wo h1 h0 _ h).1
theorem sm_0 {g : Nat → Nat} : ∀ {n : Nat}, (∀ j, j < n → g j = 0) → sm g n = 0 := by
  intro n h
  have := sm_le (g := g) (b := 0) (n := n) (fun j hj => by rw [h j hj]; exact Nat.le_refl 0)
  omega
theorem more_0 {N : Nat → Nat} (hI : PInv N) (h6 : N 6 ≤ 40) {p d : Nat} (h : (plan N (able N d)).1 p = 0) : more N p d = 0 := by
  rw [more_eq hI h6, plan_wo (ab := able N d) (a2 := abX N d p) (p := p) (fun q hq => by unfold abX; rw [decide_eq_false hq]; simp) (by unfold abX; rw [decide_eq_true rfl]; simp) h]
  exact sm_0 (fun f _ => Nat.sub_self _)

