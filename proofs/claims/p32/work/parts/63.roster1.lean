/-! the class's roster against a plan -/
def svB (P : PS) (p : Nat) : Bool := decide (0 < P.1 p)
/-- who serves, how many, whom -/
def RP4 (sv : Int32) (sz tk : Nat → Int32) (P : PS) : Prop := sv = nI (bs (svB P) 16) ∧ (∀ f, f < 10 → sz f = nI (P.2.2.1 f)) ∧ ∀ f, f < 10 → ∀ r, r < P.2.2.1 f → tk (3 * f + r) = nI (P.2.1 (3 * f + r))
theorem take_ok {sv : Int32} {sz tk : Nat → Int32} {P : PS} (hR : RP4 sv sz tk P) {f p : Nat} (hf : f < 10) (hp : p < 16) (hc : P.2.2.1 f < 3) {Q : Int32 → (Nat → Int32) → (Nat → Int32) → Prop} (h : ∀ s2 z2 t2, RP4 s2 z2 t2 (ptake P f p) → Q s2 z2 t2) : wp_X4_take sv sz tk (nI f) (nI p) Q := by
  obtain ⟨h1, h2, h3⟩ := hR
  subst h1
  unfold wp_X4_take
  simp (disch := omega) only [sN, nI_add, pk_mul, nz_cl, nz_le, nz_lt, nz_eq, nz_eq0, nz_le0, nz_lt0, nz_0lt, nz_m5, nz_inT, true_and, and_true, forall_eq, not_false_eq_true, not_true_eq_false, true_imp_iff, false_imp_iff, implies_true, h2 f hf]
  refine ⟨fun c => absurd c (by omega), fun _ => ⟨fun c => absurd c (by omega), fun _ => ?_⟩⟩
  rw [nx_shl (by omega), nx_or, bs_or1 _ hp]
  refine h _ _ _ ⟨?_, fun g hg => ?_, fun g hg r hr => ?_⟩
  · congr 1
    refine bs_congr (fun j hj => ?_)
    show (decide (0 < P.1 j) || decide (j = p)) = decide (0 < if j = p then f + 1 else P.1 j)
    by_cases e : j = p
    · simp [e]
    · simp [e]
  · unfold upd ptake un
    dsimp only
    split
    · rfl
    · exact h2 g hg
  · unfold ptake un at hr ⊢
    unfold upd
    dsimp only at hr ⊢
    by_cases e : 3 * g + r = 3 * f + P.2.2.1 f
    · rw [if_pos (by omega), if_pos e]
    · rw [if_neg (by omega), if_neg e]
      refine h3 g hg r ?_
      split at hr
      · rename_i q
        subst q
        omega
      · omega
theorem lack4_ok {N : Nat → Nat} {nn sz : Nat → Int32} {P : PS} (hn : ∀ f, f < 10 → nn f = nI (nd N f)) (hs : ∀ f, f < 10 → sz f = nI (P.2.2.1 f)) (hle : ∀ f, f < 10 → P.2.2.1 f ≤ nd N f) {f : Nat} (hf : f < 10) {Q : Int32 → Prop} (h : Q (nI (lack N P f))) : wp_X4_lack nn sz (nI f) Q := by
  have := hle f hf
  unfold wp_X4_lack
  simp (disch := omega) only [sN, nI_add, pk_mul, nz_cl, nz_le, nz_lt, nz_eq, nz_eq0, nz_le0, nz_lt0, nz_0lt, nz_m5, nz_inT, true_and, and_true, forall_eq, not_false_eq_true, not_true_eq_false, true_imp_iff, false_imp_iff, implies_true, hn f hf, hs f hf, nz_sub]
  exact h
theorem row_full {N : Nat → Nat} {ab : Nat → Bool} {f : Nat} {P : PS} {k : Nat} (h : nd N f ≤ (prow N ab f k P).2.2.1 f) : ∀ m, prow N ab f (k + m) P = prow N ab f k P := by
  intro m
  induction m with
  | zero => rfl
  | succ m ih =>
    rw [← Nat.add_assoc, prow, ih, ptry, if_neg]
    intro c
    have := (pcan_t c).1
    omega
theorem help_full {N : Nat → Nat} {ab : Nat → Bool} {f : Nat} {P : PS} {k : Nat} (h : nd N f ≤ (phelp N ab f k P).2.2.1 f) : ∀ m, phelp N ab f (k + m) P = phelp N ab f k P := by
  intro m
  induction m with
  | zero => rfl
  | succ m ih =>
    rw [← Nat.add_assoc, phelp, ih, ptryH, if_neg]
    intro c
    have := (pcan_t c).1
    omega

