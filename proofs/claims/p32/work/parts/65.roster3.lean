/-! the floors in their order -/
def cntB (N : Nat → Nat) (s f : Nat) : Nat := sm (fun e => if mn N e < s ∨ (mn N e = s ∧ e < f) then 1 else 0) 10
theorem cntB_ahead {N : Nat → Nat} {s f : Nat} (h : mn N f = s) : cntB N s f = ahead N f := by
  subst h
  rfl
theorem cntB_no {N : Nat → Nat} {s f : Nat} (h : mn N f ≠ s) : cntB N s (f + 1) = cntB N s f := by
  refine sm_congr (fun e he => ?_)
  by_cases c : mn N e < s ∨ (mn N e = s ∧ e < f)
  · show (if mn N e < s ∨ (mn N e = s ∧ e < f + 1) then 1 else 0) = if mn N e < s ∨ (mn N e = s ∧ e < f) then 1 else 0
    rw [if_pos c, if_pos (by omega)]
  · show (if mn N e < s ∨ (mn N e = s ∧ e < f + 1) then 1 else 0) = if mn N e < s ∨ (mn N e = s ∧ e < f) then 1 else 0
    rw [if_neg c, if_neg (fun q => c (by
      rcases q with q | ⟨q1, q2⟩
      · exact Or.inl q
      · refine Or.inr ⟨q1, ?_⟩
        rcases Nat.lt_or_ge e f with r | r
        · exact r
        · obtain rfl : e = f := by omega
          exact absurd q1 h))]
theorem sm_one {g h : Nat → Nat} : ∀ {n k : Nat}, k < n → h k = g k + 1 → (∀ j, j < n → j ≠ k → h j = g j) → sm h n = sm g n + 1 := by
  intro n
  induction n with
  | zero => intro k hk; omega
  | succ n ih =>
    intro k hk h1 h2
    rw [sm_add, sm_add]
    by_cases e : k = n
    · subst e
      rw [h1, sm_congr (fun j hj => h2 j (by omega) (by omega))]
      omega
    · rw [ih (k := k) (by omega) h1 (fun j hj => h2 j (by omega)), h2 n (by omega) (by omega)]
      omega
theorem cntB_yes {N : Nat → Nat} {s f : Nat} (hf : f < 10) (h : mn N f = s) : cntB N s (f + 1) = cntB N s f + 1 := by
  refine sm_one hf ?_ (fun e he hne => ?_)
  · show (if mn N f < s ∨ (mn N f = s ∧ f < f + 1) then 1 else 0) = (if mn N f < s ∨ (mn N f = s ∧ f < f) then 1 else 0) + 1
    rw [if_pos (by omega), if_neg (by omega)]
  · show (if mn N e < s ∨ (mn N e = s ∧ e < f + 1) then 1 else 0) = if mn N e < s ∨ (mn N e = s ∧ e < f) then 1 else 0
    by_cases c : mn N e < s ∨ (mn N e = s ∧ e < f)
    · rw [if_pos c, if_pos (by omega)]
    · rw [if_neg c, if_neg (by omega)]
theorem cntB_10 {N : Nat → Nat} {s : Nat} : cntB N s 10 = cntB N (s + 1) 0 := by
  refine sm_congr (fun e he => ?_)
  show (if mn N e < s ∨ (mn N e = s ∧ e < 10) then 1 else 0) = if mn N e < s + 1 ∨ (mn N e = s + 1 ∧ e < 0) then 1 else 0
  by_cases c : mn N e ≤ s
  · rw [if_pos (by omega), if_pos (by omega)]
  · rw [if_neg (by omega), if_neg (by omega)]
theorem byRows_12 {N : Nat → Nat} {V2 : Nat → Int32} (hI : PInv N) (h2 : ∀ f, f < 10 → V2 f = nI (mn N f)) {s : Nat} (hs : s ≤ 5) {K : (Nat → Int32) → Int32 → Prop} (hK : ∀ O, (∀ f, f < 10 → mn N f < s + 1 → O (ahead N f) = nI f) → K O (nI (cntB N (s + 1) 0))) : ∀ (m k : Nat), k + m = 10 → ∀ O, (∀ f, f < 10 → mn N f < s ∨ (mn N f = s ∧ f < k) → O (ahead N f) = nI f) → wb_X4_arrangeByRows_12 V2 (nI s) K (m + 1) O (nI (cntB N s k)) (nI k) := by
  intro m
  induction m with
  | zero =>
    intro k hk O hO
    obtain rfl : k = 10 := by omega
    rw [wb_X4_arrangeByRows_12, cntB_10]
    exact ifP (by decide) (hK _ (fun f hf hm => hO f hf (by omega)))
  | succ m ih =>
    intro k hk O hO
    have h5 := mn_le hI k
    have next := ih (k + 1) (by omega)
    rw [wb_X4_arrangeByRows_12]
    simp (disch := omega) only [sN, nI_add, pk_mul, nz_cl, nz_le, nz_lt, nz_eq, nz_eq0, nz_le0, nz_lt0, nz_0lt, nz_m5, nz_inT, true_and, and_true, forall_eq, not_false_eq_true, not_true_eq_false, true_imp_iff, false_imp_iff, implies_true, h2 k (by omega)]
    refine ⟨fun c => absurd c (by omega), fun _ => ⟨fun c => ?_, fun c => ?_⟩⟩
    · rw [cntB_no c] at next
      exact next O (fun f hf q => hO f hf (by
        rcases q with q | ⟨q1, q2⟩
        · exact Or.inl q
        · refine Or.inr ⟨q1, ?_⟩
          rcases Nat.lt_or_ge f k with r | r
          · exact r
          · obtain rfl : f = k := by omega
            exact absurd q1 c))
    · have ha := ahead_10 (N := N) (f := k) (by omega)
      rw [cntB_yes (by omega) c] at next
      rw [cntB_ahead c] at next ⊢
      simp (disch := omega) only [sN, nI_add, pk_mul, nz_cl, nz_le, nz_lt, nz_eq, nz_eq0, nz_le0, nz_lt0, nz_0lt, nz_m5, nz_inT, true_and, and_true, forall_eq, not_false_eq_true, not_true_eq_false, true_imp_iff, false_imp_iff, implies_true]
      refine ⟨fun c2 => absurd c2 (by omega), fun _ => ?_⟩
      refine next _ (fun f hf q => ?_)
      unfold upd
      by_cases e : f = k
      · rw [e, if_pos rfl]
      · rw [if_neg (fun q2 => e (ahead_inj hf (by omega) q2))]
        exact hO f hf (by omega)
theorem byRows_4 {N : Nat → Nat} {V2 : Nat → Int32} (hI : PInv N) (h2 : ∀ f, f < 10 → V2 f = nI (mn N f)) {K : (Nat → Int32) → Prop} (hK : ∀ O, (∀ f, f < 10 → O (ahead N f) = nI f) → K O) : ∀ (m s : Nat), s + m = 6 → ∀ O, (∀ f, f < 10 → mn N f < s → O (ahead N f) = nI f) → wb_X4_arrangeByRows_4 V2 K (m + 1) O (nI (cntB N s 0)) (nI s) := by
  intro m
  induction m with
  | zero =>
    intro s hs O hO
    obtain rfl : s = 6 := by omega
    rw [wb_X4_arrangeByRows_4]
    exact ifP (by decide) (hK O (fun f hf => hO f hf (by have := mn_le hI f; omega)))
  | succ m ih =>
    intro s hs O hO
    rw [wb_X4_arrangeByRows_4]
    simp (disch := omega) only [sN, nI_add, pk_mul, nz_cl, nz_le, nz_lt, nz_eq, nz_eq0, nz_le0, nz_lt0, nz_0lt, nz_m5, nz_inT, true_and, and_true, forall_eq, not_false_eq_true, not_true_eq_false, true_imp_iff, false_imp_iff, implies_true]
    refine ⟨fun c => absurd c (by omega), fun _ => ⟨11, byRows_12 hI h2 (by omega) (fun O2 hO2 => ?_) 10 0 (by omega) O (fun f hf q => hO f hf (by omega))⟩⟩
    try simp (disch := omega) only [sN, nI_add, pk_mul, nz_cl, nz_le, nz_lt, nz_eq, nz_eq0, nz_le0, nz_lt0, nz_0lt, nz_m5, nz_inT, true_and, and_true, forall_eq, not_false_eq_true, not_true_eq_false, true_imp_iff, false_imp_iff, implies_true]
    exact ih (s + 1) (by omega) O2 hO2

