theorem clearFor_7 {N : Nat → Nat} {V1 : Nat → Int32} (h1 : ∀ f, f < 10 → V1 f = nI (nd N f)) {K : (Nat → Int32) → (Nat → Int32) → (Nat → Int32) → Prop} (hK : ∀ nn sz hp, (∀ f, f < 10 → nn f = nI (nd N f)) → (∀ f, f < 10 → sz f = nI 0) → (∀ f, f < 10 → hp f = nI 0) → K nn sz hp) : ∀ (m k : Nat), k + m = 10 → ∀ nn sz hp, (∀ f, f < k → nn f = nI (nd N f)) → (∀ f, f < k → sz f = nI 0) → (∀ f, f < k → hp f = nI 0) → wb_X4_clearFor_7 V1 K (m + 1) nn sz hp (nI k) := by
  intro m
  induction m with
  | zero =>
    intro k hk nn sz hp e1 e2 e3
    obtain rfl : k = 10 := by omega
    rw [wb_X4_clearFor_7]
    exact ifP (by decide) (hK _ _ _ e1 e2 e3)
  | succ m ih =>
    intro k hk nn sz hp e1 e2 e3
    have step : ∀ (W : Nat → Int32) (g : Nat → Int32), (∀ f, f < k → W f = g f) → ∀ f, f < k + 1 → upd W k (g k) f = g f := fun W g h f hf => by
      unfold upd
      split
      · rename_i e
        rw [e]
      · exact h f (by omega)
    rw [wb_X4_clearFor_7]
    simp (disch := omega) only [sN, nI_add, pk_mul, nz_cl, nz_le, nz_lt, nz_eq, nz_eq0, nz_le0, nz_lt0, nz_0lt, nz_m5, nz_inT, true_and, and_true, forall_eq, not_false_eq_true, not_true_eq_false, true_imp_iff, false_imp_iff, implies_true, h1 k (by omega)]
    refine ⟨fun c => absurd c (by omega), fun _ => ?_⟩
    exact ih (k + 1) (by omega) _ _ _ (step nn (fun f => nI (nd N f)) e1) (step sz (fun _ => nI 0) e2) (step hp (fun _ => nI 0) e3)
theorem prows_lay {N : Nat → Nat} {V2 V3 nn O : Nat → Int32} {ab : Nat → Bool} (hI : PInv N) (hR : RRows V2 V3 N) (hn : ∀ f, f < 10 → nn f = nI (nd N f)) (hO : ∀ t, t < 10 → O t = nI (ord N t)) {K : Int32 → (Nat → Int32) → (Nat → Int32) → Prop} (hK : ∀ sv sz tk, RP4 sv sz tk (prows N ab 10 p0) → K sv sz tk) : ∀ (m t : Nat), t + m = 10 → ∀ sv sz tk, RP4 sv sz tk (prows N ab t p0) → wb_X4_lay_24 O nn V2 V3 (nI (bs ab 16)) K (m + 1) sv sz tk (nI t) := by
  intro m
  induction m with
  | zero =>
    intro t ht sv sz tk h
    obtain rfl : t = 10 := by omega
    rw [wb_X4_lay_24]
    exact ifP (by decide) (hK _ _ _ h)
  | succ m ih =>
    intro t ht sv sz tk h
    have ho := ord_lt (N := N) (t := t) (by omega)
    rw [wb_X4_lay_24]
    simp (disch := omega) only [sN, nI_add, pk_mul, nz_cl, nz_le, nz_lt, nz_eq, nz_eq0, nz_le0, nz_lt0, nz_0lt, nz_m5, nz_inT, true_and, and_true, forall_eq, not_false_eq_true, not_true_eq_false, true_imp_iff, false_imp_iff, implies_true, hO t (by omega)]
    refine ⟨fun c => absurd c (by omega), fun _ => takeFromRow_ok hI hR hn ho (PI_rows hI PI_p0 t (by omega)) h (fun s2 z2 t2 h2 => ?_)⟩
    try simp (disch := omega) only [sN, nI_add, pk_mul, nz_cl, nz_le, nz_lt, nz_eq, nz_eq0, nz_le0, nz_lt0, nz_0lt, nz_m5, nz_inT, true_and, and_true, forall_eq, not_false_eq_true, not_true_eq_false, true_imp_iff, false_imp_iff, implies_true]
    exact ih (t + 1) (by omega) _ _ _ h2
theorem phelps_lay {N : Nat → Nat} {nn O : Nat → Int32} {ab : Nat → Bool} (hI : PInv N) (hn : ∀ f, f < 10 → nn f = nI (nd N f)) (hO : ∀ t, t < 10 → O t = nI (ord N t)) {P : PS} (hP : PI N P) {K : Int32 → (Nat → Int32) → (Nat → Int32) → (Nat → Int32) → Prop} (hK : ∀ sv sz hp tk, RP4 sv sz tk (phelps N ab 10 P) → (∀ f, f < 10 → hp f = nI ((phelps N ab 10 P).2.2.2 f)) → K sv sz hp tk) : ∀ (m t : Nat), t + m = 10 → ∀ sv sz hp tk, RP4 sv sz tk (phelps N ab t P) → (∀ f, f < 10 → hp f = nI ((phelps N ab t P).2.2.2 f)) → wb_X4_lay_64 O nn (nI (bs ab 16)) K (m + 1) sv sz hp tk (nI t) := by
  intro m
  induction m with
  | zero =>
    intro t ht sv sz hp tk h hh
    obtain rfl : t = 10 := by omega
    rw [wb_X4_lay_64]
    exact ifP (by decide) (hK _ _ _ _ h hh)
  | succ m ih =>
    intro t ht sv sz hp tk h hh
    have ho := ord_lt (N := N) (t := t) (by omega)
    rw [wb_X4_lay_64]
    simp (disch := omega) only [sN, nI_add, pk_mul, nz_cl, nz_le, nz_lt, nz_eq, nz_eq0, nz_le0, nz_lt0, nz_0lt, nz_m5, nz_inT, true_and, and_true, forall_eq, not_false_eq_true, not_true_eq_false, true_imp_iff, false_imp_iff, implies_true, hO t (by omega)]
    refine ⟨fun c => absurd c (by omega), fun _ => takeHelpers_ok hI hn ho (PI_helps hI hP t (by omega)) h hh (fun s2 z2 h2 t2 hr2 hh2 => ?_)⟩
    try simp (disch := omega) only [sN, nI_add, pk_mul, nz_cl, nz_le, nz_lt, nz_eq, nz_eq0, nz_le0, nz_lt0, nz_0lt, nz_m5, nz_inT, true_and, and_true, forall_eq, not_false_eq_true, not_true_eq_false, true_imp_iff, false_imp_iff, implies_true]
    exact ih (t + 1) (by omega) _ _ _ _ hr2 hh2
theorem prows_h0 {N : Nat → Nat} {ab : Nat → Bool} : ∀ t f, (prows N ab t p0).2.2.2 f = 0 := by
  have h1 : ∀ f k P, (prow N ab f k P).2.2.2 = P.2.2.2 := by
    intro f k
    induction k with
    | zero => intro P; rfl
    | succ k ih =>
      intro P
      rw [prow, ptry]
      split
      · exact ih P
      · exact ih P
  intro t
  induction t with
  | zero => intro f; rfl
  | succ t ih => intro f; rw [prows, h1]; exact ih f
/-- the whole roster -/
def RP6 (sv : Int32) (nn sz hp tk : Nat → Int32) (N : Nat → Nat) (P : PS) : Prop := RP4 sv sz tk P ∧ (∀ f, f < 10 → nn f = nI (nd N f)) ∧ ∀ f, f < 10 → hp f = nI (P.2.2.2 f)

