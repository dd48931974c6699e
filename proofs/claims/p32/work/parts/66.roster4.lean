theorem byRows_ok {N : Nat → Nat} {V2 : Nat → Int32} (hI : PInv N) (h2 : ∀ f, f < 10 → V2 f = nI (mn N f)) (ho : N 0 = 2) {O : Nat → Int32} {Q : (Nat → Int32) → Prop} (h : ∀ O, (∀ t, t < 10 → O t = nI (ord N t)) → Q O) : wp_X4_arrangeByRows O V2 Q := by
  have e0 : cntB N 0 0 = 0 := by
    unfold cntB
    rw [sm_congr (h := fun _ => 0) (fun e he => by show (if _ then 1 else 0) = 0; rw [if_neg (by omega)])]
    decide
  refine ⟨7, ?_⟩
  have := byRows_4 hI h2 (K := Q) (fun O2 hO2 => h O2 (fun t ht => ?_)) 6 0 (by omega) O (fun f hf q => absurd q (by omega))
  · rw [e0] at this
    exact this
  · have hl := ahead_ex (N := N) ht
    have e : ord N t = fnd (fun f => ahead N f == t) 10 0 := by unfold ord; rw [if_neg (by omega), if_neg (by omega)]
    have hp := fnd_lt (fun f => ahead N f == t) 10 0 (by omega)
    have hq : ahead N (ord N t) = t := by rw [e]; simpa using hp
    have := hO2 (ord N t) (ord_lt ht)
    rw [hq] at this
    exact this
theorem arrange_20 {N : Nat → Nat} (ho : N 0 < 2) {K : (Nat → Int32) → Prop} (hK : ∀ O, (∀ t, t < 10 → O t = nI (ord N t)) → K O) : ∀ (m k : Nat), k + m = 10 → ∀ O, (∀ t, t < k → O t = nI (ord N t)) → wb_X4_arrangeFloors_20 (nI (N 0)) K (m + 1) O (nI k) := by
  intro m
  induction m with
  | zero =>
    intro k hk O hO
    obtain rfl : k = 10 := by omega
    rw [wb_X4_arrangeFloors_20]
    exact ifP (by decide) (hK O hO)
  | succ m ih =>
    intro k hk O hO
    rw [wb_X4_arrangeFloors_20]
    simp (disch := omega) only [sN, nI_add, pk_mul, nz_cl, nz_le, nz_lt, nz_eq, nz_eq0, nz_le0, nz_lt0, nz_0lt, nz_m5, nz_inT, true_and, and_true, forall_eq, not_false_eq_true, not_true_eq_false, true_imp_iff, false_imp_iff, implies_true, nz_sub]
    have step : ∀ v, v = ord N k → ∀ t, t < k + 1 → upd O k (nI v) t = nI (ord N t) := fun v hv t ht => by
      unfold upd
      split
      · rename_i e
        rw [e, hv]
      · exact hO t (by omega)
    refine ⟨fun c => absurd c (by omega), fun _ => ⟨fun c => ?_, fun c => ?_⟩⟩
    · exact ih (k + 1) (by omega) _ (step k (by unfold ord; rw [if_pos (by omega)]))
    · exact ih (k + 1) (by omega) _ (step (9 - k) (by unfold ord; rw [if_neg (by omega), if_pos c]))
theorem arrangeFloors_ok {N : Nat → Nat} {V0 V2 : Nat → Int32} (hI : PInv N) (h0 : V0 0 = nI (N 0)) (h2 : ∀ f, f < 10 → V2 f = nI (mn N f)) {O : Nat → Int32} {Q : (Nat → Int32) → Prop} (h : ∀ O, (∀ t, t < 10 → O t = nI (ord N t)) → Q O) : wp_X4_arrangeFloors O V0 V2 Q := by
  have h3 := hI.1
  unfold wp_X4_arrangeFloors
  simp (disch := omega) only [sN, nI_add, pk_mul, nz_cl, nz_le, nz_lt, nz_eq, nz_eq0, nz_le0, nz_lt0, nz_0lt, nz_m5, nz_inT, true_and, and_true, forall_eq, not_false_eq_true, not_true_eq_false, true_imp_iff, false_imp_iff, implies_true, h0]
  refine ⟨fun c => ⟨11, arrange_20 (by omega) h 10 0 (by omega) O (fun t ht => absurd ht (by omega))⟩, fun c => byRows_ok hI h2 c h⟩

