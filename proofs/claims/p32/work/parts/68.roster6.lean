theorem clay_ok {V : SV} {N : Nat → Nat} (hI : PInv N) (h6 : N 6 ≤ 40) (hS : RS V N) {d : Nat} (hd : d < 1000) {x3 : Int32} {ab : Nat → Bool} (hx : nI (bs (able N d) 16) &&& (x3 ^^^ (-1)) = nI (bs ab 16)) {sv : Int32} {O nn sz hp tk : Nat → Int32} {Q : Int32 → (Nat → Int32) → (Nat → Int32) → (Nat → Int32) → (Nat → Int32) → (Nat → Int32) → Prop} (h : ∀ sv O nn sz hp tk, RP6 sv nn sz hp tk N (plan N ab) → Q sv O nn sz hp tk) : wp_X4_lay sv O nn sz hp tk (V 0) (V 1) (V 2) (V 3) (V 4) (V 14 1) (V 5) (V 6) (V 7) (nI d) x3 Q := by
  obtain ⟨r0, r1, r2, r4, ⟨rg, σ, hσ, r5⟩, _⟩ := hS
  unfold wp_X4_lay wp_X4_clearFor
  refine ⟨11, clearFor_7 (N := N) (fun f hf => by rw [nd_at hf]; exact r1 f hf) (fun nn sz hp e1 e2 e3 => ?_) 10 0 (by omega) _ _ _ (fun f hf => absurd hf (by omega)) (fun f hf => absurd hf (by omega)) (fun f hf => absurd hf (by omega))⟩
  refine arrangeFloors_ok hI (r0 0 (by omega)) (fun f hf => by rw [mn_at hf]; exact r2.1 f hf) (fun O hO => ?_)
  rw [rg]
  refine ableOn_ok hI h6 r4 hσ r5 hd ?_
  intro x4 e4
  rw [hx] at e4
  subst e4
  refine ⟨11, prows_lay hI r2 e1 hO (fun sv sz tk h4 => ?_) 10 0 (by omega) _ _ _ ?_⟩
  · have h1 := hI.2.2.2.2.1
    refine ⟨vp_in_nI (by omega) (by omega), ?_⟩
    simp (disch := omega) only [sN, nI_add, pk_mul, nz_cl, nz_le, nz_lt, nz_eq, nz_eq0, nz_le0, nz_lt0, nz_0lt, nz_m5, nz_inT, true_and, and_true, forall_eq, not_false_eq_true, not_true_eq_false, true_imp_iff, false_imp_iff, implies_true, r0 1 (by omega)]
    refine ⟨fun c => h _ _ _ _ _ _ ?_, fun c => ⟨11, phelps_lay hI e1 hO (PI_rows hI PI_p0 10 (by omega)) (fun sv sz hp tk h42 hh => h _ _ _ _ _ _ ?_) 10 0 (by omega) _ _ _ _ h4 (fun f hf => ?_)⟩⟩
    · unfold plan
      rw [if_neg c]
      exact ⟨h4, e1, fun f hf => by rw [prows_h0]; exact e3 f hf⟩
    · unfold plan
      rw [if_pos c]
      exact ⟨h42, e1, hh⟩
    · show hp f = nI ((prows N ab 10 p0).2.2.2 f)
      rw [prows_h0]
      exact e3 f hf
  · refine ⟨?_, e2, fun f hf r hr => absurd hr (Nat.not_lt_zero r)⟩
    rw [show bs (svB (prows N ab 0 p0)) 16 = 0 from bs_0 16]
theorem ctaken_ok {N : Nat → Nat} (hI : PInv N) {sv : Int32} {sz tk : Nat → Int32} {P : PS} (hP : PI N P) (hR : RP4 sv sz tk P) {f r : Nat} (hf : f < 10) (hr : r < 2147483648) {Q : Int32 → Prop} (h1 : r < P.2.2.1 f → Q (nI (P.2.1 (3 * f + r)))) (h0 : P.2.2.1 f ≤ r → Q (-5)) : wp_X4_takenAt sz tk (nI f) (nI r) Q := by
  have hn := nd_le hI f
  have hc := hP.2.1 f hf
  unfold wp_X4_takenAt
  refine cFloor_t hf (ifN nz10 ?_)
  by_cases c : r < 3
  · refine cWithin_t (by omega) (by omega) (by omega) (by omega) (by omega) (ifN nz10 ?_)
    simp (disch := omega) only [sN, nI_add, pk_mul, nz_cl, nz_le, nz_lt, nz_eq, nz_eq0, nz_le0, nz_lt0, nz_0lt, nz_m5, nz_inT, true_and, and_true, forall_eq, not_false_eq_true, not_true_eq_false, true_imp_iff, false_imp_iff, implies_true, hR.2.1 f hf]
    refine ⟨fun q => ?_, fun q => h0 (by omega)⟩
    rw [Nat.mul_comm f 3, hR.2.2 f hf r q]
    exact h1 q
  · refine cWithin_f (by omega) (by omega) (fun n a b e => ?_) (ifP nI_0 (h0 (by omega)))
    have := (nz_eq (by omega) (by omega)).mp e
    omega
theorem floorOf_24 {N : Nat → Nat} (hI : PInv N) {sv : Int32} {sz tk : Nat → Int32} {P : PS} (hP : PI N P) (hR : RP4 sv sz tk P) {f p : Nat} (hf : f < 10) (hp : p < 16) {K : Prop} {Q : Int32 → Prop} (hK : P.1 p ≠ f + 1 → K) (hQ : P.1 p = f + 1 → Q (nI f)) : ∀ (m k : Nat), k + m = 3 → (P.1 p = f + 1 → ∃ r, k ≤ r ∧ r < P.2.2.1 f ∧ P.2.1 (3 * f + r) = p) → wb_X4_floorOf_24 sz tk (nI p) (nI f) K Q (m + 1) (nI k) := by
  have hn := nd_le hI f
  have hc := hP.2.1 f hf
  intro m
  induction m with
  | zero =>
    intro k hk h
    obtain rfl : k = 3 := by omega
    rw [wb_X4_floorOf_24]
    refine ifP (by decide) (hK (fun e => ?_))
    obtain ⟨r, a, b, _⟩ := h e
    omega
  | succ m ih =>
    intro k hk h
    rw [wb_X4_floorOf_24]
    simp (disch := omega) only [sN, nI_add, pk_mul, nz_cl, nz_le, nz_lt, nz_eq, nz_eq0, nz_le0, nz_lt0, nz_0lt, nz_m5, nz_inT, true_and, and_true, forall_eq, not_false_eq_true, not_true_eq_false, true_imp_iff, false_imp_iff, implies_true]
    refine ⟨fun c => absurd c (by omega), fun _ => ctaken_ok hI hP hR hf (by omega) (fun c => ?_) (fun c => ?_)⟩
    · have ht := hP.2.2.2.1 f hf k c
      simp (disch := omega) only [sN, nI_add, pk_mul, nz_cl, nz_le, nz_lt, nz_eq, nz_eq0, nz_le0, nz_lt0, nz_0lt, nz_m5, nz_inT, true_and, and_true, forall_eq, not_false_eq_true, not_true_eq_false, true_imp_iff, false_imp_iff, implies_true]
      refine ⟨fun q => ih (k + 1) (by omega) (fun e => ?_), fun q => hQ ?_⟩
      · obtain ⟨r, a, b, e2⟩ := h e
        refine ⟨r, ?_, b, e2⟩
        have : r ≠ k := fun e3 => q (by rw [← e2, e3])
        omega
      · rw [← q]
        exact ht.2
    · refine ifN' (fun e => ?_) ?_
      · exact (nz_m5 (n := p) (by omega)).mp e.symm
      · try simp (disch := omega) only [sN, nI_add, pk_mul, nz_cl, nz_le, nz_lt, nz_eq, nz_eq0, nz_le0, nz_lt0, nz_0lt, nz_m5, nz_inT, true_and, and_true, forall_eq, not_false_eq_true, not_true_eq_false, true_imp_iff, false_imp_iff, implies_true]
        refine ih (k + 1) (by omega) (fun e => ?_)
        obtain ⟨r, a, b, e2⟩ := h e
        omega
theorem floorOf_16 {N : Nat → Nat} (hI : PInv N) {sv : Int32} {sz tk : Nat → Int32} {P : PS} (hP : PI N P) (hR : RP4 sv sz tk P) {p : Nat} (hp : p < 16) (h0 : 0 < P.1 p) {K : Prop} {Q : Int32 → Prop} (hQ : Q (nI (P.1 p - 1))) : ∀ (m k : Nat), k + m = 10 → k < P.1 p → wb_X4_floorOf_16 sz tk (nI p) K Q (m + 1) (nI k) := by
  have h10 := hP.1 p
  intro m
  induction m with
  | zero =>
    intro k hk h
    omega
  | succ m ih =>
    intro k hk h
    rw [wb_X4_floorOf_16]
    simp (disch := omega) only [sN, nI_add, pk_mul, nz_cl, nz_le, nz_lt, nz_eq, nz_eq0, nz_le0, nz_lt0, nz_0lt, nz_m5, nz_inT, true_and, and_true, forall_eq, not_false_eq_true, not_true_eq_false, true_imp_iff, false_imp_iff, implies_true]
    refine ⟨fun c => absurd c (by omega), fun _ => ⟨4, floorOf_24 hI hP hR (by omega) hp (fun c => ?_) (fun e => ?_) 3 0 (by omega) (fun e => ?_)⟩⟩
    · try simp (disch := omega) only [sN, nI_add, pk_mul, nz_cl, nz_le, nz_lt, nz_eq, nz_eq0, nz_le0, nz_lt0, nz_0lt, nz_m5, nz_inT, true_and, and_true, forall_eq, not_false_eq_true, not_true_eq_false, true_imp_iff, false_imp_iff, implies_true]
      exact ih (k + 1) (by omega) (by omega)
    · rw [show k = P.1 p - 1 by omega]
      exact hQ
    · obtain ⟨r, a, b⟩ := hP.2.2.2.2.1 p hp h0
      rw [e, Nat.add_sub_cancel] at a b
      exact ⟨r, by omega, a, b⟩
theorem cfloorOf_ok {N : Nat → Nat} (hI : PInv N) {sv : Int32} {sz tk : Nat → Int32} {P : PS} (hP : PI N P) (hR : RP4 sv sz tk P) {p : Nat} (hp : p < 16) {Q : Int32 → Prop} (h1 : 0 < P.1 p → Q (nI (P.1 p - 1))) (h0 : P.1 p = 0 → Q (-5)) : wp_X4_floorOf sv sz tk (nI p) Q := by
  have hb : (bs (svB P) 16).testBit p = decide (0 < P.1 p) := by rw [bs_bit, decide_eq_true hp, Bool.true_and]; rfl
  unfold wp_X4_floorOf
  rw [hR.1]
  refine cIn_ok (Nat.lt_trans (bs_lt' _ (by omega)) (by omega)) (by omega) (fun e => ?_) (fun e => ?_)
  · rw [hb] at e
    have e2 := of_decide_eq_true e
    exact ifN' nz10 ⟨11, floorOf_16 hI hP hR hp e2 (h1 e2) 10 0 (by omega) e2⟩
  · rw [hb] at e
    have e2 := of_decide_eq_false e
    exact ⟨fun c => absurd nI_0 c, fun _ => h0 (by omega)⟩
theorem nz_max0 : ∀ a, a < 4 → ∀ b, b < 4 → (if nI 0 < nI a - nI b then nI a - nI b else nI 0) = nI (a - b) := by decide
theorem lackBeyond_4 {N : Nat → Nat} (hI : PInv N) {sv sv2 : Int32} {nn sz hp tk nn2 sz2 hp2 tk2 : Nat → Int32} {P P2 : PS} (hP : PI N P) (hP2 : PI N P2) (h : RP6 sv nn sz hp tk N P) (h2 : RP6 sv2 nn2 sz2 hp2 tk2 N P2) {K : Int32 → Prop} (hK : K (nI (sm (fun f => lack N P f - lack N P2 f) 10))) : ∀ (m k : Nat), k + m = 10 → wb_X4_lackBeyond_4 nn sz nn2 sz2 K (m + 1) (nI (sm (fun f => lack N P f - lack N P2 f) k)) (nI k) := by
  intro m
  induction m with
  | zero =>
    intro k hk
    obtain rfl : k = 10 := by omega
    rw [wb_X4_lackBeyond_4]
    exact ifP (by decide) hK
  | succ m ih =>
    intro k hk
    have l1 := lack_le hI P k
    have l2 := lack_le hI P2 k
    rw [wb_X4_lackBeyond_4]
    simp (disch := omega) only [sN, nI_add, pk_mul, nz_cl, nz_le, nz_lt, nz_eq, nz_eq0, nz_le0, nz_lt0, nz_0lt, nz_m5, nz_inT, true_and, and_true, forall_eq, not_false_eq_true, not_true_eq_false, true_imp_iff, false_imp_iff, implies_true]
    refine ⟨fun c => absurd c (by omega), fun _ => lack4_ok h.2.1 h.1.2.1 hP.2.1 (by omega) (lack4_ok h2.2.1 h2.1.2.1 hP2.2.1 (by omega) ?_)⟩
    simp (disch := omega) only [nz_max0, nI_add]
    exact ih (k + 1) (by omega)
theorem lackBeyond_ok {N : Nat → Nat} (hI : PInv N) {sv sv2 : Int32} {nn sz hp tk nn2 sz2 hp2 tk2 : Nat → Int32} {P P2 : PS} (hP : PI N P) (hP2 : PI N P2) (h : RP6 sv nn sz hp tk N P) (h2 : RP6 sv2 nn2 sz2 hp2 tk2 N P2) {Q : Int32 → Prop} (hQ : Q (nI (sm (fun f => lack N P f - lack N P2 f) 10))) : wp_X4_lackBeyond nn sz nn2 sz2 Q :=
  ⟨11, lackBeyond_4 hI hP hP2 h h2 hQ 10 0 (by omega)⟩

