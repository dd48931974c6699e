/-! reading: what the text says, and the smallest steps of both readers -/
/-- at a place stands this sign; a digit -/
def atS (c : Nat → Nat) (L a s : Nat) : Bool := decide (a < L ∧ c a = s)
def dg (c : Nat → Nat) (L a : Nat) : Bool := decide (a < L ∧ 48 ≤ c a ∧ c a ≤ 57)
/-- more digits of a number: its value, and where it ends -/
def nmL (c : Nat → Nat) (L hi : Nat) : Nat → Nat → Nat → Nat × Nat
  | 0, v, a => (v, a)
  | n + 1, v, a => if 0 < v ∧ dg c L a = true ∧ 10 * v + (c a - 48) ≤ hi then nmL c L hi n (10 * v + (c a - 48)) (a + 1) else (v, a)
/-- a number: 0 no number; 1 a number; 2 a number with a digit too many; its value; where -/
def nm1 (c : Nat → Nat) (L lo hi a : Nat) : Nat × Nat × Nat := if dg c L a = true ∧ lo ≤ c a - 48 ∧ c a - 48 ≤ hi then (if dg c L (nmL c L hi (L - (a + 1)) (c a - 48) (a + 1)).2 = true then 2 else 1, nmL c L hi (L - (a + 1)) (c a - 48) (a + 1)) else (0, 0, a)
/-- a blank and a number -/
def nm (c : Nat → Nat) (L lo hi a : Nat) : Nat × Nat × Nat := if atS c L a 32 = true then nm1 c L lo hi (a + 1) else (0, 0, a)
theorem nmL_le {c : Nat → Nat} {L hi : Nat} : ∀ (n v a : Nat), v ≤ hi → (nmL c L hi n v a).1 ≤ hi ∧ v ≤ (nmL c L hi n v a).1 ∧ a ≤ (nmL c L hi n v a).2 ∧ (a ≤ L → (nmL c L hi n v a).2 ≤ L) := by
  intro n
  induction n with
  | zero => intro v a h; exact ⟨h, Nat.le_refl _, Nat.le_refl _, id⟩
  | succ n ih =>
    intro v a h
    unfold nmL
    split
    · rename_i q
      obtain ⟨i1, i2, i3, i4⟩ := ih (10 * v + (c a - 48)) (a + 1) q.2.2
      have := (of_decide_eq_true q.2.1).1
      exact ⟨i1, by omega, by omega, fun _ => i4 (by omega)⟩
    · exact ⟨h, Nat.le_refl _, Nat.le_refl _, id⟩
theorem nm1_ok {c : Nat → Nat} {L lo hi a : Nat} (h : (nm1 c L lo hi a).1 ≠ 0) : lo ≤ (nm1 c L lo hi a).2.1 ∧ (nm1 c L lo hi a).2.1 ≤ hi ∧ a + 1 ≤ (nm1 c L lo hi a).2.2 ∧ (nm1 c L lo hi a).2.2 ≤ L ∧ ((nm1 c L lo hi a).1 = 1 ↔ dg c L (nm1 c L lo hi a).2.2 = false) := by
  unfold nm1 at h ⊢
  split at h
  · rename_i q
    rw [if_pos q]
    have hl := (of_decide_eq_true q.1).1
    obtain ⟨i1, i2, i3, i4⟩ := nmL_le (c := c) (L := L) (hi := hi) (L - (a + 1)) (c a - 48) (a + 1) q.2.2
    refine ⟨by show lo ≤ (nmL c L hi (L - (a + 1)) (c a - 48) (a + 1)).1; omega, i1, i3, i4 (by omega), ?_⟩
    show (if dg c L (nmL c L hi (L - (a + 1)) (c a - 48) (a + 1)).2 = true then 2 else 1) = 1 ↔ dg c L (nmL c L hi (L - (a + 1)) (c a - 48) (a + 1)).2 = false
    cases dg c L (nmL c L hi (L - (a + 1)) (c a - 48) (a + 1)).2 <;> simp
  · exact absurd rfl h
theorem nm_ok {c : Nat → Nat} {L lo hi a : Nat} (h : (nm c L lo hi a).1 ≠ 0) : lo ≤ (nm c L lo hi a).2.1 ∧ (nm c L lo hi a).2.1 ≤ hi ∧ a + 2 ≤ (nm c L lo hi a).2.2 ∧ (nm c L lo hi a).2.2 ≤ L ∧ ((nm c L lo hi a).1 = 1 ↔ dg c L (nm c L lo hi a).2.2 = false) := by
  unfold nm at h ⊢
  split at h
  · rename_i q
    rw [if_pos q]
    exact nm1_ok h
  · exact absurd rfl h
theorem nm_dg {c : Nat → Nat} {L lo hi a : Nat} (h : dg c L a = true) : nm c L lo hi a = (0, 0, a) := by
  have := of_decide_eq_true h
  unfold nm
  rw [if_neg]
  intro e
  have := of_decide_eq_true e
  omega
/-- the class's next sign -/
theorem next_ok {c : Nat → Nat} {L a : Nat} {ch tx : Nat → Int32} (hT : Txt c L ch tx) (ha : a ≤ L) {Q : Int32 → Prop} (h1 : a < L → Q (nI (c a))) (h0 : a = L → Q (-1)) : wp_X3_next (nI L) (nI a) ch Q := by
  have hL := hT.1
  unfold wp_X3_next
  by_cases e : a = 80
  · refine cWithin_f (by omega) (by omega) (fun n q1 q2 e2 => ?_) (ifP nI_0 (h0 (by omega)))
    have := (nz_eq (by omega) (by omega)).mp e2
    omega
  · refine cWithin_t (by omega) (by omega) (by omega) (by omega) (by omega) (ifN nz10 ⟨fun q => ?_, fun q => ⟨vp_in_nI (by omega) (by omega), ?_⟩⟩)
    · have := (nz_le (by omega) (by omega)).mp q
      exact h0 (by omega)
    · have hl : a < L := by
        rcases Nat.lt_or_ge a L with r | r
        · exact r
        · exact absurd ((nz_le (by omega) (by omega)).mpr r) q
      rw [nz_cl (by omega), (hT.2 a hl).2.1]
      exact h1 hl
theorem m1_ne {s : Nat} (h : s < 65536) : ¬ (-1 : Int32) = nI s := by
  intro e
  have := congrArg Int32.toInt e
  rw [nI_toInt (by omega)] at this
  have e1 : (-1 : Int32).toInt = -1 := by decide
  omega
theorem readSign_ok {c : Nat → Nat} {L a s : Nat} {ch tx : Nat → Int32} (hT : Txt c L ch tx) (ha : a ≤ L) (hs : s < 65536) {Q : Int32 → Int32 → Prop} (h1 : atS c L a s = true → Q (nI 1) (nI (a + 1))) (h0 : atS c L a s = false → Q (nI 0) (nI a)) : wp_X3_readSign (nI L) (nI a) ch (nI s) Q := by
  unfold wp_X3_readSign
  refine next_ok hT ha (fun hl => ?_) (fun hl => ?_)
  · have hc := (hT.2 a hl).1
    refine ⟨fun e t et => ?_, fun e => h0 (decide_eq_false (fun q => e (by rw [q.2])))⟩
    rw [nI_add] at et
    rw [et]
    exact h1 (decide_eq_true ⟨hl, (nz_eq (by omega) (by omega)).mp e⟩)
  · exact ifN (m1_ne hs) (h0 (decide_eq_false (fun q => by omega)))
theorem nextDigit_ok {c : Nat → Nat} {L a : Nat} {ch tx : Nat → Int32} (hT : Txt c L ch tx) (ha : a ≤ L) {Q : Int32 → Prop} (h1 : dg c L a = true → Q (nI (c a - 48))) (h0 : dg c L a = false → Q (-5)) : wp_X3_nextDigit (nI L) (nI a) ch Q := by
  unfold wp_X3_nextDigit
  refine next_ok hT ha (fun hl => ?_) (fun hl => ?_)
  · have hc := (hT.2 a hl).1
    by_cases q : 48 ≤ c a ∧ c a ≤ 57
    · refine cWithin_t (by omega) (by omega) (by omega) q.1 q.2 (ifN nz10 ?_)
      rw [nz_sub q.1]
      exact h1 (decide_eq_true ⟨hl, q⟩)
    · refine cWithin_f (by omega) (by omega) (fun n q1 q2 e => ?_) (ifP nI_0 (h0 (decide_eq_false (fun q2 => q q2.2))))
      have := (nz_eq (by omega) (by omega)).mp e
      omega
  · refine cWithin_f (by omega) (by omega) (fun n q1 q2 e => m1_ne (s := n) (by omega) e) (ifP nI_0 (h0 (decide_eq_false (fun q2 => by omega))))
/-- the reference's sign -/
theorem sign_ok {c : Nat → Nat} {L a : Nat} {ch tx : Nat → Int32} (hT : Txt c L ch tx) (ha : a ≤ L) {Q : Int32 → Prop} (h1 : a < L → Q (nI (c a))) (h0 : a = L → Q (nI 0)) : wp_X7_sign (nI L) (nI a) tx Q := by
  have hL := hT.1
  unfold wp_X7_sign
  refine ⟨fun q => ?_, fun q => ?_⟩
  · have := (nz_le (by omega) (by omega)).mp q
    exact h0 (by omega)
  · have hl : a < L := by
      rcases Nat.lt_or_ge a L with r | r
      · exact r
      · exact absurd ((nz_le (by omega) (by omega)).mpr r) q
    refine ⟨vp_in_nI (by omega) (by omega), ?_⟩
    rw [nz_cl (by omega), (hT.2 a hl).2.2]
    exact h1 hl
theorem wants_0 {L a : Nat} {tx : Nat → Int32} {x : Int32} {Q : Int32 → Int32 → Prop} (h : Q (nI a) (nI 0)) : wp_X7_wants (nI L) (nI a) (nI 0) tx x Q := by
  unfold wp_X7_wants wb_X7_wants_21
  refine ifP nI_0 ⟨nb0, by decide, ifP nI_0 (fun t et => ?_)⟩
  rw [nI_add, Nat.add_zero] at et
  rw [et]
  exact h
theorem wants_ok {c : Nat → Nat} {L a s : Nat} {ch tx : Nat → Int32} (hT : Txt c L ch tx) (ha : a ≤ L) (hs : s < 65536) (hs0 : 0 < s) {Q : Int32 → Int32 → Prop} (h1 : atS c L a s = true → Q (nI (a + 1)) (nI 1)) (h0 : atS c L a s = false → Q (nI a) (nI 0)) : wp_X7_wants (nI L) (nI a) (nI 1) tx (nI s) Q := by
  have no : atS c L a s = false → wb_X7_wants_21 (nI a) Q (nI 0) := fun h => by
    unfold wb_X7_wants_21
    refine ⟨nb0, by decide, ifP nI_0 (fun t et => ?_)⟩
    rw [nI_add, Nat.add_zero] at et
    rw [et]
    exact h0 h
  unfold wp_X7_wants
  refine ifN nz10 (sign_ok hT ha (fun hl => ?_) (fun hl => ?_))
  · have hc := (hT.2 a hl).1
    refine ⟨fun e => no (decide_eq_false (fun q => e (by rw [q.2]))), fun e => ?_⟩
    unfold wb_X7_wants_21
    refine ⟨nb1, by decide, ifN nz10 (fun t et => ?_)⟩
    rw [nI_add] at et
    rw [et]
    exact h1 (decide_eq_true ⟨hl, (nz_eq (by omega) (by omega)).mp e⟩)
  · refine ifN' (fun e => ?_) (no (decide_eq_false (fun q => by omega)))
    have := (nz_eq (by omega) (by omega)).mp e
    omega
