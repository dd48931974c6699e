/-! words and kinds, by both readers -/
/-- how many letters of a word stand there -/
def wdN (c : Nat → Nat) (L k a : Nat) : Nat := fnd (fun i => !atS c L (a + i) (swc k i)) (swl k) 0
theorem wdN_le {c : Nat → Nat} {L k a : Nat} : wdN c L k a ≤ swl k := by
  have := (fnd_le (fun i => !atS c L (a + i) (swc k i)) (swl k) 0).2
  unfold wdN
  omega
theorem wdN_y {c : Nat → Nat} {L k a i : Nat} (h : i < wdN c L k a) : atS c L (a + i) (swc k i) = true := by
  have := fnd_min _ (swl k) 0 i (Nat.zero_le _) h
  simpa using this
theorem wdN_n {c : Nat → Nat} {L k a : Nat} (h : wdN c L k a < swl k) : atS c L (a + wdN c L k a) (swc k (wdN c L k a)) = false := by
  have := fnd_lt (fun i => !atS c L (a + i) (swc k i)) (swl k) 0 (by unfold wdN at h; omega)
  unfold wdN
  simpa using this
theorem wdN_L {c : Nat → Nat} {L k a : Nat} (ha : a ≤ L) : a + wdN c L k a ≤ L := by
  rcases Nat.eq_zero_or_pos (wdN c L k a) with q | q
  · omega
  · have := (of_decide_eq_true (wdN_y (c := c) (L := L) (k := k) (a := a) (i := wdN c L k a - 1) (by omega))).1
    omega
theorem sw_lt {k i : Nat} (hk : k < 5) (hi : i < swl k) : swc k i < 65536 := by
  have := ((sw_all k hk).2 i hi).1
  omega
theorem readWord_2 {c : Nat → Nat} {L k a : Nat} {ch tx : Nat → Int32} (hT : Txt c L ch tx) (hk : k < 5) (ha : a ≤ L) {K : Int32 → Prop} {Q : Int32 → Int32 → Prop} (h1 : wdN c L k a = swl k → K (nI (a + swl k))) (h0 : wdN c L k a < swl k → Q (nI 0) (nI (a + wdN c L k a))) : ∀ (m i : Nat), i + m = swl k → i ≤ wdN c L k a → wb_X3_readWord_2 (nI L) ch k K Q (m + 1) (nI (a + i)) (nI i) := by
  have hw := (sw_all k hk).1
  have hL := wdN_L (c := c) (L := L) (k := k) ha
  have hle := wdN_le (c := c) (L := L) (k := k) (a := a)
  intro m
  induction m with
  | zero =>
    intro i hi hn
    obtain rfl : i = swl k := by omega
    rw [wb_X3_readWord_2]
    exact ⟨hk, ifP ((nz_le (by omega) (by omega)).mpr (Nat.le_refl _)) (h1 (by omega))⟩
  | succ m ih =>
    intro i hi hn
    rw [wb_X3_readWord_2]
    refine ⟨hk, ifN (fun e => absurd ((nz_le (by omega) (by omega)).mp e) (by omega)) ⟨i, hk, by omega, rfl, readSign_ok hT (by omega) (sw_lt hk (by omega)) (fun e => ?_) (fun e => ?_)⟩⟩
    · refine ifN' nz10 (fun t et => ?_)
      rw [nI_add] at et
      subst et
      refine ih (i + 1) (by omega) ?_
      rcases Nat.eq_or_lt_of_le hn with q | q
      · have := wdN_n (c := c) (L := L) (k := k) (a := a) (by omega)
        rw [← q, e] at this
        cases this
      · exact q
    · refine ifP' nI_0 ?_
      rcases Nat.eq_or_lt_of_le hn with q | q
      · rw [q]
        exact h0 (by omega)
      · have := wdN_y q
        rw [e] at this
        cases this
theorem readWord_ok {c : Nat → Nat} {L k a : Nat} {ch tx : Nat → Int32} (hT : Txt c L ch tx) (hk : k < 5) (ha : a ≤ L) {Q : Int32 → Int32 → Prop} (h1 : wdN c L k a = swl k → Q (nI 1) (nI (a + swl k))) (h0 : wdN c L k a < swl k → Q (nI 0) (nI (a + wdN c L k a))) : wp_X3_readWord (nI L) (nI a) ch k Q :=
  ⟨swl k + 1, readWord_2 hT hk ha h1 h0 (swl k) 0 (by omega) (by omega)⟩
theorem wordOf_ok {k : Nat} (hk : k < 5) {Q : Nat → Prop} (h : Q k) : wp_X3_wordOf (nI k) Q := by
  unfold wp_X3_wordOf
  match k, hk with
  | 0, _ => exact ifP rfl h
  | 1, _ => exact ifN (by decide) (ifP rfl h)
  | 2, _ => exact ifN (by decide) (ifN (by decide) (ifP rfl h))
  | 3, _ => exact ifN (by decide) (ifN (by decide) (ifN (by decide) (ifP rfl h)))
  | 4, _ => exact ifN (by decide) (ifN (by decide) (ifN (by decide) (ifN (by decide) h)))
/-- the kind of the order that begins here; 5 without one -/
def kd (c : Nat → Nat) (L a : Nat) : Nat := fnd (fun k => atS c L a (swc k 0)) 5 0
theorem nextKind_2 {c : Nat → Nat} {L a : Nat} {ch tx : Nat → Int32} (hT : Txt c L ch tx) (ha : a ≤ L) {K : Prop} {Q : Int32 → Prop} : ∀ (m k : Nat), k + m = 5 → (fnd (fun k => atS c L a (swc k 0)) m k < 5 → Q (nI (fnd (fun k => atS c L a (swc k 0)) m k))) → (fnd (fun k => atS c L a (swc k 0)) m k = 5 → K) → wb_X3_nextKind_2 (nI L) (nI a) ch K Q (m + 1) (nI k) := by
  intro m
  induction m with
  | zero =>
    intro k hk h1 h0
    obtain rfl : k = 5 := by omega
    rw [wb_X3_nextKind_2]
    exact ifP (by decide) (h0 rfl)
  | succ m ih =>
    intro k hk h1 h0
    have hw := (sw_all k (by omega)).1
    have hs := sw_lt (k := k) (i := 0) (by omega) (by omega)
    unfold fnd at h1 h0
    have no : atS c L a (swc k 0) = false → ∀ x1 : Int32, x1 = nI k + nI 1 → wb_X3_nextKind_2 (nI L) (nI a) ch K Q (m + 1) x1 := fun e x1 e1 => by
      rw [if_neg (by rw [e]; decide)] at h1 h0
      rw [nI_add] at e1
      subst e1
      exact ih (k + 1) (by omega) h1 h0
    rw [wb_X3_nextKind_2]
    refine ifN (fun e => absurd ((nz_le (by omega) (by omega)).mp e) (by omega)) (wordOf_ok (by omega) ⟨by omega, ifP' nI_0 ⟨0, by omega, by omega, rfl, next_ok hT ha (fun hl => ?_) (fun hl => ?_)⟩⟩)
    · have hc := (hT.2 a hl).1
      refine ⟨fun e => no (decide_eq_false (fun q => e (by rw [q.2]))), fun e => ?_⟩
      have e2 : atS c L a (swc k 0) = true := decide_eq_true ⟨hl, ((nz_eq (by omega) (by omega)).mp e).symm⟩
      rw [if_pos e2] at h1
      exact h1 (by omega)
    · exact ifN' (fun e => m1_ne hs e.symm) (no (decide_eq_false (fun q => by omega)))
theorem nextKind_ok {c : Nat → Nat} {L a : Nat} {ch tx : Nat → Int32} (hT : Txt c L ch tx) (ha : a ≤ L) {Q : Int32 → Prop} (h1 : kd c L a < 5 → Q (nI (kd c L a))) (h0 : kd c L a = 5 → Q (-5)) : wp_X3_nextKind (nI L) (nI a) ch Q :=
  ⟨6, nextKind_2 hT ha 5 0 (by omega) h1 h0⟩
theorem kd_y {c : Nat → Nat} {L a : Nat} (h : kd c L a < 5) : a < L ∧ c a = swc (kd c L a) 0 := of_decide_eq_true (fnd_lt (fun k => atS c L a (swc k 0)) 5 0 h)
theorem kd_n {c : Nat → Nat} {L a : Nat} (h : kd c L a = 5) (hl : a < L) {k : Nat} (hk : k < 5) : c a ≠ swc k 0 := fun e => by
  have := fnd_min (fun k => atS c L a (swc k 0)) 5 0 k (Nat.zero_le _) (by unfold kd at h; omega)
  exact absurd ⟨hl, e⟩ (of_decide_eq_false this)
theorem kd_le {c : Nat → Nat} {L a : Nat} : kd c L a ≤ 5 := by
  have := (fnd_le (fun k => atS c L a (swc k 0)) 5 0).2
  unfold kd
  omega
/-- the numbers of an order: 1 and the end, or 0 and the fault -/
def numR (c : Nat → Nat) (L k : Nat) : Nat → Nat → Nat → Nat × Nat
  | 0, _, a => (1, a)
  | m + 1, w, a => if (nm c L (loN k w) (hiN k w) a).1 = 1 then numR c L k m (w + 1) (nm c L (loN k w) (hiN k w) a).2.2 else (0, (nm c L (loN k w) (hiN k w) a).2.2)
/-- the same, a digit too many not looked at -/
def numF (c : Nat → Nat) (L k : Nat) : Nat → Nat → Nat → Nat × Nat
  | 0, _, a => (1, a)
  | m + 1, w, a => if (nm c L (loN k w) (hiN k w) a).1 = 0 then (0, (nm c L (loN k w) (hiN k w) a).2.2) else numF c L k m (w + 1) (nm c L (loN k w) (hiN k w) a).2.2
/-- the value of a number -/
def valR (c : Nat → Nat) (L k : Nat) : Nat → Nat → Nat → Nat
  | 0, w, a => (nm c L (loN k w) (hiN k w) a).2.1
  | i + 1, w, a => valR c L k i (w + 1) (nm c L (loN k w) (hiN k w) a).2.2
theorem numRF {c : Nat → Nat} {L k : Nat} : ∀ (m w a : Nat), (numR c L k (m + 1) w a).1 = 1 ∧ numF c L k (m + 1) w a = numR c L k (m + 1) w a ∧ dg c L (numR c L k (m + 1) w a).2 = false ∨ (numR c L k (m + 1) w a).1 = 0 ∧ (numF c L k (m + 1) w a).2 = (numR c L k (m + 1) w a).2 ∧ ((numF c L k (m + 1) w a).1 = 0 ∨ (numF c L k (m + 1) w a).1 = 1 ∧ dg c L (numR c L k (m + 1) w a).2 = true) := by
  intro m
  induction m with
  | zero =>
    intro w a
    unfold numR numF
    by_cases c0 : (nm c L (loN k w) (hiN k w) a).1 = 0
    · rw [if_pos c0, if_neg (by omega)]
      exact Or.inr ⟨rfl, rfl, Or.inl rfl⟩
    · have h5 := (nm_ok c0).2.2.2.2
      rw [if_neg c0]
      by_cases c1 : (nm c L (loN k w) (hiN k w) a).1 = 1
      · rw [if_pos c1]
        exact Or.inl ⟨rfl, rfl, h5.mp c1⟩
      · rw [if_neg c1]
        refine Or.inr ⟨rfl, rfl, Or.inr ⟨rfl, ?_⟩⟩
        cases e : dg c L (nm c L (loN k w) (hiN k w) a).2.2
        · exact absurd (h5.mpr e) c1
        · rfl
  | succ m ih =>
    intro w a
    unfold numR numF
    by_cases c0 : (nm c L (loN k w) (hiN k w) a).1 = 0
    · rw [if_pos c0, if_neg (by omega)]
      exact Or.inr ⟨rfl, rfl, Or.inl rfl⟩
    · have h5 := (nm_ok c0).2.2.2.2
      rw [if_neg c0]
      by_cases c1 : (nm c L (loN k w) (hiN k w) a).1 = 1
      · rw [if_pos c1]
        exact ih (w + 1) _
      · rw [if_neg c1]
        have e : dg c L (nm c L (loN k w) (hiN k w) a).2.2 = true := by
          cases e : dg c L (nm c L (loN k w) (hiN k w) a).2.2
          · exact absurd (h5.mpr e) c1
          · rfl
        have e2 := nm_dg (lo := loN k (w + 1)) (hi := hiN k (w + 1)) e
        unfold numF
        rw [e2]
        exact Or.inr ⟨rfl, rfl, Or.inl rfl⟩
theorem numR_ok {c : Nat → Nat} {L k : Nat} : ∀ (m w a : Nat), (numR c L k m w a).1 = 1 → a + 2 * m ≤ (numR c L k m w a).2 ∧ (a ≤ L → (numR c L k m w a).2 ≤ L) ∧ ∀ i, i < m → loN k (w + i) ≤ valR c L k i w a ∧ valR c L k i w a ≤ hiN k (w + i) := by
  intro m
  induction m with
  | zero => intro w a _; exact ⟨Nat.le_refl _, id, fun i hi => absurd hi (Nat.not_lt_zero _)⟩
  | succ m ih =>
    intro w a h
    unfold numR at h ⊢
    by_cases c1 : (nm c L (loN k w) (hiN k w) a).1 = 1
    · rw [if_pos c1] at h ⊢
      obtain ⟨a1, a2, a3, a4, _⟩ := nm_ok (show (nm c L (loN k w) (hiN k w) a).1 ≠ 0 by omega)
      obtain ⟨i1, i2, i3⟩ := ih (w + 1) _ h
      refine ⟨by omega, fun _ => i2 a4, fun i hi => ?_⟩
      match i, hi with
      | 0, _ => exact ⟨a1, a2⟩
      | i + 1, hi =>
        have := i3 i (by omega)
        rw [show w + (i + 1) = w + 1 + i by omega]
        exact this
    · rw [if_neg c1] at h
      cases h
theorem numR_01 {c : Nat → Nat} {L k : Nat} : ∀ (m w a : Nat), (numR c L k m w a).1 = 1 ∨ (numR c L k m w a).1 = 0 := by
  intro m
  induction m with
  | zero => intro w a; exact Or.inl rfl
  | succ m ih =>
    intro w a
    unfold numR
    split
    · exact ih _ _
    · exact Or.inr rfl
theorem nm_L {c : Nat → Nat} {L lo hi a : Nat} (ha : a ≤ L) : (nm c L lo hi a).2.2 ≤ L := by
  by_cases c0 : (nm c L lo hi a).1 = 0
  · unfold nm at c0 ⊢
    split at c0
    · rename_i q
      rw [if_pos q]
      have := (of_decide_eq_true q).1
      unfold nm1 at c0 ⊢
      split at c0
      · split at c0 <;> simp at c0
      · rename_i q2
        rw [if_neg q2]
        show a + 1 ≤ L
        omega
    · rename_i q
      rw [if_neg q]
      exact ha
  · exact (nm_ok c0).2.2.2.1
/-- an order: 1 and its end, or 0 and the fault -/
def ordR (c : Nat → Nat) (L a : Nat) : Nat × Nat := if kd c L a = 5 then (0, a) else if wdN c L (kd c L a) a < swl (kd c L a) then (0, a + wdN c L (kd c L a) a) else numR c L (kd c L a) (many (kd c L a)) 0 (a + swl (kd c L a))
def valO (c : Nat → Nat) (L a w : Nat) : Nat := valR c L (kd c L a) w 0 (a + swl (kd c L a))
theorem len_ge {k : Nat} (hk : k < 5) : 6 ≤ swl k + 2 * many k := by
  match k, hk with
  | 0, _ => decide
  | 1, _ => decide
  | 2, _ => decide
  | 3, _ => decide
  | 4, _ => decide
theorem ordR_ok {c : Nat → Nat} {L a : Nat} (ha : a ≤ L) (h : (ordR c L a).1 = 1) : kd c L a < 5 ∧ wdN c L (kd c L a) a = swl (kd c L a) ∧ ordR c L a = numR c L (kd c L a) (many (kd c L a)) 0 (a + swl (kd c L a)) ∧ a + 6 ≤ (ordR c L a).2 ∧ (ordR c L a).2 ≤ L ∧ ∀ w, w < many (kd c L a) → loN (kd c L a) w ≤ valO c L a w ∧ valO c L a w ≤ hiN (kd c L a) w := by
  have hk := kd_le (c := c) (L := L) (a := a)
  unfold ordR at h ⊢
  split at h
  · cases h
  · rename_i q
    rw [if_neg q]
    split at h
    · cases h
    · rename_i q2
      rw [if_neg q2]
      have hw := wdN_le (c := c) (L := L) (k := kd c L a) (a := a)
      have hwl := wdN_L (c := c) (L := L) (k := kd c L a) ha
      obtain ⟨i1, i2, i3⟩ := numR_ok _ _ _ h
      have hl := len_ge (k := kd c L a) (by omega)
      refine ⟨by omega, by omega, rfl, by omega, i2 (by omega), fun w hw => ?_⟩
      have := i3 w hw
      rw [Nat.zero_add] at this
      exact this
