/-! the class's reader -/
theorem readOrder_33 {c : Nat → Nat} {L k o : Nat} {ch tx kinds : Nat → Int32} (hT : Txt c L ch tx) (hk : k < 5) (ho : o < 12) {K : Int32 → (Nat → Int32) → Prop} {Q : Int32 → Int32 → (Nat → Int32) → (Nat → Int32) → Prop} : ∀ (m w a : Nat) (nums : Nat → Int32), w + m = many k → a ≤ L → ((numR c L k m w a).1 = 1 → ∀ nu, (∀ j, j < 3 * o + w → nu j = nums j) → (∀ i, i < m → nu (3 * o + w + i) = nI (valR c L k i w a)) → K (nI (numR c L k m w a).2) nu) → ((numR c L k m w a).1 = 0 → ∀ nu, Q (nI 0) (nI (numR c L k m w a).2) kinds nu) → wb_X3_readOrder_33 (nI L) ch kinds (nI o) (nI k) K Q (m + 1) (nI a) nums (nI w) := by
  have hm := many_le k
  intro m
  induction m with
  | zero =>
    intro w a nums hw ha h1 h0
    rw [wb_X3_readOrder_33]
    have fin := h1 rfl nums (fun j _ => rfl) (fun i hi => absurd hi (Nat.not_lt_zero _))
    refine ⟨fun _ => fin, fun q => ?_⟩
    have hw3 : w < 3 := by
      rcases Nat.lt_or_ge w 3 with r | r
      · exact r
      · exact absurd ((nz_le (by omega) (by omega)).mpr r) q
    exact highestOf_ok hk hw3 (fun e => absurd e (by omega)) (fun _ => ifP rfl fin)
  | succ m ih =>
    intro w a nums hw ha h1 h0
    have hh := hiN_le k w
    unfold numR at h1 h0
    rw [wb_X3_readOrder_33]
    refine ifN (fun e => absurd ((nz_le (by omega) (by omega)).mp e) (by omega)) (highestOf_ok hk (by omega) (fun _ => ifN (by rw [nz_m5 (by omega)]; exact id) (readSign_ok hT ha (by omega) (fun e => ?_) (fun e => ?_))) (fun e => absurd e (by omega)))
    · have en : nm c L (loN k w) (hiN k w) a = nm1 c L (loN k w) (hiN k w) (a + 1) := if_pos e
      have hl := (of_decide_eq_true e).1
      rw [en] at h1 h0
      refine ifN nz10 ?_
      rw [pk_mul, nI_add, Nat.mul_comm o 3]
      refine readNumber_ok hT hk (by omega) (by omega) (by omega) (fun e1 => ?_) (fun e1 => ?_)
      · rw [if_pos e1] at h1 h0
        refine ifN' nz10 (fun t et => ?_)
        rw [nI_add] at et
        subst et
        have hL2 := (nm1_ok (show (nm1 c L (loN k w) (hiN k w) (a + 1)).1 ≠ 0 by omega)).2.2.2.1
        refine ih (w + 1) _ _ (by omega) hL2 (fun f1 nu n1 n2 => h1 f1 nu (fun j hj => ?_) (fun i hi => ?_)) (fun f0 nu => h0 f0 nu)
        · rw [n1 j (by omega)]
          exact if_neg (by omega)
        · match i, hi with
          | 0, _ =>
            rw [Nat.add_zero, n1 (3 * o + w) (by omega)]
            unfold upd
            rw [if_pos rfl, valR, en]
          | i + 1, hi =>
            rw [show 3 * o + w + (i + 1) = 3 * o + (w + 1) + i by omega, n2 i (by omega), valR, en]
      · rw [if_neg e1] at h0
        exact ifP' nI_0 (h0 rfl _)
    · have en : nm c L (loN k w) (hiN k w) a = (0, 0, a) := if_neg (by rw [e]; decide)
      rw [en] at h0
      exact ifP nI_0 (h0 rfl _)
theorem readOrder_ok {c : Nat → Nat} {L a o : Nat} {ch tx kinds nums : Nat → Int32} (hT : Txt c L ch tx) (ha : a ≤ L) (ho : o < 12) {Q : Int32 → Int32 → (Nat → Int32) → (Nat → Int32) → Prop} (h1 : (ordR c L a).1 = 1 → ∀ nu, (∀ j, j < 3 * o → nu j = nums j) → (∀ w, w < many (kd c L a) → nu (3 * o + w) = nI (valO c L a w)) → Q (nI 1) (nI (ordR c L a).2) (upd kinds o (nI (kd c L a))) nu) (h0 : (ordR c L a).1 = 0 → ∀ ki nu, Q (nI 0) (nI (ordR c L a).2) ki nu) : wp_X3_readOrder (nI L) (nI a) ch kinds nums (nI o) Q := by
  have hwl := wdN_L (c := c) (L := L) (k := kd c L a) ha
  unfold wp_X3_readOrder
  unfold ordR at h1 h0
  refine nextKind_ok hT ha (fun hk => ?_) (fun hk => ?_)
  · rw [if_neg (by omega)] at h1 h0
    refine ifN (by rw [nz_m5 (by omega)]; exact id) (wordOf_ok hk (readWord_ok hT hk ha (fun hw => ?_) (fun hw => ?_)))
    · rw [if_neg (by omega)] at h1 h0
      refine ifN' nz10 ⟨vp_in_nI (by omega) (by omega), fun ki ek => ⟨many (kd c L a) + 1, ?_⟩⟩
      rw [nz_cl (by omega)] at ek
      subst ek
      refine readOrder_33 hT hk ho (many (kd c L a)) 0 _ nums (by omega) (by omega) (fun e nu n1 n2 => h1 e nu n1 (fun w hw => ?_)) (fun e nu => h0 e _ nu)
      have := n2 w hw
      rw [Nat.add_zero] at this
      exact this
    · rw [if_pos hw] at h0
      exact ifP' nI_0 (h0 rfl _ _)
  · rw [if_pos hk] at h0
    exact ifP rfl (h0 rfl _ _)
/-- where the order i begins -/
def psn (c : Nat → Nat) (L : Nat) : Nat → Nat
  | 0 => 0
  | i + 1 => (ordR c L (psn c L i)).2 + 1
/-- the reading's end: 1 and the last order, or 0 and the order with the fault -/
def fin (c : Nat → Nat) (L : Nat) : Nat → Nat → Nat × Nat
  | 0, o => (0, o)
  | m + 1, o => if (ordR c L (psn c L o)).1 = 1 then (if L ≤ (ordR c L (psn c L o)).2 then (1, o) else if c (ordR c L (psn c L o)).2 = 59 then fin c L m (o + 1) else (0, o)) else (0, o)
/-- what the class has read: the first orders' kinds and numbers -/
def PK (c : Nat → Nat) (L n : Nat) (kinds nums : Nat → Int32) : Prop := ∀ i, i < n → kinds i = nI (kd c L (psn c L i)) ∧ ∀ w, w < many (kd c L (psn c L i)) → nums (3 * i + w) = nI (valO c L (psn c L i) w)
theorem readOrders_12 {c : Nat → Nat} {L : Nat} {ch tx : Nat → Int32} (hT : Txt c L ch tx) {K : Int32 → Int32 → (Nat → Int32) → (Nat → Int32) → Prop} {Q : Int32 → Int32 → Int32 → (Nat → Int32) → (Nat → Int32) → Prop} : ∀ (m o : Nat) (x : Int32) (kinds nums : Nat → Int32), o + m = 12 → psn c L o ≤ L → 7 * o ≤ psn c L o → PK c L o kinds nums → ((fin c L m o).1 = 1 → ∀ ki nu, PK c L ((fin c L m o).2 + 1) ki nu → Q (nI 1) (nI (ordR c L (psn c L (fin c L m o).2)).2) (nI ((fin c L m o).2 + 1)) ki nu) → ((fin c L m o).1 = 0 → ∀ x ki nu, Q (nI 0) (nI (ordR c L (psn c L (fin c L m o).2)).2) x ki nu) → wb_X3_readOrders_12 (nI L) ch K Q (m + 1) (nI (psn c L o)) x kinds nums (nI o) := by
  have hL := hT.1
  intro m
  induction m with
  | zero => intro o x kinds nums hm ha h7 hP h1 h0; omega
  | succ m ih =>
    intro o x kinds nums hm ha h7 hP h1 h0
    unfold fin at h1 h0
    rw [wb_X3_readOrders_12]
    refine ifN (fun e => absurd ((nz_le (by omega) (by omega)).mp e) (by omega)) (readOrder_ok hT ha (by omega) (fun e nu n1 n2 => ?_) (fun e ki nu => ?_))
    · rw [if_pos e] at h1 h0
      obtain ⟨_, _, _, e6, eL, _⟩ := ordR_ok ha e
      have hP2 : PK c L (o + 1) (upd kinds o (nI (kd c L (psn c L o)))) nu := fun i hi => by
        by_cases q : i = o
        · subst q
          exact ⟨if_pos rfl, n2⟩
        · have hw3 := many_le (kd c L (psn c L i))
          obtain ⟨p1, p2⟩ := hP i (by omega)
          refine ⟨by rw [← p1]; exact if_neg q, fun w hw => ?_⟩
          rw [n1 _ (by omega)]
          exact p2 w hw
      refine ifN' nz10 (fun t et => ?_)
      rw [nI_add] at et
      subst et
      refine next_ok hT eL (fun hl => ?_) (fun hl => ?_)
      · have hc := (hT.2 _ hl).1
        rw [if_neg (by omega)] at h1 h0
        refine ifN' (fun q => m1_ne hc q.symm) (readSign_ok hT eL (by omega) (fun q => ?_) (fun q => ?_))
        · rw [if_pos (of_decide_eq_true q).2] at h1 h0
          refine ifN' nz10 (fun t et => ?_)
          rw [nI_add] at et
          subst et
          refine ih (o + 1) _ _ _ (by omega) ?_ ?_ hP2 h1 h0
          · rw [psn]
            omega
          · rw [psn]
            omega
        · rw [if_neg (fun r => absurd ⟨hl, r⟩ (of_decide_eq_false q))] at h0
          exact ifP' nI_0 (h0 rfl _ _ _)
      · rw [if_pos (by omega)] at h1
        exact ifP' rfl (h1 rfl _ _ hP2)
    · rw [if_neg (by omega)] at h0
      exact ifP' nI_0 (h0 rfl _ _ _)
theorem readOrders_ok {c : Nat → Nat} {L : Nat} {ch tx : Nat → Int32} (hT : Txt c L ch tx) {a0 x0 : Int32} {kinds nums : Nat → Int32} {Q : Int32 → Int32 → Int32 → (Nat → Int32) → (Nat → Int32) → Prop} (h1 : (fin c L 12 0).1 = 1 → ∀ ki nu, PK c L ((fin c L 12 0).2 + 1) ki nu → Q (nI 1) (nI (ordR c L (psn c L (fin c L 12 0).2)).2) (nI ((fin c L 12 0).2 + 1)) ki nu) (h0 : (fin c L 12 0).1 = 0 → ∀ x ki nu, Q (nI 0) (nI (ordR c L (psn c L (fin c L 12 0).2)).2) x ki nu) : wp_X3_readOrders (nI L) a0 x0 ch kinds nums Q :=
  ⟨13, readOrders_12 hT 12 0 _ _ _ (by omega) (Nat.zero_le _) (Nat.zero_le _) (fun i hi => absurd hi (Nat.not_lt_zero _)) h1 h0⟩
