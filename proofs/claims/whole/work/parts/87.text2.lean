/-! numbers, by both readers -/
/-- of an order's kind: how many numbers, the least and the greatest value -/
def many (k : Nat) : Nat := if k = 2 then 3 else if k = 4 then 1 else 2
def loN (k w : Nat) : Nat := if k = 4 then 1 else if k = 3 ∧ w = 1 then 1 else 0
def hiN (k w : Nat) : Nat := if k = 2 then (if w = 0 then 15 else 399) else if k = 4 then 99 else if w = 0 then 9 else if k = 3 then 60 else 15
theorem hiN_le (k w : Nat) : hiN k w ≤ 399 := by
  unfold hiN
  repeat' split
  all_goals omega
theorem many_le (k : Nat) : many k ≤ 3 := by
  unfold many
  repeat' split
  all_goals omega
theorem pick_ok {x a b d : Int32} {Q : Int32 → Prop} (h : Q (if x = 0 then a else if x = nI 1 then b else d)) : wp_X3_pick x a b d Q := by
  unfold wp_X3_pick
  by_cases c : x = 0
  · rw [if_pos c] at h
    exact ifP' c h
  · rw [if_neg c] at h
    refine ifN' c ?_
    by_cases c2 : x = nI 1
    · rw [if_pos c2] at h
      exact ifP' c2 h
    · rw [if_neg c2] at h
      exact ifN' c2 h
theorem highestOf_ok {k w : Nat} (hk : k < 5) (hw : w < 3) {Q : Int32 → Prop} (h1 : w < many k → Q (nI (hiN k w))) (h0 : many k ≤ w → Q (-5)) : wp_X3_highestOf (nI k) (nI w) Q := by
  unfold wp_X3_highestOf
  match k, hk with
  | 0, _ =>
    refine ifP rfl (pick_ok ?_)
    match w, hw with
    | 0, _ => exact h1 (by decide)
    | 1, _ => exact h1 (by decide)
    | 2, _ => exact h0 (by decide)
  | 1, _ =>
    refine ifN (by decide) (ifP rfl (pick_ok ?_))
    match w, hw with
    | 0, _ => exact h1 (by decide)
    | 1, _ => exact h1 (by decide)
    | 2, _ => exact h0 (by decide)
  | 2, _ =>
    refine ifN (by decide) (ifN (by decide) (ifP rfl (pick_ok ?_)))
    match w, hw with
    | 0, _ => exact h1 (by decide)
    | 1, _ => exact h1 (by decide)
    | 2, _ => exact h1 (by decide)
  | 3, _ =>
    refine ifN (by decide) (ifN (by decide) (ifN (by decide) (ifP rfl (pick_ok ?_))))
    match w, hw with
    | 0, _ => exact h1 (by decide)
    | 1, _ => exact h1 (by decide)
    | 2, _ => exact h0 (by decide)
  | 4, _ =>
    refine ifN (by decide) (ifN (by decide) (ifN (by decide) (ifN (by decide) (pick_ok ?_))))
    match w, hw with
    | 0, _ => exact h1 (by decide)
    | 1, _ => exact h0 (by decide)
    | 2, _ => exact h0 (by decide)
theorem lowestOf_ok {k w : Nat} (hk : k < 5) (hw : w < 3) {Q : Int32 → Prop} (h : Q (nI (loN k w))) : wp_X3_lowestOf (nI k) (nI w) Q := by
  unfold wp_X3_lowestOf wb_X3_lowestOf_15
  unfold loN at h
  by_cases c : k = 3
  · subst c
    refine ifP' rfl ?_
    by_cases c2 : w = 1
    · subst c2
      refine ifP' rfl ?_
      rw [if_neg (by decide), if_pos (by decide)] at h
      exact ifN' nz10 h
    · refine ifN' (fun e => c2 ((nz_eq (by omega) (by omega)).mp e)) ?_
      rw [if_neg (by decide), if_neg (by omega)] at h
      exact ifP' nI_0 (ifN' (by decide) h)
  · refine ifN' (fun e => c ((nz_eq (by omega) (by omega)).mp e)) ?_
    refine ifP' nI_0 ?_
    by_cases c2 : k = 4
    · subst c2
      exact ifP' rfl h
    · rw [if_neg c2, if_neg (by omega)] at h
      exact ifN' (fun e => c2 ((nz_eq (by omega) (by omega)).mp e)) h
theorem readNumber_46 {c : Nat → Nat} {L k w : Nat} {ch tx nums : Nat → Int32} (hT : Txt c L ch tx) (hk : k < 5) (hw : w < many k) {K : Int32 → Int32 → Prop} {Q : Int32 → Int32 → (Nat → Int32) → Prop} : ∀ (n v a i : Nat), L - a = n → a ≤ L → i < a → v ≤ hiN k w → (dg c L (nmL c L (hiN k w) n v a).2 = true → Q (nI 0) (nI (nmL c L (hiN k w) n v a).2) nums) → (dg c L (nmL c L (hiN k w) n v a).2 = false → K (nI (nmL c L (hiN k w) n v a).2) (nI (nmL c L (hiN k w) n v a).1)) → wb_X3_readNumber_46 (nI L) ch nums (nI k) (nI w) K Q (n + 1) (nI a) (nI v) (nI i) := by
  have hL := hT.1
  have hh := hiN_le k w
  have hm := many_le k
  intro n
  induction n with
  | zero =>
    intro v a i hn ha hi hv h1 h0
    have hd : dg c L a = false := decide_eq_false (fun q => by omega)
    rw [wb_X3_readNumber_46]
    exact ⟨fun q => absurd ((nz_le (by omega) (by omega)).mp q) (by omega), fun _ => nextDigit_ok hT ha (fun q => by rw [hd] at q; cases q) (fun _ => ifP rfl (h0 hd))⟩
  | succ n ih =>
    intro v a i hn ha hi hv h1 h0
    unfold nmL at h1 h0
    rw [wb_X3_readNumber_46]
    refine ⟨fun q => absurd ((nz_le (by omega) (by omega)).mp q) (by omega), fun _ => nextDigit_ok hT ha (fun hd => ?_) (fun hd => ?_)⟩
    · have hd2 := of_decide_eq_true hd
      refine ifN (by rw [nz_m5 (by omega)]; exact id) (nextDigit_ok hT ha (fun _ x6 e6 => ?_) (fun q => by rw [hd] at q; cases q))
      rw [pk_mul, nI_add, Nat.mul_comm v 10] at e6
      subst e6
      refine ⟨fun q => ?_, fun q => highestOf_ok hk (by omega) (fun _ => ?_) (fun q2 => absurd hw (by omega))⟩
      · have := (nz_eq0 (by omega)).mp q
        rw [if_neg (by omega)] at h1
        exact h1 hd
      · have hv0 : 0 < v := by
          rcases Nat.eq_zero_or_pos v with r | r
          · exact absurd ((nz_eq0 (by omega)).mpr r) q
          · exact r
        refine ⟨fun r => ?_, fun r => ?_⟩
        · have r2 := (nz_le (by omega) (by omega)).mp r
          rw [if_pos ⟨hv0, hd, r2⟩] at h1 h0
          intro t et i2 ei
          rw [nI_add] at et ei
          subst et ei
          exact ih _ (a + 1) (i + 1) (by omega) (by omega) (by omega) r2 h1 h0
        · have r2 : ¬ 10 * v + (c a - 48) ≤ hiN k w := fun e => r ((nz_le (by omega) (by omega)).mpr e)
          rw [if_neg (fun e => r2 e.2.2)] at h1
          exact h1 hd
    · rw [if_neg (fun e => by rw [hd] at e; cases e.2.1)] at h0
      exact ifP rfl (h0 hd)
theorem readNumber_ok {c : Nat → Nat} {L k w a sl : Nat} {ch tx nums : Nat → Int32} (hT : Txt c L ch tx) (hk : k < 5) (hw : w < many k) (ha : a ≤ L) (hsl : sl < 36) {Q : Int32 → Int32 → (Nat → Int32) → Prop} (h1 : (nm1 c L (loN k w) (hiN k w) a).1 = 1 → Q (nI 1) (nI (nm1 c L (loN k w) (hiN k w) a).2.2) (upd nums sl (nI (nm1 c L (loN k w) (hiN k w) a).2.1))) (h0 : (nm1 c L (loN k w) (hiN k w) a).1 ≠ 1 → Q (nI 0) (nI (nm1 c L (loN k w) (hiN k w) a).2.2) nums) : wp_X3_readNumber (nI L) (nI a) ch nums (nI sl) (nI k) (nI w) Q := by
  have hL := hT.1
  have hh := hiN_le k w
  have hm := many_le k
  have hlo : loN k w ≤ 1 := by
    unfold loN
    repeat' split
    all_goals omega
  unfold wp_X3_readNumber
  unfold nm1 at h1 h0
  refine nextDigit_ok hT ha (fun hd => ?_) (fun hd => ?_)
  · have hd2 := of_decide_eq_true hd
    refine ifN (by rw [nz_m5 (by omega)]; exact id) (lowestOf_ok hk (by omega) (highestOf_ok hk (by omega) (fun _ => ?_) (fun q2 => absurd hw (by omega))))
    by_cases q : loN k w ≤ c a - 48 ∧ c a - 48 ≤ hiN k w
    · rw [if_pos ⟨hd, q⟩] at h1 h0
      refine cWithin_t (by omega) (by omega) (by omega) q.1 q.2 (ifN' nz10 (fun t et => ⟨L - (a + 1) + 1, ?_⟩))
      rw [nI_add] at et
      subst et
      refine readNumber_46 hT hk hw _ _ _ _ rfl (by omega) (by omega) q.2 (fun e => ?_) (fun e => ?_)
      · exact h0 (by show (if dg c L _ = true then 2 else 1) ≠ 1; rw [if_pos e]; decide)
      · refine ⟨vp_in_nI (by omega) (by omega), fun nu enu => ?_⟩
        rw [nz_cl (by omega)] at enu
        subst enu
        exact h1 (by show (if dg c L _ = true then 2 else 1) = 1; rw [e]; rfl)
    · rw [if_neg (fun e => q e.2)] at h0
      refine cWithin_f (by omega) (by omega) (fun n q1 q2 e => ?_) (ifP' nI_0 (h0 (show (0 : Nat) ≠ 1 by decide)))
      have := (nz_eq (by omega) (by omega)).mp e
      omega
  · rw [if_neg (fun e => by rw [hd] at e; cases e.1)] at h0
    exact ifP rfl (h0 (show (0 : Nat) ≠ 1 by decide))
theorem number_78 {c : Nat → Nat} {L hi : Nat} {ch tx : Nat → Int32} (hT : Txt c L ch tx) (hh : hi ≤ 399) {K : Int32 → Int32 → Prop} : ∀ (n v a : Nat), L - a = n → a ≤ L → v ≤ hi → K (nI (nmL c L hi n v a).2) (nI (nmL c L hi n v a).1) → wb_X7_number_78 (nI L) (nI 1) tx (nI hi) K (n + 1) (nI a) (nI v) := by
  have hL := hT.1
  intro n
  induction n with
  | zero =>
    intro v a hn ha hv h
    rw [wb_X7_number_78]
    refine ifN nz10 ⟨fun _ => h, fun _ => sign_ok hT ha (fun q => by omega) (fun _ => ?_)⟩
    exact in_f (by omega) (by omega) (fun n q1 q2 e => by have := (nz_eq (by omega) (by omega)).mp e; omega) (ifP nI_0 h)
  | succ n ih =>
    intro v a hn ha hv h
    unfold nmL at h
    rw [wb_X7_number_78]
    refine ifN nz10 ⟨fun q => ?_, fun q => sign_ok hT ha (fun hl => ?_) (fun q => by omega)⟩
    · have := (nz_le0 (by omega)).mp q
      rw [if_neg (by omega)] at h
      exact h
    · have hc := (hT.2 a hl).1
      have hv0 : 0 < v := by
        rcases Nat.eq_zero_or_pos v with r | r
        · exact absurd ((nz_le0 (by omega)).mpr r) q
        · exact r
      by_cases hd : 48 ≤ c a ∧ c a ≤ 57
      · have hdg : dg c L a = true := decide_eq_true ⟨hl, hd⟩
        refine in_t (by omega) (by omega) (by omega) hd.1 hd.2 (ifN nz10 (sign_ok hT ha (fun _ => ?_) (fun q => by omega)))
        rw [pk_mul, nI_add, nz_sub (by omega), show 10 * v + c a - 48 = 10 * v + (c a - 48) by omega]
        refine ⟨fun r => ?_, fun r => sign_ok hT ha (fun _ x3 e3 t et => ?_) (fun q => by omega)⟩
        · have r2 := (nz_lt (by omega) (by omega)).mp r
          rw [if_neg (fun e => by omega)] at h
          exact h
        · rw [nI_add, nz_sub (by omega), show 10 * v + c a - 48 = 10 * v + (c a - 48) by omega] at e3
          rw [nI_add] at et
          subst e3 et
          have r2 : 10 * v + (c a - 48) ≤ hi := by
            rcases Nat.lt_or_ge hi (10 * v + (c a - 48)) with s | s
            · exact absurd ((nz_lt (by omega) (by omega)).mpr s) r
            · exact s
          rw [if_pos ⟨hv0, hdg, r2⟩] at h
          exact ih _ (a + 1) (by omega) (by omega) r2 h
      · rw [if_neg (fun e => hd (of_decide_eq_true e.2.1).2)] at h
        exact in_f (by omega) (by omega) (fun n q1 q2 e => by have := (nz_eq (by omega) (by omega)).mp e; omega) (ifP nI_0 h)
theorem number_46f {c : Nat → Nat} {L a hi : Nat} {ch tx : Nat → Int32} (hT : Txt c L ch tx) (ha : a ≤ L) {Q : Int32 → Int32 → Int32 → Prop} (h : ∀ x, Q x (nI a) (nI 0)) : wb_X7_number_46 (nI L) (nI a) tx (nI hi) Q (nI 0) := by
  unfold wb_X7_number_46
  have step : ∀ x3 : Int32, (nI 0 = 0 → ∀ T_at4, T_at4 = nI a + nI 0 → (∃ n5, wb_X7_number_78 (nI L) (nI 0) tx (nI hi) (fun T_at6 x3_7 => Q x3_7 T_at6 (nI 0)) n5 T_at4 x3)) ∧ (¬ nI 0 = 0 → ∀ T_at8, T_at8 = nI a + nI 1 → (∃ n9, wb_X7_number_78 (nI L) (nI 0) tx (nI hi) (fun T_at10 x3_11 => Q x3_11 T_at10 (nI 0)) n9 T_at8 x3)) := fun x3 => by
    refine ifP nI_0 (fun t et => ⟨1, ?_⟩)
    rw [nI_add, Nat.add_zero] at et
    subst et
    rw [wb_X7_number_78]
    exact ifP nI_0 (h x3)
  exact ⟨nb0, by decide, sign_ok hT ha (fun _ x3 _ => step x3) (fun _ x3 _ => step x3)⟩
theorem number_0 {c : Nat → Nat} {L a hi : Nat} {ch tx : Nat → Int32} (hT : Txt c L ch tx) (ha : a ≤ L) {x : Int32} {Q : Int32 → Int32 → Int32 → Prop} (h : ∀ x, Q x (nI a) (nI 0)) : wp_X7_number (nI L) (nI a) (nI 0) tx x (nI hi) Q := by
  unfold wp_X7_number
  exact wants_0 (ifP nI_0 (number_46f hT ha h))
theorem number_ok {c : Nat → Nat} {L a lo hi : Nat} {ch tx : Nat → Int32} (hT : Txt c L ch tx) (ha : a ≤ L) (hlo : lo ≤ 1) (hh : hi ≤ 399) (hh9 : 9 ≤ hi) {Q : Int32 → Int32 → Int32 → Prop} (h0 : (nm c L lo hi a).1 = 0 → ∀ x, Q x (nI (nm c L lo hi a).2.2) (nI 0)) (h1 : (nm c L lo hi a).1 ≠ 0 → Q (nI (nm c L lo hi a).2.1) (nI (nm c L lo hi a).2.2) (nI 1)) : wp_X7_number (nI L) (nI a) (nI 1) tx (nI lo) (nI hi) Q := by
  have hL := hT.1
  unfold wp_X7_number
  unfold nm at h0 h1
  refine wants_ok hT ha (by omega) (by omega) (fun e => ?_) (fun e => ?_)
  · rw [if_pos e] at h0 h1
    have hl := (of_decide_eq_true e).1
    unfold nm1 at h0 h1
    rw [nI_add]
    refine ifN nz10 (sign_ok hT (by omega) (fun hl2 => ?_) (fun hl2 => ?_))
    · have hc := (hT.2 (a + 1) hl2).1
      by_cases q : 48 + lo ≤ c (a + 1) ∧ c (a + 1) ≤ 57
      · have hd : dg c L (a + 1) = true := decide_eq_true ⟨hl2, by omega⟩
        rw [if_pos ⟨hd, by omega⟩] at h0 h1
        refine in_t (by omega) (by omega) (by omega) q.1 q.2 (ifN nz10 (sign_ok hT (by omega) (fun _ => ?_) (fun q => by omega)))
        rw [nz_sub (by omega)]
        refine ifN (fun r => absurd ((nz_lt (by omega) (by omega)).mp r) (by omega)) ?_
        unfold wb_X7_number_46
        refine ⟨nb1, by decide, sign_ok hT (by omega) (fun _ x3 e3 => ifN nz10 (fun t et => ⟨L - (a + 1 + 1) + 1, ?_⟩)) (fun q => by omega)⟩
        rw [nz_sub (by omega)] at e3
        rw [nI_add] at et
        subst e3 et
        refine number_78 hT hh _ _ _ rfl (by omega) (by omega) (h1 ?_)
        show (if dg c L _ = true then 2 else 1) ≠ 0
        split <;> decide
      · rw [if_neg (fun e2 => q ⟨by have := (of_decide_eq_true e2.1).2; omega, (of_decide_eq_true e2.1).2.2⟩)] at h0
        exact in_f (by omega) (by omega) (fun n q1 q2 e => by have := (nz_eq (by omega) (by omega)).mp e; omega) (ifP nI_0 (number_46f hT (by omega) (h0 rfl)))
    · rw [if_neg (fun e2 => by have := (of_decide_eq_true e2.1).1; omega)] at h0
      exact in_f (by omega) (by omega) (fun n q1 q2 e => by have := (nz_eq (by omega) (by omega)).mp e; omega) (ifP nI_0 (number_46f hT (by omega) (h0 rfl)))
  · rw [if_neg (by rw [e]; decide)] at h0
    exact ifP nI_0 (number_46f hT ha (h0 rfl))
