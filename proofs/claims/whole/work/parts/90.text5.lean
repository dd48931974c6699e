/-! the reference's reader -/
theorem sw114 : ∀ k, k < 5 → (nI (swc k 0) = nI 114 ↔ k = 0) := by decide
theorem sw111 : ∀ k, k < 5 → (nI (swc k 0) = nI 111 ↔ k = 1) := by decide
theorem sw108 : ∀ k, k < 5 → (nI (swc k 0) = nI 108 ↔ k = 2) := by decide
theorem sw100 : ∀ k, k < 5 → (nI (swc k 0) = nI 100 ↔ k = 3) := by decide
theorem sw112 : ∀ k, k < 5 → (nI (swc k 0) = nI 112 ↔ k = 4) := by decide
theorem wstep {c : Nat → Nat} {L k a i : Nat} {ch tx : Nat → Int32} (hT : Txt c L ch tx) (hk : k < 5) (ha : a ≤ L) (hi : i < swl k) (hs : 0 < swc k i) {Q : Int32 → Int32 → Prop} (h : Q (nI (a + min (i + 1) (wdN c L k a))) (nI (b01 (decide (i + 1 ≤ wdN c L k a))))) : wp_X7_wants (nI L) (nI (a + min i (wdN c L k a))) (nI (b01 (decide (i ≤ wdN c L k a)))) tx (nI (swc k i)) Q := by
  have hL := wdN_L (c := c) (L := L) (k := k) ha
  by_cases q : i ≤ wdN c L k a
  · rw [Nat.min_eq_left q, decide_eq_true q]
    refine wants_ok hT (by omega) (sw_lt hk hi) hs (fun e => ?_) (fun e => ?_)
    · have q2 : i + 1 ≤ wdN c L k a := by
        rcases Nat.eq_or_lt_of_le q with r | r
        · have := wdN_n (c := c) (L := L) (k := k) (a := a) (by omega)
          rw [← r, e] at this
          cases this
        · exact r
      rw [Nat.min_eq_left q2, decide_eq_true q2] at h
      exact h
    · have q2 : ¬ i + 1 ≤ wdN c L k a := fun r => by
        have := wdN_y (c := c) (L := L) (k := k) (a := a) (i := i) (by omega)
        rw [e] at this
        cases this
      rw [show min (i + 1) (wdN c L k a) = i by omega, decide_eq_false q2] at h
      exact h
  · rw [show min i (wdN c L k a) = min (i + 1) (wdN c L k a) by omega, decide_eq_false q]
    rw [decide_eq_false (show ¬ i + 1 ≤ wdN c L k a by omega)] at h
    exact wants_0 h
theorem readsWord_ok {c : Nat → Nat} {L k a : Nat} {ch tx : Nat → Int32} (hT : Txt c L ch tx) (hk : k < 5) (ha : a ≤ L) (h0 : 1 ≤ wdN c L k a) {Q : Int32 → Int32 → Prop} (h1 : wdN c L k a = swl k → Q (nI (a + swl k)) (nI 1)) (h2 : wdN c L k a < swl k → Q (nI (a + wdN c L k a)) (nI 0)) : wp_X7_readsWord (nI L) (nI (a + 1)) (nI 1) tx (nI (swc k 0)) Q := by
  have hle := wdN_le (c := c) (L := L) (k := k) (a := a)
  have fin : Q (nI (a + min (swl k) (wdN c L k a))) (nI (b01 (decide (swl k ≤ wdN c L k a)))) := by
    by_cases q : wdN c L k a = swl k
    · rw [q, Nat.min_self, decide_eq_true (Nat.le_refl _)]
      exact h1 q
    · rw [Nat.min_eq_right hle, decide_eq_false (by omega)]
      exact h2 (by omega)
  have e1 : nI (a + 1) = nI (a + min 1 (wdN c L k a)) := by rw [Nat.min_eq_left h0]
  have e2 : nI 1 = nI (b01 (decide (1 ≤ wdN c L k a))) := by rw [decide_eq_true h0]; rfl
  unfold wp_X7_readsWord wp_X7_rest
  rw [e1]
  generalize e3 : nI (b01 (decide (1 ≤ wdN c L k a))) = y at e2
  rw [e2, ← e3]
  match k, hk with
  | 0, _ => exact ifP' rfl (wstep hT (by decide) ha (i := 1) (by decide) (by decide) (wstep hT (by decide) ha (i := 2) (by decide) (by decide) (ifP nI_0 (ifP nI_0 fin))))
  | 1, _ => exact ifN' (by decide) (ifP' rfl (wstep hT (by decide) ha (i := 1) (by decide) (by decide) (wstep hT (by decide) ha (i := 2) (by decide) (by decide) (ifP nI_0 (ifP nI_0 fin)))))
  | 2, _ => exact ifN' (by decide) (ifN' (by decide) (ifP' rfl (wstep hT (by decide) ha (i := 1) (by decide) (by decide) (wstep hT (by decide) ha (i := 2) (by decide) (by decide) (ifN (by decide) (wstep hT (by decide) ha (i := 3) (by decide) (by decide) (ifN (by decide) (wstep hT (by decide) ha (i := 4) (by decide) (by decide) fin))))))))
  | 3, _ => exact ifN' (by decide) (ifN' (by decide) (ifN' (by decide) (ifP' rfl (wstep hT (by decide) ha (i := 1) (by decide) (by decide) (wstep hT (by decide) ha (i := 2) (by decide) (by decide) (ifN (by decide) (wstep hT (by decide) ha (i := 3) (by decide) (by decide) (ifN (by decide) (wstep hT (by decide) ha (i := 4) (by decide) (by decide) fin)))))))))
  | 4, _ => exact ifN' (by decide) (ifN' (by decide) (ifN' (by decide) (ifN' (by decide) (wstep hT (by decide) ha (i := 1) (by decide) (by decide) (wstep hT (by decide) ha (i := 2) (by decide) (by decide) (ifN (by decide) (wstep hT (by decide) ha (i := 3) (by decide) (by decide) (ifP nI_0 fin))))))))
theorem fl_232 {a o : Nat} {rd : Nat → Int32} {Q : Int32 → Int32 → Int32 → (Nat → Int32) → Prop} (h : Q (nI a) (nI 0) (nI o) rd) : wb_X7_readsOrder_232 (nI a) (nI 0) (nI o) rd Q := by
  unfold wb_X7_readsOrder_232
  refine ifP nI_0 (fun t et => ?_)
  rw [nI_add, Nat.add_zero] at et
  rw [et]
  exact h
theorem ok_232 {a o : Nat} {rd : Nat → Int32} {Q : Int32 → Int32 → Int32 → (Nat → Int32) → Prop} (h : Q (nI a) (nI 1) (nI (o + 1)) rd) : wb_X7_readsOrder_232 (nI a) (nI 1) (nI o) rd Q := by
  unfold wb_X7_readsOrder_232
  refine ifN nz10 (fun t et => ?_)
  rw [nI_add] at et
  rw [et]
  exact h
theorem fl_203 {L a o : Nat} {tx rd : Nat → Int32} {x1 x2 : Int32} {Q : Int32 → Int32 → Int32 → (Nat → Int32) → Prop} (h : Q (nI a) (nI 0) (nI o) rd) : wb_X7_readsOrder_203 (nI L) (nI a) (nI 0) (nI o) tx rd x1 x2 Q := by
  unfold wb_X7_readsOrder_203
  exact ifP nI_0 (fl_232 h)
theorem fl_140 {L a o : Nat} {tx rd : Nat → Int32} {x1 x2 : Int32} {Q : Int32 → Int32 → Int32 → (Nat → Int32) → Prop} (h : Q (nI a) (nI 0) (nI o) rd) : wb_X7_readsOrder_140 (nI L) (nI a) (nI 0) (nI o) tx rd x1 x2 Q := by
  unfold wb_X7_readsOrder_140
  exact ifP nI_0 (fl_203 h)
theorem lo_le (k w : Nat) : loN k w ≤ 1 := by
  unfold loN
  repeat' split
  all_goals omega
theorem hi_ge (k w : Nat) : 9 ≤ hiN k w := by
  unfold hiN
  repeat' split
  all_goals omega
theorem numF_1 {c : Nat → Nat} {L k m w a : Nat} (h : (nm c L (loN k w) (hiN k w) a).1 ≠ 0) : numF c L k (m + 1) w a = numF c L k m (w + 1) (nm c L (loN k w) (hiN k w) a).2.2 := if_neg h
theorem numF_0 {c : Nat → Nat} {L k m w a : Nat} (h : (nm c L (loN k w) (hiN k w) a).1 = 0) : numF c L k (m + 1) w a = (0, (nm c L (loN k w) (hiN k w) a).2.2) := if_pos h
theorem s203 {c : Nat → Nat} {L k a o : Nat} {ch tx rd : Nat → Int32} (hT : Txt c L ch tx) (hk : k < 5) (ha : a ≤ L) (ho : o < 15) {Q : Int32 → Int32 → Int32 → (Nat → Int32) → Prop} (h0 : (numF c L k (many k - 2) 2 a).1 = 0 → ∀ r2, (∀ j, j < 4 * o + 3 → r2 j = rd j) → Q (nI (numF c L k (many k - 2) 2 a).2) (nI 0) (nI o) r2) (h1 : (numF c L k (many k - 2) 2 a).1 = 1 → ∀ r2, (∀ j, j < 4 * o + 3 → r2 j = rd j) → (2 < many k → r2 (4 * o + 3) = nI (valR c L k 0 2 a)) → Q (nI (numF c L k (many k - 2) 2 a).2) (nI 1) (nI (o + 1)) r2) : wb_X7_readsOrder_203 (nI L) (nI a) (nI 1) (nI o) tx rd (nI (4 * o)) (nI (swc k 0)) Q := by
  unfold wb_X7_readsOrder_203
  refine ifN nz10 ⟨fun q => ?_, fun q => ?_⟩
  · have hk2 : k ≠ 2 := fun e => q ((sw108 k hk).mpr e)
    have hm : many k - 2 = 0 := by
      unfold many
      repeat' split
      all_goals omega
    rw [hm] at h1
    exact ok_232 (h1 rfl _ (fun j _ => rfl) (fun e => by omega))
  · have hk2 := (sw108 k hk).mp q
    subst hk2
    have up : ∀ x : Int32, ∀ j, j < 4 * o + 3 → upd rd (4 * o + 3) x j = rd j := fun x j hj => if_neg (by omega)
    refine number_ok hT ha (lo := loN 2 2) (hi := hiN 2 2) (by decide) (by decide) (by decide) (fun e x => ?_) (fun e => ?_)
    · have e2 := numF_0 (m := 0) e
      refine ⟨by rw [nI_add]; exact vp_in_nI (by omega) (by omega), fun r2 er => ?_⟩
      rw [nI_add, nz_cl (by omega)] at er
      subst er
      have := h0 (by show (numF c L 2 1 2 a).1 = 0; rw [e2]) _ (up x)
      rw [show many 2 - 2 = 0 + 1 from rfl, e2] at this
      exact fl_232 this
    · have e2 := numF_1 (m := 0) e
      refine ⟨by rw [nI_add]; exact vp_in_nI (by omega) (by omega), fun r2 er => ?_⟩
      rw [nI_add, nz_cl (by omega)] at er
      subst er
      have := h1 (by show (numF c L 2 1 2 a).1 = 1; rw [e2]; rfl) _ (up _) (fun _ => by unfold upd; rw [if_pos rfl])
      rw [show many 2 - 2 = 0 + 1 from rfl, e2] at this
      exact ok_232 this
theorem s178 {c : Nat → Nat} {L k a o : Nat} {ch tx rd : Nat → Int32} (hT : Txt c L ch tx) (hk : k < 4) (ha : a ≤ L) (ho : o < 15) {Q : Int32 → Int32 → Int32 → (Nat → Int32) → Prop} (h0 : (numF c L k (many k - 1) 1 a).1 = 0 → ∀ r2, (∀ j, j < 4 * o + 2 → r2 j = rd j) → Q (nI (numF c L k (many k - 1) 1 a).2) (nI 0) (nI o) r2) (h1 : (numF c L k (many k - 1) 1 a).1 = 1 → ∀ r2, (∀ j, j < 4 * o + 2 → r2 j = rd j) → (∀ i, i < many k - 1 → r2 (4 * o + 2 + i) = nI (valR c L k i 1 a)) → Q (nI (numF c L k (many k - 1) 1 a).2) (nI 1) (nI (o + 1)) r2) : wb_X7_readsOrder_178 (nI L) (nI a) (nI 1) (nI o) tx rd (nI (4 * o)) (nI (swc k 0)) Q (nI (hiN k 1)) := by
  have hm : many k - 1 = (many k - 2) + 1 := by
    unfold many
    repeat' split
    all_goals omega
  rw [hm] at h0 h1
  have hm3 := many_le k
  have go : ∀ lo : Nat, lo = loN k 1 → wp_X7_number (nI L) (nI a) (nI 1) tx (nI lo) (nI (hiN k 1)) (fun r2 T_at3 T_isWell4 => vp_in (nI (4 * o) + nI 2) 64 ∧ ∀ T_read5, T_read5 = upd rd (nI (4 * o) + nI 2).toNatClampNeg r2 → wb_X7_readsOrder_203 (nI L) T_at3 T_isWell4 (nI o) tx T_read5 (nI (4 * o)) (nI (swc k 0)) Q) := fun lo el => by
    subst el
    have up : ∀ x : Int32, ∀ j, j < 4 * o + 2 → upd rd (4 * o + 2) x j = rd j := fun x j hj => if_neg (by omega)
    refine number_ok hT ha (lo_le _ _) (hiN_le _ _) (hi_ge _ _) (fun e x => ?_) (fun e => ?_)
    · have e2 := numF_0 (m := many k - 2) e
      refine ⟨by rw [nI_add]; exact vp_in_nI (by omega) (by omega), fun r2 er => ?_⟩
      rw [nI_add, nz_cl (by omega)] at er
      subst er
      rw [e2] at h0
      exact fl_203 (h0 rfl _ (up x))
    · have e2 := numF_1 (m := many k - 2) e
      refine ⟨by rw [nI_add]; exact vp_in_nI (by omega) (by omega), fun r2 er => ?_⟩
      rw [nI_add, nz_cl (by omega)] at er
      subst er
      rw [e2] at h0 h1
      refine s203 hT (by omega) (nm_ok e).2.2.2.1 ho (fun f r2 hr => h0 f r2 (fun j hj => by rw [hr j (by omega)]; exact up _ j hj)) (fun f r2 hr hv => h1 f r2 (fun j hj => by rw [hr j (by omega)]; exact up _ j hj) (fun i hi => ?_))
      match i, hi with
      | 0, _ =>
        rw [Nat.add_zero, hr _ (by omega)]
        unfold upd
        rw [if_pos rfl]
        rfl
      | 1, hi => exact hv (by omega)
      | i + 2, hi => omega
  unfold wb_X7_readsOrder_178
  refine ⟨fun q => go 0 ?_, fun q => go 1 ?_⟩
  · have : k ≠ 3 := fun e => q ((sw100 k (by omega)).mpr e)
    unfold loN
    rw [if_neg (by omega), if_neg (by omega)]
  · have e := (sw100 k (by omega)).mp q
    subst e
    rfl
theorem s140 {c : Nat → Nat} {L k a o : Nat} {ch tx rd : Nat → Int32} (hT : Txt c L ch tx) (hk : k < 5) (ha : a ≤ L) (ho : o < 15) {Q : Int32 → Int32 → Int32 → (Nat → Int32) → Prop} (h0 : (numF c L k (many k - 1) 1 a).1 = 0 → ∀ r2, (∀ j, j < 4 * o + 2 → r2 j = rd j) → Q (nI (numF c L k (many k - 1) 1 a).2) (nI 0) (nI o) r2) (h1 : (numF c L k (many k - 1) 1 a).1 = 1 → ∀ r2, (∀ j, j < 4 * o + 2 → r2 j = rd j) → (∀ i, i < many k - 1 → r2 (4 * o + 2 + i) = nI (valR c L k i 1 a)) → Q (nI (numF c L k (many k - 1) 1 a).2) (nI 1) (nI (o + 1)) r2) : wb_X7_readsOrder_140 (nI L) (nI a) (nI 1) (nI o) tx rd (nI (4 * o)) (nI (swc k 0)) Q := by
  unfold wb_X7_readsOrder_140
  refine ifN nz10 ⟨fun q => ?_, fun q => ?_⟩
  · have e := (sw112 k hk).mp q
    subst e
    refine s203 hT (by decide) ha ho (fun e => ?_) (fun _ r2 hr _ => h1 rfl r2 (fun j hj => hr j (by omega)) (fun i hi => absurd hi (Nat.not_lt_zero i)))
    have : (numF c L 4 0 2 a).1 = 0 := e
    cases this
  · have hk4 : k ≠ 4 := fun e => q ((sw112 k hk).mpr e)
    refine ⟨fun q2 => ⟨fun q3 => ?_, fun q3 => ?_⟩, fun q2 => ?_⟩
    · have h2 : k ≠ 2 := fun e => q2 ((sw108 k hk).mpr e)
      have h3 : k ≠ 3 := fun e => q3 ((sw100 k hk).mpr e)
      rw [show nI 15 = nI (hiN k 1) by unfold hiN; rw [if_neg h2, if_neg hk4, if_neg (by decide), if_neg h3]]
      exact s178 hT (by omega) ha ho h0 h1
    · have h3 := (sw100 k hk).mp q3
      subst h3
      exact s178 hT (by omega) ha ho h0 h1
    · have h2 := (sw108 k hk).mp q2
      subst h2
      exact s178 hT (by omega) ha ho h0 h1
