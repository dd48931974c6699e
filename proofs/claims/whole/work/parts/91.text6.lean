/-- an order as the reference sees it: a digit too many is not its business -/
def ordF (c : Nat → Nat) (L a : Nat) : Nat × Nat := if kd c L a = 5 then (0, a) else if wdN c L (kd c L a) a < swl (kd c L a) then (0, a + wdN c L (kd c L a) a) else numF c L (kd c L a) (many (kd c L a)) 0 (a + swl (kd c L a))
theorem many_pos (k : Nat) : many k = many k - 1 + 1 := by
  unfold many
  repeat' split
  all_goals omega
theorem ordRF {c : Nat → Nat} {L a : Nat} : (ordR c L a).1 = 1 ∧ ordF c L a = ordR c L a ∧ dg c L (ordR c L a).2 = false ∨ (ordR c L a).1 = 0 ∧ (ordF c L a).2 = (ordR c L a).2 ∧ ((ordF c L a).1 = 0 ∨ (ordF c L a).1 = 1 ∧ dg c L (ordR c L a).2 = true) := by
  unfold ordR ordF
  split
  · exact Or.inr ⟨rfl, rfl, Or.inl rfl⟩
  · split
    · exact Or.inr ⟨rfl, rfl, Or.inl rfl⟩
    · rw [many_pos (kd c L a)]
      exact numRF _ _ _
theorem numF_L {c : Nat → Nat} {L k : Nat} : ∀ (m w a : Nat), a ≤ L → (numF c L k m w a).2 ≤ L := by
  intro m
  induction m with
  | zero => intro w a ha; exact ha
  | succ m ih =>
    intro w a ha
    unfold numF
    split
    · exact nm_L ha
    · exact ih _ _ (nm_L ha)
theorem ordF_L {c : Nat → Nat} {L a : Nat} (ha : a ≤ L) : (ordF c L a).2 ≤ L := by
  have h := wdN_L (c := c) (L := L) (k := kd c L a) ha
  have h2 := wdN_le (c := c) (L := L) (k := kd c L a) (a := a)
  unfold ordF
  split
  · exact ha
  · split
    · exact h
    · exact numF_L _ _ _ (by omega)
theorem s115 {c : Nat → Nat} {L k a o : Nat} {ch tx rd : Nat → Int32} (hT : Txt c L ch tx) (hk : k < 5) (ha : a ≤ L) (ho : o < 15) {Q : Int32 → Int32 → Int32 → (Nat → Int32) → Prop} (h0 : (numF c L k (many k) 0 a).1 = 0 → ∀ r2, (∀ j, j < 4 * o + 1 → r2 j = rd j) → Q (nI (numF c L k (many k) 0 a).2) (nI 0) (nI o) r2) (h1 : (numF c L k (many k) 0 a).1 = 1 → ∀ r2, (∀ j, j < 4 * o + 1 → r2 j = rd j) → (∀ i, i < many k → r2 (4 * o + 1 + i) = nI (valR c L k i 0 a)) → Q (nI (numF c L k (many k) 0 a).2) (nI 1) (nI (o + 1)) r2) : wb_X7_readsOrder_115 (nI L) (nI a) (nI 1) (nI o) tx rd (nI (4 * o)) (nI (swc k 0)) Q (nI (hiN k 0)) := by
  have hm3 := many_le k
  have hmp := many_pos k
  rw [hmp] at h0 h1
  have go : ∀ lo : Nat, lo = loN k 0 → wp_X7_number (nI L) (nI a) (nI 1) tx (nI lo) (nI (hiN k 0)) (fun r2 T_at3 T_isWell4 => vp_in (nI (4 * o) + nI 1) 64 ∧ ∀ T_read5, T_read5 = upd rd (nI (4 * o) + nI 1).toNatClampNeg r2 → wb_X7_readsOrder_140 (nI L) T_at3 T_isWell4 (nI o) tx T_read5 (nI (4 * o)) (nI (swc k 0)) Q) := fun lo el => by
    subst el
    have up : ∀ x : Int32, ∀ j, j < 4 * o + 1 → upd rd (4 * o + 1) x j = rd j := fun x j hj => if_neg (by omega)
    refine number_ok hT ha (lo_le _ _) (hiN_le _ _) (hi_ge _ _) (fun e x => ?_) (fun e => ?_)
    · have e2 := numF_0 (m := many k - 1) e
      refine ⟨by rw [nI_add]; exact vp_in_nI (by omega) (by omega), fun r2 er => ?_⟩
      rw [nI_add, nz_cl (by omega)] at er
      subst er
      rw [e2] at h0
      exact fl_140 (h0 rfl _ (up x))
    · have e2 := numF_1 (m := many k - 1) e
      refine ⟨by rw [nI_add]; exact vp_in_nI (by omega) (by omega), fun r2 er => ?_⟩
      rw [nI_add, nz_cl (by omega)] at er
      subst er
      rw [e2] at h0 h1
      refine s140 hT hk (nm_ok e).2.2.2.1 ho (fun f r2 hr => h0 f r2 (fun j hj => by rw [hr j (by omega)]; exact up _ j hj)) (fun f r2 hr hv => h1 f r2 (fun j hj => by rw [hr j (by omega)]; exact up _ j hj) (fun i hi => ?_))
      match i, hi with
      | 0, _ =>
        rw [Nat.add_zero, hr _ (by omega)]
        unfold upd
        rw [if_pos rfl]
        rfl
      | i + 1, hi =>
        rw [show 4 * o + 1 + (i + 1) = 4 * o + 2 + i by omega]
        exact hv i (by omega)
  unfold wb_X7_readsOrder_115
  refine ⟨fun q => go 0 ?_, fun q => go 1 ?_⟩
  · have : k ≠ 4 := fun e => q ((sw112 k hk).mpr e)
    unfold loN
    rw [if_neg this, if_neg (by omega)]
  · have e := (sw112 k hk).mp q
    subst e
    rfl
theorem s115f {c : Nat → Nat} {L hi a o : Nat} {ch tx rd : Nat → Int32} (hT : Txt c L ch tx) (ha : a ≤ L) (ho : o < 15) {x2 : Int32} {Q : Int32 → Int32 → Int32 → (Nat → Int32) → Prop} (h : ∀ r2, (∀ j, j < 4 * o + 1 → r2 j = rd j) → Q (nI a) (nI 0) (nI o) r2) : wb_X7_readsOrder_115 (nI L) (nI a) (nI 0) (nI o) tx rd (nI (4 * o)) x2 Q (nI hi) := by
  have go : ∀ x y : Int32, vp_in (nI (4 * o) + nI 1) 64 ∧ ∀ T_read5, T_read5 = upd rd (nI (4 * o) + nI 1).toNatClampNeg y → wb_X7_readsOrder_140 (nI L) (nI a) (nI 0) (nI o) tx T_read5 (nI (4 * o)) x2 Q := fun x y => by
    refine ⟨by rw [nI_add]; exact vp_in_nI (by omega) (by omega), fun r2 er => ?_⟩
    rw [nI_add, nz_cl (by omega)] at er
    subst er
    exact fl_140 (h _ (fun j hj => if_neg (by omega)))
  unfold wb_X7_readsOrder_115
  exact ⟨fun _ => number_0 hT ha (fun y => go 0 y), fun _ => number_0 hT ha (fun y => go 0 y)⟩
theorem s68 {c : Nat → Nat} {L k a o : Nat} {ch tx rd : Nat → Int32} (hT : Txt c L ch tx) (hk : k < 5) (ha : a < L) (hc : c a = swc k 0) (ho : o < 15) {Q : Int32 → Int32 → Int32 → (Nat → Int32) → Prop} (hw : wdN c L k a < swl k → ∀ r2, (∀ j, j < 4 * o → r2 j = rd j) → Q (nI (a + wdN c L k a)) (nI 0) (nI o) r2) (h0 : wdN c L k a = swl k → (numF c L k (many k) 0 (a + swl k)).1 = 0 → ∀ r2, (∀ j, j < 4 * o → r2 j = rd j) → Q (nI (numF c L k (many k) 0 (a + swl k)).2) (nI 0) (nI o) r2) (h1 : wdN c L k a = swl k → (numF c L k (many k) 0 (a + swl k)).1 = 1 → ∀ r2, (∀ j, j < 4 * o → r2 j = rd j) → r2 (4 * o) = nI (swc k 0) → (∀ i, i < many k → r2 (4 * o + 1 + i) = nI (valR c L k i 0 (a + swl k))) → Q (nI (numF c L k (many k) 0 (a + swl k)).2) (nI 1) (nI (o + 1)) r2) : wb_X7_readsOrder_68 (nI L) (nI 1) (nI o) tx rd (nI (4 * o)) (nI (swc k 0)) Q (nI a) (nI 1) := by
  have hwl := wdN_L (c := c) (L := L) (k := k) (a := a) (by omega)
  have hp := (sw_all k hk).1
  have w1 : 1 ≤ wdN c L k a := by
    rcases Nat.eq_zero_or_pos (wdN c L k a) with q | q
    · have := wdN_n (c := c) (L := L) (k := k) (a := a) (by omega)
      rw [q, Nat.add_zero] at this
      exact absurd ⟨ha, hc⟩ (of_decide_eq_false this)
    · exact q
  have up : ∀ x : Int32, ∀ j, j < 4 * o → upd rd (4 * o) x j = rd j := fun x j hj => if_neg (by omega)
  unfold wb_X7_readsOrder_68
  intro t et
  rw [nI_add] at et
  subst et
  refine ⟨vp_in_nI (by omega) (by omega), fun r0 er => ifN nz10 (readsWord_ok hT hk (by omega) w1 (fun q => ?_) (fun q => ?_))⟩
  · rw [nz_cl (by omega)] at er
    subst er
    have fin : wb_X7_readsOrder_115 (nI L) (nI (a + swl k)) (nI 1) (nI o) tx (upd rd (4 * o) (nI (swc k 0))) (nI (4 * o)) (nI (swc k 0)) Q (nI (hiN k 0)) := by
      refine s115 hT hk (by omega) ho (fun e r2 hr => h0 q e r2 (fun j hj => by rw [hr j (by omega)]; exact up _ j hj)) (fun e r2 hr hv => h1 q e r2 (fun j hj => by rw [hr j (by omega)]; exact up _ j hj) ?_ hv)
      rw [hr _ (by omega)]
      exact if_pos rfl
    refine ⟨fun q2 => ⟨fun q3 => ?_, fun q3 => ?_⟩, fun q2 => ?_⟩
    · have h2 : k ≠ 2 := fun e => q2 ((sw108 k hk).mpr e)
      have h4 : k ≠ 4 := fun e => q3 ((sw112 k hk).mpr e)
      rw [show nI 9 = nI (hiN k 0) by unfold hiN; rw [if_neg h2, if_neg h4, if_pos rfl]]
      exact fin
    · have h4 := (sw112 k hk).mp q3
      subst h4
      exact fin
    · have h2 := (sw108 k hk).mp q2
      subst h2
      exact fin
  · rw [nz_cl (by omega)] at er
    subst er
    have fin : ∀ hi : Nat, wb_X7_readsOrder_115 (nI L) (nI (a + wdN c L k a)) (nI 0) (nI o) tx (upd rd (4 * o) (nI (swc k 0))) (nI (4 * o)) (nI (swc k 0)) Q (nI hi) := fun hi => s115f hT (by omega) ho (fun r2 hr => hw q r2 (fun j hj => by rw [hr j (by omega)]; exact up _ j hj))
    exact ⟨fun q2 => ⟨fun q3 => fin 9, fun q3 => fin 99⟩, fun q2 => fin 15⟩
theorem s48f {L a o : Nat} {tx rd : Nat → Int32} {x2 : Int32} (ho : o < 15) {Q : Int32 → Int32 → Int32 → (Nat → Int32) → Prop} (h : ∀ r2, (∀ j, j < 4 * o → r2 j = rd j) → Q (nI a) (nI 0) (nI o) r2) : wb_X7_readsOrder_48 (nI L) (nI a) (nI o) tx rd (nI (4 * o)) x2 Q (nI 0) := by
  unfold wb_X7_readsOrder_48 wb_X7_readsOrder_68
  refine ⟨nb0, by decide, ifP nI_0 (fun t et => ⟨vp_in_nI (by omega) (by omega), fun r0 er => ifP nI_0 ?_⟩)⟩
  rw [nI_add, Nat.add_zero] at et
  rw [nz_cl (by omega)] at er
  subst et er
  exact fl_140 (h _ (fun j hj => if_neg (by omega)))
theorem readsOrder_ok {c : Nat → Nat} {L a o : Nat} {ch tx rd : Nat → Int32} (hT : Txt c L ch tx) (ha : a ≤ L) (ho : o < 15) {w : Int32} {Q : Int32 → Int32 → Int32 → (Nat → Int32) → Prop} (h0 : (ordF c L a).1 = 0 → ∀ r2, (∀ j, j < 4 * o → r2 j = rd j) → Q (nI (ordF c L a).2) (nI 0) (nI o) r2) (h1 : (ordF c L a).1 = 1 → kd c L a < 5 → ∀ r2, (∀ j, j < 4 * o → r2 j = rd j) → r2 (4 * o) = nI (swc (kd c L a) 0) → (∀ i, i < many (kd c L a) → r2 (4 * o + 1 + i) = nI (valO c L a i)) → Q (nI (ordF c L a).2) (nI 1) (nI (o + 1)) r2) : wp_X7_readsOrder (nI L) (nI a) w (nI o) tx rd Q := by
  have hkle := kd_le (c := c) (L := L) (a := a)
  unfold ordF at h0 h1
  unfold wp_X7_readsOrder
  intro x1 e1
  rw [pk_mul] at e1
  subst e1
  by_cases hk : kd c L a = 5
  · rw [if_pos hk] at h0
    have no : ∀ s : Int32, wb_X7_readsOrder_48 (nI L) (nI a) (nI o) tx rd (nI (4 * o)) s Q (nI 0) := fun s => s48f ho (h0 rfl)
    refine sign_ok hT ha (fun hl => ?_) (fun hl => ?_)
    · have hc := (hT.2 a hl).1
      have ne : ∀ k, k < 5 → ∀ s, s = swc k 0 → ¬ nI (c a) = nI s := fun k hk5 s es e => by
        have h128 := sw_lt (k := k) (i := 0) hk5 (by have := (sw_all k hk5).1; omega)
        have := (nz_eq (by omega) (by omega)).mp e
        exact kd_n hk hl hk5 (by rw [this, es])
      exact ifN (ne 0 (by decide) _ rfl) (ifN (ne 1 (by decide) _ rfl) (ifN (ne 2 (by decide) _ rfl) (ifN (ne 3 (by decide) _ rfl) (ifN' (ne 4 (by decide) _ rfl) (no _)))))
    · exact ifN (by decide) (ifN (by decide) (ifN (by decide) (ifN (by decide) (ifN' (by decide) (no _)))))
  · have hk5 : kd c L a < 5 := by omega
    obtain ⟨hl, hc⟩ := kd_y hk5
    have hwle := wdN_le (c := c) (L := L) (k := kd c L a) (a := a)
    rw [if_neg hk] at h0 h1
    have yes : wb_X7_readsOrder_48 (nI L) (nI a) (nI o) tx rd (nI (4 * o)) (nI (swc (kd c L a) 0)) Q (nI 1) := by
      unfold wb_X7_readsOrder_48
      refine ⟨nb1, by decide, ifN nz10 (s68 hT hk5 hl hc ho (fun q => ?_) (fun q => ?_) (fun q => ?_))⟩
      · rw [if_pos q] at h0
        exact h0 rfl
      · rw [if_neg (by omega)] at h0
        exact h0
      · rw [if_neg (by omega)] at h1
        exact fun e r2 => h1 e hk5 r2
    refine sign_ok hT ha (fun _ => ?_) (fun e => by omega)
    rw [hc]
    generalize kd c L a = k at hk5 yes
    match k, hk5 with
    | 0, _ => exact ifP rfl yes
    | 1, _ => exact ifN (by decide) (ifP rfl yes)
    | 2, _ => exact ifN (by decide) (ifN (by decide) (ifP rfl yes))
    | 3, _ => exact ifN (by decide) (ifN (by decide) (ifN (by decide) (ifP rfl yes)))
    | 4, _ => exact ifN (by decide) (ifN (by decide) (ifN (by decide) (ifN (by decide) (ifP' rfl yes))))
/-- what the reference has read -/
def RK (c : Nat → Nat) (L n : Nat) (rd : Nat → Int32) : Prop := ∀ i, i < n → rd (4 * i) = nI (swc (kd c L (psn c L i)) 0) ∧ ∀ w, w < many (kd c L (psn c L i)) → rd (4 * i + 1 + w) = nI (valO c L (psn c L i) w)
theorem reads_go {c : Nat → Nat} {L : Nat} {ch tx : Nat → Int32} (hT : Txt c L ch tx) {K : Int32 → Int32 → Int32 → (Nat → Int32) → Prop} : ∀ (m o : Nat) (w : Int32) (rd : Nat → Int32), o + m = 12 → psn c L o ≤ L → 7 * o ≤ psn c L o → RK c L o rd → ((fin c L m o).1 = 1 → ∀ r2, RK c L ((fin c L m o).2 + 1) r2 → K (nI (ordR c L (psn c L (fin c L m o).2)).2) (nI 1) (nI ((fin c L m o).2 + 1)) r2) → ((fin c L m o).1 = 0 → ∀ x r2, K (nI (ordR c L (psn c L (fin c L m o).2)).2) (nI 0) x r2) → ∀ {Q : Int32 → Int32 → Int32 → (Nat → Int32) → Prop}, (∀ a w k r, wb_X7_reads_14 (nI L) tx K (m + 2) a w k r → Q a w k r) → wp_X7_readsOrder (nI L) (nI (psn c L o)) w (nI o) tx rd Q := by
  have hL := hT.1
  intro m
  induction m with
  | zero => intro o w rd hm ha h7 hP h1 h0; omega
  | succ m ih =>
    intro o w rd hm ha h7 hP h1 h0 Q hQ
    unfold fin at h1 h0
    have hFL := ordF_L (c := c) ha
    refine readsOrder_ok hT ha (by omega) (fun e r2 hr => hQ _ _ _ _ ?_) (fun e hk r2 hr hr0 hrv => hQ _ _ _ _ ?_)
    · rw [wb_X7_reads_14]
      rcases ordRF (c := c) (L := L) (a := psn c L o) with ⟨f1, f2, f3⟩ | ⟨f1, f2, f3⟩
      · rw [f2] at e
        omega
      · rw [if_neg (by omega)] at h0
        rw [f2]
        exact ifP nI_0 (h0 rfl _ _)
    · rw [wb_X7_reads_14]
      rcases ordRF (c := c) (L := L) (a := psn c L o) with ⟨f1, f2, f3⟩ | ⟨f1, f2, f3⟩
      · rw [f2] at hFL ⊢
        rw [if_pos f1] at h1 h0
        obtain ⟨_, _, _, e6, eL, _⟩ := ordR_ok ha f1
        have hP2 : RK c L (o + 1) r2 := fun i hi => by
          by_cases q : i = o
          · subst q
            exact ⟨hr0, hrv⟩
          · have hw3 := many_le (kd c L (psn c L i))
            obtain ⟨p1, p2⟩ := hP i (by omega)
            refine ⟨by rw [hr _ (by omega)]; exact p1, fun w hw => ?_⟩
            rw [hr _ (by omega)]
            exact p2 w hw
        refine ifN nz10 ⟨fun q => ?_, fun q => ?_⟩
        · have q2 := (nz_le (by omega) (by omega)).mp q
          rw [if_pos q2] at h1
          exact h1 rfl _ hP2
        · have q2 : ¬ L ≤ (ordR c L (psn c L o)).2 := fun e => q ((nz_le (by omega) (by omega)).mpr e)
          rw [if_neg q2] at h1 h0
          refine wants_ok hT eL (by omega) (by omega) (fun q3 => ifN nz10 ?_) (fun q3 => ifP nI_0 ?_)
          · rw [if_pos (of_decide_eq_true q3).2] at h1 h0
            have := ih (o + 1) (nI 1) r2 (by omega) (by rw [psn]; omega) (by rw [psn]; omega) hP2 h1 h0 (Q := fun a w k r => wb_X7_reads_14 (nI L) tx K (m + 2) a w k r) (fun _ _ _ _ h => h)
            rw [psn] at this
            exact this
          · rw [if_neg (fun r => absurd ⟨by omega, r⟩ (of_decide_eq_false q3))] at h0
            rw [wb_X7_reads_14]
            exact ifP nI_0 (h0 rfl _ _)
      · rcases f3 with f3 | ⟨f3, f4⟩
        · omega
        · rw [f2] at hFL ⊢
          rw [if_neg (by omega)] at h0
          have hd := of_decide_eq_true f4
          refine ifN nz10 (ifN (fun q => by have := (nz_le (by omega) (by omega)).mp q; omega) (wants_ok hT hFL (by omega) (by omega) (fun q3 => ?_) (fun q3 => ifP nI_0 ?_)))
          · have := (of_decide_eq_true q3).2
            omega
          · rw [wb_X7_reads_14]
            exact ifP nI_0 (h0 rfl _ _)
theorem reads_ok {c : Nat → Nat} {L : Nat} {ch tx rd : Nat → Int32} (hT : Txt c L ch tx) {a0 w0 m0 : Int32} {Q : Int32 → Int32 → Int32 → Int32 → (Nat → Int32) → Prop} (h1 : (fin c L 12 0).1 = 1 → ∀ r2 a w, RK c L ((fin c L 12 0).2 + 1) r2 → Q (-5) a w (nI ((fin c L 12 0).2 + 1)) r2) (h0 : (fin c L 12 0).1 = 0 → ∀ a w x r2, Q (nI (ordR c L (psn c L (fin c L 12 0).2)).2) a w x r2) : wp_X7_reads (nI L) a0 w0 m0 tx rd Q := by
  have hL := hT.1
  unfold wp_X7_reads
  refine reads_go hT (K := fun T_at6 T_isWell7 T_readMany8 T_read9 => ((T_isWell7 = 0 → Q T_at6 T_at6 T_isWell7 T_readMany8 T_read9) ∧ (¬ T_isWell7 = 0 → Q (-5) T_at6 T_isWell7 T_readMany8 T_read9))) 12 0 w0 rd (by omega) (Nat.zero_le _) (Nat.zero_le _) (fun i hi => absurd hi (Nat.not_lt_zero _)) (fun e r2 hr => ifN nz10 (h1 e r2 _ _ hr)) (fun e x r2 => ifP nI_0 (h0 e _ _ _ _)) (fun a w m r h => ⟨14, h⟩)
