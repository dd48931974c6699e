theorem Hist_push2 {b m : Nat} {has : Int32} {hV : Nat → SV} {HN SN N M : Nat → Nat} {v : SV} (h : Hist b m has hV HN SN) (hS : RS v N) (hI : Inv b N) : Hist b (hpn m) has (hpush hV m v) (cp N (recH M HN m) (474 * recM m) 474) SN := by
  obtain ⟨h1, h2, h3, h4⟩ := h
  refine ⟨hpn_le h1, fun k hk => ?_, h3, by rw [hpush_4]; exact h4⟩
  rw [← recM_hpn h1] at hk
  by_cases e : k = recM m
  · subst e
    rw [hpush_t h1, stK_cp_t hI.fin]
    exact ⟨hS, hI⟩
  · have hk2 : k < recM m := by omega
    rw [stK_cp_b hk2, hpush_b h1 hk2, stK_rec_b h1 hk2]
    refine h2 _ ?_
    unfold recM at hk2
    unfold old
    split at hk2 <;> split <;> omega
theorem ordR_L {c : Nat → Nat} {L a : Nat} (ha : a ≤ L) : (ordR c L a).2 ≤ L := by
  have h := ordF_L (c := c) ha
  rcases ordRF (c := c) (L := L) (a := a) with ⟨f1, f2, f3⟩ | ⟨f1, f2, f3⟩
  · rw [← f2]
    exact h
  · rw [← f2]
    exact h
theorem fin_L {c : Nat → Nat} {L : Nat} : ∀ (m o : Nat), psn c L o ≤ L → psn c L (fin c L m o).2 ≤ L := by
  intro m
  induction m with
  | zero => intro o ha; exact ha
  | succ m ih =>
    intro o ha
    unfold fin
    split
    · split
      · exact ha
      · split
        · exact ih (o + 1) (by rw [psn]; omega)
        · exact ha
    · exact ha
theorem q_perform {b m : Nat} {has th so se rn re at_ orders at2 well rm : Int32} {V B : SV} {hV : Nat → SV} {N HN SN : Nat → Nat} {c : Nat → Nat} {L : Nat} {ch tx kinds nums as rd q1 q2 q3 q4 q5 : Nat → Int32} {s1 : Int32} {O1 n1 z1 h1 t1 : Nat → Int32} {s2 : Int32} {O2 n2 z2 h2 t2 : Nat → Int32} (hI : Inv b N) (hS : RS V N) (hH : Hist b m has hV HN SN) (hT : Txt c L ch tx) (hst : StpR so se rn re) : wp_X6_perform so se (V 14 0) (V 0) (V 1) (V 2) (V 3) (V 4) (V 14 1) (V 5) (V 6) (V 7) (V 14 2) (V 8) (V 9) (V 10) (V 11) (V 12) (V 13) (B 14 0) (B 0) (B 1) (B 2) (B 3) (B 4) (B 14 1) (B 5) (B 6) (B 7) (B 14 2) (B 8) (B 9) (B 10) (B 11) (B 12) (B 13) (nI L) at_ orders ch kinds nums s1 O1 n1 z1 h1 t1 s2 O2 n2 z2 h2 t2 hV (nI m) (fun r so2 se2 a0 a1 a2 a3 a4 a5 a6 a7 a8 a9 a10 a11 a12 a13 a14 a15 a16 _ _ _ _ _ _ _ _ _ _ _ _ _ _ _ _ _ _ _ _ _ _ _ _ _ _ _ _ _ _ _ _ _ hV2 hs2 => wp_X7_perform th (nI m) (nI L) rn re at2 well rm (sN N) as (sN HN) tx q1 q2 q3 q4 q5 rd (fun r2 _ m2 rn2 re2 _ _ _ s2 _ st2 _ _ _ _ _ _ => r2 = r ∧ StpR so2 se2 rn2 re2 ∧ Rel (b + 12) has SN (sv a0 a1 a2 a3 a4 a5 a6 a7 a8 a9 a10 a11 a12 a13 a14 a15 a16) hV2 hs2 s2 st2 m2)) := by
  have hm12 := Inv_m hI (Nat.le_add_right b 12)
  have hH12 := Hist_m hH (Nat.le_add_right b 12)
  obtain ⟨A0, rfl⟩ := sN_ex as
  unfold wp_X6_perform
  refine readOrders_ok hT (fun e ki nu hP => ?_) (fun e x ki nu => ?_)
  · have hW := fin_ok e
    have hn := hW.1
    unfold wp_X3_orders
    refine ifN' nz10 (ccopy_ok ⟨(fin c L 12 0).2 + 1 + 1, perform_42 (V := V) (B := V) hI hW hP (fun i t W2 W3 g W5 W6 W7 mi W8 W9 W10 W11 W12 W13 s1 O1 n1 z1 h1 t1 s2 O2 n2 z2 h2 t2 hi hb hbi => ?_) (fun t W2 W3 g W5 W6 W7 mi W8 W9 W10 W11 W12 W13 s1 O1 n1 z1 h1 t1 s2 O2 n2 z2 h2 t2 hb hS2 => ?_) ((fin c L 12 0).2 + 1) 0 (by omega) _ _ _ _ _ _ _ _ _ _ _ _ _ _ _ _ _ _ _ _ _ _ _ _ _ _ (fun j hj => absurd hj (Nat.not_lt_zero j)) hS⟩)
    · refine ccopy_ok (B := sv t (V 0) (V 1) W2 W3 (V 4) g W5 W6 W7 mi W8 W9 W10 W11 W12 W13) (V := V) ?_
      unfold wp_X7_perform
      refine reads_ok hT (fun _ r2 a w hR => ifP rfl ⟨475, ?_⟩) (fun e2 => by omega)
      rw [← cp_z (A := N) (B := A0) (o := 0)]
      refine perform_23 ⟨(fin c L 12 0).2 + 1 + 1, perform_52 hI hW hR (fun i2 q1 q2 q3 q4 q5 hi2 hb2 hbi2 => ?_) (fun q1 q2 q3 q4 q5 x hx hb2 => absurd hbi (hb2 i hi)) ((fin c L 12 0).2 + 1) 0 (by omega) _ _ _ _ _ _ nI_0 (fun j hj => absurd hj (Nat.not_lt_zero j))⟩ 474 0 (by omega)
      have ei : i2 = i := by
        rcases Nat.lt_trichotomy i2 i with q | q | q
        · exact absurd hbi2 (hb _ q)
        · exact q
        · exact absurd hbi (hb2 _ q)
      subst ei
      refine ifN hbi ⟨475, ?_⟩
      rw [← cp_z (A := cp N A0 0 474) (B := NSq c L N (i2 + 1)) (o := 0)]
      refine perform_85 (fun sn es => ?_) 474 0 (by omega)
      rw [nz_sub (by omega), Nat.add_sub_cancel] at es
      subst es
      refine ⟨rfl, ⟨rfl, Or.inr ⟨fun e5 => (nz_m5 (by omega)).mp e5, rfl⟩⟩, ?_⟩
      rw [cp_in (A2 := N) (fun j hj => cp_at hj), cp_full hI.fin (NSq_inv hI hW (i2 + 1) (by omega)).fin]
      exact Rel_mk hm12 hS hH12
    · refine crec_ok hH.1 (by omega) ?_
      unfold wp_X7_perform
      refine reads_ok hT (fun _ r2 a w hR => ifP rfl ⟨475, ?_⟩) (fun e2 => by omega)
      rw [← cp_z (A := N) (B := A0) (o := 0)]
      refine perform_23 ⟨(fin c L 12 0).2 + 1 + 1, perform_52 hI hW hR (fun i2 q1 q2 q3 q4 q5 hi2 hb2 hbi2 => absurd hbi2 (hb i2 hi2)) (fun q1 q2 q3 q4 q5 x hx hb2 => ?_) ((fin c L 12 0).2 + 1) 0 (by omega) _ _ _ _ _ _ nI_0 (fun j hj => absurd hj (Nat.not_lt_zero j))⟩ 474 0 (by omega)
      refine ifP hx (records_ok hH.1 ⟨475, ?_⟩)
      have hr4 : recM m < 4 := by
        have := hH.1
        unfold recM
        split <;> omega
      rw [← cp_z (A := cp N A0 0 474) (B := recH (NSq c L N ((fin c L 12 0).2 + 1)) HN m) (o := 474 * recM m)]
      refine perform_135 hr4 ⟨rfl, hst, ?_⟩ 474 0 (by omega)
      rw [cp_in (A2 := N) (fun j hj => cp_at hj), recM_hpn hH.1]
      exact Rel_mk (Inv_m (NSq_inv hI hW _ (Nat.le_refl _)) (by omega)) hS2 (Hist_m (Hist_push2 (v := sv (V 14 0) (V 0) (V 1) (V 2) (V 3) (V 4) (V 14 1) (V 5) (V 6) (V 7) (V 14 2) (V 8) (V 9) (V 10) (V 11) (V 12) (V 13)) hH hS hI) (Nat.le_add_right b 12))
  · unfold wp_X3_fault
    refine ifP' nI_0 ?_
    unfold wp_X7_perform
    have hl : (ordR c L (psn c L (fin c L 12 0).2)).2 ≤ L := ordR_L (fin_L 12 0 (Nat.zero_le _))
    have hL := hT.1
    refine reads_ok hT (fun e2 => by omega) (fun _ a w x r2 => ifN (by rw [nz_m5 (by omega)]; exact id) ⟨rfl, hst, Rel_mk hm12 hS hH12⟩)
