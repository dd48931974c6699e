theorem q_drill {b m : Nat} {has th : Int32} {V B : SV} {hV : Nat → SV} {N HN SN : Nat → Nat} {q1 q2 q3 q4 : Nat → Int32} {s1 : Int32} {O1 n1 z1 h1 t1 : Nat → Int32} (hI : Inv b N) (hS : RS V N) (hH : Hist b m has hV HN SN) (x y : Int32) : wp_X6_drill (V 14 0) (V 0) (V 1) (V 2) (V 3) (V 4) (V 14 1) (V 5) (V 6) (V 7) (V 14 2) (V 8) (V 9) (V 10) (V 11) (V 12) (V 13) (B 14 0) (B 0) (B 1) (B 2) (B 3) (B 4) (B 14 1) (B 5) (B 6) (B 7) (B 14 2) (B 8) (B 9) (B 10) (B 11) (B 12) (B 13) s1 O1 n1 z1 h1 t1 hV (nI m) x y (fun r g W8 W9 W10 W11 W12 W13 _ _ _ _ _ _ _ _ _ _ _ _ _ _ _ _ _ _ _ _ _ _ _ hV2 hs2 => wp_X7_drill th (nI m) (sN N) (sN HN) q1 q2 q3 q4 x y (fun r2 _ m2 s2 st2 _ _ _ _ => r2 = r ∧ Rel (b + 1) has SN (sv (V 14 0) (V 0) (V 1) (V 2) (V 3) (V 4) (V 14 1) (V 5) (V 6) (V 7) g W8 W9 W10 W11 W12 W13) hV2 hs2 s2 st2 m2)) := by
  have hm := Inv_m hI (Nat.le_succ b)
  have hHm := Hist_m hH (Nat.le_succ b)
  have h3 := hI.2.2.2.1
  unfold wp_X6_drill
  refine ccopy_ok ?_
  by_cases c : ∃ f, f < 10 ∧ x = nI f
  · obtain ⟨f, hf, rfl⟩ := c
    by_cases c2 : ∃ k, 1 ≤ k ∧ k ≤ 60 ∧ y = nI k
    · obtain ⟨k, hk, hk2, rfl⟩ := c2
      refine holdDrill_ok hI hS hf hk hk2 (fun s1 O1 n1 z1 h1 t1 d1 => crec_no (by decide) ?_) (fun s1 O1 n1 z1 h1 t1 l W8 W9 W10 W11 W12 W13 d1 hl el w6 w9 w10 => crec_ok hH.1 (by omega) ?_)
      · unfold wp_X7_drill
        exact refusesDrill_ok hI.1 h3 hf hk hk2 (fun _ _ _ _ _ => ifN (by decide) ⟨rfl, Rel_mk hm hS hHm⟩) (fun _ _ _ _ e => absurd d1 e)
      · have h6 : N (16 + 31 * f) ≤ 6 := by have := (hI.2.2.2.2.2.2.2.2.1 f hf).2; omega
        have hP := PI_plan hI.1 (able N (N 3))
        have hc : 0 < (plan N (able N (N 3))).2.2.1 f := by
          have := hP.2.1 f hf
          unfold noDrill lack at d1
          omega
        unfold wp_X7_drill
        refine refusesDrill_ok hI.1 h3 hf hk hk2 (fun _ _ _ _ e => absurd e d1) (fun q1 q2 q3 q4 _ hR => ifP nI_0 (records_ok hH.1 (drills_ok (l := l) hf hl h3 h6 ?_ ⟨rfl, ?_⟩)))
        · have := hR.2.2.2 f hf 0 hc
          rw [Nat.add_zero] at this
          rw [this, el]
        · have hA := Ag_dl (m := k) hf hl h3 h6
          have hi := Inv_iff.mp hI
          exact Rel_rec (V := sv (V 14 0) (V 0) (V 1) (V 2) (V 3) (V 4) (V 14 1) (V 5) (V 6) (V 7) (V 14 2) (V 8) (V 9) (V 10) (V 11) (V 12) (V 13)) hI hS hH (Nat.le_succ b) (Inv_6 hA hI (I6_dl hi.2.2.2.2.2.1 h3 hf hl)) (RS_6 hA hI hS w6 w9 w10 rfl)
    · refine holdDrill_f2 hf c2 (crec_no (by decide) ?_)
      unfold wp_X7_drill
      exact refusesDrill_f2 hf c2 (ifN (by decide) ⟨rfl, Rel_mk hm hS hHm⟩)
  · refine holdDrill_f1 c (crec_no (by decide) ?_)
    unfold wp_X7_drill
    exact refusesDrill_f1 c (ifN (by decide) ⟨rfl, Rel_mk hm hS hHm⟩)
theorem shortF_le {N : Nat → Nat} {d : Nat} : shortF N d ≤ 10 := by
  have := sm_le (g := fun f => b01 (decide (0 < lack N (plan N (able N d)) f))) (b := 1) (n := 10) (fun j _ => b01_le _)
  unfold shortF
  omega
theorem q_pass {b m : Nat} {has th : Int32} {V B : SV} {hV : Nat → SV} {N HN SN : Nat → Nat} {q1 q2 q3 q4 : Nat → Int32} {s1 : Int32} {O1 n1 z1 h1 t1 : Nat → Int32} (hI : Inv b N) (hS : RS V N) (hH : Hist b m has hV HN SN) (x : Int32) : wp_X6_pass (V 14 0) (V 0) (V 1) (V 2) (V 3) (V 4) (V 14 1) (V 5) (V 6) (V 7) (V 14 2) (V 8) (V 9) (V 10) (V 11) (V 12) (V 13) (B 14 0) (B 0) (B 1) (B 2) (B 3) (B 4) (B 14 1) (B 5) (B 6) (B 7) (B 14 2) (B 8) (B 9) (B 10) (B 11) (B 12) (B 13) s1 O1 n1 z1 h1 t1 hV (nI m) x (fun r g _ _ _ _ _ _ _ _ _ _ _ _ _ _ _ _ _ _ _ _ _ _ _ hV2 hs2 => wp_X7_pass th (nI m) (sN N) (sN HN) q1 q2 q3 q4 x (fun r2 _ m2 s2 st2 _ _ _ _ => r2 = r ∧ Rel b has SN (sv g (V 0) (V 1) (V 2) (V 3) (V 4) (V 14 1) (V 5) (V 6) (V 7) (V 14 2) (V 8) (V 9) (V 10) (V 11) (V 12) (V 13)) hV2 hs2 s2 st2 m2)) := by
  have h3 := hI.2.2.2.1
  unfold wp_X6_pass
  refine ccopy_ok ?_
  by_cases c : ∃ k, 1 ≤ k ∧ k ≤ 99 ∧ x = nI k
  · obtain ⟨k, hk, hk2, rfl⟩ := c
    have hl := shortF_le (N := un N 3 (N 3 + k)) (d := N 3 + k)
    refine letPass_ok hI hS hk hk2 (fun d1 => crec_no (by decide) ?_) (fun d1 s1 O1 n1 z1 h1 t1 => crec_ok hH.1 (by omega) ?_)
    · unfold wp_X7_pass
      exact refusesPass_ok h3 hk hk2 (fun e => absurd e (by omega)) (fun _ => ifN (by decide) ⟨rfl, Rel_mk hI hS hH⟩)
    · have hI2 := Inv_today hI d1
      unfold wp_X7_pass
      refine refusesPass_ok h3 hk hk2 (fun _ => ifP nI_0 (records_ok hH.1 ⟨vp_in_nI (by omega) (by omega), vp_in_nI (by omega) (by omega), fun T e => ?_⟩)) (fun e => absurd e (by omega))
      rw [nz_cl (by omega), show sN N 3 + nI k = nI (N 3 + k) from nI_add _ _, upd_sN] at e
      subst e
      refine ⟨vp_in_nI (by omega) (by omega), ?_⟩
      rw [nz_cl (by omega), show sN (un N 3 (N 3 + k)) 3 = nI (N 3 + k) by unfold sN; rw [un_s]]
      exact shortFloors_ok hI2.1 d1 (fun _ _ _ _ => ⟨rfl, Rel_rec (V := sv (V 14 0) (V 0) (V 1) (V 2) (V 3) (V 4) (V 14 1) (V 5) (V 6) (V 7) (V 14 2) (V 8) (V 9) (V 10) (V 11) (V 12) (V 13)) hI hS hH (Nat.le_refl _) hI2 (RS_today hI hS)⟩)
  · refine letPass_f c (crec_no (by decide) ?_)
    unfold wp_X7_pass
    exact refusesPass_f c (ifN (by decide) ⟨rfl, Rel_mk hI hS hH⟩)
