/-! what is told -/
theorem nz_nn {x : Int32} (h : 0 ≤ x) : ∃ n, n < 2147483648 ∧ x = nI n := by
  rw [Int32.le_iff_toInt_le] at h
  have h0 : (0 : Int32).toInt = 0 := rfl
  have h1 := Int32.toInt_lt x
  refine ⟨x.toInt.toNat, by omega, ?_⟩
  apply Int32.toInt_inj.mp
  rw [nI_toInt (by omega)]
  omega
theorem nz_neg {x : Int32} (h : ¬ 0 ≤ x) : x < 0 := by
  rw [Int32.le_iff_toInt_le] at h
  rw [Int32.lt_iff_toInt_lt]
  omega
theorem nz_nneg {x : Int32} (h : ¬ x < 0) : 0 ≤ x := by
  rw [Int32.lt_iff_toInt_lt] at h
  rw [Int32.le_iff_toInt_le]
  omega
theorem q_warden {b : Nat} {V : SV} {N : Nat → Nat} {th : Int32} {q1 q2 q3 q4 : Nat → Int32} {s1 : Int32} {O1 n1 z1 h1 t1 : Nat → Int32} (hI : Inv b N) (hS : RS V N) (x y z : Int32) : wp_X6_warden (V 0) (V 1) (V 2) (V 3) (V 4) (V 14 1) (V 5) (V 6) (V 7) s1 O1 n1 z1 h1 t1 x y z (fun r _ _ _ _ _ _ => wp_X7_warden th (sN N) q1 q2 q3 q4 x y z (fun r2 _ _ _ _ _ => r2 = r)) := by
  unfold wp_X6_warden
  by_cases c : ∃ f, f < 10 ∧ y = nI f
  · obtain ⟨f, hf, rfl⟩ := c
    refine cFloor_t hf (ifN' nz10 ?_)
    by_cases c2 : ∃ d, d < 400 ∧ x = nI d
    · obtain ⟨d, hd, rfl⟩ := c2
      refine cDay_t hd (ifN nz10 ⟨fun c3 => ?_, fun c3 => ?_⟩)
      · obtain ⟨r, hr, rfl⟩ := nz_nn c3
        have hP := PI_plan hI.1 (able N d)
        have hn := nd_le hI.1 f
        have hc := hP.2.1 f hf
        have c4 : 0 ≤ nI r := c3
        refine clay_ok hI.1 hI.2.1 hS (by omega) (ab := able N d) x3_0 (fun s1 O1 n1 z1 h1 t1 hR => ctaken_ok hI.1 hP hR.1 hf hr (fun c5 => ?_) (fun c5 => ?_))
        · unfold wp_X7_warden
          refine isFloor_t hf (ifN' nz10 (isDay_t hd (ifN nz10 (ifP c4 (plans_ok hI.1 (by omega) (fun q1 q2 q3 q4 h7 => ⟨vp_in_nI hf (by omega), ?_⟩))))))
          rw [nz_cl (by omega), h7.2.1 f hf]
          refine ifN (fun e => absurd ((nz_le (by omega) (by omega)).mp e) (by omega)) ?_
          rw [pk_mul, nI_add, nz_cl (by omega), h7.2.2.2 f hf r c5]
          exact ⟨vp_in_nI (by omega) (by omega), rfl⟩
        · unfold wp_X7_warden
          refine isFloor_t hf (ifN' nz10 (isDay_t hd (ifN nz10 (ifP c4 (plans_ok hI.1 (by omega) (fun q1 q2 q3 q4 h7 => ⟨vp_in_nI hf (by omega), ?_⟩))))))
          rw [nz_cl (by omega), h7.2.1 f hf]
          exact ifP ((nz_le (by omega) (by omega)).mpr c5) rfl
      · unfold wp_X7_warden
        exact isFloor_t hf (ifN' nz10 (isDay_t hd (ifN nz10 (ifN c3 rfl))))
    · refine cDay_f c2 (ifP nI_0 ?_)
      unfold wp_X7_warden
      exact isFloor_t hf (ifN' nz10 (isDay_f c2 (ifP nI_0 rfl)))
  · refine cFloor_f c (ifP' nI_0 ?_)
    unfold wp_X7_warden
    exact isFloor_f c (ifP' nI_0 rfl)
theorem q_staff {b : Nat} {V : SV} {N : Nat → Nat} {th : Int32} {q1 q2 q3 q4 : Nat → Int32} {s1 : Int32} {O1 n1 z1 h1 t1 : Nat → Int32} (hI : Inv b N) (hS : RS V N) (x y z : Int32) : wp_X6_staff (V 0) (V 1) (V 2) (V 3) (V 4) (V 14 1) (V 5) (V 6) (V 7) s1 O1 n1 z1 h1 t1 x y z (fun r _ _ _ _ _ _ => wp_X7_staff th (sN N) q1 q2 q3 q4 x y z (fun r2 _ _ _ _ _ => r2 = r)) := by
  unfold wp_X6_staff
  by_cases c : ∃ f, f < 10 ∧ y = nI f
  · obtain ⟨f, hf, rfl⟩ := c
    refine cFloor_t hf (ifN' nz10 ?_)
    by_cases c2 : ∃ d, d < 400 ∧ x = nI d
    · obtain ⟨d, hd, rfl⟩ := c2
      refine cDay_t hd (ifN nz10 ?_)
      by_cases c3 : ∃ w, w ≤ 2 ∧ z = nI w
      · obtain ⟨w, hw, rfl⟩ := c3
        have hP := PI_plan hI.1 (able N d)
        refine cWithin_t (by omega) (by omega) (by omega) (by omega) hw (ifN' nz10 (clay_ok hI.1 hI.2.1 hS (by omega) (ab := able N d) x3_0 (fun s1 O1 n1 z1 h1 t1 hR => ⟨fun c4 => ?_, fun c4 => ⟨fun c5 => ?_, fun c5 => ?_⟩⟩)))
        · refine ⟨vp_in_nI hf (by omega), ?_⟩
          unfold wp_X7_staff
          refine isFloor_t hf (ifN' nz10 (isDay_t hd (ifN nz10 (in_t (by omega) (by omega) (by omega) (by omega) hw (ifN' nz10 (plans_ok hI.1 (by omega) (fun q1 q2 q3 q4 h7 => ifP' c4 ⟨vp_in_nI hf (by omega), ?_⟩)))))))
          rw [nz_cl (by omega), h7.2.1 f hf, hR.1.2.1 f hf]
        · refine lack4_ok hR.2.1 hR.1.2.1 hP.2.1 hf ?_
          unfold wp_X7_staff
          exact isFloor_t hf (ifN' nz10 (isDay_t hd (ifN nz10 (in_t (by omega) (by omega) (by omega) (by omega) hw (ifN' nz10 (plans_ok hI.1 (by omega) (fun q1 q2 q3 q4 h7 => ifN' c4 (ifP' c5 (shortBy_ok h7.2.1 hP.2.1 hf rfl)))))))))
        · refine ⟨vp_in_nI hf (by omega), ?_⟩
          unfold wp_X7_staff
          refine isFloor_t hf (ifN' nz10 (isDay_t hd (ifN nz10 (in_t (by omega) (by omega) (by omega) (by omega) hw (ifN' nz10 (plans_ok hI.1 (by omega) (fun q1 q2 q3 q4 h7 => ifN' c4 (ifN' c5 ⟨vp_in_nI hf (by omega), ?_⟩))))))))
          rw [nz_cl (by omega), h7.2.2.1 f hf, hR.2.2 f hf]
      · refine cWithin_f (by omega) (by omega) (fun n _ h2 e => c3 ⟨n, h2, e⟩) (ifP' nI_0 ?_)
        unfold wp_X7_staff
        exact isFloor_t hf (ifN' nz10 (isDay_t hd (ifN nz10 (in_f (by omega) (by omega) (fun n _ h2 e => c3 ⟨n, h2, e⟩) (ifP' nI_0 rfl)))))
    · refine cDay_f c2 (ifP nI_0 ?_)
      unfold wp_X7_staff
      exact isFloor_t hf (ifN' nz10 (isDay_f c2 (ifP nI_0 rfl)))
  · refine cFloor_f c (ifP' nI_0 ?_)
    unfold wp_X7_staff
    exact isFloor_f c (ifP' nI_0 rfl)
theorem q_floor {b : Nat} {V : SV} {N : Nat → Nat} {th : Int32} (hb : b < 1000000) (hI : Inv b N) (hS : RS V N) (x y : Int32) : wp_X6_floor (V 1) (V 2) (V 8) (V 11) (V 12) (V 13) x y (fun r => wp_X7_floor th (sN N) x y (fun r2 _ => r2 = r)) := by
  unfold wp_X6_floor
  by_cases c : ∃ f, f < 10 ∧ x = nI f
  · obtain ⟨f, hf, rfl⟩ := c
    refine cFloor_t hf (ifN' nz10 ⟨fun c0 => ?_, fun c0 => ⟨fun c1 => ?_, fun c1 => ⟨fun c2 => ?_, fun c2 => ⟨fun c3 => ?_, fun c3 => ?_⟩⟩⟩⟩)
    · refine ⟨vp_in_nI hf (by omega), ?_⟩
      unfold wp_X7_floor
      refine isFloor_t hf (ifN' nz10 (ifP c0 (of_ok hf (by omega) ?_)))
      rw [nz_cl (by omega), hS.2.1 f hf, Nat.add_zero]
    · refine ⟨vp_in_nI hf (by omega), ?_⟩
      unfold wp_X7_floor
      refine isFloor_t hf (ifN' nz10 (ifN c0 (ifP c1 (of_ok hf (by omega) ?_))))
      rw [nz_cl (by omega), hS.2.2.1.1 f hf, show 8 + 31 * f + 1 = 9 + 31 * f by omega]
    · refine ⟨vp_in_nI hf (by omega), ?_⟩
      unfold wp_X7_floor
      refine isFloor_t hf (ifN' nz10 (ifN c0 (ifN c1 (ifP c2 (of_ok hf (by omega) ?_)))))
      rw [nz_cl (by omega), hS.2.2.2.2.2.1.1 f hf, show 8 + 31 * f + 7 = 15 + 31 * f by omega]
    · have h6 : N (16 + 31 * f) ≤ 6 := by have := (hI.2.2.2.2.2.2.2.2.1 f hf).2; omega
      refine logged_ok (r := 0) (w := 0) hb hI hS.2.2.2.2.2.1 hf (by omega) (by omega) (fun c4 => ?_) (fun c4 => ?_)
      · unfold wp_X7_floor
        refine isFloor_t hf (ifN' nz10 (ifN c0 (ifN c1 (ifN c2 (ifP c3 (of_ok hf (by omega) (ifN' ?_ (of_ok hf (by omega) ?_))))))))
        · rw [show 8 + 31 * f + 8 = 16 + 31 * f by omega, nz_eq0 (by omega)]
          omega
        · rw [show 8 + 31 * f + 8 = 16 + 31 * f by omega, pk_mul, nI_add, nz_sub (by omega)]
          refine of_ok hf (by omega) ?_
          rw [show 8 + 31 * f + (9 + 3 * N (16 + 31 * f) - 3) = 17 + 0 + 31 * f + 3 * (N (16 + 31 * f) - 1 - 0) by omega]
      · unfold wp_X7_floor
        refine isFloor_t hf (ifN' nz10 (ifN c0 (ifN c1 (ifN c2 (ifP c3 (of_ok hf (by omega) (ifP' ?_ rfl)))))))
        rw [show 8 + 31 * f + 8 = 16 + 31 * f by omega, nz_eq0 (by omega)]
        omega
    · unfold wp_X7_floor
      exact isFloor_t hf (ifN' nz10 (ifN c0 (ifN c1 (ifN c2 (ifN c3 rfl)))))
  · refine cFloor_f c (ifP' nI_0 ?_)
    unfold wp_X7_floor
    exact isFloor_f c (ifP' nI_0 rfl)
theorem personAt_hi {V2 V3 : Nat → Int32} {f k : Nat} (hk : 5 ≤ k) (hk2 : k < 2147483648) {Q : Int32 → Prop} (h : Q (-5)) : wp_X5_personAt V2 V3 (nI f) (nI k) Q := by
  unfold wp_X5_personAt wb_X5_personAt_25
  exact ⟨fun c => absurd ((nz_lt (by omega) (by omega)).mp c) (by omega), fun _ => ifP ((nz_le (by omega) (by omega)).mpr hk) (ifP nI_0 h)⟩
theorem q_row {b : Nat} {V : SV} {N : Nat → Nat} {th : Int32} (hI : Inv b N) (hS : RS V N) (x y : Int32) : wp_X6_row (V 2) (V 3) x y (fun r => wp_X7_row th (sN N) x y (fun r2 _ => r2 = r)) := by
  unfold wp_X6_row
  by_cases c : ∃ f, f < 10 ∧ x = nI f
  · obtain ⟨f, hf, rfl⟩ := c
    have h5 := mn_le hI.1 f
    have hm := mn_at (N := N) hf
    refine cFloor_t hf (ifN' nz10 ⟨fun c1 => ?_, fun c1 => ?_⟩)
    · obtain ⟨k, hk, rfl⟩ := nz_nn c1
      have c2 : 0 ≤ nI k := c1
      have no : mn N f ≤ k → wp_X7_row th (sN N) (nI f) (nI k) (fun r2 _ => r2 = -5) := fun h => by
        unfold wp_X7_row
        refine isFloor_t hf (ifN' nz10 (ifP c2 (of_ok hf (by omega) (ifP ?_ rfl))))
        rw [show 8 + 31 * f + 1 = 9 + 31 * f by omega, ← hm, nz_le (by omega) (by omega)]
        exact h
      by_cases c3 : k < 5
      · refine personAt_ok hI.1 hS.2.2.1 hf c3 (fun c4 => ?_) no
        unfold wp_X7_row
        refine isFloor_t hf (ifN' nz10 (ifP c2 (of_ok hf (by omega) (ifN ?_ ?_))))
        · rw [show 8 + 31 * f + 1 = 9 + 31 * f by omega, ← hm, nz_le (by omega) (by omega)]
          omega
        · rw [nI_add]
          refine of_ok hf (by omega) ?_
          rw [rw_at hf c3, show 8 + 31 * f + (2 + k) = 10 + 31 * f + k by omega]
      · exact personAt_hi (by omega) hk (no (by omega))
    · unfold wp_X7_row
      exact isFloor_t hf (ifN' nz10 (ifN c1 rfl))
  · refine cFloor_f c (ifP' nI_0 ?_)
    unfold wp_X7_row
    exact isFloor_f c (ifP' nI_0 rfl)
theorem q_log {b : Nat} {V : SV} {N : Nat → Nat} {th : Int32} (hb : b < 1000000) (hI : Inv b N) (hS : RS V N) (x y z : Int32) : wp_X6_log (V 8) (V 11) (V 12) (V 13) x y z (fun r => wp_X7_log th (sN N) x y z (fun r2 _ => r2 = r)) := by
  unfold wp_X6_log
  by_cases c : ∃ f, f < 10 ∧ x = nI f
  · obtain ⟨f, hf, rfl⟩ := c
    have h6 : N (16 + 31 * f) ≤ 6 := by have := (hI.2.2.2.2.2.2.2.2.1 f hf).2; omega
    refine cFloor_t hf (ifN' nz10 ⟨fun c1 => ?_, fun c1 => ?_⟩)
    · unfold wp_X7_log
      exact isFloor_t hf (ifN' nz10 (ifP c1 rfl))
    · obtain ⟨k, hk, rfl⟩ := nz_nn (nz_nneg c1)
      have c2 : ¬ nI k < 0 := c1
      by_cases c3 : ∃ w, w ≤ 2 ∧ z = nI w
      · obtain ⟨w, hw, rfl⟩ := c3
        refine cWithin_t (by omega) (by omega) (by omega) (by omega) hw (ifN' nz10 (logged_ok hb hI hS.2.2.2.2.2.1 hf hk (by omega) (fun c4 => ?_) (fun c4 => ?_)))
        · unfold wp_X7_log
          refine isFloor_t hf (ifN' nz10 (ifN c2 (in_t (by omega) (by omega) (by omega) (by omega) hw (ifN' nz10 (of_ok hf (by omega) ?_)))))
          rw [show 8 + 31 * f + 8 = 16 + 31 * f by omega]
          refine ifN (fun e => absurd ((nz_le (by omega) (by omega)).mp e) (by omega)) ?_
          rw [nz_sub (by omega), nz_sub (by omega), pk_mul, nI_add, nI_add]
          refine of_ok hf (by omega) ?_
          rw [show 8 + 31 * f + (9 + 3 * (N (16 + 31 * f) - 1 - k) + w) = 17 + w + 31 * f + 3 * (N (16 + 31 * f) - 1 - k) by omega]
        · unfold wp_X7_log
          refine isFloor_t hf (ifN' nz10 (ifN c2 (in_t (by omega) (by omega) (by omega) (by omega) hw (ifN' nz10 (of_ok hf (by omega) ?_)))))
          rw [show 8 + 31 * f + 8 = 16 + 31 * f by omega]
          exact ifP ((nz_le (by omega) (by omega)).mpr c4) rfl
      · refine cWithin_f (by omega) (by omega) (fun n _ h2 e => c3 ⟨n, h2, e⟩) (ifP' nI_0 ?_)
        unfold wp_X7_log
        exact isFloor_t hf (ifN' nz10 (ifN c2 (in_f (by omega) (by omega) (fun n _ h2 e => c3 ⟨n, h2, e⟩) (ifP' nI_0 rfl))))
  · refine cFloor_f c (ifP' nI_0 ?_)
    unfold wp_X7_log
    exact isFloor_f c (ifP' nI_0 rfl)
theorem q_due {b : Nat} {V : SV} {N : Nat → Nat} {th : Int32} (hI : Inv b N) (hS : RS V N) (x : Int32) : wp_X6_due (V 1) (V 9) x (fun r => wp_X7_due th (sN N) x (fun r2 _ => r2 = r)) := by
  unfold wp_X6_due
  by_cases c : ∃ q, q ≤ 3 ∧ x = nI q
  · obtain ⟨q, hq, rfl⟩ := c
    refine cWithin_t (by omega) (by omega) (by omega) (by omega) hq (ifN' nz10 (floorsDueIn_ok hI.1 hI.2.2.2.2.2.2.2.1 hS.2.1 hS.2.2.2.2.2.2.1 (q := q) (by omega) ?_))
    unfold wp_X7_due
    exact in_t (by omega) (by omega) (by omega) (by omega) hq (ifN nz10 (dueIn_ok hI.1 hI.2.2.2.2.2.2.2.1 (q := q) (by omega) rfl))
  · refine cWithin_f (by omega) (by omega) (fun n _ h2 e => c ⟨n, h2, e⟩) (ifP' nI_0 ?_)
    unfold wp_X7_due
    exact in_f (by omega) (by omega) (fun n _ h2 e => c ⟨n, h2, e⟩) (ifP nI_0 rfl)
