theorem q_firstShort {b : Nat} {V : SV} {N : Nat → Nat} {th : Int32} {q1 q2 q3 q4 : Nat → Int32} {s1 : Int32} {O1 n1 z1 h1 t1 : Nat → Int32} (hI : Inv b N) (hS : RS V N) (x : Int32) : wp_X6_firstShort (V 14 0) (V 0) (V 1) (V 2) (V 3) (V 4) (V 14 1) (V 5) (V 6) (V 7) s1 O1 n1 z1 h1 t1 x (fun r _ _ _ _ _ _ => wp_X7_firstShort th (sN N) q1 q2 q3 q4 x (fun r2 _ _ _ _ _ => r2 = r)) := by
  have h3 := hI.2.2.2.1
  have r0 := hS.2.2.2.2.2.2.2.2.1
  unfold wp_X6_firstShort
  by_cases c : ∃ f, f < 10 ∧ x = nI f
  · obtain ⟨f, hf, rfl⟩ := c
    have hl := fnd_le (shOn N f) (400 - N 3) (N 3)
    have pl : ∀ {Q : Int32 → Int32 → (Nat → Int32) → (Nat → Int32) → (Nat → Int32) → (Nat → Int32) → Prop}, (fnd (shOn N f) (400 - N 3) (N 3) < 400 → ∀ q1 q2 q3 q4, Q (nI (fnd (shOn N f) (400 - N 3) (N 3))) (nI 0) q1 q2 q3 q4) → (fnd (shOn N f) (400 - N 3) (N 3) = 400 → ∀ q1 q2 q3 q4, Q (-5) (nI 0) q1 q2 q3 q4) → wp_X7_firstShort th (sN N) q1 q2 q3 q4 (nI f) Q := fun {Q} h1 h2 => by
      unfold wp_X7_firstShort
      refine isFloor_t hf (ifN' nz10 ⟨vp_in_nI (by omega) (by omega), fun x2 e => ⟨400 - N 3 + 1, ?_⟩⟩)
      rw [nz_cl (by omega)] at e
      subst e
      exact rfirst_21 hI.1 hf (400 - N 3) (N 3) (by omega) h1 h2 _ _ _ _
    rw [r0]
    refine cFloor_t hf (ifN' nz10 ⟨400 - N 3 + 1, cfirst_17 hI.1 hI.2.1 hS hf (400 - N 3) (N 3) (by omega) (fun e s1 O1 n1 z1 h1 t1 => ?_) (fun e s1 O1 n1 z1 h1 t1 => ?_) _ _ _ _ _ _⟩)
    · exact pl (fun _ q1 q2 q3 q4 => rfl) (fun e2 => absurd e2 (by omega))
    · exact pl (fun e2 => absurd e2 (by omega)) (fun _ q1 q2 q3 q4 => rfl)
  · refine cFloor_f c (ifP' nI_0 ?_)
    unfold wp_X7_firstShort
    exact isFloor_f c (ifP' nI_0 rfl)
theorem q_load {b : Nat} {V : SV} {N : Nat → Nat} {th : Int32} {q1 q2 q3 q4 : Nat → Int32} {s1 : Int32} {O1 n1 z1 h1 t1 : Nat → Int32} (hI : Inv b N) (hS : RS V N) (x y : Int32) : wp_X6_load (V 14 0) (V 0) (V 1) (V 2) (V 3) (V 4) (V 14 1) (V 5) (V 6) (V 7) s1 O1 n1 z1 h1 t1 x y (fun r _ _ _ _ _ _ => wp_X7_load th (sN N) q1 q2 q3 q4 x y (fun r2 _ _ _ _ _ => r2 = r)) := by
  have h3 := hI.2.2.2.1
  have r0 := hS.2.2.2.2.2.2.2.2.1
  unfold wp_X6_load
  by_cases c : ∃ p, p < 16 ∧ x = nI p
  · obtain ⟨p, hp, rfl⟩ := c
    refine cPerson_t hp (ifN' nz10 ?_)
    by_cases c2 : ∃ n, 1 ≤ n ∧ n ≤ 99 ∧ y = nI n
    · obtain ⟨n, hn, hn2, rfl⟩ := c2
      refine cWithin_t (by omega) (by omega) (by omega) hn hn2 (ifN' nz10 (fun mm em => ?_))
      rw [r0, nI_add, nz_sub (by omega)] at em
      have em2 : mm = nI (min 399 (N 3 + n - 1)) := by
        rw [em]
        by_cases q : N 3 + n - 1 < 399
        · rw [if_pos ((nz_lt (by omega) (by omega)).mpr q), Nat.min_eq_right (by omega)]
        · rw [if_neg (fun e => q ((nz_lt (by omega) (by omega)).mp e)), Nat.min_eq_left (by omega)]
      rw [em2, r0]
      refine ⟨min 399 (N 3 + n - 1) + 1 - N 3 + 1, cload_52 hI.1 hI.2.1 hS hp h3 (e := min 399 (N 3 + n - 1)) (by omega) (fun s1 O1 n1 z1 h1 t1 => ?_) (min 399 (N 3 + n - 1) + 1 - N 3) 0 (by omega) _ _ _ _ _ _⟩
      unfold wp_X7_load
      refine isPerson_t hp (ifN' nz10 (in_t (by omega) (by omega) (by omega) hn hn2 (ifN' nz10 ⟨vp_in_nI (by omega) (by omega), fun x4 e4 => ⟨min 399 (N 3 + n - 1) + 1 - N 3 + 1, ?_⟩⟩)))
      rw [nz_cl (by omega)] at e4
      subst e4
      refine rload_37 hI.1 h3 hp hn2 (fun _ _ _ _ => ?_) (min 399 (N 3 + n - 1) + 1 - N 3) 0 (by omega) (by omega) _ _ _ _
      rfl
    · refine cWithin_f (by omega) (by omega) (fun n h1 h2 e => c2 ⟨n, h1, h2, e⟩) (ifP' nI_0 ?_)
      unfold wp_X7_load
      exact isPerson_t hp (ifN' nz10 (in_f (by omega) (by omega) (fun n h1 h2 e => c2 ⟨n, h1, h2, e⟩) (ifP' nI_0 rfl)))
  · refine cPerson_f c (ifP' nI_0 ?_)
    unfold wp_X7_load
    exact isPerson_f c (ifP' nI_0 rfl)
theorem q_ifLeft {b : Nat} {V : SV} {N : Nat → Nat} {th : Int32} {q1 q2 q3 q4 q5 : Nat → Int32} {s1 : Int32} {O1 n1 z1 h1 t1 : Nat → Int32} {s2 : Int32} {O2 n2 z2 h2 t2 : Nat → Int32} (hI : Inv b N) (hS : RS V N) (x y z : Int32) : wp_X6_ifLeft (V 0) (V 1) (V 2) (V 3) (V 4) (V 14 1) (V 5) (V 6) (V 7) s1 O1 n1 z1 h1 t1 s2 O2 n2 z2 h2 t2 x y z (fun r _ _ _ _ _ _ _ _ _ _ _ _ => wp_X7_ifLeft th (sN N) q1 q2 q3 q4 q5 x y z (fun r2 _ s2 _ _ _ _ _ => r2 = r ∧ s2 = sN N)) := by
  have h6 := hI.2.1
  unfold wp_X6_ifLeft
  by_cases c : ∃ p, p < 16 ∧ x = nI p
  · obtain ⟨p, hp, rfl⟩ := c
    by_cases c2 : ∃ a b, a ≤ b ∧ b ≤ 399 ∧ y = nI a ∧ z = nI b
    · obtain ⟨a, t, hab, ht, rfl, rfl⟩ := c2
      refine leaveError_ok hI.1 h6 hS.2.2.2.2.1 hp hab ht (fun d1 => ifN (by decide) ?_) (fun d1 => ifP (by decide) (cshort_ok hI.1 h6 hS hp (by omega) ht (fun s1 O1 n1 z1 h1 t1 s2 O2 n2 z2 h2 t2 => ?_)))
      · unfold wp_X7_ifLeft
        exact refusesDays_ok hI.1 hp hab ht (fun _ => ifN (by decide) ⟨rfl, rfl⟩) (fun e => absurd e (by omega))
      · unfold wp_X7_ifLeft
        exact refusesDays_ok hI.1 hp hab ht (fun e => absurd e (by omega)) (fun _ => ifP nI_0 (shortByMore_ok hI.1 h6 hI.2.2.2.2.1 hp (by omega) ht (fun _ _ _ _ _ => ⟨rfl, rfl⟩)))
    · refine leaveError_f2 hp c2 (ifN (by decide) ?_)
      unfold wp_X7_ifLeft
      exact refusesDays_f2 hp c2 (ifN (by decide) ⟨rfl, rfl⟩)
  · refine leaveError_f1 c (ifN (by decide) ?_)
    unfold wp_X7_ifLeft
    exact refusesDays_f1 c (ifN (by decide) ⟨rfl, rfl⟩)
theorem q_bestDay {b : Nat} {V : SV} {N : Nat → Nat} {th : Int32} {q1 q2 q3 q4 : Nat → Int32} {s1 : Int32} {O1 n1 z1 h1 t1 : Nat → Int32} (hI : Inv b N) (hS : RS V N) (x : Int32) : wp_X6_bestDay (V 14 0) (V 0) (V 1) (V 2) (V 3) (V 4) (V 14 1) (V 5) (V 6) (V 7) (V 9) s1 O1 n1 z1 h1 t1 x (fun r _ _ _ _ _ _ => wp_X7_bestDay th (sN N) q1 q2 q3 q4 x (fun r2 _ _ _ _ _ => r2 = r)) := by
  have h3 := hI.2.2.2.1
  have r0 := hS.2.2.2.2.2.2.2.2.1
  unfold wp_X6_bestDay
  by_cases c : ∃ w, w ≤ 1 ∧ x = nI w
  · obtain ⟨w, hw, rfl⟩ := c
    have pl : ∀ {Q : Int32 → Int32 → (Nat → Int32) → (Nat → Int32) → (Nat → Int32) → (Nat → Int32) → Prop}, (∀ q1 q2 q3 q4, (nI w = 0 → Q (noD (bst N (N 3) (400 - N 3)).1) (nI 0) q1 q2 q3 q4) ∧ (¬ nI w = 0 → (¬ noD (bst N (N 3) (400 - N 3)).1 = -5 → Q (nI (bst N (N 3) (400 - N 3)).2) (nI 0) q1 q2 q3 q4) ∧ (noD (bst N (N 3) (400 - N 3)).1 = -5 → Q (noD (bst N (N 3) (400 - N 3)).1) (nI 0) q1 q2 q3 q4))) → wp_X7_bestDay th (sN N) q1 q2 q3 q4 (nI w) Q := fun {Q} h => by
      unfold wp_X7_bestDay
      refine in_t (by omega) (by omega) (by omega) (by omega) hw (ifN' nz10 ⟨vp_in_nI (by omega) (by omega), fun x4 e4 => ⟨400 - N 3 + 1, ?_⟩⟩)
      rw [nz_cl (by omega)] at e4
      subst e4
      exact rbest_30 hI h3 (fun q1 q2 q3 q4 => h q1 q2 q3 q4) (400 - N 3) 0 (by omega) _ _ _ _
    rw [r0]
    refine cWithin_t (by omega) (by omega) (by omega) (by omega) hw (ifN' nz10 ⟨400 - N 3 + 1, cbest_26 hI hS h3 (fun s1 O1 n1 z1 h1 t1 => ⟨fun e1 => ⟨fun e2 => ?_, fun e2 => ?_⟩, fun e1 => ?_⟩) (400 - N 3) 0 (by omega) _ _ _ _ _ _⟩)
    · exact pl (fun q1 q2 q3 q4 => ifN e2 (ifN' e1 rfl))
    · exact pl (fun q1 q2 q3 q4 => ifP e2 rfl)
    · exact pl (fun q1 q2 q3 q4 => ⟨fun _ => e1, fun _ => ifP' e1 e1⟩)
  · refine cWithin_f (by omega) (by omega) (fun n h1 h2 e => c ⟨n, h2, e⟩) (ifP' nI_0 ?_)
    unfold wp_X7_bestDay
    exact in_f (by omega) (by omega) (fun n h1 h2 e => c ⟨n, h2, e⟩) (ifP' nI_0 rfl)
theorem q_count {b m : Nat} {has th : Int32} {V : SV} {hV : Nat → SV} {N HN SN : Nat → Nat} {q1 q2 q3 q4 : Nat → Int32} {s1 : Int32} {O1 n1 z1 h1 t1 : Nat → Int32} {L : Nat} (hI : Inv b N) (hS : RS V N) (hH : Hist b m has hV HN SN) (x : Int32) : wp_X6_count (V 14 0) (V 0) (V 1) (V 2) (V 3) (V 4) (V 14 1) (V 5) (V 6) (V 7) (V 14 2) (V 8) (nI m) (nI L) s1 O1 n1 z1 h1 t1 x (fun r _ _ _ _ _ _ => wp_X7_count th (nI m) (nI L) (sN N) q1 q2 q3 q4 x (fun r2 _ _ _ _ _ => r2 = r)) := by
  have h3 := hI.2.2.2.1
  obtain ⟨s0, s1, s2, s4, ⟨hg, σ, hσ, hRl⟩, s6, s9, s10, r0, rm⟩ := id hS
  unfold wp_X6_count
  refine ⟨fun c0 => ?_, fun c0 => ⟨fun c1 => ?_, fun c1 => ⟨fun c2 => ?_, fun c2 => ⟨fun c3 => ?_, fun c3 => ⟨fun c4 => ?_, fun c4 => ⟨fun c5 => ?_, fun c5 => ⟨fun c6 => ?_, fun c6 => ⟨fun c7 => ?_, fun c7 => ⟨fun c8 => ?_, fun c8 => ⟨fun c9 => ?_, fun c9 => ⟨fun c10 => ?_, fun c10 => ⟨fun c11 => ?_, fun c11 => ⟨fun c12 => ?_, fun c12 => ⟨fun c13 => ?_, fun c13 => ?_⟩⟩⟩⟩⟩⟩⟩⟩⟩⟩⟩⟩⟩⟩
  · unfold wp_X7_count
    refine ifP c0 ⟨vp_in_nI (by omega) (by omega), ?_⟩
    rw [nz_cl (by omega), r0]
    rfl
  · unfold wp_X7_count
    refine ifN c0 (ifP c1 ⟨vp_in_nI (by omega) (by omega), ?_⟩)
    rw [nz_cl (by omega), r0]
    rfl
  · rw [r0]
    refine cfloorsShort_ok hI.1 hI.2.1 hS h3 (fun s1 O1 n1 z1 h1 t1 => ?_)
    unfold wp_X7_count
    refine ifN c0 (ifN c1 (ifP c2 ⟨vp_in_nI (by omega) (by omega), ?_⟩))
    rw [nz_cl (by omega)]
    exact shortFloors_ok hI.1 h3 (fun _ _ _ _ => rfl)
  · rw [r0]
    refine cwardensLacking_ok hI.1 hI.2.1 hS h3 (fun s1 O1 n1 z1 h1 t1 => ?_)
    unfold wp_X7_count
    exact ifN c0 (ifN c1 (ifN c2 (ifP c3 (shortInAll_ok hI.1 h3 (fun _ _ _ _ => rfl)))))
  · rw [r0]
    refine clay_ok hI.1 hI.2.1 hS (by omega) (ab := able N (N 3)) x3_0 (fun s1 O1 n1 z1 h1 t1 hR => ?_)
    rw [hR.1.1]
    refine bitCount_ok (bs_lt' _ (by omega)) ?_
    rw [pop_bs _ (by omega)]
    unfold wp_X7_count wb_X7_count_109
    exact ifN c0 (ifN c1 (ifN c2 (ifN c3 (ifP c4 (ifP' c4 (persons_serve hI.1 h3 (fun _ _ _ _ => rfl)))))))
  · rw [r0, hg]
    refine awayOn_ok hI.1 hI.2.1 hσ hRl (by omega) (bitCount_ok (bs_lt' _ (by omega)) ?_)
    rw [pop_bs _ (by omega)]
    unfold wp_X7_count wb_X7_count_109
    exact ifN c0 (ifN c1 (ifN c2 (ifN c3 (ifN c4 (ifP c5 (ifN' c4 (persons_away hI.1 h3 (fun _ _ _ _ => rfl))))))))
  · unfold wp_X7_count
    refine ifN c0 (ifN c1 (ifN c2 (ifN c3 (ifN c4 (ifN c5 (ifP c6 ⟨vp_in_nI (by omega) (by omega), ?_⟩))))))
    rw [nz_cl (by omega), hg]
    rfl
  · refine total_ok s6.1 ?_
    have h4 := hI.2.2.2.2.2.2.2.2.2
    unfold wp_X7_count wb_X7_count_132
    subst c7
    rw [nI_add, nz_sub (by omega)]
    refine ifN c0 (ifN c1 (ifN c2 (ifN c3 (ifN c4 (ifN c5 (ifN c6 (ifP rfl ⟨vp_in_nI (by omega) (by omega), ?_⟩)))))))
    rw [nz_cl (by omega), ← h4]
    rfl
  · unfold wp_X7_count wb_X7_count_132
    subst c8
    rw [nI_add, nz_sub (by omega)]
    refine ifN c0 (ifN c1 (ifN c2 (ifN c3 (ifN c4 (ifN c5 (ifN c6 (ifN c7 (ifP rfl ⟨vp_in_nI (by omega) (by omega), ?_⟩))))))))
    rw [nz_cl (by omega), rm]
    rfl
  · refine ⟨vp_in_nI (by omega) (by omega), ?_⟩
    unfold wp_X7_count
    subst c9
    rw [nz_sub (by omega)]
    refine ifN c0 (ifN c1 (ifN c2 (ifN c3 (ifN c4 (ifN c5 (ifN c6 (ifN c7 (ifN c8 (ifP rfl ⟨vp_in_nI (by omega) (by omega), ?_⟩)))))))))
    rw [nz_cl (by omega), s0 0 (by omega)]
    rfl
  · refine ⟨vp_in_nI (by omega) (by omega), ?_⟩
    unfold wp_X7_count
    subst c10
    rw [nz_sub (by omega)]
    refine ifN c0 (ifN c1 (ifN c2 (ifN c3 (ifN c4 (ifN c5 (ifN c6 (ifN c7 (ifN c8 (ifN c9 (ifP rfl ⟨vp_in_nI (by omega) (by omega), ?_⟩))))))))))
    rw [nz_cl (by omega), s0 1 (by omega)]
    rfl
  · refine ⟨vp_in_nI (by omega) (by omega), ?_⟩
    unfold wp_X7_count
    subst c11
    rw [nz_sub (by omega)]
    refine ifN c0 (ifN c1 (ifN c2 (ifN c3 (ifN c4 (ifN c5 (ifN c6 (ifN c7 (ifN c8 (ifN c9 (ifN c10 (ifP rfl ⟨vp_in_nI (by omega) (by omega), ?_⟩)))))))))))
    rw [nz_cl (by omega), s0 2 (by omega)]
    rfl
  · unfold wp_X7_count
    exact ifN c0 (ifN c1 (ifN c2 (ifN c3 (ifN c4 (ifN c5 (ifN c6 (ifN c7 (ifN c8 (ifN c9 (ifN c10 (ifN c11 (ifP c12 rfl))))))))))))
  · unfold wp_X7_count
    exact ifN c0 (ifN c1 (ifN c2 (ifN c3 (ifN c4 (ifN c5 (ifN c6 (ifN c7 (ifN c8 (ifN c9 (ifN c10 (ifN c11 (ifN c12 (ifP c13 rfl)))))))))))))
  · unfold wp_X7_count
    exact ifN c0 (ifN c1 (ifN c2 (ifN c3 (ifN c4 (ifN c5 (ifN c6 (ifN c7 (ifN c8 (ifN c9 (ifN c10 (ifN c11 (ifN c12 (ifN c13 rfl)))))))))))))
