def svV (P : PS) (p : Nat) : Int32 := if P.1 p = 0 then -5 else nI (P.1 p - 1)
theorem cfloorOf_v {N : Nat → Nat} (hI : PInv N) {sv : Int32} {sz tk : Nat → Int32} {P : PS} (hP : PI N P) (hR : RP4 sv sz tk P) {p : Nat} (hp : p < 16) {Q : Int32 → Prop} (h : Q (svV P p)) : wp_X4_floorOf sv sz tk (nI p) Q := by
  unfold svV at h
  refine cfloorOf_ok hI hP hR hp (fun c => ?_) (fun c => ?_)
  · rw [if_neg (by omega)] at h
    exact h
  · rw [if_pos c] at h
    exact h
theorem ea_tr {p w : Nat} : (nI 318 + nI 2 * nI p) + nI w = nI (318 + 2 * p + w) := by rw [pk_mul, nI_add, nI_add]
theorem q_person {b : Nat} {V : SV} {N : Nat → Nat} {th : Int32} {q1 q2 q3 q4 : Nat → Int32} {s1 : Int32} {O1 n1 z1 h1 t1 : Nat → Int32} (hI : Inv b N) (hS : RS V N) (x y : Int32) : wp_X6_person (V 14 0) (V 0) (V 1) (V 2) (V 3) (V 4) (V 14 1) (V 5) (V 6) (V 7) (V 10) s1 O1 n1 z1 h1 t1 x y (fun r _ _ _ _ _ _ => wp_X7_person th (sN N) q1 q2 q3 q4 x y (fun r2 _ _ _ _ _ => r2 = r)) := by
  have h3 := hI.2.2.2.1
  have r0 := hS.2.2.2.2.2.2.2.2.1
  unfold wp_X6_person
  by_cases c : ∃ p, p < 16 ∧ x = nI p
  · obtain ⟨p, hp, rfl⟩ := c
    have pl : ∀ {Q : Int32 → Int32 → (Nat → Int32) → (Nat → Int32) → (Nat → Int32) → (Nat → Int32) → Prop}, (∀ q1 q2 q3 q4, RP7 q1 q2 q3 q4 (plan N (able N (N 3))) → (y = nI 0 → Q (nI (N (318 + 2 * p))) (nI 0) q1 q2 q3 q4) ∧ (¬ y = nI 0 → (y = nI 1 → Q (nI (sm (lvMany N p) (N 6))) (nI 0) q1 q2 q3 q4) ∧ (¬ y = nI 1 → (y = nI 2 → Q (nI (sm (lvDays N p) (N 6))) (nI 0) q1 q2 q3 q4) ∧ (¬ y = nI 2 → (y = nI 3 → Q (nI (bs (inRow N p) 10)) (nI 0) q1 q2 q3 q4) ∧ (¬ y = nI 3 → (y = nI 4 → Q (nI (N (319 + 2 * p))) (nI 0) q1 q2 q3 q4) ∧ (¬ y = nI 4 → (y = nI 5 → Q (svV (plan N (able N (N 3))) p) (nI 0) q1 q2 q3 q4) ∧ (¬ y = nI 5 → Q (-2) (nI 0) q1 q2 q3 q4))))))) → wp_X7_person th (sN N) q1 q2 q3 q4 (nI p) y Q := fun {Q} h => by
      unfold wp_X7_person
      refine isPerson_t hp (ifN' nz10 ⟨vp_in_nI (by omega) (by omega), ?_⟩)
      rw [nz_cl (by omega)]
      refine plans_ok hI.1 (d := N 3) (by omega) (fun q1 q2 q3 q4 h7 => ?_)
      have hh := h q1 q2 q3 q4 h7
      rw [ea_tr, ea_tr]
      refine ⟨fun c0 => ⟨vp_in_nI (by omega) (by omega), ?_⟩, fun c0 => ⟨fun c1 => leavesOf_m hI.1 hp ((hh.2 c0).1 c1), fun c1 => ⟨fun c2 => leavesOf_d hI.1 hI.2.2.2.2.2.1 hp (((hh.2 c0).2 c1).1 c2), fun c2 => ⟨fun c3 => floorsOf_ok hI.1 hp ((((hh.2 c0).2 c1).2 c2).1 c3), fun c3 => ⟨fun c4 => ⟨vp_in_nI (by omega) (by omega), ?_⟩, fun c4 => ⟨fun c5 => ⟨vp_in_nI hp (by omega), ?_⟩, fun c5 => (((((hh.2 c0).2 c1).2 c2).2 c3).2 c4).2 c5⟩⟩⟩⟩⟩⟩
      · rw [nz_cl (by omega), Nat.add_zero]
        exact hh.1 c0
      · rw [nz_cl (by omega), show 318 + 2 * p + 1 = 319 + 2 * p by omega]
        exact ((((hh.2 c0).2 c1).2 c2).2 c3).1 c4
      · rw [nz_cl (by omega), h7.1 p hp]
        exact (((((hh.2 c0).2 c1).2 c2).2 c3).2 c4).1 c5
    obtain ⟨hg, σ, hσ, hR⟩ := hS.2.2.2.2.1
    refine cPerson_t hp (ifN' nz10 ⟨fun c0 => ?_, fun c0 => ⟨fun c1 => ?_, fun c1 => ⟨fun c2 => ?_, fun c2 => ⟨fun c3 => ?_, fun c3 => ⟨fun c4 => ?_, fun c4 => ⟨fun c5 => ?_, fun c5 => ?_⟩⟩⟩⟩⟩⟩)
    · refine ⟨vp_in_nI hp (by omega), ?_⟩
      rw [nz_cl (by omega), hS.2.2.2.1 p hp]
      exact pl (fun q1 q2 q3 q4 h7 => ifP c0 rfl)
    · rw [hg]
      refine cleavesOf_ok hI.1 hI.2.1 hσ hR hp ?_
      exact pl (fun q1 q2 q3 q4 h7 => ifN c0 (ifP c1 rfl))
    · rw [hg]
      refine cdaysOf_ok hI.1 hI.2.1 hI.2.2.2.2.2.1 hσ hR hp ?_
      exact pl (fun q1 q2 q3 q4 h7 => ifN c0 (ifN c1 (ifP c2 rfl)))
    · refine cfloorsOf_ok hI.1 hS.2.2.1 hp ?_
      exact pl (fun q1 q2 q3 q4 h7 => ifN c0 (ifN c1 (ifN c2 (ifP c3 rfl))))
    · refine ⟨vp_in_nI hp (by omega), ?_⟩
      rw [nz_cl (by omega), hS.2.2.2.2.2.2.2.1 p hp]
      exact pl (fun q1 q2 q3 q4 h7 => ifN c0 (ifN c1 (ifN c2 (ifN c3 (ifP c4 rfl)))))
    · rw [r0]
      refine clay_ok hI.1 hI.2.1 hS (by omega) (ab := able N (N 3)) x3_0 (fun s1 O1 n1 z1 h1 t1 hR => cfloorOf_v hI.1 (PI_plan hI.1 _) hR.1 hp ?_)
      exact pl (fun q1 q2 q3 q4 h7 => ifN c0 (ifN c1 (ifN c2 (ifN c3 (ifN c4 (ifP c5 rfl))))))
    · exact pl (fun q1 q2 q3 q4 h7 => ifN c0 (ifN c1 (ifN c2 (ifN c3 (ifN c4 (ifN c5 rfl))))))
  · refine cPerson_f c (ifP' nI_0 ?_)
    unfold wp_X7_person
    exact isPerson_f c (ifP' nI_0 rfl)
theorem q_reason {b : Nat} {V : SV} {N : Nat → Nat} {th : Int32} {q1 q2 q3 q4 : Nat → Int32} {s1 : Int32} {O1 n1 z1 h1 t1 : Nat → Int32} (hI : Inv b N) (hS : RS V N) (x y z : Int32) : wp_X6_reason (V 0) (V 1) (V 2) (V 3) (V 4) (V 14 1) (V 5) (V 6) (V 7) s1 O1 n1 z1 h1 t1 x y z (fun r _ _ _ _ _ _ => wp_X7_reason th (sN N) q1 q2 q3 q4 x y z (fun r2 _ _ _ _ _ => r2 = r)) := by
  unfold wp_X6_reason
  by_cases c : ∃ f, f < 10 ∧ y = nI f
  · obtain ⟨f, hf, rfl⟩ := c
    refine cFloor_t hf (ifN nz10 ?_)
    by_cases c1 : ∃ p, p < 16 ∧ z = nI p
    · obtain ⟨p, hp, rfl⟩ := c1
      refine cPerson_t hp (ifN' nz10 ?_)
      by_cases c2 : ∃ d, d < 400 ∧ x = nI d
      · obtain ⟨d, hd, rfl⟩ := c2
        have h5 := mn_le hI.1 f
        have h4 := hI.1.2.2.1 p hp
        have h6 := hI.2.1
        have pl : ∀ {Q : Int32 → Int32 → (Nat → Int32) → (Nat → Int32) → (Nat → Int32) → (Nat → Int32) → Prop}, (∀ q1 q2 q3 q4, (¬ svV (plan N (able N d)) p = nI f → (lvOn N p d = N 6 → (d ≤ N (318 + 2 * p) → (svV (plan N (able N d)) p = -5 → (plIn N f p < mn N f → Q (nI 5) (nI 0) q1 q2 q3 q4) ∧ (plIn N f p = mn N f → Q (nI 4) (nI 0) q1 q2 q3 q4)) ∧ (¬ svV (plan N (able N d)) p = -5 → Q (nI 3) (nI 0) q1 q2 q3 q4)) ∧ (¬ d ≤ N (318 + 2 * p) → Q (nI 2) (nI 0) q1 q2 q3 q4)) ∧ (lvOn N p d < N 6 → Q (nI 1) (nI 0) q1 q2 q3 q4)) ∧ (svV (plan N (able N d)) p = nI f → Q (nI 0) (nI 0) q1 q2 q3 q4)) → wp_X7_reason th (sN N) q1 q2 q3 q4 (nI d) (nI f) (nI p) Q := fun {Q} h => by
          unfold wp_X7_reason
          refine isFloor_t hf (ifN nz10 (isPerson_t hp (ifN' nz10 (isDay_t hd (ifN' nz10 (plans_ok hI.1 (by omega) (fun q1 q2 q3 q4 h7 => ⟨vp_in_nI hp (by omega), ?_⟩)))))))
          have hh := h q1 q2 q3 q4
          rw [nz_cl (show p < 2147483648 by omega), show q1 p = svV (plan N (able N d)) p from h7.1 p hp, ea_tr]
          refine ⟨fun e => leaveOn_ok hI.1 hp (by omega) (fun e1 => ifN (by rw [nz_m5 (by omega)]; exact id) ((hh.1 e).2 e1)) (fun e1 => ifP rfl ⟨vp_in_nI (by omega) (by omega), ?_⟩), fun e => hh.2 e⟩
          have h2 := (hh.1 e).1 e1
          rw [nz_cl (by omega), Nat.add_zero]
          refine ⟨fun e2 => ⟨vp_in_nI hp (by omega), ⟨fun e3 => placeIn_ok hI.1 hf hp (fun e4 => ifN' (by rw [nz_m5 (by omega)]; exact id) (((h2.1 ?_).1 e3).1 e4)) (fun e4 => ifP' rfl (((h2.1 ?_).1 e3).2 e4)), fun e3 => (h2.1 ?_).2 e3⟩⟩, fun e2 => h2.2 (fun e3 => e2 ?_)⟩
          · exact (nz_le (by omega) (by omega)).mp e2
          · exact (nz_le (by omega) (by omega)).mp e2
          · exact (nz_le (by omega) (by omega)).mp e2
          · exact (nz_le (by omega) (by omega)).mpr e3
        obtain ⟨hg, σ, hσ, hRl⟩ := hS.2.2.2.2.1
        refine cDay_t hd (ifN' nz10 (clay_ok hI.1 hI.2.1 hS (by omega) (ab := able N d) x3_0 (fun s1 O1 n1 z1 h1 t1 hR => cfloorOf_v hI.1 (PI_plan hI.1 _) hR.1 hp ⟨fun e => ?_, fun e => ?_⟩)))
        · rw [hg]
          refine find_ok hI.1 h6 hσ hRl hp (by omega) (by omega) (fun i hi hv => ?_) (fun e1 => ?_)
          · have e1 : lvOn N p d < N 6 := ovOn_some (hσ.1 i hi) hv
            refine ifN (by rw [nz_m5 (by omega)]; exact id) (pl (fun q1 q2 q3 q4 => ifN' e ⟨fun e2 => absurd e2 (by omega), fun _ => rfl⟩))
          · have e1' : lvOn N p d = N 6 := e1
            refine ifP rfl ⟨vp_in_nI hp (by omega), ?_⟩
            rw [nz_cl (by omega), hS.2.2.2.1 p hp]
            refine ⟨fun e2 => ⟨fun e3 => placeOf_ok hI.1 hS.2.2.1 hf hp (fun e4 => ifN' (by rw [nz_m5 (by omega)]; exact id) ?_) (fun e4 => ifP' rfl ?_), fun e3 => ?_⟩, fun e2 => ?_⟩
            · have e2' := (nz_le (by omega) (by omega)).mp e2
              exact pl (fun q1 q2 q3 q4 => ifN' e ⟨fun _ => ifP e2' (ifP e3 ⟨fun _ => rfl, fun e5 => absurd e5 (by omega)⟩), fun e5 => absurd e5 (by omega)⟩)
            · have e2' := (nz_le (by omega) (by omega)).mp e2
              exact pl (fun q1 q2 q3 q4 => ifN' e ⟨fun _ => ifP e2' (ifP e3 ⟨fun e5 => absurd e5 (by omega), fun _ => rfl⟩), fun e5 => absurd e5 (by omega)⟩)
            · have e2' := (nz_le (by omega) (by omega)).mp e2
              exact pl (fun q1 q2 q3 q4 => ifN' e ⟨fun _ => ifP e2' (ifN e3 rfl), fun e5 => absurd e5 (by omega)⟩)
            · have e2' : ¬ d ≤ N (318 + 2 * p) := fun q => e2 ((nz_le (by omega) (by omega)).mpr q)
              exact pl (fun q1 q2 q3 q4 => ifN' e ⟨fun _ => ifN e2' rfl, fun e5 => absurd e5 (by omega)⟩)
        · exact pl (fun q1 q2 q3 q4 => ifP' e rfl)
      · refine cDay_f c2 (ifP' nI_0 ?_)
        unfold wp_X7_reason
        exact isFloor_t hf (ifN nz10 (isPerson_t hp (ifN' nz10 (isDay_f c2 (ifP' nI_0 rfl)))))
    · refine cPerson_f c1 (ifP' nI_0 ?_)
      unfold wp_X7_reason
      exact isFloor_t hf (ifN nz10 (isPerson_f c1 (ifP' nI_0 rfl)))
  · refine cFloor_f c (ifP nI_0 ?_)
    unfold wp_X7_reason
    exact isFloor_f c (ifP nI_0 rfl)
