theorem doE_inv {b : Nat} {N : Nat → Nat} (hI : Inv b N) {k v0 v1 v2 : Nat} (hk : k < 5) (hr : rng k v0 v1 v2) : Inv (b + 1) (doE N k v0 v1 v2).2 := by
  have hm1 := Inv_m hI (Nat.le_succ b)
  have hi := Inv_iff.mp hI
  match k, hk with
  | 0, _ =>
    obtain ⟨hf, hp⟩ : v0 < 10 ∧ v1 < 16 := hr
    have h5 := mn_le hI.1 v0
    have hm := mn_at (N := N) hf
    show Inv (b + 1) (if inRow N v1 v0 = true then ((-4 : Int32), N) else if mn N v0 = 5 then (-3, N) else (nI 0, enN N v0 v1)).2
    split
    · exact hm1
    · split
      · exact hm1
      · exact Inv_3 (Ag_en hf (by omega)) hm1 (I3_en hi.2.2.1 hf hp (by omega))
  | 1, _ =>
    obtain ⟨hf, hp⟩ : v0 < 10 ∧ v1 < 16 := hr
    have h5 := mn_le hI.1 v0
    have hm := mn_at (N := N) hf
    show Inv (b + 1) (if plIn N v0 v1 < mn N v0 then (nI 0, stN N v0 (plIn N v0 v1)) else (nI 0, N)).2
    split
    · exact Inv_3 (Ag_st hf (by omega) (by omega)) hm1 (I3_st hi.2.2.1 hf (by omega))
    · exact hm1
  | 2, _ =>
    obtain ⟨hp, ha, hb⟩ : v0 < 16 ∧ v1 ≤ 399 ∧ v2 ≤ 399 := hr
    show Inv (b + 1) (if v1 ≤ v2 then (if ovOn N v0 v1 v2 < N 6 then ((-4 : Int32), N) else if N 6 = 40 then (-3, N) else if N 2 = 1 ∧ 0 < moreIn N v0 v1 v2 then (-6, N) else (nI 0, grN N v0 v1 v2)) else (-2, N)).2
    have h6 := hI.2.1
    have ho := ov_lt (N := N) (p := v0) (a := v1) (b := v2)
    split
    · split
      · exact hm1
      · split
        · exact hm1
        · split
          · exact hm1
          · exact Inv_5 (Ag_gr h6) hm1 (I5_gr hi.2.2.2.2.1 (by omega) hp (by omega) hb (by omega))
    · exact hm1
  | 3, _ =>
    obtain ⟨hf, h1, h2⟩ : v0 < 10 ∧ 1 ≤ v1 ∧ v1 ≤ 60 := hr
    show Inv (b + 1) (if nd N v0 = 0 ∨ 0 < lack N (plan N (able N (N 3))) v0 then ((-4 : Int32), N) else (nI 0, dlN N v0 v1 ((plan N (able N (N 3))).2.1 (3 * v0)))).2
    have h3 := hI.2.2.2.1
    have hP := PI_plan hI.1 (able N (N 3))
    have h6 : N (16 + 31 * v0) ≤ 6 := by have := (hI.2.2.2.2.2.2.2.2.1 v0 hf).2; omega
    split
    · exact hm1
    · rename_i c
      have hc := hP.2.1 v0 hf
      have hl := (hP.2.2.2.1 v0 hf 0 (by unfold lack at c; omega)).1
      rw [Nat.add_zero] at hl
      exact Inv_6 (Ag_dl hf hl h3 h6) hI (I6_dl hi.2.2.2.2.2.1 h3 hf hl)
  | 4, _ =>
    show Inv (b + 1) (if 399 < N 3 + v0 then ((-3 : Int32), N) else (nI 0, un N 3 (N 3 + v0))).2
    split
    · exact hm1
    · exact Inv_today hm1 (by omega)
theorem does_ok {b : Nat} {N : Nat → Nat} (hI : Inv b N) {k i : Nat} {v : Nat → Nat} {rd : Nat → Int32} (hi : i < 15) (hk : k < 5) (hki : rd (4 * i) = nI (swc k 0)) (hnu : ∀ w, w < many k → rd (4 * i + 1 + w) = nI (v w)) (hr : rng k (v 0) (v 1) (v 2)) {q1 q2 q3 q4 q5 : Nat → Int32} {Q : Int32 → (Nat → Int32) → (Nat → Int32) → (Nat → Int32) → (Nat → Int32) → (Nat → Int32) → (Nat → Int32) → Prop} (h : ∀ q1 q2 q3 q4 q5, Q (doE N k (v 0) (v 1) (v 2)).1 (sN (doE N k (v 0) (v 1) (v 2)).2) q1 q2 q3 q4 q5) : wp_X7_does (sN N) q1 q2 q3 q4 q5 rd (nI (4 * i)) Q := by
  have h6 := hI.2.1
  have h3 := hI.2.2.2.1
  have r0 := hnu 0 (by have := many_pos k; omega)
  rw [Nat.add_zero] at r0
  unfold wp_X7_does
  rw [nI_add, nI_add, nz_cl (show 4 * i + 1 < 2147483648 by omega), r0]
  refine ⟨vp_in_nI (by omega) (by omega), fun x2 e2 => ⟨vp_in_nI (by omega) (by omega), fun x3 e3 => ⟨vp_in_nI (by omega) (by omega), ?_⟩⟩⟩
  rw [nz_cl (by omega)] at e3
  rw [nz_cl (by omega), hki]
  subst e2
  match k, hk with
  | 0, _ =>
    obtain ⟨hf, hp⟩ : v 0 < 10 ∧ v 1 < 16 := hr
    have h5 := mn_le hI.1 (v 0)
    have hm := mn_at (N := N) hf
    rw [show 4 * i + 2 = 4 * i + 1 + 1 by omega, hnu 1 (by decide)] at e3
    subst e3
    refine ifN (by decide) (ifN (by decide) (ifN (by decide) (ifP rfl ?_)))
    unfold wp_X7_enlistsIf
    refine refusesEnlisting_ok hI.1 hf hp (fun c => ?_) (fun c c2 => ?_) (fun c c2 => ifP' nI_0 (enlists_ok hf (by omega) ?_))
    · have e : doE N 0 (v 0) (v 1) (v 2) = (-4, N) := if_pos c
      rw [e] at h
      exact ifN' (by decide) (h _ _ _ _ _)
    · have e : doE N 0 (v 0) (v 1) (v 2) = (-3, N) := by
        show (if inRow N (v 1) (v 0) = true then _ else if mn N (v 0) = 5 then _ else _) = _
        rw [if_neg (by rw [c]; decide), if_pos c2]
      rw [e] at h
      exact ifN' (by decide) (h _ _ _ _ _)
    · have e : doE N 0 (v 0) (v 1) (v 2) = (nI 0, enN N (v 0) (v 1)) := by
        show (if inRow N (v 1) (v 0) = true then _ else if mn N (v 0) = 5 then _ else _) = _
        rw [if_neg (by rw [c]; decide), if_neg (by omega)]
      rw [e] at h
      exact h _ _ _ _ _
  | 1, _ =>
    obtain ⟨hf, hp⟩ : v 0 < 10 ∧ v 1 < 16 := hr
    have h5 := mn_le hI.1 (v 0)
    have hm := mn_at (N := N) hf
    rw [show 4 * i + 2 = 4 * i + 1 + 1 by omega, hnu 1 (by decide)] at e3
    subst e3
    refine ifN (by decide) (ifN (by decide) (ifP rfl (placeIn_ok hI.1 hf hp (fun c => ?_) (fun c => ?_))))
    · have e : doE N 1 (v 0) (v 1) (v 2) = (nI 0, stN N (v 0) (plIn N (v 0) (v 1))) := if_pos c
      rw [e] at h
      exact ifN (by rw [nz_m5 (by omega)]; exact id) (strikes_ok hI.1 hf hp c (h _ _ _ _ _))
    · have e : doE N 1 (v 0) (v 1) (v 2) = (nI 0, N) := if_neg (by omega)
      rw [e] at h
      exact ifP rfl (h _ _ _ _ _)
  | 2, _ =>
    obtain ⟨hp, ha, hb⟩ : v 0 < 16 ∧ v 1 ≤ 399 ∧ v 2 ≤ 399 := hr
    rw [show 4 * i + 2 = 4 * i + 1 + 1 by omega, hnu 1 (by decide)] at e3
    subst e3
    refine ifN (by decide) (ifP rfl ?_)
    rw [nI_add, nz_cl (by omega), show 4 * i + 3 = 4 * i + 1 + 2 by omega, hnu 2 (by decide)]
    refine ⟨vp_in_nI (by omega) (by omega), ?_⟩
    unfold wp_X7_leavesIf
    by_cases hab : v 1 ≤ v 2
    · have d : doE N 2 (v 0) (v 1) (v 2) = (if ovOn N (v 0) (v 1) (v 2) < N 6 then (-4, N) else if N 6 = 40 then (-3, N) else if N 2 = 1 ∧ 0 < moreIn N (v 0) (v 1) (v 2) then (-6, N) else (nI 0, grN N (v 0) (v 1) (v 2))) := if_pos hab
      refine refusesLeave_ok hI.1 h6 hI.2.2.1 hI.2.2.2.2.1 hp hab hb (fun d1 => ?_) (fun d1 d2 => ?_) (fun q1 q2 q3 q4 q5 d1 d2 d3 d4 => ?_) (fun q1 q2 q3 q4 q5 d1 d2 d3 => ?_)
      · rw [if_pos d1] at d
        rw [d] at h
        exact ifN' (by decide) (h _ _ _ _ _)
      · rw [if_neg (by omega), if_pos d2] at d
        rw [d] at h
        exact ifN' (by decide) (h _ _ _ _ _)
      · rw [if_neg (by omega), if_neg (by omega), if_pos ⟨d3, d4⟩] at d
        rw [d] at h
        exact ifN' (by decide) (h _ _ _ _ _)
      · rw [if_neg (by omega), if_neg (by omega), if_neg (fun e => by have := d3 e.1; omega)] at d
        rw [d] at h
        exact ifP' nI_0 (grants_ok h6 (h _ _ _ _ _))
    · have e : doE N 2 (v 0) (v 1) (v 2) = (-2, N) := if_neg hab
      rw [e] at h
      refine refusesLeave_f2 hp (fun ⟨a, t, q1, q2, q3, q4⟩ => hab ?_) (ifN' (by decide) (h _ _ _ _ _))
      rw [(nz_eq (by omega) (by omega)).mp q3, (nz_eq (by omega) (by omega)).mp q4]
      exact q1
  | 3, _ =>
    obtain ⟨hf, h1, h2⟩ : v 0 < 10 ∧ 1 ≤ v 1 ∧ v 1 ≤ 60 := hr
    have hP := PI_plan hI.1 (able N (N 3))
    have hh6 : N (16 + 31 * v 0) ≤ 6 := by have := (hI.2.2.2.2.2.2.2.2.1 (v 0) hf).2; omega
    rw [show 4 * i + 2 = 4 * i + 1 + 1 by omega, hnu 1 (by decide)] at e3
    subst e3
    refine ifP rfl ?_
    unfold wp_X7_drillsIf
    refine refusesDrill_ok hI.1 h3 hf h1 h2 (fun q1 q2 q3 q4 d1 => ?_) (fun q1 q2 q3 q4 d1 hR => ifP' nI_0 ?_)
    · have e : doE N 3 (v 0) (v 1) (v 2) = (-4, N) := if_pos d1
      rw [e] at h
      exact ifN' (by decide) (h _ _ _ _ _)
    · have e : doE N 3 (v 0) (v 1) (v 2) = (nI 0, dlN N (v 0) (v 1) ((plan N (able N (N 3))).2.1 (3 * v 0))) := if_neg d1
      have hc := hP.2.1 (v 0) hf
      have hpos : 0 < (plan N (able N (N 3))).2.2.1 (v 0) := by
        unfold noDrill lack at d1
        omega
      have hl := (hP.2.2.2.1 (v 0) hf 0 hpos).1
      have ht := hR.2.2.2 (v 0) hf 0 hpos
      rw [Nat.add_zero] at hl ht
      rw [e] at h
      exact drills_ok hf hl h3 hh6 ht (h _ _ _ _ _)
  | 4, _ =>
    obtain ⟨h1, h2⟩ : 1 ≤ v 0 ∧ v 0 ≤ 99 := hr
    refine ifN (by decide) (ifN (by decide) (ifN (by decide) (ifN (by decide) (refusesPass_ok h3 h1 h2 (fun d1 => ⟨vp_in_nI (by omega) (by omega), ifP' nI_0 ⟨vp_in_nI (by omega) (by omega), fun T e => ?_⟩⟩) (fun d1 => ⟨vp_in_nI (by omega) (by omega), ifN' (by decide) ⟨vp_in_nI (by omega) (by omega), fun T e => ?_⟩⟩)))))
    · rw [nz_cl (by omega), show sN N 3 + nI (v 0) = nI (N 3 + v 0) from nI_add _ _, upd_sN] at e
      subst e
      have e : doE N 4 (v 0) (v 1) (v 2) = (nI 0, un N 3 (N 3 + v 0)) := if_neg (by omega)
      rw [e] at h
      exact h _ _ _ _ _
    · rw [nz_cl (by omega), show sN N 3 + nI 0 = nI (N 3 + 0) from nI_add _ _, upd_sN, Nat.add_zero, un_id] at e
      subst e
      have e : doE N 4 (v 0) (v 1) (v 2) = (-3, N) := if_pos d1
      rw [e] at h
      exact h _ _ _ _ _
