/-! class and reference, act by act: the same answer, related states -/
theorem q_enlist {b m : Nat} {has th : Int32} {V B : SV} {hV : Nat → SV} {N HN SN : Nat → Nat} (hI : Inv b N) (hS : RS V N) (hH : Hist b m has hV HN SN) (x y : Int32) : wp_X6_enlist (V 14 0) (V 0) (V 1) (V 2) (V 3) (V 4) (V 14 1) (V 5) (V 6) (V 7) (V 14 2) (V 8) (V 9) (V 10) (V 11) (V 12) (V 13) (B 14 0) (B 0) (B 1) (B 2) (B 3) (B 4) (B 14 1) (B 5) (B 6) (B 7) (B 14 2) (B 8) (B 9) (B 10) (B 11) (B 12) (B 13) hV (nI m) x y (fun r W2 W3 _ _ _ _ _ _ _ _ _ _ _ _ _ _ _ _ _ hV2 hs2 => wp_X7_enlist th (nI m) (sN N) (sN HN) x y (fun r2 _ m2 s2 st2 => r2 = r ∧ Rel b has SN (sv (V 14 0) (V 0) (V 1) W2 W3 (V 4) (V 14 1) (V 5) (V 6) (V 7) (V 14 2) (V 8) (V 9) (V 10) (V 11) (V 12) (V 13)) hV2 hs2 s2 st2 m2)) := by
  unfold wp_X6_enlist
  refine ccopy_ok ?_
  by_cases h : (∃ f, f < 10 ∧ x = nI f) ∧ ∃ p, p < 16 ∧ y = nI p
  · obtain ⟨⟨f, hf, rfl⟩, p, hp, rfl⟩ := h
    have hm := mn_at (N := N) hf
    refine enterRow_ok hI.1 hS.2.2.1 hf hp (fun c => crec_no (by decide) ?_) (fun c c2 => crec_no (by decide) ?_) (fun c c2 W2 W3 hW => crec_ok hH.1 (by omega) ?_)
    · unfold wp_X7_enlist
      exact refusesEnlisting_ok hI.1 hf hp (fun _ => ifN (by decide) ⟨rfl, Rel_mk hI hS hH⟩) (fun c3 => by rw [c] at c3; cases c3) (fun c3 => by rw [c] at c3; cases c3)
    · unfold wp_X7_enlist
      exact refusesEnlisting_ok hI.1 hf hp (fun c3 => by rw [c] at c3; cases c3) (fun _ _ => ifN (by decide) ⟨rfl, Rel_mk hI hS hH⟩) (fun _ c3 => absurd c3 (by omega))
    · unfold wp_X7_enlist
      refine refusesEnlisting_ok hI.1 hf hp (fun c3 => by rw [c] at c3; cases c3) (fun _ c3 => absurd c3 (by omega)) (fun _ _ => ifP nI_0 (records_ok hH.1 (enlists_ok hf (by omega) ⟨rfl, ?_⟩)))
      have hA := Ag_en (N := N) (f := f) (p := p) hf (by omega)
      have hi := Inv_iff.mp hI
      exact Rel_rec (V := sv (V 14 0) (V 0) (V 1) (V 2) (V 3) (V 4) (V 14 1) (V 5) (V 6) (V 7) (V 14 2) (V 8) (V 9) (V 10) (V 11) (V 12) (V 13)) hI hS hH (Nat.le_refl _) (Inv_3 hA hI (I3_en hi.2.2.1 hf hp (by omega))) (RS_3 hA hI hS hW)
  · refine enterRow_f h (crec_no (by decide) ?_)
    unfold wp_X7_enlist
    exact refusesEnlisting_f h (ifN (by decide) ⟨rfl, Rel_mk hI hS hH⟩)
theorem q_strike {b m : Nat} {has th : Int32} {V B : SV} {hV : Nat → SV} {N HN SN : Nat → Nat} (hI : Inv b N) (hS : RS V N) (hH : Hist b m has hV HN SN) (x y : Int32) : wp_X6_strike (V 14 0) (V 0) (V 1) (V 2) (V 3) (V 4) (V 14 1) (V 5) (V 6) (V 7) (V 14 2) (V 8) (V 9) (V 10) (V 11) (V 12) (V 13) (B 14 0) (B 0) (B 1) (B 2) (B 3) (B 4) (B 14 1) (B 5) (B 6) (B 7) (B 14 2) (B 8) (B 9) (B 10) (B 11) (B 12) (B 13) hV (nI m) x y (fun r W2 W3 _ _ _ _ _ _ _ _ _ _ _ _ _ _ _ _ _ hV2 hs2 => wp_X7_strike th (nI m) (sN N) (sN HN) x y (fun r2 _ m2 s2 st2 => r2 = r ∧ Rel b has SN (sv (V 14 0) (V 0) (V 1) W2 W3 (V 4) (V 14 1) (V 5) (V 6) (V 7) (V 14 2) (V 8) (V 9) (V 10) (V 11) (V 12) (V 13)) hV2 hs2 s2 st2 m2)) := by
  unfold wp_X6_strike
  refine ccopy_ok ?_
  by_cases h : (∃ f, f < 10 ∧ x = nI f) ∧ ∃ p, p < 16 ∧ y = nI p
  · obtain ⟨⟨f, hf, rfl⟩, p, hp, rfl⟩ := h
    have hm := mn_at (N := N) hf
    have h5 := mn_le hI.1 f
    refine quitRow_ok hI.1 hS.2.2.1 hf hp (fun c => crec_no (by decide) ?_) (fun c W2 W3 hW => crec_ok hH.1 (by omega) ?_)
    · unfold wp_X7_strike
      exact isFloor_t hf (ifN nz10 (isPerson_t hp (ifN' nz10 (placeIn_ok hI.1 hf hp (fun c2 => absurd c2 (by omega)) (fun _ => ifP' rfl ⟨rfl, Rel_mk hI hS hH⟩)))))
    · unfold wp_X7_strike
      refine isFloor_t hf (ifN nz10 (isPerson_t hp (ifN' nz10 (placeIn_ok hI.1 hf hp (fun _ => ifN' (by rw [nz_m5 (by omega)]; exact id) (records_ok hH.1 (strikes_ok hI.1 hf hp c ⟨rfl, ?_⟩))) (fun c2 => absurd c2 (by omega))))))
      have hA := Ag_st (N := N) (f := f) (k := plIn N f p) hf (by omega) (by omega)
      have hi := Inv_iff.mp hI
      exact Rel_rec (V := sv (V 14 0) (V 0) (V 1) (V 2) (V 3) (V 4) (V 14 1) (V 5) (V 6) (V 7) (V 14 2) (V 8) (V 9) (V 10) (V 11) (V 12) (V 13)) hI hS hH (Nat.le_refl _) (Inv_3 hA hI (I3_st hi.2.2.1 hf (by omega))) (RS_3 hA hI hS hW)
  · refine quitRow_f h (crec_no (by decide) ?_)
    unfold wp_X7_strike
    by_cases c : ∃ f, f < 10 ∧ x = nI f
    · obtain ⟨f, hf, rfl⟩ := c
      exact isFloor_t hf (ifN nz10 (isPerson_f (fun e => h ⟨⟨f, hf, rfl⟩, e⟩) (ifP' nI_0 ⟨rfl, Rel_mk hI hS hH⟩)))
    · exact isFloor_f c (ifP nI_0 ⟨rfl, Rel_mk hI hS hH⟩)
theorem cpush_ok {V : SV} {hV : Nat → SV} {m : Nat} (hm : m ≤ 4) {Q : (Nat → SV) → Int32 → Prop} (h : Q (hpush hV m (sv (V 14 0) (V 0) (V 1) (V 2) (V 3) (V 4) (V 14 1) (V 5) (V 6) (V 7) (V 14 2) (V 8) (V 9) (V 10) (V 11) (V 12) (V 13))) (nI (hpn m))) : wp_X1_push (V 14 0) (V 0) (V 1) (V 2) (V 3) (V 4) (V 14 1) (V 5) (V 6) (V 7) (V 14 2) (V 8) (V 9) (V 10) (V 11) (V 12) (V 13) hV (nI m) Q := ⟨m, hm, rfl, h⟩
theorem S_upd {W : Nat → Int32} {g g2 : Nat → Int32} {n k : Nat} {v : Int32} (h : ∀ j, j < n → W j = g j) (h1 : g2 k = v) (h2 : ∀ j, j < n → j ≠ k → g2 j = g j) : ∀ j, j < n → upd W k v j = g2 j := fun j hj => by
  unfold upd
  split
  · rename_i e
    rw [e, h1]
  · rename_i e
    rw [h2 j hj e]
    exact h j hj
theorem q_setNeed {b m : Nat} {has th : Int32} {V : SV} {hV : Nat → SV} {N HN SN : Nat → Nat} (hI : Inv b N) (hS : RS V N) (hH : Hist b m has hV HN SN) (x y : Int32) : wp_X6_setNeed (V 14 0) (V 0) (V 1) (V 2) (V 3) (V 4) (V 14 1) (V 5) (V 6) (V 7) (V 14 2) (V 8) (V 9) (V 10) (V 11) (V 12) (V 13) hV (nI m) x y (fun r W1 hV2 hs2 => wp_X7_setNeed th (nI m) (sN N) (sN HN) x y (fun r2 _ m2 s2 st2 => r2 = r ∧ Rel b has SN (sv (V 14 0) (V 0) W1 (V 2) (V 3) (V 4) (V 14 1) (V 5) (V 6) (V 7) (V 14 2) (V 8) (V 9) (V 10) (V 11) (V 12) (V 13)) hV2 hs2 s2 st2 m2)) := by
  unfold wp_X6_setNeed
  by_cases c : ∃ f, f < 10 ∧ x = nI f
  · obtain ⟨f, hf, rfl⟩ := c
    refine cFloor_t hf (ifN' nz10 ?_)
    by_cases c2 : ∃ v, v ≤ 3 ∧ y = nI v
    · obtain ⟨v, hv, rfl⟩ := c2
      have hi := Inv_iff.mp hI
      have h3 := hi.2.1 f hf
      refine cWithin_t (by omega) (by omega) (by omega) (by omega) hv (ifN' nz10 ⟨vp_in_nI hf (by omega), fun x3 e => ?_⟩)
      rw [nz_cl (by omega), hS.2.1 f hf] at e
      subst e
      by_cases c3 : N (8 + 31 * f) = v
      · refine ifP' (by rw [c3]) ?_
        unfold wp_X7_setNeed
        refine isFloor_t hf (ifN' nz10 (in_t (by omega) (by omega) (by omega) (by omega) hv (ifN' nz10 (of_ok hf (by omega) (ifP' (by rw [Nat.add_zero, c3]) ⟨rfl, Rel_mk hI hS hH⟩)))))
      · have cn : ¬ nI (N (8 + 31 * f)) = nI v := fun e => c3 ((nz_eq (by omega) (by omega)).mp e)
        refine ifN' cn (cpush_ok hH.1 ⟨vp_in_nI hf (by omega), fun W1 e1 => ?_⟩)
        rw [nz_cl (by omega)] at e1
        subst e1
        unfold wp_X7_setNeed
        refine isFloor_t hf (ifN' nz10 (in_t (by omega) (by omega) (by omega) (by omega) hv (ifN' nz10 (of_ok hf (by omega) (ifN' (by rw [Nat.add_zero]; exact cn) (records_ok hH.1 (lay_ok hf (by omega) ?_)))))))
        rw [Nat.add_zero]
        have hA : Ag 2 N (un N (8 + 31 * f) v) := Ag_un (ar_2 hf)
        refine ⟨rfl, Rel_rec (V := sv (V 14 0) (V 0) (V 1) (V 2) (V 3) (V 4) (V 14 1) (V 5) (V 6) (V 7) (V 14 2) (V 8) (V 9) (V 10) (V 11) (V 12) (V 13)) hI hS hH (Nat.le_refl _) (Inv_2 hA hI (fun g hg => ?_)) (RS_2 hA hI hS (S_upd hS.2.1 (by rw [un_s]) (fun g hg e => by rw [un_n (by omega)])))⟩
        unfold un
        split
        · exact hv
        · exact hi.2.1 g hg
    · refine cWithin_f (by omega) (by omega) (fun n _ h2 e => c2 ⟨n, h2, e⟩) (ifP' nI_0 ?_)
      unfold wp_X7_setNeed
      exact isFloor_t hf (ifN' nz10 (in_f (by omega) (by omega) (fun n _ h2 e => c2 ⟨n, h2, e⟩) (ifP' nI_0 ⟨rfl, Rel_mk hI hS hH⟩)))
  · refine cFloor_f c (ifP' nI_0 ?_)
    unfold wp_X7_setNeed
    exact isFloor_f c (ifP' nI_0 ⟨rfl, Rel_mk hI hS hH⟩)
theorem q_train {b m : Nat} {has th : Int32} {V : SV} {hV : Nat → SV} {N HN SN : Nat → Nat} (hI : Inv b N) (hS : RS V N) (hH : Hist b m has hV HN SN) (x y : Int32) : wp_X6_train (V 14 0) (V 0) (V 1) (V 2) (V 3) (V 4) (V 14 1) (V 5) (V 6) (V 7) (V 14 2) (V 8) (V 9) (V 10) (V 11) (V 12) (V 13) hV (nI m) x y (fun r W4 hV2 hs2 => wp_X7_train th (nI m) (sN N) (sN HN) x y (fun r2 _ m2 s2 st2 => r2 = r ∧ Rel b has SN (sv (V 14 0) (V 0) (V 1) (V 2) (V 3) W4 (V 14 1) (V 5) (V 6) (V 7) (V 14 2) (V 8) (V 9) (V 10) (V 11) (V 12) (V 13)) hV2 hs2 s2 st2 m2)) := by
  unfold wp_X6_train
  by_cases c : ∃ f, f < 16 ∧ x = nI f
  · obtain ⟨p, hp, rfl⟩ := c
    refine cPerson_t hp (ifN' nz10 ?_)
    by_cases c2 : ∃ v, v < 400 ∧ y = nI v
    · obtain ⟨v, hv, rfl⟩ := c2
      have hi := Inv_iff.mp hI
      have h4 := hi.2.2.2.1 p hp
      refine cDay_t hv (ifN' nz10 ⟨vp_in_nI hp (by omega), fun x3 e => ?_⟩)
      rw [nz_cl (by omega), hS.2.2.2.1 p hp] at e
      subst e
      have ea : (nI 318 + nI 2 * nI p) + nI 0 = nI (318 + 2 * p) := by rw [pk_mul, nI_add, nI_add, Nat.add_zero]
      by_cases c3 : N (318 + 2 * p) = v
      · refine ifP' (by rw [c3]) ?_
        unfold wp_X7_train
        rw [ea]
        refine isPerson_t hp (ifN' nz10 (isDay_t hv (ifN' nz10 ⟨vp_in_nI (by omega) (by omega), fun x4 e4 => ?_⟩)))
        rw [nz_cl (by omega)] at e4
        subst e4
        exact ifP' (by unfold sN; rw [c3]) ⟨rfl, Rel_mk hI hS hH⟩
      · have cn : ¬ nI (N (318 + 2 * p)) = nI v := fun e => c3 ((nz_eq (by omega) (by omega)).mp e)
        refine ifN' cn (cpush_ok hH.1 ⟨vp_in_nI hp (by omega), fun W1 e1 => ?_⟩)
        rw [nz_cl (by omega)] at e1
        subst e1
        unfold wp_X7_train
        rw [ea]
        refine isPerson_t hp (ifN' nz10 (isDay_t hv (ifN' nz10 ⟨vp_in_nI (by omega) (by omega), fun x4 e4 => ?_⟩)))
        rw [nz_cl (by omega)] at e4
        subst e4
        refine ifN' cn (records_ok hH.1 ⟨vp_in_nI (by omega) (by omega), fun T e5 => ?_⟩)
        rw [nz_cl (by omega), upd_sN] at e5
        subst e5
        have hA : Ag 4 N (un N (318 + 2 * p) v) := Ag_un (ar_4 hp)
        refine ⟨rfl, Rel_rec (V := sv (V 14 0) (V 0) (V 1) (V 2) (V 3) (V 4) (V 14 1) (V 5) (V 6) (V 7) (V 14 2) (V 8) (V 9) (V 10) (V 11) (V 12) (V 13)) hI hS hH (Nat.le_refl _) (Inv_4 hA hI (fun g hg => ?_)) (RS_4 hA hI hS (S_upd hS.2.2.2.1 (by rw [un_s]) (fun g hg e => by rw [un_n (by omega)])))⟩
        unfold un
        split
        · omega
        · exact hi.2.2.2.1 g hg
    · refine cDay_f c2 (ifP' nI_0 ?_)
      unfold wp_X7_train
      exact isPerson_t hp (ifN' nz10 (isDay_f c2 (ifP' nI_0 ⟨rfl, Rel_mk hI hS hH⟩)))
  · refine cPerson_f c (ifP' nI_0 ?_)
    unfold wp_X7_train
    exact isPerson_f c (ifP' nI_0 ⟨rfl, Rel_mk hI hS hH⟩)
