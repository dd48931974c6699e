/-! the acts: an answer and a new state that hang on the state alone -/
def AR (b : Nat) (N : Nat → Nat) (r : Int32) (N2 : Nat → Nat) : Prop := (r < 0 ∧ N2 = N) ∨ (¬ r < 0 ∧ K2 (b + 1) N2)
def AO (N2 : Nat → Nat) (r : Int32) (V U : SV) (hV hV2 : Nat → SV) (m : Nat) (hs2 : Int32) : Prop := RS U N2 ∧ ((r < 0 ∧ hV2 = hV ∧ hs2 = nI m) ∨ (¬ r < 0 ∧ hV2 = hpush hV m (sv (V 14 0) (V 0) (V 1) (V 2) (V 3) (V 4) (V 14 1) (V 5) (V 6) (V 7) (V 14 2) (V 8) (V 9) (V 10) (V 11) (V 12) (V 13)) ∧ hs2 = nI (hpn m)))
theorem ar_no {b : Nat} {N : Nat → Nat} {r : Int32} (hr : r < 0) : AR b N r N := Or.inl ⟨hr, rfl⟩
theorem ar_yes {b : Nat} {N N2 : Nat → Nat} {r : Nat} (hr : r < 2147483648) (h : K2 (b + 1) N2) : AR b N (nI r) N2 := Or.inr ⟨fun c => (nz_lt0 hr).mp c, h⟩
theorem ao_no {N : Nat → Nat} {r : Int32} {V U : SV} {hV : Nat → SV} {m : Nat} (hr : r < 0) (h : RS U N) : AO N r V U hV hV m (nI m) := ⟨h, Or.inl ⟨hr, rfl, rfl⟩⟩
theorem ao_yes {N : Nat → Nat} {r : Nat} {V U : SV} {hV : Nat → SV} {m : Nat} (hr : r < 2147483648) (h : RS U N) : AO N (nI r) V U hV (hpush hV m (sv (V 14 0) (V 0) (V 1) (V 2) (V 3) (V 4) (V 14 1) (V 5) (V 6) (V 7) (V 14 2) (V 8) (V 9) (V 10) (V 11) (V 12) (V 13))) m (nI (hpn m)) := ⟨h, Or.inr ⟨fun c => (nz_lt0 hr).mp c, rfl, rfl⟩⟩
theorem a_enlist {b : Nat} {N : Nat → Nat} (hK : K2 b N) (x y : Int32) : ∃ r N2, AR b N r N2 ∧ ∀ (V B : SV) (hV : Nat → SV) (m : Nat), RS V N → m ≤ 4 → ∀ Q : Int32 → (Nat → Int32) → (Nat → Int32) → Int32 → (Nat → Int32) → (Nat → Int32) → (Nat → Int32) → (Nat → Int32) → (Nat → Int32) → Int32 → (Nat → Int32) → (Nat → Int32) → (Nat → Int32) → Int32 → (Nat → Int32) → (Nat → Int32) → (Nat → Int32) → (Nat → Int32) → (Nat → Int32) → (Nat → Int32) → (Nat → Nat → Nat → Int32) → Int32 → Prop, (∀ {W2 W3 b0 b1 b2 b3 b4 b5 b6 b7 b8 b9 b10 b11 b12 b13 b14 b15 b16 hV2 hs2}, AO N2 r V (sv (V 14 0) (V 0) (V 1) W2 W3 (V 4) (V 14 1) (V 5) (V 6) (V 7) (V 14 2) (V 8) (V 9) (V 10) (V 11) (V 12) (V 13)) hV hV2 m hs2 → Q r W2 W3 b0 b1 b2 b3 b4 b5 b6 b7 b8 b9 b10 b11 b12 b13 b14 b15 b16 hV2 hs2) → wp_X6_enlist (V 14 0) (V 0) (V 1) (V 2) (V 3) (V 4) (V 14 1) (V 5) (V 6) (V 7) (V 14 2) (V 8) (V 9) (V 10) (V 11) (V 12) (V 13) (B 14 0) (B 0) (B 1) (B 2) (B 3) (B 4) (B 14 1) (B 5) (B 6) (B 7) (B 14 2) (B 8) (B 9) (B 10) (B 11) (B 12) (B 13) hV (nI m) x y Q := by
  have hI := hK.1
  by_cases h : (∃ f, f < 10 ∧ x = nI f) ∧ ∃ p, p < 16 ∧ y = nI p
  · obtain ⟨⟨f, hf, rfl⟩, p, hp, rfl⟩ := h
    have hm := mn_at (N := N) hf
    have h5 := mn_le hI.1 f
    by_cases c : inRow N p f = true
    · refine ⟨-4, N, ar_no (by decide), fun V B hV m hS hm4 Q hQ => ?_⟩
      unfold wp_X6_enlist
      exact ccopy_ok (enterRow_ok hI.1 hS.2.2.1 hf hp (fun _ => crec_no (by decide) (hQ (ao_no (by decide) hS))) (fun c2 _ => by rw [c] at c2; cases c2) (fun c2 _ => by rw [c] at c2; cases c2))
    · by_cases c5 : mn N f = 5
      · refine ⟨-3, N, ar_no (by decide), fun V B hV m hS hm4 Q hQ => ?_⟩
        unfold wp_X6_enlist
        exact ccopy_ok (enterRow_ok hI.1 hS.2.2.1 hf hp (fun c2 => absurd c2 c) (fun _ _ => crec_no (by decide) (hQ (ao_no (by decide) hS))) (fun _ c2 => absurd c2 (by omega)))
      · have hA := Ag_en (N := N) (f := f) (p := p) hf (by omega)
        have hi := Inv_iff.mp hI
        have hI2 := Inv_3 hA hI (I3_en hi.2.2.1 hf hp (by omega))
        refine ⟨nI (N (9 + 31 * f) + 1), enN N f p, ar_yes (by omega) (K2_m (K2_Ag hK hA (by decide) (by decide) hI2) (Nat.le_succ b)), fun V B hV m hS hm4 Q hQ => ?_⟩
        unfold wp_X6_enlist
        exact ccopy_ok (enterRow_ok hI.1 hS.2.2.1 hf hp (fun c2 => absurd c2 c) (fun _ c2 => absurd c2 c5) (fun _ _ W2 W3 hW => crec_ok hm4 (by omega) (hQ (ao_yes (by omega) (RS_3 hA hI hS hW)))))
  · refine ⟨-1, N, ar_no (by decide), fun V B hV m hS hm4 Q hQ => ?_⟩
    unfold wp_X6_enlist
    exact ccopy_ok (enterRow_f h (crec_no (by decide) (hQ (ao_no (by decide) hS))))
theorem a_strike {b : Nat} {N : Nat → Nat} (hK : K2 b N) (x y : Int32) : ∃ r N2, AR b N r N2 ∧ ∀ (V B : SV) (hV : Nat → SV) (m : Nat), RS V N → m ≤ 4 → ∀ Q : Int32 → (Nat → Int32) → (Nat → Int32) → Int32 → (Nat → Int32) → (Nat → Int32) → (Nat → Int32) → (Nat → Int32) → (Nat → Int32) → Int32 → (Nat → Int32) → (Nat → Int32) → (Nat → Int32) → Int32 → (Nat → Int32) → (Nat → Int32) → (Nat → Int32) → (Nat → Int32) → (Nat → Int32) → (Nat → Int32) → (Nat → Nat → Nat → Int32) → Int32 → Prop, (∀ {W2 W3 b0 b1 b2 b3 b4 b5 b6 b7 b8 b9 b10 b11 b12 b13 b14 b15 b16 hV2 hs2}, AO N2 r V (sv (V 14 0) (V 0) (V 1) W2 W3 (V 4) (V 14 1) (V 5) (V 6) (V 7) (V 14 2) (V 8) (V 9) (V 10) (V 11) (V 12) (V 13)) hV hV2 m hs2 → Q r W2 W3 b0 b1 b2 b3 b4 b5 b6 b7 b8 b9 b10 b11 b12 b13 b14 b15 b16 hV2 hs2) → wp_X6_strike (V 14 0) (V 0) (V 1) (V 2) (V 3) (V 4) (V 14 1) (V 5) (V 6) (V 7) (V 14 2) (V 8) (V 9) (V 10) (V 11) (V 12) (V 13) (B 14 0) (B 0) (B 1) (B 2) (B 3) (B 4) (B 14 1) (B 5) (B 6) (B 7) (B 14 2) (B 8) (B 9) (B 10) (B 11) (B 12) (B 13) hV (nI m) x y Q := by
  have hI := hK.1
  by_cases h : (∃ f, f < 10 ∧ x = nI f) ∧ ∃ p, p < 16 ∧ y = nI p
  · obtain ⟨⟨f, hf, rfl⟩, p, hp, rfl⟩ := h
    have hm := mn_at (N := N) hf
    have h5 := mn_le hI.1 f
    by_cases c : plIn N f p < mn N f
    · have hA := Ag_st (N := N) (f := f) (k := plIn N f p) hf (by omega) (by omega)
      have hi := Inv_iff.mp hI
      have hI2 := Inv_3 hA hI (I3_st hi.2.2.1 hf (by omega))
      refine ⟨nI (N (9 + 31 * f) - 1), stN N f (plIn N f p), ar_yes (by omega) (K2_m (K2_Ag hK hA (by decide) (by decide) hI2) (Nat.le_succ b)), fun V B hV m hS hm4 Q hQ => ?_⟩
      unfold wp_X6_strike
      exact ccopy_ok (quitRow_ok hI.1 hS.2.2.1 hf hp (fun c2 => absurd c2 (by omega)) (fun _ W2 W3 hW => crec_ok hm4 (by omega) (hQ (ao_yes (by omega) (RS_3 hA hI hS hW)))))
    · refine ⟨-5, N, ar_no (by decide), fun V B hV m hS hm4 Q hQ => ?_⟩
      unfold wp_X6_strike
      exact ccopy_ok (quitRow_ok hI.1 hS.2.2.1 hf hp (fun _ => crec_no (by decide) (hQ (ao_no (by decide) hS))) (fun c2 => absurd c2 c))
  · refine ⟨-1, N, ar_no (by decide), fun V B hV m hS hm4 Q hQ => ?_⟩
    unfold wp_X6_strike
    exact ccopy_ok (quitRow_f h (crec_no (by decide) (hQ (ao_no (by decide) hS))))
theorem a_setNeed {b : Nat} {N : Nat → Nat} (hK : K2 b N) (x y : Int32) : ∃ r N2, AR b N r N2 ∧ ∀ (V : SV) (hV : Nat → SV) (m : Nat), RS V N → m ≤ 4 → ∀ Q : Int32 → (Nat → Int32) → (Nat → Nat → Nat → Int32) → Int32 → Prop, (∀ {W1 hV2 hs2}, AO N2 r V (sv (V 14 0) (V 0) W1 (V 2) (V 3) (V 4) (V 14 1) (V 5) (V 6) (V 7) (V 14 2) (V 8) (V 9) (V 10) (V 11) (V 12) (V 13)) hV hV2 m hs2 → Q r W1 hV2 hs2) → wp_X6_setNeed (V 14 0) (V 0) (V 1) (V 2) (V 3) (V 4) (V 14 1) (V 5) (V 6) (V 7) (V 14 2) (V 8) (V 9) (V 10) (V 11) (V 12) (V 13) hV (nI m) x y Q := by
  have hI := hK.1
  by_cases c : ∃ f, f < 10 ∧ x = nI f
  · obtain ⟨f, hf, rfl⟩ := c
    by_cases c2 : ∃ v, v ≤ 3 ∧ y = nI v
    · obtain ⟨v, hv, rfl⟩ := c2
      have hi := Inv_iff.mp hI
      have h3 := hi.2.1 f hf
      by_cases c3 : N (8 + 31 * f) = v
      · refine ⟨-5, N, ar_no (by decide), fun V hV m hS hm4 Q hQ => ?_⟩
        unfold wp_X6_setNeed
        refine cFloor_t hf (ifN' nz10 (cWithin_t (by omega) (by omega) (by omega) (by omega) hv (ifN' nz10 ⟨vp_in_nI hf (by omega), fun x3 e => ?_⟩)))
        rw [nz_cl (by omega), hS.2.1 f hf] at e
        subst e
        exact ifP' (by rw [c3]) (hQ (ao_no (by decide) hS))
      · have cn : ¬ nI (N (8 + 31 * f)) = nI v := fun e => c3 ((nz_eq (by omega) (by omega)).mp e)
        have hA : Ag 2 N (un N (8 + 31 * f) v) := Ag_un (ar_2 hf)
        have hI2 : Inv b (un N (8 + 31 * f) v) := Inv_2 hA hI (fun g hg => by
          unfold un
          split
          · exact hv
          · exact hi.2.1 g hg)
        refine ⟨nI (N (8 + 31 * f)), un N (8 + 31 * f) v, ar_yes (by omega) (K2_m (K2_Ag hK hA (by decide) (by decide) hI2) (Nat.le_succ b)), fun V hV m hS hm4 Q hQ => ?_⟩
        unfold wp_X6_setNeed
        refine cFloor_t hf (ifN' nz10 (cWithin_t (by omega) (by omega) (by omega) (by omega) hv (ifN' nz10 ⟨vp_in_nI hf (by omega), fun x3 e => ?_⟩)))
        rw [nz_cl (by omega), hS.2.1 f hf] at e
        subst e
        refine ifN' cn (cpush_ok hm4 ⟨vp_in_nI hf (by omega), fun W1 e1 => ?_⟩)
        rw [nz_cl (by omega)] at e1
        subst e1
        exact (hQ (ao_yes (by omega) (RS_2 hA hI hS (S_upd hS.2.1 (by rw [un_s]) (fun g hg e => by rw [un_n (by omega)])))))
    · refine ⟨-2, N, ar_no (by decide), fun V hV m hS hm4 Q hQ => ?_⟩
      unfold wp_X6_setNeed
      exact cFloor_t hf (ifN' nz10 (cWithin_f (by omega) (by omega) (fun n _ h2 e => c2 ⟨n, h2, e⟩) (ifP' nI_0 (hQ (ao_no (by decide) hS)))))
  · refine ⟨-1, N, ar_no (by decide), fun V hV m hS hm4 Q hQ => ?_⟩
    unfold wp_X6_setNeed
    exact cFloor_f c (ifP' nI_0 (hQ (ao_no (by decide) hS)))
theorem a_train {b : Nat} {N : Nat → Nat} (hK : K2 b N) (x y : Int32) : ∃ r N2, AR b N r N2 ∧ ∀ (V : SV) (hV : Nat → SV) (m : Nat), RS V N → m ≤ 4 → ∀ Q : Int32 → (Nat → Int32) → (Nat → Nat → Nat → Int32) → Int32 → Prop, (∀ {W4 hV2 hs2}, AO N2 r V (sv (V 14 0) (V 0) (V 1) (V 2) (V 3) W4 (V 14 1) (V 5) (V 6) (V 7) (V 14 2) (V 8) (V 9) (V 10) (V 11) (V 12) (V 13)) hV hV2 m hs2 → Q r W4 hV2 hs2) → wp_X6_train (V 14 0) (V 0) (V 1) (V 2) (V 3) (V 4) (V 14 1) (V 5) (V 6) (V 7) (V 14 2) (V 8) (V 9) (V 10) (V 11) (V 12) (V 13) hV (nI m) x y Q := by
  have hI := hK.1
  by_cases c : ∃ f, f < 16 ∧ x = nI f
  · obtain ⟨p, hp, rfl⟩ := c
    by_cases c2 : ∃ v, v < 400 ∧ y = nI v
    · obtain ⟨v, hv, rfl⟩ := c2
      have hi := Inv_iff.mp hI
      have h4 := hi.2.2.2.1 p hp
      by_cases c3 : N (318 + 2 * p) = v
      · refine ⟨-5, N, ar_no (by decide), fun V hV m hS hm4 Q hQ => ?_⟩
        unfold wp_X6_train
        refine cPerson_t hp (ifN' nz10 (cDay_t hv (ifN' nz10 ⟨vp_in_nI hp (by omega), fun x3 e => ?_⟩)))
        rw [nz_cl (by omega), hS.2.2.2.1 p hp] at e
        subst e
        exact ifP' (by rw [c3]) (hQ (ao_no (by decide) hS))
      · have cn : ¬ nI (N (318 + 2 * p)) = nI v := fun e => c3 ((nz_eq (by omega) (by omega)).mp e)
        have hA : Ag 4 N (un N (318 + 2 * p) v) := Ag_un (ar_4 hp)
        have hI2 : Inv b (un N (318 + 2 * p) v) := Inv_4 hA hI (fun g hg => by
          unfold un
          split
          · omega
          · exact hi.2.2.2.1 g hg)
        refine ⟨nI (N (318 + 2 * p)), un N (318 + 2 * p) v, ar_yes (by omega) (K2_m (K2_Ag hK hA (by decide) (by decide) hI2) (Nat.le_succ b)), fun V hV m hS hm4 Q hQ => ?_⟩
        unfold wp_X6_train
        refine cPerson_t hp (ifN' nz10 (cDay_t hv (ifN' nz10 ⟨vp_in_nI hp (by omega), fun x3 e => ?_⟩)))
        rw [nz_cl (by omega), hS.2.2.2.1 p hp] at e
        subst e
        refine ifN' cn (cpush_ok hm4 ⟨vp_in_nI hp (by omega), fun W1 e1 => ?_⟩)
        rw [nz_cl (by omega)] at e1
        subst e1
        exact (hQ (ao_yes (by omega) (RS_4 hA hI hS (S_upd hS.2.2.2.1 (by rw [un_s]) (fun g hg e => by rw [un_n (by omega)])))))
    · refine ⟨-2, N, ar_no (by decide), fun V hV m hS hm4 Q hQ => ?_⟩
      unfold wp_X6_train
      exact cPerson_t hp (ifN' nz10 (cDay_f c2 (ifP' nI_0 (hQ (ao_no (by decide) hS)))))
  · refine ⟨-1, N, ar_no (by decide), fun V hV m hS hm4 Q hQ => ?_⟩
    unfold wp_X6_train
    exact cPerson_f c (ifP' nI_0 (hQ (ao_no (by decide) hS)))
theorem a_set22 {b : Nat} {N : Nat → Nat} (hK : K2 b N) {w u : Nat} (hw : w < 3) (hu : u ≤ 2) (hwu : w = 0 ∨ u ≤ 1) (y : Int32) : ∃ r N2, AR b N r N2 ∧ ∀ (V : SV) (hV : Nat → SV) (m : Nat), RS V N → m ≤ 4 → ∀ Q : Int32 → (Nat → Int32) → (Nat → Nat → Nat → Int32) → Int32 → Prop, (∀ {W0 hV2 hs2}, AO N2 r V (sv (V 14 0) W0 (V 1) (V 2) (V 3) (V 4) (V 14 1) (V 5) (V 6) (V 7) (V 14 2) (V 8) (V 9) (V 10) (V 11) (V 12) (V 13)) hV hV2 m hs2 → Q r W0 hV2 hs2) → wb_X6_set_22 (V 14 0) (V 0) (V 1) (V 2) (V 3) (V 4) (V 14 1) (V 5) (V 6) (V 7) (V 14 2) (V 8) (V 9) (V 10) (V 11) (V 12) (V 13) hV (nI m) (nI w) y Q y (nI 0) (nI u) := by
  have hI := hK.1
  have hi := Inv_iff.mp hI
  obtain ⟨i0, i1, i2⟩ := hi.1
  have hN : N w ≤ 2 := by
    match w, hw with
    | 0, _ => exact i0
    | 1, _ => omega
    | 2, _ => omega
  by_cases c2 : ∃ v, v ≤ u ∧ y = nI v
  · obtain ⟨v, hv, rfl⟩ := c2
    by_cases c3 : N w = v
    · refine ⟨-5, N, ar_no (by decide), fun V hV m hS hm4 Q hQ => ?_⟩
      unfold wb_X6_set_22
      refine cWithin_t (by omega) (by omega) (by omega) (by omega) hv (ifN' nz10 ⟨vp_in_nI hw (by omega), fun x3 e => ?_⟩)
      rw [nz_cl (by omega), hS.1 w hw] at e
      subst e
      exact ifP' (by rw [c3]) (hQ (ao_no (by decide) hS))
    · have cn : ¬ nI (N w) = nI v := fun e => c3 ((nz_eq (by omega) (by omega)).mp e)
      have hA : Ag 1 N (un N w v) := Ag_un (ar_1 hw)
      have hI2 : Inv b (un N w v) := Inv_1 hA hI (by refine ⟨?_, ?_, ?_⟩ <;> unfold un <;> split <;> omega)
      refine ⟨nI (N w), un N w v, ar_yes (by omega) (K2_m (K2_Ag hK hA (by decide) (by decide) hI2) (Nat.le_succ b)), fun V hV m hS hm4 Q hQ => ?_⟩
      unfold wb_X6_set_22
      refine cWithin_t (by omega) (by omega) (by omega) (by omega) hv (ifN' nz10 ⟨vp_in_nI hw (by omega), fun x3 e => ?_⟩)
      rw [nz_cl (by omega), hS.1 w hw] at e
      subst e
      refine ifN' cn (cpush_ok hm4 ⟨vp_in_nI hw (by omega), fun W1 e1 => ?_⟩)
      rw [nz_cl (by omega)] at e1
      subst e1
      exact (hQ (ao_yes (by omega) (RS_1 hA hI hS (S_upd hS.1 (by rw [un_s]) (fun g hg e => by rw [un_n e])))))
  · refine ⟨-2, N, ar_no (by decide), fun V hV m hS hm4 Q hQ => ?_⟩
    unfold wb_X6_set_22
    exact cWithin_f (by omega) (by omega) (fun n _ h2 e => c2 ⟨n, h2, e⟩) (ifP' nI_0 (hQ (ao_no (by decide) hS)))
theorem a_set {b : Nat} {N : Nat → Nat} (hK : K2 b N) (x y : Int32) : ∃ r N2, AR b N r N2 ∧ ∀ (V : SV) (hV : Nat → SV) (m : Nat), RS V N → m ≤ 4 → ∀ Q : Int32 → (Nat → Int32) → (Nat → Nat → Nat → Int32) → Int32 → Prop, (∀ {W0 hV2 hs2}, AO N2 r V (sv (V 14 0) W0 (V 1) (V 2) (V 3) (V 4) (V 14 1) (V 5) (V 6) (V 7) (V 14 2) (V 8) (V 9) (V 10) (V 11) (V 12) (V 13)) hV hV2 m hs2 → Q r W0 hV2 hs2) → wp_X6_set (V 14 0) (V 0) (V 1) (V 2) (V 3) (V 4) (V 14 1) (V 5) (V 6) (V 7) (V 14 2) (V 8) (V 9) (V 10) (V 11) (V 12) (V 13) hV (nI m) x y Q := by
  by_cases c : ∃ w, w ≤ 2 ∧ x = nI w
  · obtain ⟨w, hw, rfl⟩ := c
    by_cases c2 : w = 0
    · obtain ⟨r, N2, h1, h2⟩ := a_set22 hK (w := w) (by omega) (u := 2) (by omega) (Or.inl c2) y
      refine ⟨r, N2, h1, fun V hV m hS hm4 Q hQ => ?_⟩
      unfold wp_X6_set
      exact cWithin_t (by omega) (by omega) (by omega) (by omega) hw (ifN' nz10 (ifP' ((nz_eq0 (by omega)).mpr c2) (h2 V hV m hS hm4 Q hQ)))
    · have cn : ¬ nI w = 0 := fun e => c2 ((nz_eq0 (by omega)).mp e)
      obtain ⟨r, N2, h1, h2⟩ := a_set22 hK (w := w) (by omega) (u := 1) (by omega) (Or.inr (Nat.le_refl _)) y
      refine ⟨r, N2, h1, fun V hV m hS hm4 Q hQ => ?_⟩
      unfold wp_X6_set
      exact cWithin_t (by omega) (by omega) (by omega) (by omega) hw (ifN' nz10 (ifN' cn (h2 V hV m hS hm4 Q hQ)))
  · refine ⟨-1, N, ar_no (by decide), fun V hV m hS hm4 Q hQ => ?_⟩
    unfold wp_X6_set
    exact cWithin_f (by omega) (by omega) (fun n _ h2 e => c ⟨n, h2, e⟩) (ifP' nI_0 (hQ (ao_no (by decide) hS)))
theorem a_leave {b : Nat} {N : Nat → Nat} (hK : K2 b N) (x y z : Int32) : ∃ r N2, AR b N r N2 ∧ ∀ (V B : SV) (s1 : Int32) (O1 n1 z1 h1 t1 : Nat → Int32) (s2 : Int32) (O2 n2 z2 h2 t2 : Nat → Int32) (hV : Nat → SV) (m : Nat), RS V N → m ≤ 4 → ∀ Q : Int32 → Int32 → (Nat → Int32) → (Nat → Int32) → (Nat → Int32) → Int32 → (Nat → Int32) → (Nat → Int32) → (Nat → Int32) → (Nat → Int32) → (Nat → Int32) → Int32 → (Nat → Int32) → (Nat → Int32) → (Nat → Int32) → Int32 → (Nat → Int32) → (Nat → Int32) → (Nat → Int32) → (Nat → Int32) → (Nat → Int32) → (Nat → Int32) → Int32 → (Nat → Int32) → (Nat → Int32) → (Nat → Int32) → (Nat → Int32) → (Nat → Int32) → Int32 → (Nat → Int32) → (Nat → Int32) → (Nat → Int32) → (Nat → Int32) → (Nat → Int32) → (Nat → Nat → Nat → Int32) → Int32 → Prop, (∀ {g W5 W6 W7 b0 b1 b2 b3 b4 b5 b6 b7 b8 b9 b10 b11 b12 b13 b14 b15 b16 c0 c1 c2 c3 c4 c5 c6 c7 c8 c9 c10 c11 hV2 hs2}, AO N2 r V (sv (V 14 0) (V 0) (V 1) (V 2) (V 3) (V 4) g W5 W6 W7 (V 14 2) (V 8) (V 9) (V 10) (V 11) (V 12) (V 13)) hV hV2 m hs2 → Q r g W5 W6 W7 b0 b1 b2 b3 b4 b5 b6 b7 b8 b9 b10 b11 b12 b13 b14 b15 b16 c0 c1 c2 c3 c4 c5 c6 c7 c8 c9 c10 c11 hV2 hs2) → wp_X6_leave (V 14 0) (V 0) (V 1) (V 2) (V 3) (V 4) (V 14 1) (V 5) (V 6) (V 7) (V 14 2) (V 8) (V 9) (V 10) (V 11) (V 12) (V 13) (B 14 0) (B 0) (B 1) (B 2) (B 3) (B 4) (B 14 1) (B 5) (B 6) (B 7) (B 14 2) (B 8) (B 9) (B 10) (B 11) (B 12) (B 13) s1 O1 n1 z1 h1 t1 s2 O2 n2 z2 h2 t2 hV (nI m) x y z Q := by
  have hI := hK.1
  have h6 := hI.2.1
  by_cases c : ∃ p, p < 16 ∧ x = nI p
  · obtain ⟨p, hp, rfl⟩ := c
    by_cases c2 : ∃ a b, a ≤ b ∧ b ≤ 399 ∧ y = nI a ∧ z = nI b
    · obtain ⟨a, t, hab, ht, rfl, rfl⟩ := c2
      by_cases d1 : ovOn N p a t = N 6
      · by_cases d2 : N 6 = 40
        · refine ⟨-3, N, ar_no (by decide), fun V B s1 O1 n1 z1 h1 t1 s2 O2 n2 z2 h2 t2 hV m hS hm4 Q hQ => ?_⟩
          unfold wp_X6_leave
          exact ccopy_ok (grantLeave_ok hI.1 h6 hI.2.2.1 hS hp hab ht (fun e => absurd e (by omega)) (fun _ _ => crec_no (by decide) (hQ (ao_no (by decide) hS))) (fun s1 O1 n1 z1 h1 t1 s2 O2 n2 z2 h2 t2 _ e => absurd e (by omega)) (fun s1 O1 n1 z1 h1 t1 s2 O2 n2 z2 h2 t2 g W5 W6 W7 _ e => absurd e (by omega)))
        · by_cases d3 : N 2 = 1 ∧ 0 < moreIn N p a t
          · refine ⟨-6, N, ar_no (by decide), fun V B s1 O1 n1 z1 h1 t1 s2 O2 n2 z2 h2 t2 hV m hS hm4 Q hQ => ?_⟩
            unfold wp_X6_leave
            exact ccopy_ok (grantLeave_ok hI.1 h6 hI.2.2.1 hS hp hab ht (fun e => absurd e (by omega)) (fun _ e => absurd e d2) (fun s1 O1 n1 z1 h1 t1 s2 O2 n2 z2 h2 t2 _ _ _ _ => crec_no (by decide) (hQ (ao_no (by decide) hS))) (fun s1 O1 n1 z1 h1 t1 s2 O2 n2 z2 h2 t2 g W5 W6 W7 _ _ e => absurd (e d3.1) (by omega)))
          · have hA := Ag_gr (p := p) (a := a) (b := t) h6
            have hi := Inv_iff.mp hI
            have hI2 := Inv_5 hA hI (I5_gr hi.2.2.2.2.1 (by omega) hp hab ht d1)
            refine ⟨nI (t - a + 1), grN N p a t, ar_yes (by omega) (K2_m (K2_Ag hK hA (by decide) (by decide) hI2) (Nat.le_succ b)), fun V B s1 O1 n1 z1 h1 t1 s2 O2 n2 z2 h2 t2 hV m hS hm4 Q hQ => ?_⟩
            unfold wp_X6_leave
            exact ccopy_ok (grantLeave_ok hI.1 h6 hI.2.2.1 hS hp hab ht (fun e => absurd e (by omega)) (fun _ e => absurd e d2) (fun s1 O1 n1 z1 h1 t1 s2 O2 n2 z2 h2 t2 _ _ e e2 => absurd ⟨e, e2⟩ d3) (fun s1 O1 n1 z1 h1 t1 s2 O2 n2 z2 h2 t2 g W5 W6 W7 _ _ _ hW => crec_ok hm4 (by omega) (hQ (ao_yes (by omega) (RS_5 hA hI hS hW)))))
      · have hlt : ovOn N p a t < N 6 := by
          have := (fnd_le (ovl N p a t) (N 6) 0).2
          unfold ovOn at d1 ⊢
          omega
        refine ⟨-4, N, ar_no (by decide), fun V B s1 O1 n1 z1 h1 t1 s2 O2 n2 z2 h2 t2 hV m hS hm4 Q hQ => ?_⟩
        unfold wp_X6_leave
        exact ccopy_ok (grantLeave_ok hI.1 h6 hI.2.2.1 hS hp hab ht (fun _ => crec_no (by decide) (hQ (ao_no (by decide) hS))) (fun e => absurd e d1) (fun s1 O1 n1 z1 h1 t1 s2 O2 n2 z2 h2 t2 e => absurd e d1) (fun s1 O1 n1 z1 h1 t1 s2 O2 n2 z2 h2 t2 g W5 W6 W7 e => absurd e d1))
    · refine ⟨-2, N, ar_no (by decide), fun V B s1 O1 n1 z1 h1 t1 s2 O2 n2 z2 h2 t2 hV m hS hm4 Q hQ => ?_⟩
      unfold wp_X6_leave
      exact ccopy_ok (grantLeave_f2 hp c2 (crec_no (by decide) (hQ (ao_no (by decide) hS))))
  · refine ⟨-1, N, ar_no (by decide), fun V B s1 O1 n1 z1 h1 t1 s2 O2 n2 z2 h2 t2 hV m hS hm4 Q hQ => ?_⟩
    unfold wp_X6_leave
    exact ccopy_ok (grantLeave_f1 c (crec_no (by decide) (hQ (ao_no (by decide) hS))))
theorem a_takeBack {b : Nat} {N : Nat → Nat} (hK : K2 b N) (x y : Int32) : ∃ r N2, AR b N r N2 ∧ ∀ (V : SV) (hV : Nat → SV) (m : Nat), RS V N → m ≤ 4 → ∀ Q : Int32 → Int32 → (Nat → Int32) → (Nat → Int32) → (Nat → Int32) → (Nat → Nat → Nat → Int32) → Int32 → Prop, (∀ {g W5 W6 W7 hV2 hs2}, AO N2 r V (sv (V 14 0) (V 0) (V 1) (V 2) (V 3) (V 4) g W5 W6 W7 (V 14 2) (V 8) (V 9) (V 10) (V 11) (V 12) (V 13)) hV hV2 m hs2 → Q r g W5 W6 W7 hV2 hs2) → wp_X6_takeBack (V 14 0) (V 0) (V 1) (V 2) (V 3) (V 4) (V 14 1) (V 5) (V 6) (V 7) (V 14 2) (V 8) (V 9) (V 10) (V 11) (V 12) (V 13) hV (nI m) x y Q := by
  have hI := hK.1
  have h6 := hI.2.1
  have ho := hI.2.2.2.2.2.1
  by_cases c : ∃ p, p < 16 ∧ x = nI p
  · obtain ⟨p, hp, rfl⟩ := c
    by_cases c2 : ∃ d, d < 400 ∧ y = nI d
    · obtain ⟨d, hd, rfl⟩ := c2
      by_cases c3 : lvOn N p d < N 6
      · have hA := Ag_dr h6 c3
        have hi := Inv_iff.mp hI
        have hI2 := Inv_5 hA hI (I5_dr hi.2.2.2.2.1 c3)
        have hb9 := (hI.1.2.2.2.2.2 _ c3).2.2
        refine ⟨nI (N (352 + 3 * lvOn N p d) - N (351 + 3 * lvOn N p d) + 1), drN N (lvOn N p d), ar_yes (by omega) (K2_m (K2_Ag hK hA (by decide) (by decide) hI2) (Nat.le_succ b)), fun V hV m hS hm4 Q hQ => ?_⟩
        obtain ⟨hg, σ, hσ, hR⟩ := hS.2.2.2.2.1
        unfold wp_X6_takeBack
        refine cPerson_t hp (ifN' nz10 (cDay_t hd (ifN' nz10 ?_)))
        rw [hg]
        refine find_ok hI.1 h6 hσ hR hp (by omega) (by omega) (fun i hi9 hv => ?_) (fun c9 => absurd c3 (by have : lvOn N p d = N 6 := c9; omega))
        have e := lv_one hI (hσ.1 i hi9) hv
        rw [← hg]
        refine ifN' (by rw [nz_m5 (by omega)]; exact id) (cpush_ok hm4 ?_)
        rw [hg]
        refine removeAt_ok hI.1 h6 ho hσ hR hi9 (fun W5 W6 W7 τ hτ hW => ?_)
        rw [← e] at hW
        rw [← e]
        rw [← hg]
        exact hQ (ao_yes (V := V) (by omega) (RS_5 hA hI hS ⟨by rw [drN_6 h6], τ, by rw [drN_6 h6]; exact hτ, hW⟩))
      · refine ⟨-5, N, ar_no (by decide), fun V hV m hS hm4 Q hQ => ?_⟩
        obtain ⟨hg, σ, hσ, hR⟩ := hS.2.2.2.2.1
        unfold wp_X6_takeBack
        refine cPerson_t hp (ifN' nz10 (cDay_t hd (ifN' nz10 ?_)))
        rw [hg]
        refine find_ok hI.1 h6 hσ hR hp (by omega) (by omega) (fun i hi9 hv => absurd (ovOn_some (hσ.1 i hi9) hv) c3) (fun _ => ?_)
        rw [← hg]
        exact ifP' rfl (hQ (ao_no (by decide) hS))
    · refine ⟨-2, N, ar_no (by decide), fun V hV m hS hm4 Q hQ => ?_⟩
      unfold wp_X6_takeBack
      exact cPerson_t hp (ifN' nz10 (cDay_f c2 (ifP' nI_0 (hQ (ao_no (by decide) hS)))))
  · refine ⟨-1, N, ar_no (by decide), fun V hV m hS hm4 Q hQ => ?_⟩
    unfold wp_X6_takeBack
    exact cPerson_f c (ifP' nI_0 (hQ (ao_no (by decide) hS)))
theorem a_drill {b : Nat} {N : Nat → Nat} (hK : K2 b N) (x y : Int32) : ∃ r N2, AR b N r N2 ∧ ∀ (V B : SV) (s1 : Int32) (O1 n1 z1 h1 t1 : Nat → Int32) (hV : Nat → SV) (m : Nat), RS V N → m ≤ 4 → ∀ Q : Int32 → Int32 → (Nat → Int32) → (Nat → Int32) → (Nat → Int32) → (Nat → Int32) → (Nat → Int32) → (Nat → Int32) → Int32 → (Nat → Int32) → (Nat → Int32) → (Nat → Int32) → (Nat → Int32) → (Nat → Int32) → Int32 → (Nat → Int32) → (Nat → Int32) → (Nat → Int32) → Int32 → (Nat → Int32) → (Nat → Int32) → (Nat → Int32) → (Nat → Int32) → (Nat → Int32) → (Nat → Int32) → Int32 → (Nat → Int32) → (Nat → Int32) → (Nat → Int32) → (Nat → Int32) → (Nat → Int32) → (Nat → Nat → Nat → Int32) → Int32 → Prop, (∀ {g W8 W9 W10 W11 W12 W13 b0 b1 b2 b3 b4 b5 b6 b7 b8 b9 b10 b11 b12 b13 b14 b15 b16 d0 d1 d2 d3 d4 d5 hV2 hs2}, AO N2 r V (sv (V 14 0) (V 0) (V 1) (V 2) (V 3) (V 4) (V 14 1) (V 5) (V 6) (V 7) g W8 W9 W10 W11 W12 W13) hV hV2 m hs2 → Q r g W8 W9 W10 W11 W12 W13 b0 b1 b2 b3 b4 b5 b6 b7 b8 b9 b10 b11 b12 b13 b14 b15 b16 d0 d1 d2 d3 d4 d5 hV2 hs2) → wp_X6_drill (V 14 0) (V 0) (V 1) (V 2) (V 3) (V 4) (V 14 1) (V 5) (V 6) (V 7) (V 14 2) (V 8) (V 9) (V 10) (V 11) (V 12) (V 13) (B 14 0) (B 0) (B 1) (B 2) (B 3) (B 4) (B 14 1) (B 5) (B 6) (B 7) (B 14 2) (B 8) (B 9) (B 10) (B 11) (B 12) (B 13) s1 O1 n1 z1 h1 t1 hV (nI m) x y Q := by
  have hI := hK.1
  have h3 := hI.2.2.2.1
  by_cases c : ∃ f, f < 10 ∧ x = nI f
  · obtain ⟨f, hf, rfl⟩ := c
    by_cases c2 : ∃ k, 1 ≤ k ∧ k ≤ 60 ∧ y = nI k
    · obtain ⟨k, hk, hk2, rfl⟩ := c2
      by_cases d1 : noDrill N f
      · refine ⟨-4, N, ar_no (by decide), fun V B s1 O1 n1 z1 h1 t1 hV m hS hm4 Q hQ => ?_⟩
        unfold wp_X6_drill
        exact ccopy_ok (holdDrill_ok hI hS hf hk hk2 (fun s1 O1 n1 z1 h1 t1 _ => crec_no (by decide) (hQ (ao_no (by decide) hS))) (fun s1 O1 n1 z1 h1 t1 l W8 W9 W10 W11 W12 W13 e => absurd d1 e))
      · have hP := PI_plan hI.1 (able N (N 3))
        have hc : 0 < (plan N (able N (N 3))).2.2.1 f := by
          have := hP.2.1 f hf
          unfold noDrill lack at d1
          omega
        have hl := (hP.2.2.2.1 f hf 0 hc).1
        rw [Nat.add_zero] at hl
        have h6 := hI.lg hf
        have hA := Ag_dl (m := k) hf hl h3 h6
        have hi := Inv_iff.mp hI
        have hI2 := Inv_6 hA hI (I6_dl (m := k) hi.2.2.2.2.2.1 h3 hf hl)
        refine ⟨nI ((plan N (able N (N 3))).2.1 (3 * f)), dlN N f k ((plan N (able N (N 3))).2.1 (3 * f)), ar_yes (by omega) (K2_dl hK hf hl hI2), fun V B s1 O1 n1 z1 h1 t1 hV m hS hm4 Q hQ => ?_⟩
        unfold wp_X6_drill
        refine ccopy_ok (holdDrill_ok hI hS hf hk hk2 (fun s1 O1 n1 z1 h1 t1 e => absurd e d1) (fun s1 O1 n1 z1 h1 t1 l W8 W9 W10 W11 W12 W13 _ hl2 el w6 w9 w10 => ?_))
        subst el
        exact crec_ok hm4 (by omega) (hQ (ao_yes (by omega) (RS_6 hA hI hS w6 w9 w10 rfl)))
    · refine ⟨-2, N, ar_no (by decide), fun V B s1 O1 n1 z1 h1 t1 hV m hS hm4 Q hQ => ?_⟩
      unfold wp_X6_drill
      exact ccopy_ok (holdDrill_f2 hf c2 (crec_no (by decide) (hQ (ao_no (by decide) hS))))
  · refine ⟨-1, N, ar_no (by decide), fun V B s1 O1 n1 z1 h1 t1 hV m hS hm4 Q hQ => ?_⟩
    unfold wp_X6_drill
    exact ccopy_ok (holdDrill_f1 c (crec_no (by decide) (hQ (ao_no (by decide) hS))))
theorem a_pass {b : Nat} {N : Nat → Nat} (hK : K2 b N) (x : Int32) : ∃ r N2, AR b N r N2 ∧ ∀ (V B : SV) (s1 : Int32) (O1 n1 z1 h1 t1 : Nat → Int32) (hV : Nat → SV) (m : Nat), RS V N → m ≤ 4 → ∀ Q : Int32 → Int32 → Int32 → (Nat → Int32) → (Nat → Int32) → (Nat → Int32) → (Nat → Int32) → (Nat → Int32) → Int32 → (Nat → Int32) → (Nat → Int32) → (Nat → Int32) → Int32 → (Nat → Int32) → (Nat → Int32) → (Nat → Int32) → (Nat → Int32) → (Nat → Int32) → (Nat → Int32) → Int32 → (Nat → Int32) → (Nat → Int32) → (Nat → Int32) → (Nat → Int32) → (Nat → Int32) → (Nat → Nat → Nat → Int32) → Int32 → Prop, (∀ {g b0 b1 b2 b3 b4 b5 b6 b7 b8 b9 b10 b11 b12 b13 b14 b15 b16 d0 d1 d2 d3 d4 d5 hV2 hs2}, AO N2 r V (sv g (V 0) (V 1) (V 2) (V 3) (V 4) (V 14 1) (V 5) (V 6) (V 7) (V 14 2) (V 8) (V 9) (V 10) (V 11) (V 12) (V 13)) hV hV2 m hs2 → Q r g b0 b1 b2 b3 b4 b5 b6 b7 b8 b9 b10 b11 b12 b13 b14 b15 b16 d0 d1 d2 d3 d4 d5 hV2 hs2) → wp_X6_pass (V 14 0) (V 0) (V 1) (V 2) (V 3) (V 4) (V 14 1) (V 5) (V 6) (V 7) (V 14 2) (V 8) (V 9) (V 10) (V 11) (V 12) (V 13) (B 14 0) (B 0) (B 1) (B 2) (B 3) (B 4) (B 14 1) (B 5) (B 6) (B 7) (B 14 2) (B 8) (B 9) (B 10) (B 11) (B 12) (B 13) s1 O1 n1 z1 h1 t1 hV (nI m) x Q := by
  have hI := hK.1
  by_cases c : ∃ k, 1 ≤ k ∧ k ≤ 99 ∧ x = nI k
  · obtain ⟨k, hk, hk2, rfl⟩ := c
    have hl := shortF_le (N := un N 3 (N 3 + k)) (d := N 3 + k)
    by_cases d1 : 399 < N 3 + k
    · refine ⟨-3, N, ar_no (by decide), fun V B s1 O1 n1 z1 h1 t1 hV m hS hm4 Q hQ => ?_⟩
      unfold wp_X6_pass
      exact ccopy_ok (letPass_ok hI hS hk hk2 (fun _ => crec_no (by decide) (hQ (ao_no (by decide) hS))) (fun e => absurd e (by omega)))
    · have hI2 := Inv_today hI (t := N 3 + k) (by omega)
      have hA : Ag 7 N (un N 3 (N 3 + k)) := Ag_un (i := 7) (k := 3) rfl
      refine ⟨nI (shortF (un N 3 (N 3 + k)) (N 3 + k)), un N 3 (N 3 + k), ar_yes (by omega) (K2_m (K2_keep hK (fun j hj => hA.d (k := 6) (by decide) hj) (by rw [un_s]; omega) hI2) (Nat.le_succ b)), fun V B s1 O1 n1 z1 h1 t1 hV m hS hm4 Q hQ => ?_⟩
      unfold wp_X6_pass
      exact ccopy_ok (letPass_ok hI hS hk hk2 (fun e => absurd e d1) (fun _ s1 O1 n1 z1 h1 t1 => crec_ok hm4 (by omega) (hQ (ao_yes (by omega) (RS_today hI hS)))))
  · refine ⟨-2, N, ar_no (by decide), fun V B s1 O1 n1 z1 h1 t1 hV m hS hm4 Q hQ => ?_⟩
    unfold wp_X6_pass
    exact ccopy_ok (letPass_f c (crec_no (by decide) (hQ (ao_no (by decide) hS))))
theorem a_restore {b : Nat} {N SN : Nat → Nat} (hK : K2 b SN) : ∃ r N2, AR b N r N2 ∧ ∀ (V B : SV) (hV : Nat → SV) (m : Nat), RS V N → RS (hV 4) SN → m ≤ 4 → ∀ Q : Int32 → Int32 → (Nat → Int32) → (Nat → Int32) → (Nat → Int32) → (Nat → Int32) → (Nat → Int32) → Int32 → (Nat → Int32) → (Nat → Int32) → (Nat → Int32) → Int32 → (Nat → Int32) → (Nat → Int32) → (Nat → Int32) → (Nat → Int32) → (Nat → Int32) → (Nat → Int32) → Int32 → (Nat → Int32) → (Nat → Int32) → (Nat → Int32) → (Nat → Int32) → (Nat → Int32) → Int32 → (Nat → Int32) → (Nat → Int32) → (Nat → Int32) → Int32 → (Nat → Int32) → (Nat → Int32) → (Nat → Int32) → (Nat → Int32) → (Nat → Int32) → (Nat → Int32) → (Nat → Nat → Nat → Int32) → Int32 → Prop, (∀ {a0 a1 a2 a3 a4 a5 a6 a7 a8 a9 a10 a11 a12 a13 a14 a15 a16 b0 b1 b2 b3 b4 b5 b6 b7 b8 b9 b10 b11 b12 b13 b14 b15 b16 hV2 hs2}, AO N2 r V (sv a0 a1 a2 a3 a4 a5 a6 a7 a8 a9 a10 a11 a12 a13 a14 a15 a16) hV hV2 m hs2 → Q r a0 a1 a2 a3 a4 a5 a6 a7 a8 a9 a10 a11 a12 a13 a14 a15 a16 b0 b1 b2 b3 b4 b5 b6 b7 b8 b9 b10 b11 b12 b13 b14 b15 b16 hV2 hs2) → wp_X6_restore (V 14 0) (V 0) (V 1) (V 2) (V 3) (V 4) (V 14 1) (V 5) (V 6) (V 7) (V 14 2) (V 8) (V 9) (V 10) (V 11) (V 12) (V 13) (B 14 0) (B 0) (B 1) (B 2) (B 3) (B 4) (B 14 1) (B 5) (B 6) (B 7) (B 14 2) (B 8) (B 9) (B 10) (B 11) (B 12) (B 13) hV (nI m) (nI 1) Q := by
  have h3 := hK.1.2.2.2.1
  refine ⟨nI (SN 3), SN, ar_yes (by omega) (K2_m hK (Nat.le_succ b)), fun V B hV m hS hS4 hm4 Q hQ => ?_⟩
  have r0 := hS4.2.2.2.2.2.2.2.2.1
  unfold wp_X6_restore
  refine ccopy_ok ?_
  unfold wp_X1_snapshotInto
  refine ifN nz10 (ccopy_ok ⟨nb1, ifN' nz10 ?_⟩)
  rw [r0]
  refine crec_ok hm4 (by omega) (hQ (ao_yes (V := V) (by omega) ?_))
  rw [← r0]
  exact hS4
theorem a_undo {V : SV} {hV : Nat → SV} {m : Nat} (hm : m ≤ 4) (h0 : 0 < m) {Q : Int32 → Int32 → (Nat → Int32) → (Nat → Int32) → (Nat → Int32) → (Nat → Int32) → (Nat → Int32) → Int32 → (Nat → Int32) → (Nat → Int32) → (Nat → Int32) → Int32 → (Nat → Int32) → (Nat → Int32) → (Nat → Int32) → (Nat → Int32) → (Nat → Int32) → (Nat → Int32) → Int32 → Prop} (h : Q (nI (m - 1)) ((hV (m - 1)) 14 0) ((hV (m - 1)) 0) ((hV (m - 1)) 1) ((hV (m - 1)) 2) ((hV (m - 1)) 3) ((hV (m - 1)) 4) ((hV (m - 1)) 14 1) ((hV (m - 1)) 5) ((hV (m - 1)) 6) ((hV (m - 1)) 7) ((hV (m - 1)) 14 2) ((hV (m - 1)) 8) ((hV (m - 1)) 9) ((hV (m - 1)) 10) ((hV (m - 1)) 11) ((hV (m - 1)) 12) ((hV (m - 1)) 13) (nI (m - 1))) : wp_X6_undo (V 14 0) (V 0) (V 1) (V 2) (V 3) (V 4) (V 14 1) (V 5) (V 6) (V 7) (V 14 2) (V 8) (V 9) (V 10) (V 11) (V 12) (V 13) hV (nI m) Q := by
  unfold wp_X6_undo
  exact ⟨m, hm, rfl, fun c => absurd c (by omega), fun _ => h⟩
