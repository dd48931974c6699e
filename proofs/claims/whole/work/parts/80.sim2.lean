theorem q_set22 {b m : Nat} {has th : Int32} {V : SV} {hV : Nat → SV} {N HN SN : Nat → Nat} (hI : Inv b N) (hS : RS V N) (hH : Hist b m has hV HN SN) {w u : Nat} (hw : w < 3) (hu : u ≤ 2) (hwu : w = 0 ∨ u ≤ 1) (y : Int32) {K : Int32 → (Nat → Int32) → (Nat → SV) → Int32 → Prop} (hK : ∀ r W0 hV2 hs2, wb_X7_set_27 th (nI m) (sN N) (sN HN) (nI w) y (fun r2 _ m2 s2 st2 => r2 = r ∧ Rel b has SN (sv (V 14 0) W0 (V 1) (V 2) (V 3) (V 4) (V 14 1) (V 5) (V 6) (V 7) (V 14 2) (V 8) (V 9) (V 10) (V 11) (V 12) (V 13)) hV2 hs2 s2 st2 m2) y (nI 0) (nI u) → K r W0 hV2 hs2) : wb_X6_set_22 (V 14 0) (V 0) (V 1) (V 2) (V 3) (V 4) (V 14 1) (V 5) (V 6) (V 7) (V 14 2) (V 8) (V 9) (V 10) (V 11) (V 12) (V 13) hV (nI m) (nI w) y K y (nI 0) (nI u) := by
  have hi := Inv_iff.mp hI
  obtain ⟨i0, i1, i2⟩ := hi.1
  have hN : N w ≤ 2 := by
    match w, hw with
    | 0, _ => exact i0
    | 1, _ => omega
    | 2, _ => omega
  unfold wb_X6_set_22
  by_cases c2 : ∃ v, v ≤ u ∧ y = nI v
  · obtain ⟨v, hv, rfl⟩ := c2
    refine cWithin_t (by omega) (by omega) (by omega) (by omega) hv (ifN' nz10 ⟨vp_in_nI hw (by omega), fun x3 e => ?_⟩)
    rw [nz_cl (by omega), hS.1 w hw] at e
    subst e
    by_cases c3 : N w = v
    · refine ifP' (by rw [c3]) (hK _ _ _ _ ?_)
      unfold wb_X7_set_27
      refine in_t (by omega) (by omega) (by omega) (by omega) hv (ifN' nz10 ⟨vp_in_nI (by omega) (by omega), fun x4 e4 => ?_⟩)
      rw [nz_cl (by omega)] at e4
      subst e4
      exact ifP' (by unfold sN; rw [c3]) ⟨rfl, Rel_mk hI hS hH⟩
    · have cn : ¬ nI (N w) = nI v := fun e => c3 ((nz_eq (by omega) (by omega)).mp e)
      refine ifN' cn (cpush_ok hH.1 ⟨vp_in_nI hw (by omega), fun W1 e1 => hK _ _ _ _ ?_⟩)
      rw [nz_cl (by omega)] at e1
      subst e1
      unfold wb_X7_set_27
      refine in_t (by omega) (by omega) (by omega) (by omega) hv (ifN' nz10 ⟨vp_in_nI (by omega) (by omega), fun x4 e4 => ?_⟩)
      rw [nz_cl (by omega)] at e4
      subst e4
      refine ifN' cn (records_ok hH.1 ⟨vp_in_nI (by omega) (by omega), fun T e5 => ?_⟩)
      rw [nz_cl (by omega), upd_sN] at e5
      subst e5
      have hA : Ag 1 N (un N w v) := Ag_un (ar_1 hw)
      refine ⟨rfl, Rel_rec (V := sv (V 14 0) (V 0) (V 1) (V 2) (V 3) (V 4) (V 14 1) (V 5) (V 6) (V 7) (V 14 2) (V 8) (V 9) (V 10) (V 11) (V 12) (V 13)) hI hS hH (Nat.le_refl _) (Inv_1 hA hI ?_) (RS_1 hA hI hS (S_upd hS.1 (by rw [un_s]) (fun g hg e => by rw [un_n e])))⟩
      refine ⟨?_, ?_, ?_⟩ <;> unfold un <;> split <;> omega
  · refine cWithin_f (by omega) (by omega) (fun n _ h2 e => c2 ⟨n, h2, e⟩) (ifP' nI_0 (hK _ _ _ _ ?_))
    unfold wb_X7_set_27
    exact in_f (by omega) (by omega) (fun n _ h2 e => c2 ⟨n, h2, e⟩) (ifP' nI_0 ⟨rfl, Rel_mk hI hS hH⟩)
theorem q_set {b m : Nat} {has th : Int32} {V : SV} {hV : Nat → SV} {N HN SN : Nat → Nat} (hI : Inv b N) (hS : RS V N) (hH : Hist b m has hV HN SN) (x y : Int32) : wp_X6_set (V 14 0) (V 0) (V 1) (V 2) (V 3) (V 4) (V 14 1) (V 5) (V 6) (V 7) (V 14 2) (V 8) (V 9) (V 10) (V 11) (V 12) (V 13) hV (nI m) x y (fun r W0 hV2 hs2 => wp_X7_set th (nI m) (sN N) (sN HN) x y (fun r2 _ m2 s2 st2 => r2 = r ∧ Rel b has SN (sv (V 14 0) W0 (V 1) (V 2) (V 3) (V 4) (V 14 1) (V 5) (V 6) (V 7) (V 14 2) (V 8) (V 9) (V 10) (V 11) (V 12) (V 13)) hV2 hs2 s2 st2 m2)) := by
  unfold wp_X6_set
  by_cases c : ∃ w, w ≤ 2 ∧ x = nI w
  · obtain ⟨w, hw, rfl⟩ := c
    refine cWithin_t (by omega) (by omega) (by omega) (by omega) hw (ifN' nz10 ?_)
    by_cases c2 : w = 0
    · refine ifP' ((nz_eq0 (by omega)).mpr c2) (q_set22 (th := nI 0) hI hS hH (by omega) (u := 2) (by omega) (Or.inl c2) y (fun r W0 hV2 hs2 h => ?_))
      unfold wp_X7_set
      exact in_t (by omega) (by omega) (by omega) (by omega) hw (ifN' nz10 (ifP' ((nz_eq0 (by omega)).mpr c2) h))
    · have cn : ¬ nI w = 0 := fun e => c2 ((nz_eq0 (by omega)).mp e)
      refine ifN' cn (q_set22 (th := nI 0) hI hS hH (by omega) (u := 1) (by omega) (Or.inr (Nat.le_refl _)) y (fun r W0 hV2 hs2 h => ?_))
      unfold wp_X7_set
      exact in_t (by omega) (by omega) (by omega) (by omega) hw (ifN' nz10 (ifN' cn h))
  · refine cWithin_f (by omega) (by omega) (fun n _ h2 e => c ⟨n, h2, e⟩) (ifP' nI_0 ?_)
    unfold wp_X7_set
    exact in_f (by omega) (by omega) (fun n _ h2 e => c ⟨n, h2, e⟩) (ifP' nI_0 ⟨rfl, Rel_mk hI hS hH⟩)
theorem q_leave {b m : Nat} {has th : Int32} {V B : SV} {hV : Nat → SV} {N HN SN : Nat → Nat} {q1 q2 q3 q4 q5 : Nat → Int32} {s1 : Int32} {O1 n1 z1 h1 t1 : Nat → Int32} {s2 : Int32} {O2 n2 z2 h2 t2 : Nat → Int32} (hI : Inv b N) (hS : RS V N) (hH : Hist b m has hV HN SN) (x y z : Int32) : wp_X6_leave (V 14 0) (V 0) (V 1) (V 2) (V 3) (V 4) (V 14 1) (V 5) (V 6) (V 7) (V 14 2) (V 8) (V 9) (V 10) (V 11) (V 12) (V 13) (B 14 0) (B 0) (B 1) (B 2) (B 3) (B 4) (B 14 1) (B 5) (B 6) (B 7) (B 14 2) (B 8) (B 9) (B 10) (B 11) (B 12) (B 13) s1 O1 n1 z1 h1 t1 s2 O2 n2 z2 h2 t2 hV (nI m) x y z (fun r g W5 W6 W7 _ _ _ _ _ _ _ _ _ _ _ _ _ _ _ _ _ _ _ _ _ _ _ _ _ _ _ _ _ hV2 hs2 => wp_X7_leave th (nI m) (sN N) (sN HN) q1 q2 q3 q4 q5 x y z (fun r2 _ m2 s2 st2 _ _ _ _ _ => r2 = r ∧ Rel b has SN (sv (V 14 0) (V 0) (V 1) (V 2) (V 3) (V 4) g W5 W6 W7 (V 14 2) (V 8) (V 9) (V 10) (V 11) (V 12) (V 13)) hV2 hs2 s2 st2 m2)) := by
  unfold wp_X6_leave
  refine ccopy_ok ?_
  have h6 := hI.2.1
  by_cases c : ∃ p, p < 16 ∧ x = nI p
  · obtain ⟨p, hp, rfl⟩ := c
    by_cases c2 : ∃ a b, a ≤ b ∧ b ≤ 399 ∧ y = nI a ∧ z = nI b
    · obtain ⟨a, t, hab, ht, rfl, rfl⟩ := c2
      refine grantLeave_ok hI.1 h6 hI.2.2.1 hS hp hab ht (fun d1 => crec_no (by decide) ?_) (fun d1 d2 => crec_no (by decide) ?_) (fun s1 O1 n1 z1 h1 t1 s2 O2 n2 z2 h2 t2 d1 d2 d3 d4 => crec_no (by decide) ?_) (fun s1 O1 n1 z1 h1 t1 s2 O2 n2 z2 h2 t2 g W5 W6 W7 d1 d2 d3 hW => crec_ok hH.1 (by omega) ?_)
      · unfold wp_X7_leave
        exact refusesLeave_ok hI.1 h6 hI.2.2.1 hI.2.2.2.2.1 hp hab ht (fun _ => ifN (by decide) ⟨rfl, Rel_mk hI hS hH⟩) (fun e => absurd e (by omega)) (fun _ _ _ _ _ e => absurd e (by omega)) (fun _ _ _ _ _ e => absurd e (by omega))
      · unfold wp_X7_leave
        exact refusesLeave_ok hI.1 h6 hI.2.2.1 hI.2.2.2.2.1 hp hab ht (fun e => absurd e (by omega)) (fun _ _ => ifN (by decide) ⟨rfl, Rel_mk hI hS hH⟩) (fun _ _ _ _ _ _ e => absurd e (by omega)) (fun _ _ _ _ _ _ e => absurd e (by omega))
      · unfold wp_X7_leave
        exact refusesLeave_ok hI.1 h6 hI.2.2.1 hI.2.2.2.2.1 hp hab ht (fun e => absurd e (by omega)) (fun _ e => absurd e (by omega)) (fun _ _ _ _ _ _ _ _ _ => ifN (by decide) ⟨rfl, Rel_mk hI hS hH⟩) (fun _ _ _ _ _ _ _ e => absurd (e d3) (by omega))
      · unfold wp_X7_leave
        refine refusesLeave_ok hI.1 h6 hI.2.2.1 hI.2.2.2.2.1 hp hab ht (fun e => absurd e (by omega)) (fun _ e => absurd e (by omega)) (fun _ _ _ _ _ _ _ e e2 => absurd (d3 e) (by omega)) (fun _ _ _ _ _ _ _ _ => ifP nI_0 (records_ok hH.1 (grants_ok h6 ⟨?_, ?_⟩)))
        · rw [nz_sub hab, nI_add]
        · have hA := Ag_gr (p := p) (a := a) (b := t) h6
          have hi := Inv_iff.mp hI
          exact Rel_rec (V := sv (V 14 0) (V 0) (V 1) (V 2) (V 3) (V 4) (V 14 1) (V 5) (V 6) (V 7) (V 14 2) (V 8) (V 9) (V 10) (V 11) (V 12) (V 13)) hI hS hH (Nat.le_refl _) (Inv_5 hA hI (I5_gr hi.2.2.2.2.1 d2 hp hab ht d1)) (RS_5 hA hI hS hW)
    · refine grantLeave_f2 hp c2 (crec_no (by decide) ?_)
      unfold wp_X7_leave
      exact refusesLeave_f2 hp c2 (ifN (by decide) ⟨rfl, Rel_mk hI hS hH⟩)
  · refine grantLeave_f1 c (crec_no (by decide) ?_)
    unfold wp_X7_leave
    exact refusesLeave_f1 c (ifN (by decide) ⟨rfl, Rel_mk hI hS hH⟩)
theorem lv_one {b : Nat} {N : Nat → Nat} (hI : Inv b N) {p d k : Nat} (hk : k < N 6) (h : lvP N p d k = true) : lvOn N p d = k := by
  have hlt : lvOn N p d < N 6 := ovOn_some (a := d) (b := d) hk h
  have h2 : lvP N p d (lvOn N p d) = true := fnd_lt _ _ _ (by unfold lvOn at hlt; omega)
  have e1 := of_decide_eq_true h
  have e2 := of_decide_eq_true h2
  by_cases c : lvOn N p d = k
  · exact c
  · have := hI.2.2.2.2.2.2.1 _ _ hlt hk c (by rw [e1.1, e2.1])
    omega
theorem q_takeBack {b m : Nat} {has th : Int32} {V : SV} {hV : Nat → SV} {N HN SN : Nat → Nat} (hI : Inv b N) (hS : RS V N) (hH : Hist b m has hV HN SN) (x y : Int32) : wp_X6_takeBack (V 14 0) (V 0) (V 1) (V 2) (V 3) (V 4) (V 14 1) (V 5) (V 6) (V 7) (V 14 2) (V 8) (V 9) (V 10) (V 11) (V 12) (V 13) hV (nI m) x y (fun r g W5 W6 W7 hV2 hs2 => wp_X7_takeBack th (nI m) (sN N) (sN HN) x y (fun r2 _ m2 s2 st2 => r2 = r ∧ Rel b has SN (sv (V 14 0) (V 0) (V 1) (V 2) (V 3) (V 4) g W5 W6 W7 (V 14 2) (V 8) (V 9) (V 10) (V 11) (V 12) (V 13)) hV2 hs2 s2 st2 m2)) := by
  have h6 := hI.2.1
  have ho := hI.2.2.2.2.2.1
  unfold wp_X6_takeBack
  by_cases c : ∃ p, p < 16 ∧ x = nI p
  · obtain ⟨p, hp, rfl⟩ := c
    refine cPerson_t hp (ifN' nz10 ?_)
    by_cases c2 : ∃ d, d < 400 ∧ y = nI d
    · obtain ⟨d, hd, rfl⟩ := c2
      refine cDay_t hd (ifN' nz10 ?_)
      obtain ⟨hg, σ, hσ, hR⟩ := hS.2.2.2.2.1
      rw [hg]
      refine find_ok hI.1 h6 hσ hR hp (by omega) (by omega) (fun i hi hv => ?_) (fun c3 => ?_)
      · have e := lv_one hI (hσ.1 i hi) hv
        have hk := hσ.1 i hi
        rw [← hg]
        refine ifN' (by rw [nz_m5 (by omega)]; exact id) (cpush_ok hH.1 ?_)
        rw [hg]
        refine removeAt_ok hI.1 h6 ho hσ hR hi (fun W5 W6 W7 τ hτ hW => ?_)
        unfold wp_X7_takeBack
        refine isPerson_t hp (ifN' nz10 (isDay_t hd (ifN' nz10 (leaveOn_ok hI.1 hp (by omega) (fun _ => ?_) (fun e2 => absurd e2 (by omega))))))
        rw [e]
        have hl := ho _ hk
        refine ifN' (by rw [nz_m5 (by omega)]; exact id) (records_ok hH.1 (ofLeave_ok (by omega) (by omega) (ofLeave_ok (by omega) (by omega) ?_)))
        intro x4 e4
        rw [show 350 + 3 * σ i + 2 = 352 + 3 * σ i by omega, show 350 + 3 * σ i + 1 = 351 + 3 * σ i by omega, nz_sub hl, nI_add] at e4
        subst e4
        refine drops_ok (by omega) hk ⟨rfl, ?_⟩
        have hA := Ag_dr h6 hk
        have hi := Inv_iff.mp hI
        rw [← hg]
        exact Rel_rec (V := sv (V 14 0) (V 0) (V 1) (V 2) (V 3) (V 4) (V 14 1) (V 5) (V 6) (V 7) (V 14 2) (V 8) (V 9) (V 10) (V 11) (V 12) (V 13)) hI hS hH (Nat.le_refl _) (Inv_5 hA hI (I5_dr hi.2.2.2.2.1 hk)) (RS_5 hA hI hS ⟨by rw [drN_6 h6], τ, by rw [drN_6 h6]; exact hτ, hW⟩)
      · refine ifP' rfl ?_
        rw [← hg]
        unfold wp_X7_takeBack
        exact isPerson_t hp (ifN' nz10 (isDay_t hd (ifN' nz10 (leaveOn_ok hI.1 hp (by omega) (fun e2 => absurd e2 (by have : lvOn N p d = N 6 := c3; omega)) (fun _ => ifP' rfl ⟨rfl, Rel_mk hI hS hH⟩)))))
    · refine cDay_f c2 (ifP' nI_0 ?_)
      unfold wp_X7_takeBack
      exact isPerson_t hp (ifN' nz10 (isDay_f c2 (ifP' nI_0 ⟨rfl, Rel_mk hI hS hH⟩)))
  · refine cPerson_f c (ifP' nI_0 ?_)
    unfold wp_X7_takeBack
    exact isPerson_f c (ifP' nI_0 ⟨rfl, Rel_mk hI hS hH⟩)
