/-! history, snapshot, text, the stop's pair -/
theorem hpn_pos {m : Nat} (hm : m ≤ 4) : 0 < hpn m := by
  unfold hpn
  split <;> omega
theorem q_undo {b m : Nat} {has th : Int32} {V : SV} {hV : Nat → SV} {N HN SN : Nat → Nat} (hI : Inv b N) (hS : RS V N) (hH : Hist b m has hV HN SN) : wp_X6_undo (V 14 0) (V 0) (V 1) (V 2) (V 3) (V 4) (V 14 1) (V 5) (V 6) (V 7) (V 14 2) (V 8) (V 9) (V 10) (V 11) (V 12) (V 13) hV (nI m) (fun r a0 a1 a2 a3 a4 a5 a6 a7 a8 a9 a10 a11 a12 a13 a14 a15 a16 hs2 => wp_X7_undo th (nI m) (sN N) (sN HN) (fun r2 _ m2 s2 => r2 = r ∧ Rel b has SN (sv a0 a1 a2 a3 a4 a5 a6 a7 a8 a9 a10 a11 a12 a13 a14 a15 a16) hV hs2 s2 (sN HN) m2)) := by
  unfold wp_X6_undo
  refine ⟨m, hH.1, rfl, fun c => ?_, fun c => ?_⟩
  · subst c
    unfold wp_X7_undo
    exact ifP' nI_0 ⟨rfl, Rel_mk hI hS hH⟩
  · unfold wp_X7_undo
    refine ifN' (fun e => absurd ((nz_eq0 (by have := hH.1; omega)).mp e) (by omega)) (fun mm em => ⟨475, ?_⟩)
    rw [nz_sub (by omega)] at em
    subst em
    have h4 := hH.1
    have hk := hH.2.1 (m - 1) (by omega)
    refine undo_27 (B := N) (q := m - 1) (by omega) ?_ 474 0 (by omega)
    rw [cp_stK hI.fin]
    exact ⟨rfl, Rel_mk hk.2 hk.1 ⟨by omega, fun k hk => hH.2.1 k (by omega), hH.2.2⟩⟩
theorem q_keep {b m : Nat} {has th : Int32} {V B : SV} {hV : Nat → SV} {N HN SN : Nat → Nat} (hI : Inv b N) (hS : RS V N) (hH : Hist b m has hV HN SN) {oh : Int32} : wp_X6_keep (V 14 0) (V 0) (V 1) (V 2) (V 3) (V 4) (V 14 1) (V 5) (V 6) (V 7) (V 14 2) (V 8) (V 9) (V 10) (V 11) (V 12) (V 13) oh (B 14 0) (B 0) (B 1) (B 2) (B 3) (B 4) (B 14 1) (B 5) (B 6) (B 7) (B 14 2) (B 8) (B 9) (B 10) (B 11) (B 12) (B 13) (fun r hs a0 a1 a2 a3 a4 a5 a6 a7 a8 a9 a10 a11 a12 a13 a14 a15 a16 => wp_X7_keep th has (sN N) (sN SN) (fun r2 _ has2 sn2 => r2 = r ∧ has2 = nI 1 ∧ hs = nI 1 ∧ sn2 = sN N ∧ RS (sv a0 a1 a2 a3 a4 a5 a6 a7 a8 a9 a10 a11 a12 a13 a14 a15 a16) N)) := by
  have r0 := hS.2.2.2.2.2.2.2.2.1
  unfold wp_X6_keep wp_X1_keepSnapshot
  refine ccopy_ok ?_
  unfold wp_X7_keep
  refine ⟨475, ?_⟩
  have := keep_7 (A := N) (B := SN) (K := fun s => vp_in (nI 3) 474 ∧ (sN N (nI 3).toNatClampNeg = V 14 0 ∧ nI 1 = nI 1 ∧ nI 1 = nI 1 ∧ s = sN N ∧ RS (sv (V 14 0) (V 0) (V 1) (V 2) (V 3) (V 4) (V 14 1) (V 5) (V 6) (V 7) (V 14 2) (V 8) (V 9) (V 10) (V 11) (V 12) (V 13)) N)) ⟨vp_in_nI (by omega) (by omega), ⟨by rw [nz_cl (by omega), r0]; rfl, rfl, rfl, by rw [cp_full hI.fin hH.2.2.1], hS⟩⟩ 474 0 (by omega)
  rw [cp_z] at this
  exact this
theorem q_restore {b m : Nat} {has th : Int32} {V B : SV} {hV : Nat → SV} {N HN SN : Nat → Nat} (hI : Inv b N) (hS : RS V N) (hH : Hist b m has hV HN SN) : wp_X6_restore (V 14 0) (V 0) (V 1) (V 2) (V 3) (V 4) (V 14 1) (V 5) (V 6) (V 7) (V 14 2) (V 8) (V 9) (V 10) (V 11) (V 12) (V 13) (B 14 0) (B 0) (B 1) (B 2) (B 3) (B 4) (B 14 1) (B 5) (B 6) (B 7) (B 14 2) (B 8) (B 9) (B 10) (B 11) (B 12) (B 13) hV (nI m) has (fun r a0 a1 a2 a3 a4 a5 a6 a7 a8 a9 a10 a11 a12 a13 a14 a15 a16 _ _ _ _ _ _ _ _ _ _ _ _ _ _ _ _ _ hV2 hs2 => wp_X7_restore th (nI m) has (sN N) (sN HN) (sN SN) (fun r2 _ m2 s2 st2 => r2 = r ∧ Rel b has SN (sv a0 a1 a2 a3 a4 a5 a6 a7 a8 a9 a10 a11 a12 a13 a14 a15 a16) hV2 hs2 s2 st2 m2)) := by
  unfold wp_X6_restore
  refine ccopy_ok ?_
  unfold wp_X1_snapshotInto
  rcases hH.2.2.2 with e | ⟨e, h1, h2⟩
  · subst e
    refine ifP nI_0 ⟨nb0, ifP' nI_0 ?_⟩
    unfold wp_X7_restore
    exact ifP' nI_0 ⟨rfl, Rel_mk hI hS hH⟩
  · subst e
    refine ifN nz10 (ccopy_ok ⟨nb1, ifN' nz10 ?_⟩)
    have r0 := h1.2.2.2.2.2.2.2.2.1
    have h3 := h2.2.2.2.1
    rw [r0]
    refine crec_ok hH.1 (by omega) ?_
    unfold wp_X7_restore
    refine ifN' nz10 (records_ok hH.1 ⟨475, ?_⟩)
    have := restore_21 (A := SN) (B := N) (K := fun s => vp_in (nI 3) 474 ∧ (s (nI 3).toNatClampNeg = nI (SN 3) ∧ Rel b (nI 1) SN (sv (nI (SN 3)) (hV 4 0) (hV 4 1) (hV 4 2) (hV 4 3) (hV 4 4) (hV 4 14 1) (hV 4 5) (hV 4 6) (hV 4 7) (hV 4 14 2) (hV 4 8) (hV 4 9) (hV 4 10) (hV 4 11) (hV 4 12) (hV 4 13)) (hpush hV m (sv (V 14 0) (V 0) (V 1) (V 2) (V 3) (V 4) (V 14 1) (V 5) (V 6) (V 7) (V 14 2) (V 8) (V 9) (V 10) (V 11) (V 12) (V 13))) (nI (hpn m)) s (sN (recH N HN m)) (nI (recM m + 1)))) ⟨vp_in_nI (by omega) (by omega), ?_⟩ 474 0 (by omega)
    · rw [cp_z] at this
      exact this
    · rw [cp_full hH.2.2.1 hI.fin]
      refine ⟨by rw [nz_cl (by omega)]; rfl, Rel_rec (V := sv (V 14 0) (V 0) (V 1) (V 2) (V 3) (V 4) (V 14 1) (V 5) (V 6) (V 7) (V 14 2) (V 8) (V 9) (V 10) (V 11) (V 12) (V 13)) hI hS hH (Nat.le_refl _) h2 ?_⟩
      rw [← r0]
      exact h1
/-- what both have of the text -/
def Txt (c : Nat → Nat) (L : Nat) (ch tx : Nat → Int32) : Prop := L ≤ 80 ∧ ∀ j, j < L → c j < 65536 ∧ ch j = nI (c j) ∧ tx j = nI (c j)
theorem fb_char {n : Nat} (h : n < 65536) : (nI n).toUInt32.toUInt16.toUInt32.toInt32 = nI n := by
  apply Int32.toBitVec_inj.1
  apply BitVec.eq_of_toNat_eq
  have e1 : (nI n).toBitVec.toNat = n := by
    show (BitVec.ofNat 32 n).toNat = n
    rw [BitVec.toNat_ofNat, Nat.mod_eq_of_lt (by omega)]
  have e2 : ((nI n).toUInt32.toUInt16.toUInt32).toNat = n := by
    rw [UInt16.toNat_toUInt32, UInt32.toNat_toUInt16]
    show (nI n).toBitVec.toNat % 2 ^ 16 = n
    rw [e1, Nat.mod_eq_of_lt (by omega)]
  rw [e1]
  exact e2
theorem nar_ch {c : Nat} (h : c < 65536) : vp_nar .char (nI c) = nI c := by rw [vp_nar_char, fb_char h]
theorem q_type {c : Nat → Nat} {L : Nat} {ch tx : Nat → Int32} {th : Int32} (hT : Txt c L ch tx) {x : Nat} (hx : x < 65536) : wp_X6_type (nI L) ch (nI x) (fun r len ch2 => wp_X7_type th (nI L) tx (nI x) (fun r2 _ len2 tx2 => r2 = r ∧ ∃ c2 L2, len = nI L2 ∧ len2 = nI L2 ∧ Txt c2 L2 ch2 tx2)) := by
  have hL := hT.1
  unfold wp_X6_type wp_X3_append
  by_cases e : L = 80
  · refine cWithin_f (by omega) (by omega) (fun n h1 h2 e2 => ?_) (ifP' nI_0 ?_)
    · have := (nz_eq (by omega) (by omega)).mp e2
      omega
    · unfold wp_X7_type
      exact ifP' (by rw [e]) ⟨rfl, c, L, rfl, rfl, hT⟩
  · refine cWithin_t (by omega) (by omega) (by omega) (by omega) (by omega) (ifN' nz10 ⟨vp_in_nI (by omega) (by omega), fun ch2 e2 len e3 => ?_⟩)
    rw [nI_add] at e3
    rw [nz_cl (by omega), nar_ch hx] at e2
    subst e2 e3
    unfold wp_X7_type
    refine ifN' (fun e2 => e ((nz_eq (by omega) (by omega)).mp e2)) ⟨vp_in_nI (by omega) (by omega), fun tx2 e4 len2 e5 => ?_⟩
    rw [nI_add] at e5
    rw [nz_cl (by omega)] at e4
    subst e4 e5
    refine ⟨rfl, un c L x, L + 1, rfl, rfl, by omega, fun j hj => ?_⟩
    unfold un upd
    by_cases q : j = L
    · rw [if_pos q, if_pos q, if_pos q]
      exact ⟨hx, rfl, rfl⟩
    · rw [if_neg q, if_neg q, if_neg q]
      exact hT.2 j (by omega)
theorem q_clearText {c : Nat → Nat} {L : Nat} {ch tx : Nat → Int32} {th : Int32} (hT : Txt c L ch tx) : wp_X6_clearText (nI L) (fun r len => wp_X7_clearText th (nI L) (fun r2 _ len2 => r2 = r ∧ ∃ L2, len = nI L2 ∧ len2 = nI L2 ∧ Txt c L2 ch tx)) := by
  unfold wp_X6_clearText wp_X3_empty wp_X7_clearText
  exact ⟨rfl, 0, rfl, rfl, by omega, fun j hj => absurd hj (by omega)⟩
/-- the pair of the last stop; the reference's error counts only behind a stop -/
def StpR (so se rn re : Int32) : Prop := rn = so ∧ ((so = -5 ∧ se = -5) ∨ (¬ so = -5 ∧ re = se))
theorem q_stopped {so se rn re th : Int32} (h : StpR so se rn re) (x : Int32) : wp_X6_stopped so se x (fun r => wp_X7_stopped th rn re x (fun r2 _ => r2 = r)) := by
  obtain ⟨rfl, h⟩ := h
  unfold wp_X6_stopped
  by_cases c : ∃ n, n ≤ 1 ∧ x = nI n
  · obtain ⟨n, hn, rfl⟩ := c
    refine cWithin_t (by omega) (by omega) (by omega) (by omega) hn (ifN' nz10 ⟨fun c => ?_, fun c => ?_⟩)
    · unfold wp_X7_stopped
      refine in_t (by omega) (by omega) (by omega) (by omega) hn (ifN' nz10 ?_)
      rcases h with ⟨e1, e2⟩ | ⟨e1, e2⟩
      · exact ifP e1 (by rw [e1, e2])
      · exact ifN e1 (ifN' c e2)
    · unfold wp_X7_stopped
      refine in_t (by omega) (by omega) (by omega) (by omega) hn (ifN' nz10 ?_)
      rcases h with ⟨e1, e2⟩ | ⟨e1, e2⟩
      · exact ifP e1 rfl
      · exact ifN e1 (ifP' c rfl)
  · refine cWithin_f (by omega) (by omega) (fun n _ h2 e => c ⟨n, h2, e⟩) (ifP' nI_0 ?_)
    unfold wp_X7_stopped
    exact in_f (by omega) (by omega) (fun n _ h2 e => c ⟨n, h2, e⟩) (ifP' nI_0 rfl)
