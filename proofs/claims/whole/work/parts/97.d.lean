/-! the law's loop -/
theorem LSt_m {D : va_G} {cI cC cR : ClassId} {s : State} {ox om β γ : Nat} {H : Heap} {locs : List Loc} (h : LSt D cI cC cR s ox om β H locs) (hd : β ≤ γ) : LSt D cI cC cR s ox om γ H locs := by
  obtain ⟨aN, aB, oh, bA, hs, aT, aR, aW, am, vN, vB, hV, has, chars, at1, ord1, kinds, numbers, o1, n1, z1, h1, t1, v1, o2, n2, z2, h2, t2, v2, so, se, th, rn, re, at2, wl, rm, asd, tx, sv7, tk7, ct7, hp7, bf7, rd7, N, HN, SN, tc, mh, Lt, hwd, hI, hS, hH, hT, hst⟩ := h
  exact ⟨_, _, _, _, _, _, _, _, _, _, _, _, _, _, _, _, _, _, _, _, _, _, _, _, _, _, _, _, _, _, _, _, _, _, _, _, _, _, _, _, _, _, _, _, _, _, _, _, _, _, _, _, hwd, LRt_mk hI hS hH hd hT hst⟩
theorem loop_c {L i : Nat} (hL : L ≤ 2048) (hi : i ≤ 4096) : nI L - nI 4 < nI i ↔ L < i + 4 := by
  rcases Nat.lt_or_ge L 4 with q | q
  · have h0 : nI L - nI 4 < 0 := (show ∀ L, L < 4 → nI L - nI 4 < 0 by decide) L q
    refine ⟨fun _ => by omega, fun _ => ?_⟩
    have h1 : 0 ≤ nI i := (nz_0le (by omega)).mpr trivial
    rw [Int32.lt_iff_toInt_lt] at h0 ⊢
    rw [Int32.le_iff_toInt_le] at h1
    omega
  · rw [nz_sub q, nz_lt (by omega) (by omega)]
    omega
set_option maxRecDepth 100000 in
set_option maxHeartbeats 4000000 in
theorem law_loop {p : Program} {l : Launch} {e : Env} {s : State} {m : MethodId} {below : List Frame} {meth : Method} {c : Code} {b L : Nat} {xs : Nat → Int32} {D : va_G} {cI cC cR : ClassId} {adK adV : Nat → Nat} (C0 : lwC p s m meth c b L xs D cI cC cR adK adV) (hr : meth.sig.returnType = ret) (hlocks : meth.locks = false) (hL : L ≤ 2048) {ox om : Nat} : ∀ (n i : Nat), L + 4 ≤ i + 4 * n → i ≤ L + 3 → ∀ (H : Heap) (locs : List Loc), LSt D cI cC cR s ox om (3 * i) H locs → ∀ ls : Array Slot, lv_has ls 4 [(0, .ref b), (1, .ref ox), (2, .ref om), (3, .int (nI i))] → W p l e room_1 s m #[Value.ref b] below meth c H locs 150 6968 (lw_Z below #[Value.ref b] s) (F0 m 18 ls []) := by
  obtain ⟨hx, hb, hml, hown, hts, hX, hbl, hKw, hT⟩ := id C0
  have hbA : ¬ (fun q : Nat => s.heap.size ≤ q) b := Nat.not_le.mpr hbl
  intro n
  induction n with
  | zero => intro i h1 h2; omega
  | succ n ih =>
    intro i h1 h2 H locs hs ls hl
    have hS : va_S (fun q : Nat => s.heap.size ≤ q) s.heap H locs := by
      obtain ⟨aN, aB, oh, bA, hs, aT, aR, aW, am, vN, vB, hV, has, chars, at1, ord1, kinds, numbers, o1, n1, z1, h1, t1, v1, o2, n2, z2, h2, t2, v2, so, se, th, rn, re, at2, wl, rm, asd, tx, sv7, tk7, ct7, hp7, bf7, rd7, N, HN, SN, tc, mh, Lt, hwd, _⟩ := hs
      exact hwd.2.2
    refine lv_iload_n hx hb dL_law_18 rfl (lv_at hl 3 rfl) ?_
    refine lv_aload_n hx hb dL_law_19 rfl (lv_at hl 0 rfl) ?_
    refine va_slen hx hb hX hbl hbA hS dL_law_20 ?_
    refine lv_iconst (v := nI 4) hx hb dL_law_21 (by decide) ?_
    refine lv_isub hx hb dL_law_22 ?_
    refine lv_icmp_gt (tgt := 1019) hx hb dL_law_23 (by decide) (fun c1 => ?_) (fun c1 => ?_)
    · refine lv_iconst (v := 1) hx hb dL_law_1019 (by decide) ?_
      refine va_forget (fun q hq => hS.2.2 q hq) ?_
      refine W.widen (k := 600000) (n := 7302250) (Nat.le_of_ble_eq_true rfl) (Nat.le_of_ble_eq_true rfl) ?_
      exact lw_ret hx hb hr hlocks dL_law_1020
    · have hi : i + 4 ≤ L := by
        rcases Nat.lt_or_ge L (i + 4) with q | q
        · exact absurd ((loop_c hL (by omega)).mpr q) c1
        · exact q
      have K : ∀ (H : Heap) (locs : List Loc), LSt D cI cC cR s ox om (3 * i + 12) H locs → W p l e room_1 s m #[Value.ref b] below meth c H locs 150 6968 (lw_Z below #[Value.ref b] s) (F0 m 1013 ls []) := fun H locs h => by
        refine lv_iinc (v := nI (i + 4)) (lv' := [(3, .int (nI (i + 4))), (0, .ref b), (1, .ref ox), (2, .ref om)]) hx hb dL_law_1013 hl (k := 3) rfl (nI_add i 4) (by decide) rfl (fun ls hl => ?_)
        refine lv_goto (tgt := 18) hx hb dL_law_1016 (by decide) ?_
        exact ih (i + 4) (by omega) (by omega) H locs (LSt_m h (by omega)) ls (lv_sub hl [1, 2, 3, 0] rfl)
      refine lv_aload_n hx hb dL_law_26 rfl (lv_at hl 0 rfl) ?_
      refine lv_iload_n hx hb dL_law_27 rfl (lv_at hl 3 rfl) ?_
      refine va_sld hx hb hX hbl hbA hS (vp_in_nI (by omega) (by omega)) dL_law_28 ?_
      refine lv_bipush (v := nI 31) hx hb dL_law_29 (by decide) ?_
      refine lv_iand hx hb dL_law_31 ?_
      refine lv_topi (fun y ey => ?_)
      by_cases hj : ∃ j, j < 29 ∧ y = nI j
      · obtain ⟨j, hj, ej⟩ := hj
        rw [ej]
        clear ey ej
        match j, hj with
        | 0, _ => exact lv_tableIn (off := 132) (tgt := 164) hx hb dL_law_32 (by decide) (by decide) (by decide) (by decide) (lw_enlist C0 hi hL (by omega) hs hl K)
        | 1, _ => exact lv_tableIn (off := 165) (tgt := 197) hx hb dL_law_32 (by decide) (by decide) (by decide) (by decide) (lw_strike C0 hi hL (by omega) hs hl K)
        | 2, _ => exact lv_tableIn (off := 198) (tgt := 230) hx hb dL_law_32 (by decide) (by decide) (by decide) (by decide) (lw_setNeed C0 hi hL (by omega) hs hl K)
        | 3, _ => exact lv_tableIn (off := 231) (tgt := 263) hx hb dL_law_32 (by decide) (by decide) (by decide) (by decide) (lw_train C0 hi hL (by omega) hs hl K)
        | 4, _ => exact lv_tableIn (off := 264) (tgt := 296) hx hb dL_law_32 (by decide) (by decide) (by decide) (by decide) (lw_set C0 hi hL (by omega) hs hl K)
        | 5, _ => exact lv_tableIn (off := 297) (tgt := 329) hx hb dL_law_32 (by decide) (by decide) (by decide) (by decide) (lw_leave C0 hi hL (by omega) hs hl K)
        | 6, _ => exact lv_tableIn (off := 340) (tgt := 372) hx hb dL_law_32 (by decide) (by decide) (by decide) (by decide) (lw_takeBack C0 hi hL (by omega) hs hl K)
        | 7, _ => exact lv_tableIn (off := 373) (tgt := 405) hx hb dL_law_32 (by decide) (by decide) (by decide) (by decide) (lw_drill C0 hi hL (by omega) hs hl K)
        | 8, _ => exact lv_tableIn (off := 406) (tgt := 438) hx hb dL_law_32 (by decide) (by decide) (by decide) (by decide) (lw_pass C0 hi hL (by omega) hs hl K)
        | 9, _ => exact lv_tableIn (off := 429) (tgt := 461) hx hb dL_law_32 (by decide) (by decide) (by decide) (by decide) (lw_type C0 hi hL (by omega) hs hl K)
        | 10, _ => exact lv_tableIn (off := 454) (tgt := 486) hx hb dL_law_32 (by decide) (by decide) (by decide) (by decide) (lw_clearText C0 hi hL (by omega) hs hl K)
        | 11, _ => exact lv_tableIn (off := 467) (tgt := 499) hx hb dL_law_32 (by decide) (by decide) (by decide) (by decide) (lw_perform C0 hi hL (by omega) hs hl K)
        | 12, _ => exact lv_tableIn (off := 480) (tgt := 512) hx hb dL_law_32 (by decide) (by decide) (by decide) (by decide) (lw_stopped C0 hi hL (by omega) hs hl K)
        | 13, _ => exact lv_tableIn (off := 503) (tgt := 535) hx hb dL_law_32 (by decide) (by decide) (by decide) (by decide) (lw_undo C0 hi hL (by omega) hs hl K)
        | 14, _ => exact lv_tableIn (off := 516) (tgt := 548) hx hb dL_law_32 (by decide) (by decide) (by decide) (by decide) (lw_keep C0 hi hL (by omega) hs hl K)
        | 15, _ => exact lv_tableIn (off := 529) (tgt := 561) hx hb dL_law_32 (by decide) (by decide) (by decide) (by decide) (lw_restore C0 hi hL (by omega) hs hl K)
        | 16, _ => exact lv_tableIn (off := 542) (tgt := 574) hx hb dL_law_32 (by decide) (by decide) (by decide) (by decide) (lw_warden C0 hi hL (by omega) hs hl K)
        | 17, _ => exact lv_tableIn (off := 585) (tgt := 617) hx hb dL_law_32 (by decide) (by decide) (by decide) (by decide) (lw_staff C0 hi hL (by omega) hs hl K)
        | 18, _ => exact lv_tableIn (off := 628) (tgt := 660) hx hb dL_law_32 (by decide) (by decide) (by decide) (by decide) (lw_floor C0 hi hL (by omega) hs hl K)
        | 19, _ => exact lv_tableIn (off := 661) (tgt := 693) hx hb dL_law_32 (by decide) (by decide) (by decide) (by decide) (lw_row C0 hi hL (by omega) hs hl K)
        | 20, _ => exact lv_tableIn (off := 694) (tgt := 726) hx hb dL_law_32 (by decide) (by decide) (by decide) (by decide) (lw_person C0 hi hL (by omega) hs hl K)
        | 21, _ => exact lv_tableIn (off := 727) (tgt := 759) hx hb dL_law_32 (by decide) (by decide) (by decide) (by decide) (lw_log C0 hi hL (by omega) hs hl K)
        | 22, _ => exact lv_tableIn (off := 770) (tgt := 802) hx hb dL_law_32 (by decide) (by decide) (by decide) (by decide) (lw_due C0 hi hL (by omega) hs hl K)
        | 23, _ => exact lv_tableIn (off := 793) (tgt := 825) hx hb dL_law_32 (by decide) (by decide) (by decide) (by decide) (lw_reason C0 hi hL (by omega) hs hl K)
        | 24, _ => exact lv_tableIn (off := 836) (tgt := 868) hx hb dL_law_32 (by decide) (by decide) (by decide) (by decide) (lw_firstShort C0 hi hL (by omega) hs hl K)
        | 25, _ => exact lv_tableIn (off := 859) (tgt := 891) hx hb dL_law_32 (by decide) (by decide) (by decide) (by decide) (lw_load C0 hi hL (by omega) hs hl K)
        | 26, _ => exact lv_tableIn (off := 892) (tgt := 924) hx hb dL_law_32 (by decide) (by decide) (by decide) (by decide) (lw_ifLeft C0 hi hL (by omega) hs hl K)
        | 27, _ => exact lv_tableIn (off := 935) (tgt := 967) hx hb dL_law_32 (by decide) (by decide) (by decide) (by decide) (lw_bestDay C0 hi hL (by omega) hs hl K)
        | 28, _ => exact lv_tableIn (off := 958) (tgt := 990) hx hb dL_law_32 (by decide) (by decide) (by decide) (by decide) (lw_count C0 hi hL (by omega) hs hl K)
        | j + 29, h => exact absurd h (by omega)
      · refine lv_tableOut (tgt := 1013) hx hb dL_law_32 (sw_out (fun j h1 h2 ej => hj ⟨j.toNat, by omega, ?_⟩)) (by decide) (K H locs (LSt_m hs (by omega)))
        rw [ej]
        obtain ⟨k, rfl⟩ := Int.eq_ofNat_of_zero_le h1
        rfl
