abbrev ww_X7_strike (cI cC : ClassId) (oT oT_s oT_aside oT_states oT_snapshot oT_text oT_serves oT_took oT_tookMany oT_helps oT_before oT_read : Nat) (T_thrown : Int32) (T_stateMany : Int32) (T_hasSnapshot : Int32) (T_length : Int32) (T_stopNumber : Int32) (T_stopError : Int32) (T_at : Int32) (T_isWell : Int32) (T_readMany : Int32) (T_s : Nat → Int32) (T_states : Nat → Int32) : va_W := [(oT, .inr (7, [.int T_thrown, .ref oT_s, .ref oT_aside, .ref oT_states, .int T_stateMany, .ref oT_snapshot, .int T_hasSnapshot, .ref oT_text, .int T_length, .int T_stopNumber, .int T_stopError, .ref oT_serves, .ref oT_took, .ref oT_tookMany, .ref oT_helps, .ref oT_before, .int T_at, .int T_isWell, .ref oT_read, .int T_readMany])), (oT_s, .inl (cI, 474, .inl T_s)), (oT_states, .inl (cI, 1896, .inl T_states))]
abbrev rm_X7_strike : Room := { frames := 3, cells := 0, slots := 0, locals := 69 }
theorem ic_X7_strike_X7 : ∀ w ∈ u_ws RX7 TX7 20, w ∈ wsX7_strike := by
  intro w h
  simp only [wsX7_strike, List.mem_cons, List.mem_append]
  simp only [h, or_true, true_or]
def wp_X7_strike (T_thrown : Int32) (T_stateMany : Int32) (T_s : Nat → Int32) (T_states : Nat → Int32) (x1 : Int32) (x2 : Int32) (Q : Int32 → Int32 → Int32 → (Nat → Int32) → (Nat → Int32) → Prop) : Prop := wp_X7_isFloor x1 (fun r1 => ((r1 = 0 → Q (-1) (nI 0) T_stateMany T_s T_states) ∧ (¬ r1 = 0 → wp_X7_isPerson x2 (fun r3 => ((¬ r3 = 0 → wp_X7_placeIn T_s x1 x2 (fun r5 => ((¬ r5 = (-5) → wp_X7_records T_stateMany T_s T_states (fun T_stateMany7 T_states8 => wp_X7_strikes T_s x1 x2 (fun r9 T_s10 => Q r9 (nI 0) T_stateMany7 T_s10 T_states8))) ∧ (r5 = (-5) → Q (-5) (nI 0) T_stateMany T_s T_states)))) ∧ (r3 = 0 → Q (-1) (nI 0) T_stateMany T_s T_states))))))
set_option maxRecDepth 100000 in
set_option maxHeartbeats 4000000 in
theorem c_X7_strike (l : Launch) {D : va_G} {cI cC cR : ClassId} (oT oT_s oT_aside oT_states oT_snapshot oT_text oT_serves oT_took oT_tookMany oT_helps oT_before oT_read : Nat) (sz : Nat) (T_thrown : Int32) (T_stateMany : Int32) (T_hasSnapshot : Int32) (T_length : Int32) (T_stopNumber : Int32) (T_stopError : Int32) (T_at : Int32) (T_isWell : Int32) (T_readMany : Int32) (T_s : Nat → Int32) (T_states : Nat → Int32) (x1 : Int32) (x2 : Int32) {Q : Int32 → Int32 → Int32 → (Nat → Int32) → (Nat → Int32) → Prop} (hw : wp_X7_strike T_thrown T_stateMany T_s T_states x1 x2 Q) : Met l yX7_strike wsX7_strike rm_X7_strike (PcW D cI cC cR [.ref oT, .int x1, .int x2] (ww_X7_strike cI cC oT oT_s oT_aside oT_states oT_snapshot oT_text oT_serves oT_took oT_tookMany oT_helps oT_before oT_read T_thrown T_stateMany T_hasSnapshot T_length T_stopNumber T_stopError T_at T_isWell T_readMany T_s T_states) sz) (QiW D (fun (r : Int32) (u : Int32 × Int32 × (Nat → Int32) × (Nat → Int32)) => Q r u.1 u.2.1 u.2.2.1 u.2.2.2) (fun u => (ww_X7_strike cI cC oT oT_s oT_aside oT_states oT_snapshot oT_text oT_serves oT_took oT_tookMany oT_helps oT_before oT_read (u.1) (u.2.1) T_hasSnapshot T_length T_stopNumber T_stopError T_at T_isWell T_readMany (u.2.2.1) (u.2.2.2))) (ww_X7_strike cI cC oT oT_s oT_aside oT_states oT_snapshot oT_text oT_serves oT_took oT_tookMany oT_helps oT_before oT_read T_thrown T_stateMany T_hasSnapshot T_length T_stopNumber T_stopError T_at T_isWell T_readMany T_s T_states) sz) 0 0 (va_A (ww_X7_strike cI cC oT oT_s oT_aside oT_states oT_snapshot oT_text oT_serves oT_took oT_tookMany oT_helps oT_before oT_read T_thrown T_stateMany T_hasSnapshot T_length T_stopNumber T_stopError T_at T_isWell T_readMany T_s T_states) sz) := by
  refine Met.ofW (cc := cX7_strike) (maxL := 3) (ret := (some .int)) (by decide) rfl ?_
  intro p e s m args below meth c s₁ B hml hv
  obtain ⟨rfl, hsz, hP, hKw, hD0⟩ := hv
  have hlocks := B.notSynchronized
  subst hsz
  have hD := hD0.self (sz := s.heap.size)
  have CX : cx cX7_strike (some .int) 3 RX7 wsX7_strike p m meth c s ([.ref oT, .int x1, .int x2] : List Value).toArray D cI cC cR (va_A (ww_X7_strike cI cC oT oT_s oT_aside oT_states oT_snapshot oT_text oT_serves oT_took oT_tookMany oT_helps oT_before oT_read T_thrown T_stateMany T_hasSnapshot T_length T_stopNumber T_stopError T_at T_isWell T_readMany T_s T_states) s.heap.size) := ⟨B.exec, B.bytes, B.returns, hml, atoms_spec (ws := wsX7_strike) B.pre, findClass_of_methodNamed B.named, hlocks, hKw, fun q h => Or.inr h⟩
  obtain ⟨hx, hb, hr, -, hts, hown, -, -, hA⟩ := id CX
  have hwd : wd D (va_A (ww_X7_strike cI cC oT oT_s oT_aside oT_states oT_snapshot oT_text oT_serves oT_took oT_tookMany oT_helps oT_before oT_read T_thrown T_stateMany T_hasSnapshot T_length T_stopNumber T_stopError T_at T_isWell T_readMany T_s T_states) s.heap.size) s (ww_X7_strike cI cC oT oT_s oT_aside oT_states oT_snapshot oT_text oT_serves oT_took oT_tookMany oT_helps oT_before oT_read T_thrown T_stateMany T_hasSnapshot T_length T_stopNumber T_stopError T_at T_isWell T_readMany T_s T_states) s.heap [] := ⟨hP, hD, va_S.rf⟩
  have hl := lv_entry ([.ref oT, .int x1, .int x2]) (n := 3) (Nat.le_of_ble_eq_true rfl)
  rw [lg_entry_eq]
  generalize (lg_sl ([.ref oT, .int x1, .int x2]) ++ List.replicate (3 - (lg_sl ([.ref oT, .int x1, .int x2])).length) Slot.unset).toArray = ls at hl ⊢
  have hl : lv_has ls 3 [(0, .ref oT), (1, .int x1), (2, .int x2)] := hl
  have HR : ∀ (r : Int32) (u0 : Int32) (u1 : Int32) (u2 : Nat → Int32) (u3 : Nat → Int32) {H : Heap} {locs : List Loc} {ls : Array Slot} {pc : Nat}, Q r u0 u1 u2 u3 → wd D (va_A (ww_X7_strike cI cC oT oT_s oT_aside oT_states oT_snapshot oT_text oT_serves oT_took oT_tookMany oT_helps oT_before oT_read T_thrown T_stateMany T_hasSnapshot T_length T_stopNumber T_stopError T_at T_isWell T_readMany T_s T_states) s.heap.size) s (ww_X7_strike cI cC oT oT_s oT_aside oT_states oT_snapshot oT_text oT_serves oT_took oT_tookMany oT_helps oT_before oT_read u0 u1 T_hasSnapshot T_length T_stopNumber T_stopError T_at T_isWell T_readMany u2 u3) H locs → decode cX7_strike pc = .ok (.ireturn, 1) → W p l e (headSpec wsX7_strike rm_X7_strike).room s m ([.ref oT, .int x1, .int x2] : List Value).toArray below meth c H locs 0 0 (MQ below (QiW D (fun (r : Int32) (u : Int32 × Int32 × (Nat → Int32) × (Nat → Int32)) => Q r u.1 u.2.1 u.2.2.1 u.2.2.2) (fun u => (ww_X7_strike cI cC oT oT_s oT_aside oT_states oT_snapshot oT_text oT_serves oT_took oT_tookMany oT_helps oT_before oT_read (u.1) (u.2.1) T_hasSnapshot T_length T_stopNumber T_stopError T_at T_isWell T_readMany (u.2.2.1) (u.2.2.2))) (ww_X7_strike cI cC oT oT_s oT_aside oT_states oT_snapshot oT_text oT_serves oT_took oT_tookMany oT_helps oT_before oT_read T_thrown T_stateMany T_hasSnapshot T_length T_stopNumber T_stopError T_at T_isWell T_readMany T_s T_states) s.heap.size) ([.ref oT, .int x1, .int x2] : List Value).toArray s 0 0 (va_A (ww_X7_strike cI cC oT oT_s oT_aside oT_states oT_snapshot oT_text oT_serves oT_took oT_tookMany oT_helps oT_before oT_read T_thrown T_stateMany T_hasSnapshot T_length T_stopNumber T_stopError T_at T_isWell T_readMany T_s T_states) s.heap.size)) (F0 m pc ls [.int r]) := by
    intro r u0 u1 u2 u3 H locs ls pc hq hw9 hd9
    exact W.iret (v := r) hx hb hr (fun t ht hW => ⟨⟨r, (u0, u1, u2, u3), rfl, hq, by rw [ht]; exact hw9.1, hw9.2.1⟩, hw9.2.2.F ht⟩) hw9.2.2.2.2 hd9
  unfold wp_X7_strike at hw
  refine lv_aload_n hx hb dX7_strike_0 rfl (lv_at hl 0 rfl) ?_
  refine lv_iconst (v := (nI 0)) hx hb dX7_strike_1 rfl ?_
  refine va_put (D := D) (ci := 7) (v := .int (nI 0)) (ty := .int) (C := RX7) (T := TX7) (N := 20) hx hb hts ic_X7_strike_X7 tyX7 tyX7_ok nmX7 hown hKw.1 hwd.1 hwd.2.1 hwd.2.2 0 rfl rfl 0 (by decide) (hts (.fieldLink RX7 43 "DrillWardensModel" "thrown" "I") (List.mem_of_getElem? (i := 1) rfl)) (fun _ h9 => h9) rfl (tyX7_ok 0 (by decide)) rfl rfl (Nat.le_of_ble_eq_true rfl) dX7_strike_2 (fun H locs h1 h2 h3 => ?_)
  replace hwd : wd D (va_A (ww_X7_strike cI cC oT oT_s oT_aside oT_states oT_snapshot oT_text oT_serves oT_took oT_tookMany oT_helps oT_before oT_read T_thrown T_stateMany T_hasSnapshot T_length T_stopNumber T_stopError T_at T_isWell T_readMany T_s T_states) s.heap.size) s (ww_X7_strike cI cC oT oT_s oT_aside oT_states oT_snapshot oT_text oT_serves oT_took oT_tookMany oT_helps oT_before oT_read (nI 0) T_stateMany T_hasSnapshot T_length T_stopNumber T_stopError T_at T_isWell T_readMany T_s T_states) H locs := ⟨h1, h2, h3⟩
  clear h1 h2 h3
  refine lv_iload_n hx hb dX7_strike_5 rfl (lv_at hl 1 rfl) ?_
  refine kcSi (rest := []) (As := [.int x1]) ⟨Nat.le_of_ble_eq_true rfl, Nat.le_of_ble_eq_true rfl⟩ ⟨hx, hb, hml, hown, hts⟩ (c_X7_isFloor l H.size x1 hw) (va_cwS 1 hts gX7_strike_X7_isFloor rfl rfl rfl hd_X7_isFloor ⟨Nat.le_of_ble_eq_true rfl, Nat.le_of_ble_eq_true rfl⟩) hKw hA hwd rfl hl.1 rfl (lv_room (Nat.le_of_ble_eq_true rfl)) dX7_strike_6 (fun r1 H locs hw hwd => ?_)
  try dsimp only at hw
  refine lv_if_eq (tgt := 19) hx hb dX7_strike_9 (by decide) (fun c2 => ?_) (fun c2 => ?_)
  · replace hw := hw.1 c2
    refine lv_iconst (v := (-1)) hx hb dX7_strike_19 rfl ?_
    exact HR (-1) (nI 0) T_stateMany T_s T_states hw hwd dX7_strike_20
  · replace hw := hw.2 c2
    refine lv_iload_n hx hb dX7_strike_12 rfl (lv_at hl 2 rfl) ?_
    refine kcSi (rest := []) (As := [.int x2]) ⟨Nat.le_of_ble_eq_true rfl, Nat.le_of_ble_eq_true rfl⟩ ⟨hx, hb, hml, hown, hts⟩ (c_X7_isPerson l H.size x2 hw) (va_cwS 1 hts gX7_strike_X7_isPerson rfl rfl rfl hd_X7_isPerson ⟨Nat.le_of_ble_eq_true rfl, Nat.le_of_ble_eq_true rfl⟩) hKw hA hwd rfl hl.1 rfl (lv_room (Nat.le_of_ble_eq_true rfl)) dX7_strike_13 (fun r3 H locs hw hwd => ?_)
    try dsimp only at hw
    refine lv_if_ne (tgt := 21) hx hb dX7_strike_16 (by decide) (fun c4 => ?_) (fun c4 => ?_)
    · replace hw := hw.1 c4
      refine lv_aload_n hx hb dX7_strike_21 rfl (lv_at hl 0 rfl) ?_
      refine lv_iload_n hx hb dX7_strike_22 rfl (lv_at hl 1 rfl) ?_
      refine lv_iload_n hx hb dX7_strike_23 rfl (lv_at hl 2 rfl) ?_
      refine kcVi (W1 := (fun u => (ww_X7_strike cI cC oT oT_s oT_aside oT_states oT_snapshot oT_text oT_serves oT_took oT_tookMany oT_helps oT_before oT_read (nI 0) T_stateMany T_hasSnapshot T_length T_stopNumber T_stopError T_at T_isWell T_readMany T_s T_states))) (rest := []) (As := [.int x1, .int x2]) ⟨Nat.le_of_ble_eq_true rfl, Nat.le_of_ble_eq_true rfl⟩ ⟨hx, hb, hml, hown, hts⟩ (c_X7_placeIn l oT oT_s oT_aside oT_states oT_snapshot oT_text oT_serves oT_took oT_tookMany oT_helps oT_before oT_read H.size (nI 0) T_stateMany T_hasSnapshot T_length T_stopNumber T_stopError T_at T_isWell T_readMany T_s x1 x2 hw) (cwV 2 hts gX7_strike_X7_placeIn rfl rfl rfl ⟨rfl, hd_X7_placeIn⟩ ⟨Nat.le_of_ble_eq_true rfl, Nat.le_of_ble_eq_true rfl⟩) hKw hA hwd [0, 1] [2] [1, 2, 0] [(oT_states, .inl (cI, 1896, .inl T_states))] rfl rfl rfl rfl (by decide) rfl (fun _ => rfl) 0 7 rfl rfl rfl rfl hl.1 rfl (lv_room (Nat.le_of_ble_eq_true rfl)) dX7_strike_24 (fun r5 u H locs hw hwd => ?_)
      try dsimp only at hw
      replace hwd : wd D (va_A (ww_X7_strike cI cC oT oT_s oT_aside oT_states oT_snapshot oT_text oT_serves oT_took oT_tookMany oT_helps oT_before oT_read T_thrown T_stateMany T_hasSnapshot T_length T_stopNumber T_stopError T_at T_isWell T_readMany T_s T_states) s.heap.size) s (ww_X7_strike cI cC oT oT_s oT_aside oT_states oT_snapshot oT_text oT_serves oT_took oT_tookMany oT_helps oT_before oT_read (nI 0) T_stateMany T_hasSnapshot T_length T_stopNumber T_stopError T_at T_isWell T_readMany T_s T_states) H locs := hwd
      refine lv_bipush (v := (-5)) hx hb dX7_strike_27 rfl ?_
      refine lv_icmp_ne (tgt := 35) hx hb dX7_strike_29 (by decide) (fun c6 => ?_) (fun c6 => ?_)
      · replace hw := hw.1 c6
        refine lv_aload_n hx hb dX7_strike_35 rfl (lv_at hl 0 rfl) ?_
        refine kcVv (W1 := (fun u => (ww_X7_strike cI cC oT oT_s oT_aside oT_states oT_snapshot oT_text oT_serves oT_took oT_tookMany oT_helps oT_before oT_read (nI 0) (u.1) T_hasSnapshot T_length T_stopNumber T_stopError T_at T_isWell T_readMany T_s (u.2)))) (rest := []) (As := []) ⟨Nat.le_of_ble_eq_true rfl, Nat.le_of_ble_eq_true rfl⟩ ⟨hx, hb, hml, hown, hts⟩ (c_X7_records l oT oT_s oT_aside oT_states oT_snapshot oT_text oT_serves oT_took oT_tookMany oT_helps oT_before oT_read H.size (nI 0) T_stateMany T_hasSnapshot T_length T_stopNumber T_stopError T_at T_isWell T_readMany T_s T_states hw) (cwV 0 hts gX7_strike_X7_records rfl rfl rfl ⟨rfl, hd_X7_records⟩ ⟨Nat.le_of_ble_eq_true rfl, Nat.le_of_ble_eq_true rfl⟩) hKw hA hwd [0, 1, 2] [] [0, 1, 2] [] rfl rfl rfl rfl (by decide) rfl (fun _ => rfl) 0 7 rfl rfl rfl rfl hl.1 rfl (lv_room (Nat.le_of_ble_eq_true rfl)) dX7_strike_36 (fun u H locs hw hwd => ?_)
        obtain ⟨T_stateMany7, T_states8⟩ := u
        try dsimp only at hw
        replace hwd : wd D (va_A (ww_X7_strike cI cC oT oT_s oT_aside oT_states oT_snapshot oT_text oT_serves oT_took oT_tookMany oT_helps oT_before oT_read T_thrown T_stateMany T_hasSnapshot T_length T_stopNumber T_stopError T_at T_isWell T_readMany T_s T_states) s.heap.size) s (ww_X7_strike cI cC oT oT_s oT_aside oT_states oT_snapshot oT_text oT_serves oT_took oT_tookMany oT_helps oT_before oT_read (nI 0) T_stateMany7 T_hasSnapshot T_length T_stopNumber T_stopError T_at T_isWell T_readMany T_s T_states8) H locs := hwd
        refine lv_aload_n hx hb dX7_strike_39 rfl (lv_at hl 0 rfl) ?_
        refine lv_iload_n hx hb dX7_strike_40 rfl (lv_at hl 1 rfl) ?_
        refine lv_iload_n hx hb dX7_strike_41 rfl (lv_at hl 2 rfl) ?_
        refine kcVi (W1 := (fun u => (ww_X7_strike cI cC oT oT_s oT_aside oT_states oT_snapshot oT_text oT_serves oT_took oT_tookMany oT_helps oT_before oT_read (nI 0) T_stateMany7 T_hasSnapshot T_length T_stopNumber T_stopError T_at T_isWell T_readMany u T_states8))) (rest := []) (As := [.int x1, .int x2]) ⟨Nat.le_of_ble_eq_true rfl, Nat.le_of_ble_eq_true rfl⟩ ⟨hx, hb, hml, hown, hts⟩ (c_X7_strikes l oT oT_s oT_aside oT_states oT_snapshot oT_text oT_serves oT_took oT_tookMany oT_helps oT_before oT_read H.size (nI 0) T_stateMany7 T_hasSnapshot T_length T_stopNumber T_stopError T_at T_isWell T_readMany T_s x1 x2 hw) (cwV 2 hts gX7_strike_X7_strikes rfl rfl rfl ⟨rfl, hd_X7_strikes⟩ ⟨Nat.le_of_ble_eq_true rfl, Nat.le_of_ble_eq_true rfl⟩) hKw hA hwd [0, 1] [2] [1, 2, 0] [(oT_states, .inl (cI, 1896, .inl T_states8))] rfl rfl rfl rfl (by decide) rfl (fun _ => rfl) 0 7 rfl rfl rfl rfl hl.1 rfl (lv_room (Nat.le_of_ble_eq_true rfl)) dX7_strike_42 (fun r9 u H locs hw hwd => ?_)
        obtain ⟨T_s10, rfl⟩ : ∃ z, z = u := ⟨_, rfl⟩
        try dsimp only at hw
        replace hwd : wd D (va_A (ww_X7_strike cI cC oT oT_s oT_aside oT_states oT_snapshot oT_text oT_serves oT_took oT_tookMany oT_helps oT_before oT_read T_thrown T_stateMany T_hasSnapshot T_length T_stopNumber T_stopError T_at T_isWell T_readMany T_s T_states) s.heap.size) s (ww_X7_strike cI cC oT oT_s oT_aside oT_states oT_snapshot oT_text oT_serves oT_took oT_tookMany oT_helps oT_before oT_read (nI 0) T_stateMany7 T_hasSnapshot T_length T_stopNumber T_stopError T_at T_isWell T_readMany T_s10 T_states8) H locs := hwd
        exact HR r9 (nI 0) T_stateMany7 T_s10 T_states8 hw hwd dX7_strike_45
      · replace hw := hw.2 c6
        refine lv_bipush (v := (-5)) hx hb dX7_strike_32 rfl ?_
        exact HR (-5) (nI 0) T_stateMany T_s T_states hw hwd dX7_strike_34
    · replace hw := hw.2 c4
      refine lv_iconst (v := (-1)) hx hb dX7_strike_19 rfl ?_
      exact HR (-1) (nI 0) T_stateMany T_s T_states hw hwd dX7_strike_20
abbrev ww_X7_setNeed (cI cC : ClassId) (oT oT_s oT_aside oT_states oT_snapshot oT_text oT_serves oT_took oT_tookMany oT_helps oT_before oT_read : Nat) (T_thrown : Int32) (T_stateMany : Int32) (T_hasSnapshot : Int32) (T_length : Int32) (T_stopNumber : Int32) (T_stopError : Int32) (T_at : Int32) (T_isWell : Int32) (T_readMany : Int32) (T_s : Nat → Int32) (T_states : Nat → Int32) : va_W := [(oT, .inr (7, [.int T_thrown, .ref oT_s, .ref oT_aside, .ref oT_states, .int T_stateMany, .ref oT_snapshot, .int T_hasSnapshot, .ref oT_text, .int T_length, .int T_stopNumber, .int T_stopError, .ref oT_serves, .ref oT_took, .ref oT_tookMany, .ref oT_helps, .ref oT_before, .int T_at, .int T_isWell, .ref oT_read, .int T_readMany])), (oT_s, .inl (cI, 474, .inl T_s)), (oT_states, .inl (cI, 1896, .inl T_states))]
abbrev rm_X7_setNeed : Room := { frames := 2, cells := 0, slots := 0, locals := 42 }
theorem ic_X7_setNeed_X7 : ∀ w ∈ u_ws RX7 TX7 20, w ∈ wsX7_setNeed := by
  intro w h
  simp only [wsX7_setNeed, List.mem_cons, List.mem_append]
  simp only [h, or_true, true_or]
def wp_X7_setNeed (T_thrown : Int32) (T_stateMany : Int32) (T_s : Nat → Int32) (T_states : Nat → Int32) (x1 : Int32) (x2 : Int32) (Q : Int32 → Int32 → Int32 → (Nat → Int32) → (Nat → Int32) → Prop) : Prop := wp_X7_isFloor x1 (fun r1 => ((¬ r1 = 0 → wp_X7_in x2 (nI 0) (nI 3) (fun r3 => ((¬ r3 = 0 → wp_X7_of T_s x1 (nI 0) (fun r5 => ((¬ r5 = x2 → wp_X7_records T_stateMany T_s T_states (fun T_stateMany7 T_states8 => wp_X7_lay T_s x1 (nI 0) x2 (fun T_s9 => Q r5 (nI 0) T_stateMany7 T_s9 T_states8))) ∧ (r5 = x2 → Q (-5) (nI 0) T_stateMany T_s T_states)))) ∧ (r3 = 0 → Q (-2) (nI 0) T_stateMany T_s T_states)))) ∧ (r1 = 0 → Q (-1) (nI 0) T_stateMany T_s T_states)))
set_option maxRecDepth 100000 in
set_option maxHeartbeats 4000000 in
theorem c_X7_setNeed (l : Launch) {D : va_G} {cI cC cR : ClassId} (oT oT_s oT_aside oT_states oT_snapshot oT_text oT_serves oT_took oT_tookMany oT_helps oT_before oT_read : Nat) (sz : Nat) (T_thrown : Int32) (T_stateMany : Int32) (T_hasSnapshot : Int32) (T_length : Int32) (T_stopNumber : Int32) (T_stopError : Int32) (T_at : Int32) (T_isWell : Int32) (T_readMany : Int32) (T_s : Nat → Int32) (T_states : Nat → Int32) (x1 : Int32) (x2 : Int32) {Q : Int32 → Int32 → Int32 → (Nat → Int32) → (Nat → Int32) → Prop} (hw : wp_X7_setNeed T_thrown T_stateMany T_s T_states x1 x2 Q) : Met l yX7_setNeed wsX7_setNeed rm_X7_setNeed (PcW D cI cC cR [.ref oT, .int x1, .int x2] (ww_X7_setNeed cI cC oT oT_s oT_aside oT_states oT_snapshot oT_text oT_serves oT_took oT_tookMany oT_helps oT_before oT_read T_thrown T_stateMany T_hasSnapshot T_length T_stopNumber T_stopError T_at T_isWell T_readMany T_s T_states) sz) (QiW D (fun (r : Int32) (u : Int32 × Int32 × (Nat → Int32) × (Nat → Int32)) => Q r u.1 u.2.1 u.2.2.1 u.2.2.2) (fun u => (ww_X7_setNeed cI cC oT oT_s oT_aside oT_states oT_snapshot oT_text oT_serves oT_took oT_tookMany oT_helps oT_before oT_read (u.1) (u.2.1) T_hasSnapshot T_length T_stopNumber T_stopError T_at T_isWell T_readMany (u.2.2.1) (u.2.2.2))) (ww_X7_setNeed cI cC oT oT_s oT_aside oT_states oT_snapshot oT_text oT_serves oT_took oT_tookMany oT_helps oT_before oT_read T_thrown T_stateMany T_hasSnapshot T_length T_stopNumber T_stopError T_at T_isWell T_readMany T_s T_states) sz) 0 0 (va_A (ww_X7_setNeed cI cC oT oT_s oT_aside oT_states oT_snapshot oT_text oT_serves oT_took oT_tookMany oT_helps oT_before oT_read T_thrown T_stateMany T_hasSnapshot T_length T_stopNumber T_stopError T_at T_isWell T_readMany T_s T_states) sz) := by
  refine Met.ofW (cc := cX7_setNeed) (maxL := 4) (ret := (some .int)) (by decide) rfl ?_
  intro p e s m args below meth c s₁ B hml hv
  obtain ⟨rfl, hsz, hP, hKw, hD0⟩ := hv
  have hlocks := B.notSynchronized
  subst hsz
  have hD := hD0.self (sz := s.heap.size)
  have CX : cx cX7_setNeed (some .int) 4 RX7 wsX7_setNeed p m meth c s ([.ref oT, .int x1, .int x2] : List Value).toArray D cI cC cR (va_A (ww_X7_setNeed cI cC oT oT_s oT_aside oT_states oT_snapshot oT_text oT_serves oT_took oT_tookMany oT_helps oT_before oT_read T_thrown T_stateMany T_hasSnapshot T_length T_stopNumber T_stopError T_at T_isWell T_readMany T_s T_states) s.heap.size) := ⟨B.exec, B.bytes, B.returns, hml, atoms_spec (ws := wsX7_setNeed) B.pre, findClass_of_methodNamed B.named, hlocks, hKw, fun q h => Or.inr h⟩
  obtain ⟨hx, hb, hr, -, hts, hown, -, -, hA⟩ := id CX
  have hwd : wd D (va_A (ww_X7_setNeed cI cC oT oT_s oT_aside oT_states oT_snapshot oT_text oT_serves oT_took oT_tookMany oT_helps oT_before oT_read T_thrown T_stateMany T_hasSnapshot T_length T_stopNumber T_stopError T_at T_isWell T_readMany T_s T_states) s.heap.size) s (ww_X7_setNeed cI cC oT oT_s oT_aside oT_states oT_snapshot oT_text oT_serves oT_took oT_tookMany oT_helps oT_before oT_read T_thrown T_stateMany T_hasSnapshot T_length T_stopNumber T_stopError T_at T_isWell T_readMany T_s T_states) s.heap [] := ⟨hP, hD, va_S.rf⟩
  have hl := lv_entry ([.ref oT, .int x1, .int x2]) (n := 4) (Nat.le_of_ble_eq_true rfl)
  rw [lg_entry_eq]
  generalize (lg_sl ([.ref oT, .int x1, .int x2]) ++ List.replicate (4 - (lg_sl ([.ref oT, .int x1, .int x2])).length) Slot.unset).toArray = ls at hl ⊢
  have hl : lv_has ls 4 [(0, .ref oT), (1, .int x1), (2, .int x2)] := hl
  have HR : ∀ (r : Int32) (u0 : Int32) (u1 : Int32) (u2 : Nat → Int32) (u3 : Nat → Int32) {H : Heap} {locs : List Loc} {ls : Array Slot} {pc : Nat}, Q r u0 u1 u2 u3 → wd D (va_A (ww_X7_setNeed cI cC oT oT_s oT_aside oT_states oT_snapshot oT_text oT_serves oT_took oT_tookMany oT_helps oT_before oT_read T_thrown T_stateMany T_hasSnapshot T_length T_stopNumber T_stopError T_at T_isWell T_readMany T_s T_states) s.heap.size) s (ww_X7_setNeed cI cC oT oT_s oT_aside oT_states oT_snapshot oT_text oT_serves oT_took oT_tookMany oT_helps oT_before oT_read u0 u1 T_hasSnapshot T_length T_stopNumber T_stopError T_at T_isWell T_readMany u2 u3) H locs → decode cX7_setNeed pc = .ok (.ireturn, 1) → W p l e (headSpec wsX7_setNeed rm_X7_setNeed).room s m ([.ref oT, .int x1, .int x2] : List Value).toArray below meth c H locs 0 0 (MQ below (QiW D (fun (r : Int32) (u : Int32 × Int32 × (Nat → Int32) × (Nat → Int32)) => Q r u.1 u.2.1 u.2.2.1 u.2.2.2) (fun u => (ww_X7_setNeed cI cC oT oT_s oT_aside oT_states oT_snapshot oT_text oT_serves oT_took oT_tookMany oT_helps oT_before oT_read (u.1) (u.2.1) T_hasSnapshot T_length T_stopNumber T_stopError T_at T_isWell T_readMany (u.2.2.1) (u.2.2.2))) (ww_X7_setNeed cI cC oT oT_s oT_aside oT_states oT_snapshot oT_text oT_serves oT_took oT_tookMany oT_helps oT_before oT_read T_thrown T_stateMany T_hasSnapshot T_length T_stopNumber T_stopError T_at T_isWell T_readMany T_s T_states) s.heap.size) ([.ref oT, .int x1, .int x2] : List Value).toArray s 0 0 (va_A (ww_X7_setNeed cI cC oT oT_s oT_aside oT_states oT_snapshot oT_text oT_serves oT_took oT_tookMany oT_helps oT_before oT_read T_thrown T_stateMany T_hasSnapshot T_length T_stopNumber T_stopError T_at T_isWell T_readMany T_s T_states) s.heap.size)) (F0 m pc ls [.int r]) := by
    intro r u0 u1 u2 u3 H locs ls pc hq hw9 hd9
    exact W.iret (v := r) hx hb hr (fun t ht hW => ⟨⟨r, (u0, u1, u2, u3), rfl, hq, by rw [ht]; exact hw9.1, hw9.2.1⟩, hw9.2.2.F ht⟩) hw9.2.2.2.2 hd9
  unfold wp_X7_setNeed at hw
  refine lv_aload_n hx hb dX7_setNeed_0 rfl (lv_at hl 0 rfl) ?_
  refine lv_iconst (v := (nI 0)) hx hb dX7_setNeed_1 rfl ?_
  refine va_put (D := D) (ci := 7) (v := .int (nI 0)) (ty := .int) (C := RX7) (T := TX7) (N := 20) hx hb hts ic_X7_setNeed_X7 tyX7 tyX7_ok nmX7 hown hKw.1 hwd.1 hwd.2.1 hwd.2.2 0 rfl rfl 0 (by decide) (hts (.fieldLink RX7 43 "DrillWardensModel" "thrown" "I") (List.mem_of_getElem? (i := 1) rfl)) (fun _ h9 => h9) rfl (tyX7_ok 0 (by decide)) rfl rfl (Nat.le_of_ble_eq_true rfl) dX7_setNeed_2 (fun H locs h1 h2 h3 => ?_)
  replace hwd : wd D (va_A (ww_X7_setNeed cI cC oT oT_s oT_aside oT_states oT_snapshot oT_text oT_serves oT_took oT_tookMany oT_helps oT_before oT_read T_thrown T_stateMany T_hasSnapshot T_length T_stopNumber T_stopError T_at T_isWell T_readMany T_s T_states) s.heap.size) s (ww_X7_setNeed cI cC oT oT_s oT_aside oT_states oT_snapshot oT_text oT_serves oT_took oT_tookMany oT_helps oT_before oT_read (nI 0) T_stateMany T_hasSnapshot T_length T_stopNumber T_stopError T_at T_isWell T_readMany T_s T_states) H locs := ⟨h1, h2, h3⟩
  clear h1 h2 h3
  refine lv_iload_n hx hb dX7_setNeed_5 rfl (lv_at hl 1 rfl) ?_
  refine kcSi (rest := []) (As := [.int x1]) ⟨Nat.le_of_ble_eq_true rfl, Nat.le_of_ble_eq_true rfl⟩ ⟨hx, hb, hml, hown, hts⟩ (c_X7_isFloor l H.size x1 hw) (va_cwS 1 hts gX7_setNeed_X7_isFloor rfl rfl rfl hd_X7_isFloor ⟨Nat.le_of_ble_eq_true rfl, Nat.le_of_ble_eq_true rfl⟩) hKw hA hwd rfl hl.1 rfl (lv_room (Nat.le_of_ble_eq_true rfl)) dX7_setNeed_6 (fun r1 H locs hw hwd => ?_)
  try dsimp only at hw
  refine lv_if_ne (tgt := 14) hx hb dX7_setNeed_9 (by decide) (fun c2 => ?_) (fun c2 => ?_)
  · replace hw := hw.1 c2
    refine lv_iload_n hx hb dX7_setNeed_14 rfl (lv_at hl 2 rfl) ?_
    refine lv_iconst (v := (nI 0)) hx hb dX7_setNeed_15 rfl ?_
    refine lv_iconst (v := (nI 3)) hx hb dX7_setNeed_16 rfl ?_
    refine kcSi (rest := []) (As := [.int x2, .int (nI 0), .int (nI 3)]) ⟨Nat.le_of_ble_eq_true rfl, Nat.le_of_ble_eq_true rfl⟩ ⟨hx, hb, hml, hown, hts⟩ (c_X7_in l H.size x2 (nI 0) (nI 3) hw) (va_cwS 3 hts gX7_setNeed_X7_in rfl rfl rfl hd_X7_in ⟨Nat.le_of_ble_eq_true rfl, Nat.le_of_ble_eq_true rfl⟩) hKw hA hwd rfl hl.1 rfl (lv_room (Nat.le_of_ble_eq_true rfl)) dX7_setNeed_17 (fun r3 H locs hw hwd => ?_)
    try dsimp only at hw
    refine lv_if_ne (tgt := 26) hx hb dX7_setNeed_20 (by decide) (fun c4 => ?_) (fun c4 => ?_)
    · replace hw := hw.1 c4
      refine lv_aload_n hx hb dX7_setNeed_26 rfl (lv_at hl 0 rfl) ?_
      refine lv_iload_n hx hb dX7_setNeed_27 rfl (lv_at hl 1 rfl) ?_
      refine lv_iconst (v := (nI 0)) hx hb dX7_setNeed_28 rfl ?_
      refine kcVi (W1 := (fun u => (ww_X7_setNeed cI cC oT oT_s oT_aside oT_states oT_snapshot oT_text oT_serves oT_took oT_tookMany oT_helps oT_before oT_read (nI 0) T_stateMany T_hasSnapshot T_length T_stopNumber T_stopError T_at T_isWell T_readMany T_s T_states))) (rest := []) (As := [.int x1, .int (nI 0)]) ⟨Nat.le_of_ble_eq_true rfl, Nat.le_of_ble_eq_true rfl⟩ ⟨hx, hb, hml, hown, hts⟩ (c_X7_of l oT oT_s oT_aside oT_states oT_snapshot oT_text oT_serves oT_took oT_tookMany oT_helps oT_before oT_read H.size (nI 0) T_stateMany T_hasSnapshot T_length T_stopNumber T_stopError T_at T_isWell T_readMany T_s x1 (nI 0) hw) (cwV 2 hts gX7_setNeed_X7_of rfl rfl rfl ⟨rfl, hd_X7_of⟩ ⟨Nat.le_of_ble_eq_true rfl, Nat.le_of_ble_eq_true rfl⟩) hKw hA hwd [0, 1] [2] [1, 2, 0] [(oT_states, .inl (cI, 1896, .inl T_states))] rfl rfl rfl rfl (by decide) rfl (fun _ => rfl) 0 7 rfl rfl rfl rfl hl.1 rfl (lv_room (Nat.le_of_ble_eq_true rfl)) dX7_setNeed_29 (fun r5 u H locs hw hwd => ?_)
      try dsimp only at hw
      replace hwd : wd D (va_A (ww_X7_setNeed cI cC oT oT_s oT_aside oT_states oT_snapshot oT_text oT_serves oT_took oT_tookMany oT_helps oT_before oT_read T_thrown T_stateMany T_hasSnapshot T_length T_stopNumber T_stopError T_at T_isWell T_readMany T_s T_states) s.heap.size) s (ww_X7_setNeed cI cC oT oT_s oT_aside oT_states oT_snapshot oT_text oT_serves oT_took oT_tookMany oT_helps oT_before oT_read (nI 0) T_stateMany T_hasSnapshot T_length T_stopNumber T_stopError T_at T_isWell T_readMany T_s T_states) H locs := hwd
      refine lv_istore_n (lv' := [(3, .int r5), (0, .ref oT), (1, .int x1), (2, .int x2)]) hx hb dX7_setNeed_32 rfl hl (by decide) rfl (fun ls hl => ?_)
      refine lv_iload_n hx hb dX7_setNeed_33 rfl (lv_at hl 0 rfl) ?_
      refine lv_iload_n hx hb dX7_setNeed_34 rfl (lv_at hl 3 rfl) ?_
      refine lv_icmp_ne (tgt := 41) hx hb dX7_setNeed_35 (by decide) (fun c6 => ?_) (fun c6 => ?_)
      · replace hw := hw.1 c6
        refine lv_aload_n hx hb dX7_setNeed_41 rfl (lv_at hl 1 rfl) ?_
        refine kcVv (W1 := (fun u => (ww_X7_setNeed cI cC oT oT_s oT_aside oT_states oT_snapshot oT_text oT_serves oT_took oT_tookMany oT_helps oT_before oT_read (nI 0) (u.1) T_hasSnapshot T_length T_stopNumber T_stopError T_at T_isWell T_readMany T_s (u.2)))) (rest := []) (As := []) ⟨Nat.le_of_ble_eq_true rfl, Nat.le_of_ble_eq_true rfl⟩ ⟨hx, hb, hml, hown, hts⟩ (c_X7_records l oT oT_s oT_aside oT_states oT_snapshot oT_text oT_serves oT_took oT_tookMany oT_helps oT_before oT_read H.size (nI 0) T_stateMany T_hasSnapshot T_length T_stopNumber T_stopError T_at T_isWell T_readMany T_s T_states hw) (cwV 0 hts gX7_setNeed_X7_records rfl rfl rfl ⟨rfl, hd_X7_records⟩ ⟨Nat.le_of_ble_eq_true rfl, Nat.le_of_ble_eq_true rfl⟩) hKw hA hwd [0, 1, 2] [] [0, 1, 2] [] rfl rfl rfl rfl (by decide) rfl (fun _ => rfl) 0 7 rfl rfl rfl rfl hl.1 rfl (lv_room (Nat.le_of_ble_eq_true rfl)) dX7_setNeed_42 (fun u H locs hw hwd => ?_)
        obtain ⟨T_stateMany7, T_states8⟩ := u
        try dsimp only at hw
        replace hwd : wd D (va_A (ww_X7_setNeed cI cC oT oT_s oT_aside oT_states oT_snapshot oT_text oT_serves oT_took oT_tookMany oT_helps oT_before oT_read T_thrown T_stateMany T_hasSnapshot T_length T_stopNumber T_stopError T_at T_isWell T_readMany T_s T_states) s.heap.size) s (ww_X7_setNeed cI cC oT oT_s oT_aside oT_states oT_snapshot oT_text oT_serves oT_took oT_tookMany oT_helps oT_before oT_read (nI 0) T_stateMany7 T_hasSnapshot T_length T_stopNumber T_stopError T_at T_isWell T_readMany T_s T_states8) H locs := hwd
        refine lv_aload_n hx hb dX7_setNeed_45 rfl (lv_at hl 1 rfl) ?_
        refine lv_iload_n hx hb dX7_setNeed_46 rfl (lv_at hl 2 rfl) ?_
        refine lv_iconst (v := (nI 0)) hx hb dX7_setNeed_47 rfl ?_
        refine lv_iload_n hx hb dX7_setNeed_48 rfl (lv_at hl 3 rfl) ?_
        refine kcVv (W1 := (fun u => (ww_X7_setNeed cI cC oT oT_s oT_aside oT_states oT_snapshot oT_text oT_serves oT_took oT_tookMany oT_helps oT_before oT_read (nI 0) T_stateMany7 T_hasSnapshot T_length T_stopNumber T_stopError T_at T_isWell T_readMany u T_states8))) (rest := []) (As := [.int x1, .int (nI 0), .int x2]) ⟨Nat.le_of_ble_eq_true rfl, Nat.le_of_ble_eq_true rfl⟩ ⟨hx, hb, hml, hown, hts⟩ (c_X7_lay l oT oT_s oT_aside oT_states oT_snapshot oT_text oT_serves oT_took oT_tookMany oT_helps oT_before oT_read H.size (nI 0) T_stateMany7 T_hasSnapshot T_length T_stopNumber T_stopError T_at T_isWell T_readMany T_s x1 (nI 0) x2 hw) (cwV 3 hts gX7_setNeed_X7_lay rfl rfl rfl ⟨rfl, hd_X7_lay⟩ ⟨Nat.le_of_ble_eq_true rfl, Nat.le_of_ble_eq_true rfl⟩) hKw hA hwd [0, 1] [2] [1, 2, 0] [(oT_states, .inl (cI, 1896, .inl T_states8))] rfl rfl rfl rfl (by decide) rfl (fun _ => rfl) 0 7 rfl rfl rfl rfl hl.1 rfl (lv_room (Nat.le_of_ble_eq_true rfl)) dX7_setNeed_49 (fun u H locs hw hwd => ?_)
        obtain ⟨T_s9, rfl⟩ : ∃ z, z = u := ⟨_, rfl⟩
        try dsimp only at hw
        replace hwd : wd D (va_A (ww_X7_setNeed cI cC oT oT_s oT_aside oT_states oT_snapshot oT_text oT_serves oT_took oT_tookMany oT_helps oT_before oT_read T_thrown T_stateMany T_hasSnapshot T_length T_stopNumber T_stopError T_at T_isWell T_readMany T_s T_states) s.heap.size) s (ww_X7_setNeed cI cC oT oT_s oT_aside oT_states oT_snapshot oT_text oT_serves oT_took oT_tookMany oT_helps oT_before oT_read (nI 0) T_stateMany7 T_hasSnapshot T_length T_stopNumber T_stopError T_at T_isWell T_readMany T_s9 T_states8) H locs := hwd
        refine lv_iload_n hx hb dX7_setNeed_52 rfl (lv_at hl 0 rfl) ?_
        exact HR r5 (nI 0) T_stateMany7 T_s9 T_states8 hw hwd dX7_setNeed_53
      · replace hw := hw.2 c6
        refine lv_bipush (v := (-5)) hx hb dX7_setNeed_38 rfl ?_
        exact HR (-5) (nI 0) T_stateMany T_s T_states hw hwd dX7_setNeed_40
    · replace hw := hw.2 c4
      refine lv_bipush (v := (-2)) hx hb dX7_setNeed_23 rfl ?_
      exact HR (-2) (nI 0) T_stateMany T_s T_states hw hwd dX7_setNeed_25
  · replace hw := hw.2 c2
    refine lv_iconst (v := (-1)) hx hb dX7_setNeed_12 rfl ?_
    exact HR (-1) (nI 0) T_stateMany T_s T_states hw hwd dX7_setNeed_13
abbrev ww_X7_train (cI cC : ClassId) (oT oT_s oT_aside oT_states oT_snapshot oT_text oT_serves oT_took oT_tookMany oT_helps oT_before oT_read : Nat) (T_thrown : Int32) (T_stateMany : Int32) (T_hasSnapshot : Int32) (T_length : Int32) (T_stopNumber : Int32) (T_stopError : Int32) (T_at : Int32) (T_isWell : Int32) (T_readMany : Int32) (T_s : Nat → Int32) (T_states : Nat → Int32) : va_W := [(oT, .inr (7, [.int T_thrown, .ref oT_s, .ref oT_aside, .ref oT_states, .int T_stateMany, .ref oT_snapshot, .int T_hasSnapshot, .ref oT_text, .int T_length, .int T_stopNumber, .int T_stopError, .ref oT_serves, .ref oT_took, .ref oT_tookMany, .ref oT_helps, .ref oT_before, .int T_at, .int T_isWell, .ref oT_read, .int T_readMany])), (oT_s, .inl (cI, 474, .inl T_s)), (oT_states, .inl (cI, 1896, .inl T_states))]
abbrev rm_X7_train : Room := { frames := 2, cells := 0, slots := 0, locals := 42 }
theorem ic_X7_train_X7 : ∀ w ∈ u_ws RX7 TX7 20, w ∈ wsX7_train := by
  intro w h
  simp only [wsX7_train, List.mem_cons, List.mem_append]
  simp only [h, or_true, true_or]
def wp_X7_train (T_thrown : Int32) (T_stateMany : Int32) (T_s : Nat → Int32) (T_states : Nat → Int32) (x1 : Int32) (x2 : Int32) (Q : Int32 → Int32 → Int32 → (Nat → Int32) → (Nat → Int32) → Prop) : Prop := wp_X7_isPerson x1 (fun r1 => ((¬ r1 = 0 → wp_X7_isDay x2 (fun r3 => ((¬ r3 = 0 → vp_in (((nI 318) + ((nI 2) * x1)) + (nI 0)) 474 ∧ ∀ x3_5, x3_5 = T_s (((nI 318) + ((nI 2) * x1)) + (nI 0)).toNatClampNeg → ((¬ x3_5 = x2 → wp_X7_records T_stateMany T_s T_states (fun T_stateMany7 T_states8 => vp_in (((nI 318) + ((nI 2) * x1)) + (nI 0)) 474 ∧ ∀ T_s9, T_s9 = upd T_s (((nI 318) + ((nI 2) * x1)) + (nI 0)).toNatClampNeg x2 → Q x3_5 (nI 0) T_stateMany7 T_s9 T_states8)) ∧ (x3_5 = x2 → Q (-5) (nI 0) T_stateMany T_s T_states))) ∧ (r3 = 0 → Q (-2) (nI 0) T_stateMany T_s T_states)))) ∧ (r1 = 0 → Q (-1) (nI 0) T_stateMany T_s T_states)))
set_option maxRecDepth 100000 in
set_option maxHeartbeats 4000000 in
theorem c_X7_train (l : Launch) {D : va_G} {cI cC cR : ClassId} (oT oT_s oT_aside oT_states oT_snapshot oT_text oT_serves oT_took oT_tookMany oT_helps oT_before oT_read : Nat) (sz : Nat) (T_thrown : Int32) (T_stateMany : Int32) (T_hasSnapshot : Int32) (T_length : Int32) (T_stopNumber : Int32) (T_stopError : Int32) (T_at : Int32) (T_isWell : Int32) (T_readMany : Int32) (T_s : Nat → Int32) (T_states : Nat → Int32) (x1 : Int32) (x2 : Int32) {Q : Int32 → Int32 → Int32 → (Nat → Int32) → (Nat → Int32) → Prop} (hw : wp_X7_train T_thrown T_stateMany T_s T_states x1 x2 Q) : Met l yX7_train wsX7_train rm_X7_train (PcW D cI cC cR [.ref oT, .int x1, .int x2] (ww_X7_train cI cC oT oT_s oT_aside oT_states oT_snapshot oT_text oT_serves oT_took oT_tookMany oT_helps oT_before oT_read T_thrown T_stateMany T_hasSnapshot T_length T_stopNumber T_stopError T_at T_isWell T_readMany T_s T_states) sz) (QiW D (fun (r : Int32) (u : Int32 × Int32 × (Nat → Int32) × (Nat → Int32)) => Q r u.1 u.2.1 u.2.2.1 u.2.2.2) (fun u => (ww_X7_train cI cC oT oT_s oT_aside oT_states oT_snapshot oT_text oT_serves oT_took oT_tookMany oT_helps oT_before oT_read (u.1) (u.2.1) T_hasSnapshot T_length T_stopNumber T_stopError T_at T_isWell T_readMany (u.2.2.1) (u.2.2.2))) (ww_X7_train cI cC oT oT_s oT_aside oT_states oT_snapshot oT_text oT_serves oT_took oT_tookMany oT_helps oT_before oT_read T_thrown T_stateMany T_hasSnapshot T_length T_stopNumber T_stopError T_at T_isWell T_readMany T_s T_states) sz) 0 0 (va_A (ww_X7_train cI cC oT oT_s oT_aside oT_states oT_snapshot oT_text oT_serves oT_took oT_tookMany oT_helps oT_before oT_read T_thrown T_stateMany T_hasSnapshot T_length T_stopNumber T_stopError T_at T_isWell T_readMany T_s T_states) sz) := by
  refine Met.ofW (cc := cX7_train) (maxL := 4) (ret := (some .int)) (by decide) rfl ?_
  intro p e s m args below meth c s₁ B hml hv
  obtain ⟨rfl, hsz, hP, hKw, hD0⟩ := hv
  have hlocks := B.notSynchronized
  subst hsz
  have hD := hD0.self (sz := s.heap.size)
  have CX : cx cX7_train (some .int) 4 RX7 wsX7_train p m meth c s ([.ref oT, .int x1, .int x2] : List Value).toArray D cI cC cR (va_A (ww_X7_train cI cC oT oT_s oT_aside oT_states oT_snapshot oT_text oT_serves oT_took oT_tookMany oT_helps oT_before oT_read T_thrown T_stateMany T_hasSnapshot T_length T_stopNumber T_stopError T_at T_isWell T_readMany T_s T_states) s.heap.size) := ⟨B.exec, B.bytes, B.returns, hml, atoms_spec (ws := wsX7_train) B.pre, findClass_of_methodNamed B.named, hlocks, hKw, fun q h => Or.inr h⟩
  obtain ⟨hx, hb, hr, -, hts, hown, -, -, hA⟩ := id CX
  have hwd : wd D (va_A (ww_X7_train cI cC oT oT_s oT_aside oT_states oT_snapshot oT_text oT_serves oT_took oT_tookMany oT_helps oT_before oT_read T_thrown T_stateMany T_hasSnapshot T_length T_stopNumber T_stopError T_at T_isWell T_readMany T_s T_states) s.heap.size) s (ww_X7_train cI cC oT oT_s oT_aside oT_states oT_snapshot oT_text oT_serves oT_took oT_tookMany oT_helps oT_before oT_read T_thrown T_stateMany T_hasSnapshot T_length T_stopNumber T_stopError T_at T_isWell T_readMany T_s T_states) s.heap [] := ⟨hP, hD, va_S.rf⟩
  have hl := lv_entry ([.ref oT, .int x1, .int x2]) (n := 4) (Nat.le_of_ble_eq_true rfl)
  rw [lg_entry_eq]
  generalize (lg_sl ([.ref oT, .int x1, .int x2]) ++ List.replicate (4 - (lg_sl ([.ref oT, .int x1, .int x2])).length) Slot.unset).toArray = ls at hl ⊢
  have hl : lv_has ls 4 [(0, .ref oT), (1, .int x1), (2, .int x2)] := hl
  have HR : ∀ (r : Int32) (u0 : Int32) (u1 : Int32) (u2 : Nat → Int32) (u3 : Nat → Int32) {H : Heap} {locs : List Loc} {ls : Array Slot} {pc : Nat}, Q r u0 u1 u2 u3 → wd D (va_A (ww_X7_train cI cC oT oT_s oT_aside oT_states oT_snapshot oT_text oT_serves oT_took oT_tookMany oT_helps oT_before oT_read T_thrown T_stateMany T_hasSnapshot T_length T_stopNumber T_stopError T_at T_isWell T_readMany T_s T_states) s.heap.size) s (ww_X7_train cI cC oT oT_s oT_aside oT_states oT_snapshot oT_text oT_serves oT_took oT_tookMany oT_helps oT_before oT_read u0 u1 T_hasSnapshot T_length T_stopNumber T_stopError T_at T_isWell T_readMany u2 u3) H locs → decode cX7_train pc = .ok (.ireturn, 1) → W p l e (headSpec wsX7_train rm_X7_train).room s m ([.ref oT, .int x1, .int x2] : List Value).toArray below meth c H locs 0 0 (MQ below (QiW D (fun (r : Int32) (u : Int32 × Int32 × (Nat → Int32) × (Nat → Int32)) => Q r u.1 u.2.1 u.2.2.1 u.2.2.2) (fun u => (ww_X7_train cI cC oT oT_s oT_aside oT_states oT_snapshot oT_text oT_serves oT_took oT_tookMany oT_helps oT_before oT_read (u.1) (u.2.1) T_hasSnapshot T_length T_stopNumber T_stopError T_at T_isWell T_readMany (u.2.2.1) (u.2.2.2))) (ww_X7_train cI cC oT oT_s oT_aside oT_states oT_snapshot oT_text oT_serves oT_took oT_tookMany oT_helps oT_before oT_read T_thrown T_stateMany T_hasSnapshot T_length T_stopNumber T_stopError T_at T_isWell T_readMany T_s T_states) s.heap.size) ([.ref oT, .int x1, .int x2] : List Value).toArray s 0 0 (va_A (ww_X7_train cI cC oT oT_s oT_aside oT_states oT_snapshot oT_text oT_serves oT_took oT_tookMany oT_helps oT_before oT_read T_thrown T_stateMany T_hasSnapshot T_length T_stopNumber T_stopError T_at T_isWell T_readMany T_s T_states) s.heap.size)) (F0 m pc ls [.int r]) := by
    intro r u0 u1 u2 u3 H locs ls pc hq hw9 hd9
    exact W.iret (v := r) hx hb hr (fun t ht hW => ⟨⟨r, (u0, u1, u2, u3), rfl, hq, by rw [ht]; exact hw9.1, hw9.2.1⟩, hw9.2.2.F ht⟩) hw9.2.2.2.2 hd9
  unfold wp_X7_train at hw
  refine lv_aload_n hx hb dX7_train_0 rfl (lv_at hl 0 rfl) ?_
  refine lv_iconst (v := (nI 0)) hx hb dX7_train_1 rfl ?_
  refine va_put (D := D) (ci := 7) (v := .int (nI 0)) (ty := .int) (C := RX7) (T := TX7) (N := 20) hx hb hts ic_X7_train_X7 tyX7 tyX7_ok nmX7 hown hKw.1 hwd.1 hwd.2.1 hwd.2.2 0 rfl rfl 0 (by decide) (hts (.fieldLink RX7 43 "DrillWardensModel" "thrown" "I") (List.mem_of_getElem? (i := 1) rfl)) (fun _ h9 => h9) rfl (tyX7_ok 0 (by decide)) rfl rfl (Nat.le_of_ble_eq_true rfl) dX7_train_2 (fun H locs h1 h2 h3 => ?_)
  replace hwd : wd D (va_A (ww_X7_train cI cC oT oT_s oT_aside oT_states oT_snapshot oT_text oT_serves oT_took oT_tookMany oT_helps oT_before oT_read T_thrown T_stateMany T_hasSnapshot T_length T_stopNumber T_stopError T_at T_isWell T_readMany T_s T_states) s.heap.size) s (ww_X7_train cI cC oT oT_s oT_aside oT_states oT_snapshot oT_text oT_serves oT_took oT_tookMany oT_helps oT_before oT_read (nI 0) T_stateMany T_hasSnapshot T_length T_stopNumber T_stopError T_at T_isWell T_readMany T_s T_states) H locs := ⟨h1, h2, h3⟩
  clear h1 h2 h3
  refine lv_iload_n hx hb dX7_train_5 rfl (lv_at hl 1 rfl) ?_
  refine kcSi (rest := []) (As := [.int x1]) ⟨Nat.le_of_ble_eq_true rfl, Nat.le_of_ble_eq_true rfl⟩ ⟨hx, hb, hml, hown, hts⟩ (c_X7_isPerson l H.size x1 hw) (va_cwS 1 hts gX7_train_X7_isPerson rfl rfl rfl hd_X7_isPerson ⟨Nat.le_of_ble_eq_true rfl, Nat.le_of_ble_eq_true rfl⟩) hKw hA hwd rfl hl.1 rfl (lv_room (Nat.le_of_ble_eq_true rfl)) dX7_train_6 (fun r1 H locs hw hwd => ?_)
  try dsimp only at hw
  refine lv_if_ne (tgt := 14) hx hb dX7_train_9 (by decide) (fun c2 => ?_) (fun c2 => ?_)
  · replace hw := hw.1 c2
    refine lv_iload_n hx hb dX7_train_14 rfl (lv_at hl 2 rfl) ?_
    refine kcSi (rest := []) (As := [.int x2]) ⟨Nat.le_of_ble_eq_true rfl, Nat.le_of_ble_eq_true rfl⟩ ⟨hx, hb, hml, hown, hts⟩ (c_X7_isDay l H.size x2 hw) (va_cwS 1 hts gX7_train_X7_isDay rfl rfl rfl hd_X7_isDay ⟨Nat.le_of_ble_eq_true rfl, Nat.le_of_ble_eq_true rfl⟩) hKw hA hwd rfl hl.1 rfl (lv_room (Nat.le_of_ble_eq_true rfl)) dX7_train_15 (fun r3 H locs hw hwd => ?_)
    try dsimp only at hw
    refine lv_if_ne (tgt := 24) hx hb dX7_train_18 (by decide) (fun c4 => ?_) (fun c4 => ?_)
    · replace hw := hw.1 c4
      refine lv_aload_n hx hb dX7_train_24 rfl (lv_at hl 0 rfl) ?_
      refine va_get (D := D) (ci := 7) (v := .ref oT_s) (C := RX7) (T := TX7) (N := 20) hx hb hts ic_X7_train_X7 hown hKw.1 hwd.1 0 rfl rfl 1 (by decide) (hts (.fieldLink RX7 7 "DrillWardensModel" "s" "[I") (List.mem_of_getElem? (i := 2) rfl)) (fun _ h9 => h9) rfl dX7_train_25 ?_
      refine lv_sipush (v := (nI 318)) hx hb dX7_train_28 rfl ?_
      refine lv_iconst (v := (nI 2)) hx hb dX7_train_31 rfl ?_
      refine lv_iload_n hx hb dX7_train_32 rfl (lv_at hl 1 rfl) ?_
      refine lv_imul hx hb dX7_train_33 ?_
      refine lv_iadd hx hb dX7_train_34 ?_
      refine lv_iconst (v := (nI 0)) hx hb dX7_train_35 rfl ?_
      refine lv_iadd hx hb dX7_train_36 ?_
      refine va_iald hx hb hKw.1 hwd.1 1 0 rfl rfl hw.1 dX7_train_37 ?_
      replace hw := hw.2
      refine lv_topi (fun x3_5 e_x3_5 => ?_)
      replace hw := hw x3_5 e_x3_5
      refine lv_istore_n (lv' := [(3, .int x3_5), (0, .ref oT), (1, .int x1), (2, .int x2)]) hx hb dX7_train_38 rfl hl (by decide) rfl (fun ls hl => ?_)
      refine lv_iload_n hx hb dX7_train_39 rfl (lv_at hl 0 rfl) ?_
      refine lv_iload_n hx hb dX7_train_40 rfl (lv_at hl 3 rfl) ?_
      refine lv_icmp_ne (tgt := 47) hx hb dX7_train_41 (by decide) (fun c6 => ?_) (fun c6 => ?_)
      · replace hw := hw.1 c6
        refine lv_aload_n hx hb dX7_train_47 rfl (lv_at hl 1 rfl) ?_
        refine kcVv (W1 := (fun u => (ww_X7_train cI cC oT oT_s oT_aside oT_states oT_snapshot oT_text oT_serves oT_took oT_tookMany oT_helps oT_before oT_read (nI 0) (u.1) T_hasSnapshot T_length T_stopNumber T_stopError T_at T_isWell T_readMany T_s (u.2)))) (rest := []) (As := []) ⟨Nat.le_of_ble_eq_true rfl, Nat.le_of_ble_eq_true rfl⟩ ⟨hx, hb, hml, hown, hts⟩ (c_X7_records l oT oT_s oT_aside oT_states oT_snapshot oT_text oT_serves oT_took oT_tookMany oT_helps oT_before oT_read H.size (nI 0) T_stateMany T_hasSnapshot T_length T_stopNumber T_stopError T_at T_isWell T_readMany T_s T_states hw) (cwV 0 hts gX7_train_X7_records rfl rfl rfl ⟨rfl, hd_X7_records⟩ ⟨Nat.le_of_ble_eq_true rfl, Nat.le_of_ble_eq_true rfl⟩) hKw hA hwd [0, 1, 2] [] [0, 1, 2] [] rfl rfl rfl rfl (by decide) rfl (fun _ => rfl) 0 7 rfl rfl rfl rfl hl.1 rfl (lv_room (Nat.le_of_ble_eq_true rfl)) dX7_train_48 (fun u H locs hw hwd => ?_)
        obtain ⟨T_stateMany7, T_states8⟩ := u
        try dsimp only at hw
        replace hwd : wd D (va_A (ww_X7_train cI cC oT oT_s oT_aside oT_states oT_snapshot oT_text oT_serves oT_took oT_tookMany oT_helps oT_before oT_read T_thrown T_stateMany T_hasSnapshot T_length T_stopNumber T_stopError T_at T_isWell T_readMany T_s T_states) s.heap.size) s (ww_X7_train cI cC oT oT_s oT_aside oT_states oT_snapshot oT_text oT_serves oT_took oT_tookMany oT_helps oT_before oT_read (nI 0) T_stateMany7 T_hasSnapshot T_length T_stopNumber T_stopError T_at T_isWell T_readMany T_s T_states8) H locs := hwd
        refine lv_aload_n hx hb dX7_train_51 rfl (lv_at hl 1 rfl) ?_
        refine va_get (D := D) (ci := 7) (v := .ref oT_s) (C := RX7) (T := TX7) (N := 20) hx hb hts ic_X7_train_X7 hown hKw.1 hwd.1 0 rfl rfl 1 (by decide) (hts (.fieldLink RX7 7 "DrillWardensModel" "s" "[I") (List.mem_of_getElem? (i := 2) rfl)) (fun _ h9 => h9) rfl dX7_train_52 ?_
        refine lv_sipush (v := (nI 318)) hx hb dX7_train_55 rfl ?_
        refine lv_iconst (v := (nI 2)) hx hb dX7_train_58 rfl ?_
        refine lv_iload_n hx hb dX7_train_59 rfl (lv_at hl 2 rfl) ?_
        refine lv_imul hx hb dX7_train_60 ?_
        refine lv_iadd hx hb dX7_train_61 ?_
        refine lv_iconst (v := (nI 0)) hx hb dX7_train_62 rfl ?_
        refine lv_iadd hx hb dX7_train_63 ?_
        refine lv_iload_n hx hb dX7_train_64 rfl (lv_at hl 3 rfl) ?_
        obtain ⟨T_s9, e_T_s9⟩ : ∃ y : Nat → Int32, y = upd T_s (((nI 318) + ((nI 2) * x1)) + (nI 0)).toNatClampNeg x2 := ⟨_, rfl⟩
        refine va_iast hx hb hKw.1 hwd.1 hwd.2.1 hwd.2.2 1 0 rfl rfl hw.1 dX7_train_65 (fun H locs h1 h2 h3 => ?_)
        replace hw := hw.2 T_s9 e_T_s9
        rw [← e_T_s9] at h1 h2
        replace hwd : wd D (va_A (ww_X7_train cI cC oT oT_s oT_aside oT_states oT_snapshot oT_text oT_serves oT_took oT_tookMany oT_helps oT_before oT_read T_thrown T_stateMany T_hasSnapshot T_length T_stopNumber T_stopError T_at T_isWell T_readMany T_s T_states) s.heap.size) s (ww_X7_train cI cC oT oT_s oT_aside oT_states oT_snapshot oT_text oT_serves oT_took oT_tookMany oT_helps oT_before oT_read (nI 0) T_stateMany7 T_hasSnapshot T_length T_stopNumber T_stopError T_at T_isWell T_readMany T_s9 T_states8) H locs := ⟨h1, h2, h3⟩
        clear h1 h2 h3
        refine lv_iload_n hx hb dX7_train_66 rfl (lv_at hl 0 rfl) ?_
        exact HR x3_5 (nI 0) T_stateMany7 T_s9 T_states8 hw hwd dX7_train_67
      · replace hw := hw.2 c6
        refine lv_bipush (v := (-5)) hx hb dX7_train_44 rfl ?_
        exact HR (-5) (nI 0) T_stateMany T_s T_states hw hwd dX7_train_46
    · replace hw := hw.2 c4
      refine lv_bipush (v := (-2)) hx hb dX7_train_21 rfl ?_
      exact HR (-2) (nI 0) T_stateMany T_s T_states hw hwd dX7_train_23
  · replace hw := hw.2 c2
    refine lv_iconst (v := (-1)) hx hb dX7_train_12 rfl ?_
    exact HR (-1) (nI 0) T_stateMany T_s T_states hw hwd dX7_train_13
abbrev ww_X7_set (cI cC : ClassId) (oT oT_s oT_aside oT_states oT_snapshot oT_text oT_serves oT_took oT_tookMany oT_helps oT_before oT_read : Nat) (T_thrown : Int32) (T_stateMany : Int32) (T_hasSnapshot : Int32) (T_length : Int32) (T_stopNumber : Int32) (T_stopError : Int32) (T_at : Int32) (T_isWell : Int32) (T_readMany : Int32) (T_s : Nat → Int32) (T_states : Nat → Int32) : va_W := [(oT, .inr (7, [.int T_thrown, .ref oT_s, .ref oT_aside, .ref oT_states, .int T_stateMany, .ref oT_snapshot, .int T_hasSnapshot, .ref oT_text, .int T_length, .int T_stopNumber, .int T_stopError, .ref oT_serves, .ref oT_took, .ref oT_tookMany, .ref oT_helps, .ref oT_before, .int T_at, .int T_isWell, .ref oT_read, .int T_readMany])), (oT_s, .inl (cI, 474, .inl T_s)), (oT_states, .inl (cI, 1896, .inl T_states))]
abbrev rm_X7_set : Room := { frames := 1, cells := 0, slots := 0, locals := 22 }
theorem ic_X7_set_X7 : ∀ w ∈ u_ws RX7 TX7 20, w ∈ wsX7_set := by
  intro w h
  simp only [wsX7_set, List.mem_cons, List.mem_append]
  simp only [h, or_true, true_or]
def wb_X7_set_27 (T_thrown : Int32) (T_stateMany : Int32) (T_s : Nat → Int32) (T_states : Nat → Int32) (x1 : Int32) (x2 : Int32) (Q : Int32 → Int32 → Int32 → (Nat → Int32) → (Nat → Int32) → Prop) (st0 : Int32) (st1 : Int32) (st2 : Int32) : Prop := wp_X7_in st0 st1 st2 (fun r1 => ((¬ r1 = 0 → vp_in x1 474 ∧ ∀ x3_3, x3_3 = T_s x1.toNatClampNeg → ((¬ x3_3 = x2 → wp_X7_records T_stateMany T_s T_states (fun T_stateMany5 T_states6 => vp_in x1 474 ∧ ∀ T_s7, T_s7 = upd T_s x1.toNatClampNeg x2 → Q x3_3 T_thrown T_stateMany5 T_s7 T_states6)) ∧ (x3_3 = x2 → Q (-5) T_thrown T_stateMany T_s T_states))) ∧ (r1 = 0 → Q (-2) T_thrown T_stateMany T_s T_states)))
set_option maxRecDepth 100000 in
set_option maxHeartbeats 4000000 in
theorem blk_X7_set_27 {p : Program} {l : Launch} {e : Env} {s : State} {m : MethodId} {args : Array Value} {below : List Frame} {meth : Method} {c : Code} {D : va_G} {cI cC cR : ClassId} {A : Nat → Prop} {Z : State → Prop} (CX : cx cX7_set (some .int) 4 RX7 wsX7_set p m meth c s args D cI cC cR A) (oT oT_s oT_aside oT_states oT_snapshot oT_text oT_serves oT_took oT_tookMany oT_helps oT_before oT_read : Nat) (T_thrown : Int32) (T_stateMany : Int32) (T_hasSnapshot : Int32) (T_length : Int32) (T_stopNumber : Int32) (T_stopError : Int32) (T_at : Int32) (T_isWell : Int32) (T_readMany : Int32) (T_s : Nat → Int32) (T_states : Nat → Int32) (x1 : Int32) (x2 : Int32) {Q : Int32 → Int32 → Int32 → (Nat → Int32) → (Nat → Int32) → Prop} (HR : ∀ (r : Int32) (u0 : Int32) (u1 : Int32) (u2 : Nat → Int32) (u3 : Nat → Int32) {H : Heap} {locs : List Loc} {ls : Array Slot} {pc : Nat}, Q r u0 u1 u2 u3 → wd D A s (ww_X7_set cI cC oT oT_s oT_aside oT_states oT_snapshot oT_text oT_serves oT_took oT_tookMany oT_helps oT_before oT_read u0 u1 T_hasSnapshot T_length T_stopNumber T_stopError T_at T_isWell T_readMany u2 u3) H locs → decode cX7_set pc = .ok (.ireturn, 1) → W p l e (headSpec wsX7_set rm_X7_set).room s m args below meth c H locs 0 0 Z (F0 m pc ls [.int r])) : ∀ (st0 : Int32) (st1 : Int32) (st2 : Int32), wb_X7_set_27 T_thrown T_stateMany T_s T_states x1 x2 Q st0 st1 st2 → ∀ (H : Heap) (locs : List Loc) (ls : Array Slot), wd D A s (ww_X7_set cI cC oT oT_s oT_aside oT_states oT_snapshot oT_text oT_serves oT_took oT_tookMany oT_helps oT_before oT_read T_thrown T_stateMany T_hasSnapshot T_length T_stopNumber T_stopError T_at T_isWell T_readMany T_s T_states) H locs → lv_has ls 4 [(0, .ref oT), (1, .int x1), (2, .int x2)] → W p l e (headSpec wsX7_set rm_X7_set).room s m args below meth c H locs 0 0 Z (F0 m 27 ls [.int st2, .int st1, .int st0]) := by
  obtain ⟨hx, hb, hr, hml, hts, hown, hlocks, hKw, hA⟩ := id CX
  intro st0 st1 st2 hw H locs ls hwd hl
  unfold wb_X7_set_27 at hw
  refine kcSi (rest := []) (As := [.int st0, .int st1, .int st2]) ⟨Nat.le_of_ble_eq_true rfl, Nat.le_of_ble_eq_true rfl⟩ ⟨hx, hb, hml, hown, hts⟩ (c_X7_in l H.size st0 st1 st2 hw) (va_cwS 3 hts gX7_set_X7_in rfl rfl rfl hd_X7_in ⟨Nat.le_of_ble_eq_true rfl, Nat.le_of_ble_eq_true rfl⟩) hKw hA hwd rfl hl.1 rfl (lv_room (Nat.le_of_ble_eq_true rfl)) dX7_set_27 (fun r1 H locs hw hwd => ?_)
  try dsimp only at hw
  refine lv_if_ne (tgt := 36) hx hb dX7_set_30 (by decide) (fun c2 => ?_) (fun c2 => ?_)
  · replace hw := hw.1 c2
    refine lv_aload_n hx hb dX7_set_36 rfl (lv_at hl 0 rfl) ?_
    refine va_get (D := D) (ci := 7) (v := .ref oT_s) (C := RX7) (T := TX7) (N := 20) hx hb hts ic_X7_set_X7 hown hKw.1 hwd.1 0 rfl rfl 1 (by decide) (hts (.fieldLink RX7 7 "DrillWardensModel" "s" "[I") (List.mem_of_getElem? (i := 2) rfl)) (fun _ h9 => h9) rfl dX7_set_37 ?_
    refine lv_iload_n hx hb dX7_set_40 rfl (lv_at hl 1 rfl) ?_
    refine va_iald hx hb hKw.1 hwd.1 1 0 rfl rfl hw.1 dX7_set_41 ?_
    replace hw := hw.2
    refine lv_topi (fun x3_3 e_x3_3 => ?_)
    replace hw := hw x3_3 e_x3_3
    refine lv_istore_n (lv' := [(3, .int x3_3), (0, .ref oT), (1, .int x1), (2, .int x2)]) hx hb dX7_set_42 rfl hl (by decide) rfl (fun ls hl => ?_)
    refine lv_iload_n hx hb dX7_set_43 rfl (lv_at hl 0 rfl) ?_
    refine lv_iload_n hx hb dX7_set_44 rfl (lv_at hl 3 rfl) ?_
    refine lv_icmp_ne (tgt := 51) hx hb dX7_set_45 (by decide) (fun c4 => ?_) (fun c4 => ?_)
    · replace hw := hw.1 c4
      refine lv_aload_n hx hb dX7_set_51 rfl (lv_at hl 1 rfl) ?_
      refine kcVv (W1 := (fun u => (ww_X7_set cI cC oT oT_s oT_aside oT_states oT_snapshot oT_text oT_serves oT_took oT_tookMany oT_helps oT_before oT_read T_thrown (u.1) T_hasSnapshot T_length T_stopNumber T_stopError T_at T_isWell T_readMany T_s (u.2)))) (rest := []) (As := []) ⟨Nat.le_of_ble_eq_true rfl, Nat.le_of_ble_eq_true rfl⟩ ⟨hx, hb, hml, hown, hts⟩ (c_X7_records l oT oT_s oT_aside oT_states oT_snapshot oT_text oT_serves oT_took oT_tookMany oT_helps oT_before oT_read H.size T_thrown T_stateMany T_hasSnapshot T_length T_stopNumber T_stopError T_at T_isWell T_readMany T_s T_states hw) (cwV 0 hts gX7_set_X7_records rfl rfl rfl ⟨rfl, hd_X7_records⟩ ⟨Nat.le_of_ble_eq_true rfl, Nat.le_of_ble_eq_true rfl⟩) hKw hA hwd [0, 1, 2] [] [0, 1, 2] [] rfl rfl rfl rfl (by decide) rfl (fun _ => rfl) 0 7 rfl rfl rfl rfl hl.1 rfl (lv_room (Nat.le_of_ble_eq_true rfl)) dX7_set_52 (fun u H locs hw hwd => ?_)
      obtain ⟨T_stateMany5, T_states6⟩ := u
      try dsimp only at hw
      replace hwd : wd D A s (ww_X7_set cI cC oT oT_s oT_aside oT_states oT_snapshot oT_text oT_serves oT_took oT_tookMany oT_helps oT_before oT_read T_thrown T_stateMany5 T_hasSnapshot T_length T_stopNumber T_stopError T_at T_isWell T_readMany T_s T_states6) H locs := hwd
      refine lv_aload_n hx hb dX7_set_55 rfl (lv_at hl 1 rfl) ?_
      refine va_get (D := D) (ci := 7) (v := .ref oT_s) (C := RX7) (T := TX7) (N := 20) hx hb hts ic_X7_set_X7 hown hKw.1 hwd.1 0 rfl rfl 1 (by decide) (hts (.fieldLink RX7 7 "DrillWardensModel" "s" "[I") (List.mem_of_getElem? (i := 2) rfl)) (fun _ h9 => h9) rfl dX7_set_56 ?_
      refine lv_iload_n hx hb dX7_set_59 rfl (lv_at hl 2 rfl) ?_
      refine lv_iload_n hx hb dX7_set_60 rfl (lv_at hl 3 rfl) ?_
      obtain ⟨T_s7, e_T_s7⟩ : ∃ y : Nat → Int32, y = upd T_s x1.toNatClampNeg x2 := ⟨_, rfl⟩
      refine va_iast hx hb hKw.1 hwd.1 hwd.2.1 hwd.2.2 1 0 rfl rfl hw.1 dX7_set_61 (fun H locs h1 h2 h3 => ?_)
      replace hw := hw.2 T_s7 e_T_s7
      rw [← e_T_s7] at h1 h2
      replace hwd : wd D A s (ww_X7_set cI cC oT oT_s oT_aside oT_states oT_snapshot oT_text oT_serves oT_took oT_tookMany oT_helps oT_before oT_read T_thrown T_stateMany5 T_hasSnapshot T_length T_stopNumber T_stopError T_at T_isWell T_readMany T_s7 T_states6) H locs := ⟨h1, h2, h3⟩
      clear h1 h2 h3
      refine lv_iload_n hx hb dX7_set_62 rfl (lv_at hl 0 rfl) ?_
      exact HR x3_3 T_thrown T_stateMany5 T_s7 T_states6 hw hwd dX7_set_63
    · replace hw := hw.2 c4
      refine lv_bipush (v := (-5)) hx hb dX7_set_48 rfl ?_
      exact HR (-5) T_thrown T_stateMany T_s T_states hw hwd dX7_set_50
  · replace hw := hw.2 c2
    refine lv_bipush (v := (-2)) hx hb dX7_set_33 rfl ?_
    exact HR (-2) T_thrown T_stateMany T_s T_states hw hwd dX7_set_35
def wp_X7_set (T_thrown : Int32) (T_stateMany : Int32) (T_s : Nat → Int32) (T_states : Nat → Int32) (x1 : Int32) (x2 : Int32) (Q : Int32 → Int32 → Int32 → (Nat → Int32) → (Nat → Int32) → Prop) : Prop := wp_X7_in x1 (nI 0) (nI 2) (fun r1 => ((¬ r1 = 0 → ((¬ x1 = 0 → wb_X7_set_27 (nI 0) T_stateMany T_s T_states x1 x2 Q x2 (nI 0) (nI 1)) ∧ (x1 = 0 → wb_X7_set_27 (nI 0) T_stateMany T_s T_states x1 x2 Q x2 (nI 0) (nI 2)))) ∧ (r1 = 0 → Q (-1) (nI 0) T_stateMany T_s T_states)))
set_option maxRecDepth 100000 in
set_option maxHeartbeats 4000000 in
theorem c_X7_set (l : Launch) {D : va_G} {cI cC cR : ClassId} (oT oT_s oT_aside oT_states oT_snapshot oT_text oT_serves oT_took oT_tookMany oT_helps oT_before oT_read : Nat) (sz : Nat) (T_thrown : Int32) (T_stateMany : Int32) (T_hasSnapshot : Int32) (T_length : Int32) (T_stopNumber : Int32) (T_stopError : Int32) (T_at : Int32) (T_isWell : Int32) (T_readMany : Int32) (T_s : Nat → Int32) (T_states : Nat → Int32) (x1 : Int32) (x2 : Int32) {Q : Int32 → Int32 → Int32 → (Nat → Int32) → (Nat → Int32) → Prop} (hw : wp_X7_set T_thrown T_stateMany T_s T_states x1 x2 Q) : Met l yX7_set wsX7_set rm_X7_set (PcW D cI cC cR [.ref oT, .int x1, .int x2] (ww_X7_set cI cC oT oT_s oT_aside oT_states oT_snapshot oT_text oT_serves oT_took oT_tookMany oT_helps oT_before oT_read T_thrown T_stateMany T_hasSnapshot T_length T_stopNumber T_stopError T_at T_isWell T_readMany T_s T_states) sz) (QiW D (fun (r : Int32) (u : Int32 × Int32 × (Nat → Int32) × (Nat → Int32)) => Q r u.1 u.2.1 u.2.2.1 u.2.2.2) (fun u => (ww_X7_set cI cC oT oT_s oT_aside oT_states oT_snapshot oT_text oT_serves oT_took oT_tookMany oT_helps oT_before oT_read (u.1) (u.2.1) T_hasSnapshot T_length T_stopNumber T_stopError T_at T_isWell T_readMany (u.2.2.1) (u.2.2.2))) (ww_X7_set cI cC oT oT_s oT_aside oT_states oT_snapshot oT_text oT_serves oT_took oT_tookMany oT_helps oT_before oT_read T_thrown T_stateMany T_hasSnapshot T_length T_stopNumber T_stopError T_at T_isWell T_readMany T_s T_states) sz) 0 0 (va_A (ww_X7_set cI cC oT oT_s oT_aside oT_states oT_snapshot oT_text oT_serves oT_took oT_tookMany oT_helps oT_before oT_read T_thrown T_stateMany T_hasSnapshot T_length T_stopNumber T_stopError T_at T_isWell T_readMany T_s T_states) sz) := by
  refine Met.ofW (cc := cX7_set) (maxL := 4) (ret := (some .int)) (by decide) rfl ?_
  intro p e s m args below meth c s₁ B hml hv
  obtain ⟨rfl, hsz, hP, hKw, hD0⟩ := hv
  have hlocks := B.notSynchronized
  subst hsz
  have hD := hD0.self (sz := s.heap.size)
  have CX : cx cX7_set (some .int) 4 RX7 wsX7_set p m meth c s ([.ref oT, .int x1, .int x2] : List Value).toArray D cI cC cR (va_A (ww_X7_set cI cC oT oT_s oT_aside oT_states oT_snapshot oT_text oT_serves oT_took oT_tookMany oT_helps oT_before oT_read T_thrown T_stateMany T_hasSnapshot T_length T_stopNumber T_stopError T_at T_isWell T_readMany T_s T_states) s.heap.size) := ⟨B.exec, B.bytes, B.returns, hml, atoms_spec (ws := wsX7_set) B.pre, findClass_of_methodNamed B.named, hlocks, hKw, fun q h => Or.inr h⟩
  obtain ⟨hx, hb, hr, -, hts, hown, -, -, hA⟩ := id CX
  have hwd : wd D (va_A (ww_X7_set cI cC oT oT_s oT_aside oT_states oT_snapshot oT_text oT_serves oT_took oT_tookMany oT_helps oT_before oT_read T_thrown T_stateMany T_hasSnapshot T_length T_stopNumber T_stopError T_at T_isWell T_readMany T_s T_states) s.heap.size) s (ww_X7_set cI cC oT oT_s oT_aside oT_states oT_snapshot oT_text oT_serves oT_took oT_tookMany oT_helps oT_before oT_read T_thrown T_stateMany T_hasSnapshot T_length T_stopNumber T_stopError T_at T_isWell T_readMany T_s T_states) s.heap [] := ⟨hP, hD, va_S.rf⟩
  have hl := lv_entry ([.ref oT, .int x1, .int x2]) (n := 4) (Nat.le_of_ble_eq_true rfl)
  rw [lg_entry_eq]
  generalize (lg_sl ([.ref oT, .int x1, .int x2]) ++ List.replicate (4 - (lg_sl ([.ref oT, .int x1, .int x2])).length) Slot.unset).toArray = ls at hl ⊢
  have hl : lv_has ls 4 [(0, .ref oT), (1, .int x1), (2, .int x2)] := hl
  have HR : ∀ (r : Int32) (u0 : Int32) (u1 : Int32) (u2 : Nat → Int32) (u3 : Nat → Int32) {H : Heap} {locs : List Loc} {ls : Array Slot} {pc : Nat}, Q r u0 u1 u2 u3 → wd D (va_A (ww_X7_set cI cC oT oT_s oT_aside oT_states oT_snapshot oT_text oT_serves oT_took oT_tookMany oT_helps oT_before oT_read T_thrown T_stateMany T_hasSnapshot T_length T_stopNumber T_stopError T_at T_isWell T_readMany T_s T_states) s.heap.size) s (ww_X7_set cI cC oT oT_s oT_aside oT_states oT_snapshot oT_text oT_serves oT_took oT_tookMany oT_helps oT_before oT_read u0 u1 T_hasSnapshot T_length T_stopNumber T_stopError T_at T_isWell T_readMany u2 u3) H locs → decode cX7_set pc = .ok (.ireturn, 1) → W p l e (headSpec wsX7_set rm_X7_set).room s m ([.ref oT, .int x1, .int x2] : List Value).toArray below meth c H locs 0 0 (MQ below (QiW D (fun (r : Int32) (u : Int32 × Int32 × (Nat → Int32) × (Nat → Int32)) => Q r u.1 u.2.1 u.2.2.1 u.2.2.2) (fun u => (ww_X7_set cI cC oT oT_s oT_aside oT_states oT_snapshot oT_text oT_serves oT_took oT_tookMany oT_helps oT_before oT_read (u.1) (u.2.1) T_hasSnapshot T_length T_stopNumber T_stopError T_at T_isWell T_readMany (u.2.2.1) (u.2.2.2))) (ww_X7_set cI cC oT oT_s oT_aside oT_states oT_snapshot oT_text oT_serves oT_took oT_tookMany oT_helps oT_before oT_read T_thrown T_stateMany T_hasSnapshot T_length T_stopNumber T_stopError T_at T_isWell T_readMany T_s T_states) s.heap.size) ([.ref oT, .int x1, .int x2] : List Value).toArray s 0 0 (va_A (ww_X7_set cI cC oT oT_s oT_aside oT_states oT_snapshot oT_text oT_serves oT_took oT_tookMany oT_helps oT_before oT_read T_thrown T_stateMany T_hasSnapshot T_length T_stopNumber T_stopError T_at T_isWell T_readMany T_s T_states) s.heap.size)) (F0 m pc ls [.int r]) := by
    intro r u0 u1 u2 u3 H locs ls pc hq hw9 hd9
    exact W.iret (v := r) hx hb hr (fun t ht hW => ⟨⟨r, (u0, u1, u2, u3), rfl, hq, by rw [ht]; exact hw9.1, hw9.2.1⟩, hw9.2.2.F ht⟩) hw9.2.2.2.2 hd9
  unfold wp_X7_set at hw
  refine lv_aload_n hx hb dX7_set_0 rfl (lv_at hl 0 rfl) ?_
  refine lv_iconst (v := (nI 0)) hx hb dX7_set_1 rfl ?_
  refine va_put (D := D) (ci := 7) (v := .int (nI 0)) (ty := .int) (C := RX7) (T := TX7) (N := 20) hx hb hts ic_X7_set_X7 tyX7 tyX7_ok nmX7 hown hKw.1 hwd.1 hwd.2.1 hwd.2.2 0 rfl rfl 0 (by decide) (hts (.fieldLink RX7 43 "DrillWardensModel" "thrown" "I") (List.mem_of_getElem? (i := 1) rfl)) (fun _ h9 => h9) rfl (tyX7_ok 0 (by decide)) rfl rfl (Nat.le_of_ble_eq_true rfl) dX7_set_2 (fun H locs h1 h2 h3 => ?_)
  replace hwd : wd D (va_A (ww_X7_set cI cC oT oT_s oT_aside oT_states oT_snapshot oT_text oT_serves oT_took oT_tookMany oT_helps oT_before oT_read T_thrown T_stateMany T_hasSnapshot T_length T_stopNumber T_stopError T_at T_isWell T_readMany T_s T_states) s.heap.size) s (ww_X7_set cI cC oT oT_s oT_aside oT_states oT_snapshot oT_text oT_serves oT_took oT_tookMany oT_helps oT_before oT_read (nI 0) T_stateMany T_hasSnapshot T_length T_stopNumber T_stopError T_at T_isWell T_readMany T_s T_states) H locs := ⟨h1, h2, h3⟩
  clear h1 h2 h3
  refine lv_iload_n hx hb dX7_set_5 rfl (lv_at hl 1 rfl) ?_
  refine lv_iconst (v := (nI 0)) hx hb dX7_set_6 rfl ?_
  refine lv_iconst (v := (nI 2)) hx hb dX7_set_7 rfl ?_
  refine kcSi (rest := []) (As := [.int x1, .int (nI 0), .int (nI 2)]) ⟨Nat.le_of_ble_eq_true rfl, Nat.le_of_ble_eq_true rfl⟩ ⟨hx, hb, hml, hown, hts⟩ (c_X7_in l H.size x1 (nI 0) (nI 2) hw) (va_cwS 3 hts gX7_set_X7_in rfl rfl rfl hd_X7_in ⟨Nat.le_of_ble_eq_true rfl, Nat.le_of_ble_eq_true rfl⟩) hKw hA hwd rfl hl.1 rfl (lv_room (Nat.le_of_ble_eq_true rfl)) dX7_set_8 (fun r1 H locs hw hwd => ?_)
  try dsimp only at hw
  refine lv_if_ne (tgt := 16) hx hb dX7_set_11 (by decide) (fun c2 => ?_) (fun c2 => ?_)
  · replace hw := hw.1 c2
    refine lv_iload_n hx hb dX7_set_16 rfl (lv_at hl 2 rfl) ?_
    refine lv_iconst (v := (nI 0)) hx hb dX7_set_17 rfl ?_
    refine lv_iload_n hx hb dX7_set_18 rfl (lv_at hl 1 rfl) ?_
    refine lv_if_ne (tgt := 26) hx hb dX7_set_19 (by decide) (fun c3 => ?_) (fun c3 => ?_)
    · replace hw := hw.1 c3
      refine lv_iconst (v := (nI 1)) hx hb dX7_set_26 rfl ?_
      refine blk_X7_set_27 (CX := CX) (oT := oT) (oT_s := oT_s) (oT_aside := oT_aside) (oT_states := oT_states) (oT_snapshot := oT_snapshot) (oT_text := oT_text) (oT_serves := oT_serves) (oT_took := oT_took) (oT_tookMany := oT_tookMany) (oT_helps := oT_helps) (oT_before := oT_before) (oT_read := oT_read) (T_thrown := (nI 0)) (T_stateMany := T_stateMany) (T_hasSnapshot := T_hasSnapshot) (T_length := T_length) (T_stopNumber := T_stopNumber) (T_stopError := T_stopError) (T_at := T_at) (T_isWell := T_isWell) (T_readMany := T_readMany) (T_s := T_s) (T_states := T_states) (x1 := x1) (x2 := x2) (HR := HR) x2 (nI 0) (nI 1) hw _ _ _ hwd hl
    · replace hw := hw.2 c3
      refine lv_iconst (v := (nI 2)) hx hb dX7_set_22 rfl ?_
      refine lv_goto (tgt := 27) hx hb dX7_set_23 (by decide) ?_
      refine blk_X7_set_27 (CX := CX) (oT := oT) (oT_s := oT_s) (oT_aside := oT_aside) (oT_states := oT_states) (oT_snapshot := oT_snapshot) (oT_text := oT_text) (oT_serves := oT_serves) (oT_took := oT_took) (oT_tookMany := oT_tookMany) (oT_helps := oT_helps) (oT_before := oT_before) (oT_read := oT_read) (T_thrown := (nI 0)) (T_stateMany := T_stateMany) (T_hasSnapshot := T_hasSnapshot) (T_length := T_length) (T_stopNumber := T_stopNumber) (T_stopError := T_stopError) (T_at := T_at) (T_isWell := T_isWell) (T_readMany := T_readMany) (T_s := T_s) (T_states := T_states) (x1 := x1) (x2 := x2) (HR := HR) x2 (nI 0) (nI 2) hw _ _ _ hwd hl
  · replace hw := hw.2 c2
    refine lv_iconst (v := (-1)) hx hb dX7_set_14 rfl ?_
    exact HR (-1) (nI 0) T_stateMany T_s T_states hw hwd dX7_set_15
abbrev ww_X7_isAway (cI cC : ClassId) (oT oT_s oT_aside oT_states oT_snapshot oT_text oT_serves oT_took oT_tookMany oT_helps oT_before oT_read : Nat) (T_thrown : Int32) (T_stateMany : Int32) (T_hasSnapshot : Int32) (T_length : Int32) (T_stopNumber : Int32) (T_stopError : Int32) (T_at : Int32) (T_isWell : Int32) (T_readMany : Int32) (T_s : Nat → Int32) : va_W := [(oT, .inr (7, [.int T_thrown, .ref oT_s, .ref oT_aside, .ref oT_states, .int T_stateMany, .ref oT_snapshot, .int T_hasSnapshot, .ref oT_text, .int T_length, .int T_stopNumber, .int T_stopError, .ref oT_serves, .ref oT_took, .ref oT_tookMany, .ref oT_helps, .ref oT_before, .int T_at, .int T_isWell, .ref oT_read, .int T_readMany])), (oT_s, .inl (cI, 474, .inl T_s))]
abbrev rm_X7_isAway : Room := { frames := 1, cells := 0, slots := 0, locals := 22 }
theorem ic_X7_isAway_X7 : ∀ w ∈ u_ws RX7 TX7 20, w ∈ wsX7_isAway := by
  intro w h
  simp only [wsX7_isAway, List.mem_cons, List.mem_append]
  simp only [h, or_true, true_or]
def wb_X7_isAway_6 (T_s : Nat → Int32) (x1 : Int32) (x2 : Int32) (x3 : Int32) (K_69 : Int32 → Prop) : Nat → Int32 → Int32 → Prop
  | 0, _, _ => False
  | n + 1, x4, x5 => vp_in (nI 6) 474 ∧ (((T_s (nI 6).toNatClampNeg) ≤ x5 → K_69 x4) ∧ (¬ (T_s (nI 6).toNatClampNeg) ≤ x5 → ((¬ x4 = 0 → ∀ x5_3, x5_3 = x5 + (nI 1) → wb_X7_isAway_6 T_s x1 x2 x3 K_69 n (nI 1) x5_3) ∧ (x4 = 0 → wp_X7_ofLeave T_s x5 (nI 0) (fun r4 => ((¬ r4 = x1 → ∀ x5_6, x5_6 = x5 + (nI 1) → wb_X7_isAway_6 T_s x1 x2 x3 K_69 n (nI 0) x5_6) ∧ (r4 = x1 → wp_X7_ofLeave T_s x5 (nI 1) (fun r7 => ((x3 < r7 → ∀ x5_9, x5_9 = x5 + (nI 1) → wb_X7_isAway_6 T_s x1 x2 x3 K_69 n (nI 0) x5_9) ∧ (¬ x3 < r7 → wp_X7_ofLeave T_s x5 (nI 2) (fun r10 => ((r10 < x2 → ∀ x5_12, x5_12 = x5 + (nI 1) → wb_X7_isAway_6 T_s x1 x2 x3 K_69 n (nI 0) x5_12) ∧ (¬ r10 < x2 → ∀ x5_13, x5_13 = x5 + (nI 1) → wb_X7_isAway_6 T_s x1 x2 x3 K_69 n (nI 1) x5_13)))))))))))))
set_option maxRecDepth 100000 in
set_option maxHeartbeats 4000000 in
theorem blk_X7_isAway_6 {p : Program} {l : Launch} {e : Env} {s : State} {m : MethodId} {args : Array Value} {below : List Frame} {meth : Method} {c : Code} {D : va_G} {cI cC cR : ClassId} {A : Nat → Prop} {Z : State → Prop} (CX : cx cX7_isAway (some .boolean) 6 RX7 wsX7_isAway p m meth c s args D cI cC cR A) (oT oT_s oT_aside oT_states oT_snapshot oT_text oT_serves oT_took oT_tookMany oT_helps oT_before oT_read : Nat) (T_thrown : Int32) (T_stateMany : Int32) (T_hasSnapshot : Int32) (T_length : Int32) (T_stopNumber : Int32) (T_stopError : Int32) (T_at : Int32) (T_isWell : Int32) (T_readMany : Int32) (T_s : Nat → Int32) (x1 : Int32) (x2 : Int32) (x3 : Int32) {K_69 : Int32 → Prop} {Q : Int32 → Prop} (HR : ∀ (r : Int32) {H : Heap} {locs : List Loc} {ls : Array Slot} {pc : Nat}, Q r → wd D A s (ww_X7_isAway cI cC oT oT_s oT_aside oT_states oT_snapshot oT_text oT_serves oT_took oT_tookMany oT_helps oT_before oT_read T_thrown T_stateMany T_hasSnapshot T_length T_stopNumber T_stopError T_at T_isWell T_readMany T_s) H locs → narrow .boolean (.int r) = .int r → decode cX7_isAway pc = .ok (.ireturn, 1) → W p l e (headSpec wsX7_isAway rm_X7_isAway).room s m args below meth c H locs 0 0 Z (F0 m pc ls [.int r])) (HK_69 : ∀ (x4y : Int32), K_69 x4y → ∀ (H : Heap) (locs : List Loc) (ls : Array Slot), wd D A s (ww_X7_isAway cI cC oT oT_s oT_aside oT_states oT_snapshot oT_text oT_serves oT_took oT_tookMany oT_helps oT_before oT_read T_thrown T_stateMany T_hasSnapshot T_length T_stopNumber T_stopError T_at T_isWell T_readMany T_s) H locs → lv_has ls 6 [(4, .int x4y)] → W p l e (headSpec wsX7_isAway rm_X7_isAway).room s m args below meth c H locs 0 0 Z (F0 m 69 ls [])) : ∀ (n : Nat) (x4 : Int32) (x5 : Int32), wb_X7_isAway_6 T_s x1 x2 x3 K_69 n x4 x5 → ∀ (H : Heap) (locs : List Loc) (ls : Array Slot), wd D A s (ww_X7_isAway cI cC oT oT_s oT_aside oT_states oT_snapshot oT_text oT_serves oT_took oT_tookMany oT_helps oT_before oT_read T_thrown T_stateMany T_hasSnapshot T_length T_stopNumber T_stopError T_at T_isWell T_readMany T_s) H locs → lv_has ls 6 [(0, .ref oT), (1, .int x1), (2, .int x2), (3, .int x3), (4, .int x4), (5, .int x5)] → W p l e (headSpec wsX7_isAway rm_X7_isAway).room s m args below meth c H locs 0 0 Z (F0 m 6 ls []) := by
  obtain ⟨hx, hb, hr, hml, hts, hown, hlocks, hKw, hA⟩ := id CX
  intro n
  induction n with
  | zero => intro x4 x5 hw; exact False.elim hw
  | succ n ih =>
    intro x4 x5 hw H locs ls hwd hl
    rw [wb_X7_isAway_6] at hw
    refine lv_iload hx hb dX7_isAway_6 (lv_at hl 5 rfl) ?_
    refine lv_aload_n hx hb dX7_isAway_8 rfl (lv_at hl 0 rfl) ?_
    refine va_get (D := D) (ci := 7) (v := .ref oT_s) (C := RX7) (T := TX7) (N := 20) hx hb hts ic_X7_isAway_X7 hown hKw.1 hwd.1 0 rfl rfl 1 (by decide) (hts (.fieldLink RX7 7 "DrillWardensModel" "s" "[I") (List.mem_of_getElem? (i := 1) rfl)) (fun _ h9 => h9) rfl dX7_isAway_9 ?_
    refine lv_bipush (v := (nI 6)) hx hb dX7_isAway_12 rfl ?_
    refine va_iald hx hb hKw.1 hwd.1 1 0 rfl rfl hw.1 dX7_isAway_14 ?_
    replace hw := hw.2
    refine lv_icmp_ge (tgt := 69) hx hb dX7_isAway_15 (by decide) (fun c1 => ?_) (fun c1 => ?_)
    · replace hw := hw.1 c1
      exact HK_69 x4 hw _ _ _ hwd (lv_sub hl [4] rfl)
    · replace hw := hw.2 c1
      refine lv_iload hx hb dX7_isAway_18 (lv_at hl 4 rfl) ?_
      refine lv_if_ne (tgt := 56) hx hb dX7_isAway_20 (by decide) (fun c2 => ?_) (fun c2 => ?_)
      · replace hw := hw.1 c2
        refine lv_iconst (v := (nI 1)) hx hb dX7_isAway_56 rfl ?_
        refine lv_goto (tgt := 61) hx hb dX7_isAway_57 (by decide) ?_
        refine lv_istore (lv' := [(4, .int (nI 1)), (0, .ref oT), (1, .int x1), (2, .int x2), (3, .int x3), (5, .int x5)]) hx hb dX7_isAway_61 hl (by decide) rfl (fun ls hl => ?_)
        obtain ⟨x5_3, e_x5_3⟩ : ∃ y : Int32, y = x5 + (nI 1) := ⟨_, rfl⟩
        replace hw := hw x5_3 e_x5_3
        refine lv_iinc (v := x5_3) (lv' := [(5, .int x5_3), (4, .int (nI 1)), (0, .ref oT), (1, .int x1), (2, .int x2), (3, .int x3)]) hx hb dX7_isAway_63 hl (k := 5) rfl (by rw [e_x5_3]; rfl) (by decide) rfl (fun ls hl => ?_)
        refine lv_goto (tgt := 6) hx hb dX7_isAway_66 (by decide) ?_
        exact ih (nI 1) x5_3 hw _ _ _ hwd (lv_sub hl [2, 3, 4, 5, 1, 0] rfl)
      · replace hw := hw.2 c2
        refine lv_aload_n hx hb dX7_isAway_23 rfl (lv_at hl 0 rfl) ?_
        refine lv_iload hx hb dX7_isAway_24 (lv_at hl 5 rfl) ?_
        refine lv_iconst (v := (nI 0)) hx hb dX7_isAway_26 rfl ?_
        refine kcVi (W1 := (fun u => (ww_X7_isAway cI cC oT oT_s oT_aside oT_states oT_snapshot oT_text oT_serves oT_took oT_tookMany oT_helps oT_before oT_read T_thrown T_stateMany T_hasSnapshot T_length T_stopNumber T_stopError T_at T_isWell T_readMany T_s))) (rest := []) (As := [.int x5, .int (nI 0)]) ⟨Nat.le_of_ble_eq_true rfl, Nat.le_of_ble_eq_true rfl⟩ ⟨hx, hb, hml, hown, hts⟩ (c_X7_ofLeave l oT oT_s oT_aside oT_states oT_snapshot oT_text oT_serves oT_took oT_tookMany oT_helps oT_before oT_read H.size T_thrown T_stateMany T_hasSnapshot T_length T_stopNumber T_stopError T_at T_isWell T_readMany T_s x5 (nI 0) hw) (cwV 2 hts gX7_isAway_X7_ofLeave rfl rfl rfl ⟨rfl, hd_X7_ofLeave⟩ ⟨Nat.le_of_ble_eq_true rfl, Nat.le_of_ble_eq_true rfl⟩) hKw hA hwd [0, 1] [] [0, 1] [] rfl rfl rfl rfl (by decide) rfl (fun _ => rfl) 0 7 rfl rfl rfl rfl hl.1 rfl (lv_room (Nat.le_of_ble_eq_true rfl)) dX7_isAway_27 (fun r4 u H locs hw hwd => ?_)
        try dsimp only at hw
        replace hwd : wd D A s (ww_X7_isAway cI cC oT oT_s oT_aside oT_states oT_snapshot oT_text oT_serves oT_took oT_tookMany oT_helps oT_before oT_read T_thrown T_stateMany T_hasSnapshot T_length T_stopNumber T_stopError T_at T_isWell T_readMany T_s) H locs := hwd
        refine lv_iload_n hx hb dX7_isAway_30 rfl (lv_at hl 1 rfl) ?_
        refine lv_icmp_ne (tgt := 60) hx hb dX7_isAway_31 (by decide) (fun c5 => ?_) (fun c5 => ?_)
        · replace hw := hw.1 c5
          refine lv_iconst (v := (nI 0)) hx hb dX7_isAway_60 rfl ?_
          refine lv_istore (lv' := [(4, .int (nI 0)), (0, .ref oT), (1, .int x1), (2, .int x2), (3, .int x3), (5, .int x5)]) hx hb dX7_isAway_61 hl (by decide) rfl (fun ls hl => ?_)
          obtain ⟨x5_6, e_x5_6⟩ : ∃ y : Int32, y = x5 + (nI 1) := ⟨_, rfl⟩
          replace hw := hw x5_6 e_x5_6
          refine lv_iinc (v := x5_6) (lv' := [(5, .int x5_6), (4, .int (nI 0)), (0, .ref oT), (1, .int x1), (2, .int x2), (3, .int x3)]) hx hb dX7_isAway_63 hl (k := 5) rfl (by rw [e_x5_6]; rfl) (by decide) rfl (fun ls hl => ?_)
          refine lv_goto (tgt := 6) hx hb dX7_isAway_66 (by decide) ?_
          exact ih (nI 0) x5_6 hw _ _ _ hwd (lv_sub hl [2, 3, 4, 5, 1, 0] rfl)
        · replace hw := hw.2 c5
          refine lv_aload_n hx hb dX7_isAway_34 rfl (lv_at hl 0 rfl) ?_
          refine lv_iload hx hb dX7_isAway_35 (lv_at hl 5 rfl) ?_
          refine lv_iconst (v := (nI 1)) hx hb dX7_isAway_37 rfl ?_
          refine kcVi (W1 := (fun u => (ww_X7_isAway cI cC oT oT_s oT_aside oT_states oT_snapshot oT_text oT_serves oT_took oT_tookMany oT_helps oT_before oT_read T_thrown T_stateMany T_hasSnapshot T_length T_stopNumber T_stopError T_at T_isWell T_readMany T_s))) (rest := []) (As := [.int x5, .int (nI 1)]) ⟨Nat.le_of_ble_eq_true rfl, Nat.le_of_ble_eq_true rfl⟩ ⟨hx, hb, hml, hown, hts⟩ (c_X7_ofLeave l oT oT_s oT_aside oT_states oT_snapshot oT_text oT_serves oT_took oT_tookMany oT_helps oT_before oT_read H.size T_thrown T_stateMany T_hasSnapshot T_length T_stopNumber T_stopError T_at T_isWell T_readMany T_s x5 (nI 1) hw) (cwV 2 hts gX7_isAway_X7_ofLeave rfl rfl rfl ⟨rfl, hd_X7_ofLeave⟩ ⟨Nat.le_of_ble_eq_true rfl, Nat.le_of_ble_eq_true rfl⟩) hKw hA hwd [0, 1] [] [0, 1] [] rfl rfl rfl rfl (by decide) rfl (fun _ => rfl) 0 7 rfl rfl rfl rfl hl.1 rfl (lv_room (Nat.le_of_ble_eq_true rfl)) dX7_isAway_38 (fun r7 u H locs hw hwd => ?_)
          try dsimp only at hw
          replace hwd : wd D A s (ww_X7_isAway cI cC oT oT_s oT_aside oT_states oT_snapshot oT_text oT_serves oT_took oT_tookMany oT_helps oT_before oT_read T_thrown T_stateMany T_hasSnapshot T_length T_stopNumber T_stopError T_at T_isWell T_readMany T_s) H locs := hwd
          refine lv_iload_n hx hb dX7_isAway_41 rfl (lv_at hl 3 rfl) ?_
          refine lv_icmp_gt (tgt := 60) hx hb dX7_isAway_42 (by decide) (fun c8 => ?_) (fun c8 => ?_)
          · replace hw := hw.1 c8
            refine lv_iconst (v := (nI 0)) hx hb dX7_isAway_60 rfl ?_
            refine lv_istore (lv' := [(4, .int (nI 0)), (0, .ref oT), (1, .int x1), (2, .int x2), (3, .int x3), (5, .int x5)]) hx hb dX7_isAway_61 hl (by decide) rfl (fun ls hl => ?_)
            obtain ⟨x5_9, e_x5_9⟩ : ∃ y : Int32, y = x5 + (nI 1) := ⟨_, rfl⟩
            replace hw := hw x5_9 e_x5_9
            refine lv_iinc (v := x5_9) (lv' := [(5, .int x5_9), (4, .int (nI 0)), (0, .ref oT), (1, .int x1), (2, .int x2), (3, .int x3)]) hx hb dX7_isAway_63 hl (k := 5) rfl (by rw [e_x5_9]; rfl) (by decide) rfl (fun ls hl => ?_)
            refine lv_goto (tgt := 6) hx hb dX7_isAway_66 (by decide) ?_
            exact ih (nI 0) x5_9 hw _ _ _ hwd (lv_sub hl [2, 3, 4, 5, 1, 0] rfl)
          · replace hw := hw.2 c8
            refine lv_aload_n hx hb dX7_isAway_45 rfl (lv_at hl 0 rfl) ?_
            refine lv_iload hx hb dX7_isAway_46 (lv_at hl 5 rfl) ?_
            refine lv_iconst (v := (nI 2)) hx hb dX7_isAway_48 rfl ?_
            refine kcVi (W1 := (fun u => (ww_X7_isAway cI cC oT oT_s oT_aside oT_states oT_snapshot oT_text oT_serves oT_took oT_tookMany oT_helps oT_before oT_read T_thrown T_stateMany T_hasSnapshot T_length T_stopNumber T_stopError T_at T_isWell T_readMany T_s))) (rest := []) (As := [.int x5, .int (nI 2)]) ⟨Nat.le_of_ble_eq_true rfl, Nat.le_of_ble_eq_true rfl⟩ ⟨hx, hb, hml, hown, hts⟩ (c_X7_ofLeave l oT oT_s oT_aside oT_states oT_snapshot oT_text oT_serves oT_took oT_tookMany oT_helps oT_before oT_read H.size T_thrown T_stateMany T_hasSnapshot T_length T_stopNumber T_stopError T_at T_isWell T_readMany T_s x5 (nI 2) hw) (cwV 2 hts gX7_isAway_X7_ofLeave rfl rfl rfl ⟨rfl, hd_X7_ofLeave⟩ ⟨Nat.le_of_ble_eq_true rfl, Nat.le_of_ble_eq_true rfl⟩) hKw hA hwd [0, 1] [] [0, 1] [] rfl rfl rfl rfl (by decide) rfl (fun _ => rfl) 0 7 rfl rfl rfl rfl hl.1 rfl (lv_room (Nat.le_of_ble_eq_true rfl)) dX7_isAway_49 (fun r10 u H locs hw hwd => ?_)
            try dsimp only at hw
            replace hwd : wd D A s (ww_X7_isAway cI cC oT oT_s oT_aside oT_states oT_snapshot oT_text oT_serves oT_took oT_tookMany oT_helps oT_before oT_read T_thrown T_stateMany T_hasSnapshot T_length T_stopNumber T_stopError T_at T_isWell T_readMany T_s) H locs := hwd
            refine lv_iload_n hx hb dX7_isAway_52 rfl (lv_at hl 2 rfl) ?_
            refine lv_icmp_lt (tgt := 60) hx hb dX7_isAway_53 (by decide) (fun c11 => ?_) (fun c11 => ?_)
            · replace hw := hw.1 c11
              refine lv_iconst (v := (nI 0)) hx hb dX7_isAway_60 rfl ?_
              refine lv_istore (lv' := [(4, .int (nI 0)), (0, .ref oT), (1, .int x1), (2, .int x2), (3, .int x3), (5, .int x5)]) hx hb dX7_isAway_61 hl (by decide) rfl (fun ls hl => ?_)
              obtain ⟨x5_12, e_x5_12⟩ : ∃ y : Int32, y = x5 + (nI 1) := ⟨_, rfl⟩
              replace hw := hw x5_12 e_x5_12
              refine lv_iinc (v := x5_12) (lv' := [(5, .int x5_12), (4, .int (nI 0)), (0, .ref oT), (1, .int x1), (2, .int x2), (3, .int x3)]) hx hb dX7_isAway_63 hl (k := 5) rfl (by rw [e_x5_12]; rfl) (by decide) rfl (fun ls hl => ?_)
              refine lv_goto (tgt := 6) hx hb dX7_isAway_66 (by decide) ?_
              exact ih (nI 0) x5_12 hw _ _ _ hwd (lv_sub hl [2, 3, 4, 5, 1, 0] rfl)
            · replace hw := hw.2 c11
              refine lv_iconst (v := (nI 1)) hx hb dX7_isAway_56 rfl ?_
              refine lv_goto (tgt := 61) hx hb dX7_isAway_57 (by decide) ?_
              refine lv_istore (lv' := [(4, .int (nI 1)), (0, .ref oT), (1, .int x1), (2, .int x2), (3, .int x3), (5, .int x5)]) hx hb dX7_isAway_61 hl (by decide) rfl (fun ls hl => ?_)
              obtain ⟨x5_13, e_x5_13⟩ : ∃ y : Int32, y = x5 + (nI 1) := ⟨_, rfl⟩
              replace hw := hw x5_13 e_x5_13
              refine lv_iinc (v := x5_13) (lv' := [(5, .int x5_13), (4, .int (nI 1)), (0, .ref oT), (1, .int x1), (2, .int x2), (3, .int x3)]) hx hb dX7_isAway_63 hl (k := 5) rfl (by rw [e_x5_13]; rfl) (by decide) rfl (fun ls hl => ?_)
              refine lv_goto (tgt := 6) hx hb dX7_isAway_66 (by decide) ?_
              exact ih (nI 1) x5_13 hw _ _ _ hwd (lv_sub hl [2, 3, 4, 5, 1, 0] rfl)
def wp_X7_isAway (T_s : Nat → Int32) (x1 : Int32) (x2 : Int32) (x3 : Int32) (Q : Int32 → Prop) : Prop := (∃ n1, wb_X7_isAway_6 T_s x1 x2 x3 (fun x4_2 => (narrow .boolean (.int x4_2) = .int x4_2 ∧ Q x4_2)) n1 (nI 0) (nI 0))
set_option maxRecDepth 100000 in
set_option maxHeartbeats 4000000 in
theorem c_X7_isAway (l : Launch) {D : va_G} {cI cC cR : ClassId} (oT oT_s oT_aside oT_states oT_snapshot oT_text oT_serves oT_took oT_tookMany oT_helps oT_before oT_read : Nat) (sz : Nat) (T_thrown : Int32) (T_stateMany : Int32) (T_hasSnapshot : Int32) (T_length : Int32) (T_stopNumber : Int32) (T_stopError : Int32) (T_at : Int32) (T_isWell : Int32) (T_readMany : Int32) (T_s : Nat → Int32) (x1 : Int32) (x2 : Int32) (x3 : Int32) {Q : Int32 → Prop} (hw : wp_X7_isAway T_s x1 x2 x3 Q) : Met l yX7_isAway wsX7_isAway rm_X7_isAway (PcW D cI cC cR [.ref oT, .int x1, .int x2, .int x3] (ww_X7_isAway cI cC oT oT_s oT_aside oT_states oT_snapshot oT_text oT_serves oT_took oT_tookMany oT_helps oT_before oT_read T_thrown T_stateMany T_hasSnapshot T_length T_stopNumber T_stopError T_at T_isWell T_readMany T_s) sz) (QiW D (fun (r : Int32) (u : Unit) => Q r ) (fun u => (ww_X7_isAway cI cC oT oT_s oT_aside oT_states oT_snapshot oT_text oT_serves oT_took oT_tookMany oT_helps oT_before oT_read T_thrown T_stateMany T_hasSnapshot T_length T_stopNumber T_stopError T_at T_isWell T_readMany T_s)) (ww_X7_isAway cI cC oT oT_s oT_aside oT_states oT_snapshot oT_text oT_serves oT_took oT_tookMany oT_helps oT_before oT_read T_thrown T_stateMany T_hasSnapshot T_length T_stopNumber T_stopError T_at T_isWell T_readMany T_s) sz) 0 0 (va_A (ww_X7_isAway cI cC oT oT_s oT_aside oT_states oT_snapshot oT_text oT_serves oT_took oT_tookMany oT_helps oT_before oT_read T_thrown T_stateMany T_hasSnapshot T_length T_stopNumber T_stopError T_at T_isWell T_readMany T_s) sz) := by
  refine Met.ofW (cc := cX7_isAway) (maxL := 6) (ret := (some .boolean)) (by decide) rfl ?_
  intro p e s m args below meth c s₁ B hml hv
  obtain ⟨rfl, hsz, hP, hKw, hD0⟩ := hv
  have hlocks := B.notSynchronized
  subst hsz
  have hD := hD0.self (sz := s.heap.size)
  have CX : cx cX7_isAway (some .boolean) 6 RX7 wsX7_isAway p m meth c s ([.ref oT, .int x1, .int x2, .int x3] : List Value).toArray D cI cC cR (va_A (ww_X7_isAway cI cC oT oT_s oT_aside oT_states oT_snapshot oT_text oT_serves oT_took oT_tookMany oT_helps oT_before oT_read T_thrown T_stateMany T_hasSnapshot T_length T_stopNumber T_stopError T_at T_isWell T_readMany T_s) s.heap.size) := ⟨B.exec, B.bytes, B.returns, hml, atoms_spec (ws := wsX7_isAway) B.pre, findClass_of_methodNamed B.named, hlocks, hKw, fun q h => Or.inr h⟩
  obtain ⟨hx, hb, hr, -, hts, hown, -, -, hA⟩ := id CX
  have hwd : wd D (va_A (ww_X7_isAway cI cC oT oT_s oT_aside oT_states oT_snapshot oT_text oT_serves oT_took oT_tookMany oT_helps oT_before oT_read T_thrown T_stateMany T_hasSnapshot T_length T_stopNumber T_stopError T_at T_isWell T_readMany T_s) s.heap.size) s (ww_X7_isAway cI cC oT oT_s oT_aside oT_states oT_snapshot oT_text oT_serves oT_took oT_tookMany oT_helps oT_before oT_read T_thrown T_stateMany T_hasSnapshot T_length T_stopNumber T_stopError T_at T_isWell T_readMany T_s) s.heap [] := ⟨hP, hD, va_S.rf⟩
  have hl := lv_entry ([.ref oT, .int x1, .int x2, .int x3]) (n := 6) (Nat.le_of_ble_eq_true rfl)
  rw [lg_entry_eq]
  generalize (lg_sl ([.ref oT, .int x1, .int x2, .int x3]) ++ List.replicate (6 - (lg_sl ([.ref oT, .int x1, .int x2, .int x3])).length) Slot.unset).toArray = ls at hl ⊢
  have hl : lv_has ls 6 [(0, .ref oT), (1, .int x1), (2, .int x2), (3, .int x3)] := hl
  have HR : ∀ (r : Int32) {H : Heap} {locs : List Loc} {ls : Array Slot} {pc : Nat}, Q r → wd D (va_A (ww_X7_isAway cI cC oT oT_s oT_aside oT_states oT_snapshot oT_text oT_serves oT_took oT_tookMany oT_helps oT_before oT_read T_thrown T_stateMany T_hasSnapshot T_length T_stopNumber T_stopError T_at T_isWell T_readMany T_s) s.heap.size) s (ww_X7_isAway cI cC oT oT_s oT_aside oT_states oT_snapshot oT_text oT_serves oT_took oT_tookMany oT_helps oT_before oT_read T_thrown T_stateMany T_hasSnapshot T_length T_stopNumber T_stopError T_at T_isWell T_readMany T_s) H locs → narrow .boolean (.int r) = .int r → decode cX7_isAway pc = .ok (.ireturn, 1) → W p l e (headSpec wsX7_isAway rm_X7_isAway).room s m ([.ref oT, .int x1, .int x2, .int x3] : List Value).toArray below meth c H locs 0 0 (MQ below (QiW D (fun (r : Int32) (u : Unit) => Q r ) (fun u => (ww_X7_isAway cI cC oT oT_s oT_aside oT_states oT_snapshot oT_text oT_serves oT_took oT_tookMany oT_helps oT_before oT_read T_thrown T_stateMany T_hasSnapshot T_length T_stopNumber T_stopError T_at T_isWell T_readMany T_s)) (ww_X7_isAway cI cC oT oT_s oT_aside oT_states oT_snapshot oT_text oT_serves oT_took oT_tookMany oT_helps oT_before oT_read T_thrown T_stateMany T_hasSnapshot T_length T_stopNumber T_stopError T_at T_isWell T_readMany T_s) s.heap.size) ([.ref oT, .int x1, .int x2, .int x3] : List Value).toArray s 0 0 (va_A (ww_X7_isAway cI cC oT oT_s oT_aside oT_states oT_snapshot oT_text oT_serves oT_took oT_tookMany oT_helps oT_before oT_read T_thrown T_stateMany T_hasSnapshot T_length T_stopNumber T_stopError T_at T_isWell T_readMany T_s) s.heap.size)) (F0 m pc ls [.int r]) := by
    intro r H locs ls pc hq hw9 hn9 hd9
    exact W.zret (v := r) hx hb hr hn9 (fun t ht hW => ⟨⟨r, (), rfl, hq, by rw [ht]; exact hw9.1, hw9.2.1⟩, hw9.2.2.F ht⟩) hw9.2.2.2.2 hd9
  unfold wp_X7_isAway at hw
  refine lv_iconst (v := (nI 0)) hx hb dX7_isAway_0 rfl ?_
  refine lv_istore (lv' := [(4, .int (nI 0)), (0, .ref oT), (1, .int x1), (2, .int x2), (3, .int x3)]) hx hb dX7_isAway_1 hl (by decide) rfl (fun ls hl => ?_)
  refine lv_iconst (v := (nI 0)) hx hb dX7_isAway_3 rfl ?_
  refine lv_istore (lv' := [(5, .int (nI 0)), (4, .int (nI 0)), (0, .ref oT), (1, .int x1), (2, .int x2), (3, .int x3)]) hx hb dX7_isAway_4 hl (by decide) rfl (fun ls hl => ?_)
  obtain ⟨n1, hw⟩ := hw
  refine blk_X7_isAway_6 (CX := CX) (oT := oT) (oT_s := oT_s) (oT_aside := oT_aside) (oT_states := oT_states) (oT_snapshot := oT_snapshot) (oT_text := oT_text) (oT_serves := oT_serves) (oT_took := oT_took) (oT_tookMany := oT_tookMany) (oT_helps := oT_helps) (oT_before := oT_before) (oT_read := oT_read) (T_thrown := T_thrown) (T_stateMany := T_stateMany) (T_hasSnapshot := T_hasSnapshot) (T_length := T_length) (T_stopNumber := T_stopNumber) (T_stopError := T_stopError) (T_at := T_at) (T_isWell := T_isWell) (T_readMany := T_readMany) (T_s := T_s) (x1 := x1) (x2 := x2) (x3 := x3) (HR := HR) (HK_69 := fun x4_2 hw H locs ls hwd hl => ?_) n1 (nI 0) (nI 0) hw _ _ _ hwd (lv_sub hl [2, 3, 4, 5, 1, 0] rfl)
  try dsimp only at hw
  refine lv_iload hx hb dX7_isAway_69 (lv_at hl 0 rfl) ?_
  exact HR x4_2 hw.2 hwd hw.1 dX7_isAway_71
abbrev ww_X7_grants (cI cC : ClassId) (oT oT_s oT_aside oT_states oT_snapshot oT_text oT_serves oT_took oT_tookMany oT_helps oT_before oT_read : Nat) (T_thrown : Int32) (T_stateMany : Int32) (T_hasSnapshot : Int32) (T_length : Int32) (T_stopNumber : Int32) (T_stopError : Int32) (T_at : Int32) (T_isWell : Int32) (T_readMany : Int32) (T_s : Nat → Int32) : va_W := [(oT, .inr (7, [.int T_thrown, .ref oT_s, .ref oT_aside, .ref oT_states, .int T_stateMany, .ref oT_snapshot, .int T_hasSnapshot, .ref oT_text, .int T_length, .int T_stopNumber, .int T_stopError, .ref oT_serves, .ref oT_took, .ref oT_tookMany, .ref oT_helps, .ref oT_before, .int T_at, .int T_isWell, .ref oT_read, .int T_readMany])), (oT_s, .inl (cI, 474, .inl T_s))]
abbrev rm_X7_grants : Room := { frames := 0, cells := 0, slots := 0, locals := 0 }
theorem ic_X7_grants_X7 : ∀ w ∈ u_ws RX7 TX7 20, w ∈ wsX7_grants := by
  intro w h
  simp only [wsX7_grants, List.mem_cons, List.mem_append]
  simp only [h, or_true, true_or]
def wp_X7_grants (T_s : Nat → Int32) (x1 : Int32) (x2 : Int32) (x3 : Int32) (Q : (Nat → Int32) → Prop) : Prop := vp_in (nI 6) 474 ∧ vp_in ((nI 350) + ((nI 3) * (T_s (nI 6).toNatClampNeg))) 474 ∧ ∀ T_s1, T_s1 = upd T_s ((nI 350) + ((nI 3) * (T_s (nI 6).toNatClampNeg))).toNatClampNeg x1 → vp_in (nI 6) 474 ∧ vp_in (((nI 350) + ((nI 3) * (T_s1 (nI 6).toNatClampNeg))) + (nI 1)) 474 ∧ ∀ T_s2, T_s2 = upd T_s1 (((nI 350) + ((nI 3) * (T_s1 (nI 6).toNatClampNeg))) + (nI 1)).toNatClampNeg x2 → vp_in (nI 6) 474 ∧ vp_in (((nI 350) + ((nI 3) * (T_s2 (nI 6).toNatClampNeg))) + (nI 2)) 474 ∧ ∀ T_s3, T_s3 = upd T_s2 (((nI 350) + ((nI 3) * (T_s2 (nI 6).toNatClampNeg))) + (nI 2)).toNatClampNeg x3 → vp_in (nI 6) 474 ∧ vp_in (nI 6) 474 ∧ ∀ T_s4, T_s4 = upd T_s3 (nI 6).toNatClampNeg ((T_s3 (nI 6).toNatClampNeg) + (nI 1)) → Q T_s4
set_option maxRecDepth 100000 in
set_option maxHeartbeats 4000000 in
theorem c_X7_grants (l : Launch) {D : va_G} {cI cC cR : ClassId} (oT oT_s oT_aside oT_states oT_snapshot oT_text oT_serves oT_took oT_tookMany oT_helps oT_before oT_read : Nat) (sz : Nat) (T_thrown : Int32) (T_stateMany : Int32) (T_hasSnapshot : Int32) (T_length : Int32) (T_stopNumber : Int32) (T_stopError : Int32) (T_at : Int32) (T_isWell : Int32) (T_readMany : Int32) (T_s : Nat → Int32) (x1 : Int32) (x2 : Int32) (x3 : Int32) {Q : (Nat → Int32) → Prop} (hw : wp_X7_grants T_s x1 x2 x3 Q) : Met l yX7_grants wsX7_grants rm_X7_grants (PcW D cI cC cR [.ref oT, .int x1, .int x2, .int x3] (ww_X7_grants cI cC oT oT_s oT_aside oT_states oT_snapshot oT_text oT_serves oT_took oT_tookMany oT_helps oT_before oT_read T_thrown T_stateMany T_hasSnapshot T_length T_stopNumber T_stopError T_at T_isWell T_readMany T_s) sz) (QvW D (fun (u : (Nat → Int32)) => Q u) (fun u => (ww_X7_grants cI cC oT oT_s oT_aside oT_states oT_snapshot oT_text oT_serves oT_took oT_tookMany oT_helps oT_before oT_read T_thrown T_stateMany T_hasSnapshot T_length T_stopNumber T_stopError T_at T_isWell T_readMany u)) (ww_X7_grants cI cC oT oT_s oT_aside oT_states oT_snapshot oT_text oT_serves oT_took oT_tookMany oT_helps oT_before oT_read T_thrown T_stateMany T_hasSnapshot T_length T_stopNumber T_stopError T_at T_isWell T_readMany T_s) sz) 0 0 (va_A (ww_X7_grants cI cC oT oT_s oT_aside oT_states oT_snapshot oT_text oT_serves oT_took oT_tookMany oT_helps oT_before oT_read T_thrown T_stateMany T_hasSnapshot T_length T_stopNumber T_stopError T_at T_isWell T_readMany T_s) sz) := by
  refine Met.ofW (cc := cX7_grants) (maxL := 4) (ret := none) (by decide) rfl ?_
  intro p e s m args below meth c s₁ B hml hv
  obtain ⟨rfl, hsz, hP, hKw, hD0⟩ := hv
  have hlocks := B.notSynchronized
  subst hsz
  have hD := hD0.self (sz := s.heap.size)
  have CX : cx cX7_grants none 4 RX7 wsX7_grants p m meth c s ([.ref oT, .int x1, .int x2, .int x3] : List Value).toArray D cI cC cR (va_A (ww_X7_grants cI cC oT oT_s oT_aside oT_states oT_snapshot oT_text oT_serves oT_took oT_tookMany oT_helps oT_before oT_read T_thrown T_stateMany T_hasSnapshot T_length T_stopNumber T_stopError T_at T_isWell T_readMany T_s) s.heap.size) := ⟨B.exec, B.bytes, B.returns, hml, atoms_spec (ws := wsX7_grants) B.pre, findClass_of_methodNamed B.named, hlocks, hKw, fun q h => Or.inr h⟩
  obtain ⟨hx, hb, hr, -, hts, hown, -, -, hA⟩ := id CX
  have hwd : wd D (va_A (ww_X7_grants cI cC oT oT_s oT_aside oT_states oT_snapshot oT_text oT_serves oT_took oT_tookMany oT_helps oT_before oT_read T_thrown T_stateMany T_hasSnapshot T_length T_stopNumber T_stopError T_at T_isWell T_readMany T_s) s.heap.size) s (ww_X7_grants cI cC oT oT_s oT_aside oT_states oT_snapshot oT_text oT_serves oT_took oT_tookMany oT_helps oT_before oT_read T_thrown T_stateMany T_hasSnapshot T_length T_stopNumber T_stopError T_at T_isWell T_readMany T_s) s.heap [] := ⟨hP, hD, va_S.rf⟩
  have hl := lv_entry ([.ref oT, .int x1, .int x2, .int x3]) (n := 4) (Nat.le_of_ble_eq_true rfl)
  rw [lg_entry_eq]
  generalize (lg_sl ([.ref oT, .int x1, .int x2, .int x3]) ++ List.replicate (4 - (lg_sl ([.ref oT, .int x1, .int x2, .int x3])).length) Slot.unset).toArray = ls at hl ⊢
  have hl : lv_has ls 4 [(0, .ref oT), (1, .int x1), (2, .int x2), (3, .int x3)] := hl
  have HR : ∀ (u0 : Nat → Int32) {H : Heap} {locs : List Loc} {ls : Array Slot} {pc : Nat}, Q u0 → wd D (va_A (ww_X7_grants cI cC oT oT_s oT_aside oT_states oT_snapshot oT_text oT_serves oT_took oT_tookMany oT_helps oT_before oT_read T_thrown T_stateMany T_hasSnapshot T_length T_stopNumber T_stopError T_at T_isWell T_readMany T_s) s.heap.size) s (ww_X7_grants cI cC oT oT_s oT_aside oT_states oT_snapshot oT_text oT_serves oT_took oT_tookMany oT_helps oT_before oT_read T_thrown T_stateMany T_hasSnapshot T_length T_stopNumber T_stopError T_at T_isWell T_readMany u0) H locs → decode cX7_grants pc = .ok (.return_, 1) → W p l e (headSpec wsX7_grants rm_X7_grants).room s m ([.ref oT, .int x1, .int x2, .int x3] : List Value).toArray below meth c H locs 0 0 (MQ below (QvW D (fun (u : (Nat → Int32)) => Q u) (fun u => (ww_X7_grants cI cC oT oT_s oT_aside oT_states oT_snapshot oT_text oT_serves oT_took oT_tookMany oT_helps oT_before oT_read T_thrown T_stateMany T_hasSnapshot T_length T_stopNumber T_stopError T_at T_isWell T_readMany u)) (ww_X7_grants cI cC oT oT_s oT_aside oT_states oT_snapshot oT_text oT_serves oT_took oT_tookMany oT_helps oT_before oT_read T_thrown T_stateMany T_hasSnapshot T_length T_stopNumber T_stopError T_at T_isWell T_readMany T_s) s.heap.size) ([.ref oT, .int x1, .int x2, .int x3] : List Value).toArray s 0 0 (va_A (ww_X7_grants cI cC oT oT_s oT_aside oT_states oT_snapshot oT_text oT_serves oT_took oT_tookMany oT_helps oT_before oT_read T_thrown T_stateMany T_hasSnapshot T_length T_stopNumber T_stopError T_at T_isWell T_readMany T_s) s.heap.size)) (F0 m pc ls []) := by
    intro u0 H locs ls pc hq hw9 hd9
    exact W.vret hx hb hr (fun t ht hW => ⟨⟨u0, rfl, hq, by rw [ht]; exact hw9.1, hw9.2.1⟩, hw9.2.2.F ht⟩) hw9.2.2.2.2 hd9
  unfold wp_X7_grants at hw
  refine lv_aload_n hx hb dX7_grants_0 rfl (lv_at hl 0 rfl) ?_
  refine va_get (D := D) (ci := 7) (v := .ref oT_s) (C := RX7) (T := TX7) (N := 20) hx hb hts ic_X7_grants_X7 hown hKw.1 hwd.1 0 rfl rfl 1 (by decide) (hts (.fieldLink RX7 7 "DrillWardensModel" "s" "[I") (List.mem_of_getElem? (i := 1) rfl)) (fun _ h9 => h9) rfl dX7_grants_1 ?_
  refine lv_sipush (v := (nI 350)) hx hb dX7_grants_4 rfl ?_
  refine lv_iconst (v := (nI 3)) hx hb dX7_grants_7 rfl ?_
  refine lv_aload_n hx hb dX7_grants_8 rfl (lv_at hl 0 rfl) ?_
  refine va_get (D := D) (ci := 7) (v := .ref oT_s) (C := RX7) (T := TX7) (N := 20) hx hb hts ic_X7_grants_X7 hown hKw.1 hwd.1 0 rfl rfl 1 (by decide) (hts (.fieldLink RX7 7 "DrillWardensModel" "s" "[I") (List.mem_of_getElem? (i := 1) rfl)) (fun _ h9 => h9) rfl dX7_grants_9 ?_
  refine lv_bipush (v := (nI 6)) hx hb dX7_grants_12 rfl ?_
  refine va_iald hx hb hKw.1 hwd.1 1 0 rfl rfl hw.1 dX7_grants_14 ?_
  replace hw := hw.2
  refine lv_imul hx hb dX7_grants_15 ?_
  refine lv_iadd hx hb dX7_grants_16 ?_
  refine lv_iload_n hx hb dX7_grants_17 rfl (lv_at hl 1 rfl) ?_
  obtain ⟨T_s1, e_T_s1⟩ : ∃ y : Nat → Int32, y = upd T_s ((nI 350) + ((nI 3) * (T_s (nI 6).toNatClampNeg))).toNatClampNeg x1 := ⟨_, rfl⟩
  refine va_iast hx hb hKw.1 hwd.1 hwd.2.1 hwd.2.2 1 0 rfl rfl hw.1 dX7_grants_18 (fun H locs h1 h2 h3 => ?_)
  replace hw := hw.2 T_s1 e_T_s1
  rw [← e_T_s1] at h1 h2
  replace hwd : wd D (va_A (ww_X7_grants cI cC oT oT_s oT_aside oT_states oT_snapshot oT_text oT_serves oT_took oT_tookMany oT_helps oT_before oT_read T_thrown T_stateMany T_hasSnapshot T_length T_stopNumber T_stopError T_at T_isWell T_readMany T_s) s.heap.size) s (ww_X7_grants cI cC oT oT_s oT_aside oT_states oT_snapshot oT_text oT_serves oT_took oT_tookMany oT_helps oT_before oT_read T_thrown T_stateMany T_hasSnapshot T_length T_stopNumber T_stopError T_at T_isWell T_readMany T_s1) H locs := ⟨h1, h2, h3⟩
  clear h1 h2 h3
  refine lv_aload_n hx hb dX7_grants_19 rfl (lv_at hl 0 rfl) ?_
  refine va_get (D := D) (ci := 7) (v := .ref oT_s) (C := RX7) (T := TX7) (N := 20) hx hb hts ic_X7_grants_X7 hown hKw.1 hwd.1 0 rfl rfl 1 (by decide) (hts (.fieldLink RX7 7 "DrillWardensModel" "s" "[I") (List.mem_of_getElem? (i := 1) rfl)) (fun _ h9 => h9) rfl dX7_grants_20 ?_
  refine lv_sipush (v := (nI 350)) hx hb dX7_grants_23 rfl ?_
  refine lv_iconst (v := (nI 3)) hx hb dX7_grants_26 rfl ?_
  refine lv_aload_n hx hb dX7_grants_27 rfl (lv_at hl 0 rfl) ?_
  refine va_get (D := D) (ci := 7) (v := .ref oT_s) (C := RX7) (T := TX7) (N := 20) hx hb hts ic_X7_grants_X7 hown hKw.1 hwd.1 0 rfl rfl 1 (by decide) (hts (.fieldLink RX7 7 "DrillWardensModel" "s" "[I") (List.mem_of_getElem? (i := 1) rfl)) (fun _ h9 => h9) rfl dX7_grants_28 ?_
  refine lv_bipush (v := (nI 6)) hx hb dX7_grants_31 rfl ?_
  refine va_iald hx hb hKw.1 hwd.1 1 0 rfl rfl hw.1 dX7_grants_33 ?_
  replace hw := hw.2
  refine lv_imul hx hb dX7_grants_34 ?_
  refine lv_iadd hx hb dX7_grants_35 ?_
  refine lv_iconst (v := (nI 1)) hx hb dX7_grants_36 rfl ?_
  refine lv_iadd hx hb dX7_grants_37 ?_
  refine lv_iload_n hx hb dX7_grants_38 rfl (lv_at hl 2 rfl) ?_
  obtain ⟨T_s2, e_T_s2⟩ : ∃ y : Nat → Int32, y = upd T_s1 (((nI 350) + ((nI 3) * (T_s1 (nI 6).toNatClampNeg))) + (nI 1)).toNatClampNeg x2 := ⟨_, rfl⟩
  refine va_iast hx hb hKw.1 hwd.1 hwd.2.1 hwd.2.2 1 0 rfl rfl hw.1 dX7_grants_39 (fun H locs h1 h2 h3 => ?_)
  replace hw := hw.2 T_s2 e_T_s2
  rw [← e_T_s2] at h1 h2
  replace hwd : wd D (va_A (ww_X7_grants cI cC oT oT_s oT_aside oT_states oT_snapshot oT_text oT_serves oT_took oT_tookMany oT_helps oT_before oT_read T_thrown T_stateMany T_hasSnapshot T_length T_stopNumber T_stopError T_at T_isWell T_readMany T_s) s.heap.size) s (ww_X7_grants cI cC oT oT_s oT_aside oT_states oT_snapshot oT_text oT_serves oT_took oT_tookMany oT_helps oT_before oT_read T_thrown T_stateMany T_hasSnapshot T_length T_stopNumber T_stopError T_at T_isWell T_readMany T_s2) H locs := ⟨h1, h2, h3⟩
  clear h1 h2 h3
  refine lv_aload_n hx hb dX7_grants_40 rfl (lv_at hl 0 rfl) ?_
  refine va_get (D := D) (ci := 7) (v := .ref oT_s) (C := RX7) (T := TX7) (N := 20) hx hb hts ic_X7_grants_X7 hown hKw.1 hwd.1 0 rfl rfl 1 (by decide) (hts (.fieldLink RX7 7 "DrillWardensModel" "s" "[I") (List.mem_of_getElem? (i := 1) rfl)) (fun _ h9 => h9) rfl dX7_grants_41 ?_
  refine lv_sipush (v := (nI 350)) hx hb dX7_grants_44 rfl ?_
  refine lv_iconst (v := (nI 3)) hx hb dX7_grants_47 rfl ?_
  refine lv_aload_n hx hb dX7_grants_48 rfl (lv_at hl 0 rfl) ?_
  refine va_get (D := D) (ci := 7) (v := .ref oT_s) (C := RX7) (T := TX7) (N := 20) hx hb hts ic_X7_grants_X7 hown hKw.1 hwd.1 0 rfl rfl 1 (by decide) (hts (.fieldLink RX7 7 "DrillWardensModel" "s" "[I") (List.mem_of_getElem? (i := 1) rfl)) (fun _ h9 => h9) rfl dX7_grants_49 ?_
  refine lv_bipush (v := (nI 6)) hx hb dX7_grants_52 rfl ?_
  refine va_iald hx hb hKw.1 hwd.1 1 0 rfl rfl hw.1 dX7_grants_54 ?_
  replace hw := hw.2
  refine lv_imul hx hb dX7_grants_55 ?_
  refine lv_iadd hx hb dX7_grants_56 ?_
  refine lv_iconst (v := (nI 2)) hx hb dX7_grants_57 rfl ?_
  refine lv_iadd hx hb dX7_grants_58 ?_
  refine lv_iload_n hx hb dX7_grants_59 rfl (lv_at hl 3 rfl) ?_
  obtain ⟨T_s3, e_T_s3⟩ : ∃ y : Nat → Int32, y = upd T_s2 (((nI 350) + ((nI 3) * (T_s2 (nI 6).toNatClampNeg))) + (nI 2)).toNatClampNeg x3 := ⟨_, rfl⟩
  refine va_iast hx hb hKw.1 hwd.1 hwd.2.1 hwd.2.2 1 0 rfl rfl hw.1 dX7_grants_60 (fun H locs h1 h2 h3 => ?_)
  replace hw := hw.2 T_s3 e_T_s3
  rw [← e_T_s3] at h1 h2
  replace hwd : wd D (va_A (ww_X7_grants cI cC oT oT_s oT_aside oT_states oT_snapshot oT_text oT_serves oT_took oT_tookMany oT_helps oT_before oT_read T_thrown T_stateMany T_hasSnapshot T_length T_stopNumber T_stopError T_at T_isWell T_readMany T_s) s.heap.size) s (ww_X7_grants cI cC oT oT_s oT_aside oT_states oT_snapshot oT_text oT_serves oT_took oT_tookMany oT_helps oT_before oT_read T_thrown T_stateMany T_hasSnapshot T_length T_stopNumber T_stopError T_at T_isWell T_readMany T_s3) H locs := ⟨h1, h2, h3⟩
  clear h1 h2 h3
  refine lv_aload_n hx hb dX7_grants_61 rfl (lv_at hl 0 rfl) ?_
  refine va_get (D := D) (ci := 7) (v := .ref oT_s) (C := RX7) (T := TX7) (N := 20) hx hb hts ic_X7_grants_X7 hown hKw.1 hwd.1 0 rfl rfl 1 (by decide) (hts (.fieldLink RX7 7 "DrillWardensModel" "s" "[I") (List.mem_of_getElem? (i := 1) rfl)) (fun _ h9 => h9) rfl dX7_grants_62 ?_
  refine lv_bipush (v := (nI 6)) hx hb dX7_grants_65 rfl ?_
  refine lv_dup2_11 hx hb dX7_grants_67 rfl rfl ?_
  refine va_iald hx hb hKw.1 hwd.1 1 0 rfl rfl hw.1 dX7_grants_68 ?_
  replace hw := hw.2
  refine lv_iconst (v := (nI 1)) hx hb dX7_grants_69 rfl ?_
  refine lv_iadd hx hb dX7_grants_70 ?_
  obtain ⟨T_s4, e_T_s4⟩ : ∃ y : Nat → Int32, y = upd T_s3 (nI 6).toNatClampNeg ((T_s3 (nI 6).toNatClampNeg) + (nI 1)) := ⟨_, rfl⟩
  refine va_iast hx hb hKw.1 hwd.1 hwd.2.1 hwd.2.2 1 0 rfl rfl hw.1 dX7_grants_71 (fun H locs h1 h2 h3 => ?_)
  replace hw := hw.2 T_s4 e_T_s4
  rw [← e_T_s4] at h1 h2
  replace hwd : wd D (va_A (ww_X7_grants cI cC oT oT_s oT_aside oT_states oT_snapshot oT_text oT_serves oT_took oT_tookMany oT_helps oT_before oT_read T_thrown T_stateMany T_hasSnapshot T_length T_stopNumber T_stopError T_at T_isWell T_readMany T_s) s.heap.size) s (ww_X7_grants cI cC oT oT_s oT_aside oT_states oT_snapshot oT_text oT_serves oT_took oT_tookMany oT_helps oT_before oT_read T_thrown T_stateMany T_hasSnapshot T_length T_stopNumber T_stopError T_at T_isWell T_readMany T_s4) H locs := ⟨h1, h2, h3⟩
  clear h1 h2 h3
  exact HR T_s4 hw hwd dX7_grants_72
abbrev ww_X7_drops (cI cC : ClassId) (oT oT_s oT_aside oT_states oT_snapshot oT_text oT_serves oT_took oT_tookMany oT_helps oT_before oT_read : Nat) (T_thrown : Int32) (T_stateMany : Int32) (T_hasSnapshot : Int32) (T_length : Int32) (T_stopNumber : Int32) (T_stopError : Int32) (T_at : Int32) (T_isWell : Int32) (T_readMany : Int32) (T_s : Nat → Int32) : va_W := [(oT, .inr (7, [.int T_thrown, .ref oT_s, .ref oT_aside, .ref oT_states, .int T_stateMany, .ref oT_snapshot, .int T_hasSnapshot, .ref oT_text, .int T_length, .int T_stopNumber, .int T_stopError, .ref oT_serves, .ref oT_took, .ref oT_tookMany, .ref oT_helps, .ref oT_before, .int T_at, .int T_isWell, .ref oT_read, .int T_readMany])), (oT_s, .inl (cI, 474, .inl T_s))]
abbrev rm_X7_drops : Room := { frames := 0, cells := 0, slots := 0, locals := 0 }
theorem ic_X7_drops_X7 : ∀ w ∈ u_ws RX7 TX7 20, w ∈ wsX7_drops := by
  intro w h
  simp only [wsX7_drops, List.mem_cons, List.mem_append]
  simp only [h, or_true, true_or]
def wb_X7_drops_15  (K_56 : (Nat → Int32) → Prop) : Nat → (Nat → Int32) → Int32 → Prop
  | 0, _, _ => False
  | n + 1, T_s, x2 => vp_in (nI 6) 474 ∧ ((((nI 3) * (T_s (nI 6).toNatClampNeg)) ≤ x2 → K_56 T_s) ∧ (¬ ((nI 3) * (T_s (nI 6).toNatClampNeg)) ≤ x2 → vp_in (((nI 350) + x2) + (nI 3)) 474 ∧ vp_in ((nI 350) + x2) 474 ∧ ∀ T_s2, T_s2 = upd T_s ((nI 350) + x2).toNatClampNeg (T_s (((nI 350) + x2) + (nI 3)).toNatClampNeg) → ∀ x2_3, x2_3 = x2 + (nI 1) → wb_X7_drops_15 K_56 n T_s2 x2_3))
set_option maxRecDepth 100000 in
set_option maxHeartbeats 4000000 in
theorem blk_X7_drops_15 {p : Program} {l : Launch} {e : Env} {s : State} {m : MethodId} {args : Array Value} {below : List Frame} {meth : Method} {c : Code} {D : va_G} {cI cC cR : ClassId} {A : Nat → Prop} {Z : State → Prop} (CX : cx cX7_drops none 3 RX7 wsX7_drops p m meth c s args D cI cC cR A) (oT oT_s oT_aside oT_states oT_snapshot oT_text oT_serves oT_took oT_tookMany oT_helps oT_before oT_read : Nat) (T_thrown : Int32) (T_stateMany : Int32) (T_hasSnapshot : Int32) (T_length : Int32) (T_stopNumber : Int32) (T_stopError : Int32) (T_at : Int32) (T_isWell : Int32) (T_readMany : Int32) {K_56 : (Nat → Int32) → Prop} {Q : (Nat → Int32) → Prop} (HR : ∀ (u0 : Nat → Int32) {H : Heap} {locs : List Loc} {ls : Array Slot} {pc : Nat}, Q u0 → wd D A s (ww_X7_drops cI cC oT oT_s oT_aside oT_states oT_snapshot oT_text oT_serves oT_took oT_tookMany oT_helps oT_before oT_read T_thrown T_stateMany T_hasSnapshot T_length T_stopNumber T_stopError T_at T_isWell T_readMany u0) H locs → decode cX7_drops pc = .ok (.return_, 1) → W p l e (headSpec wsX7_drops rm_X7_drops).room s m args below meth c H locs 0 0 Z (F0 m pc ls [])) (HK_56 : ∀ (T_sy : Nat → Int32), K_56 T_sy → ∀ (H : Heap) (locs : List Loc) (ls : Array Slot), wd D A s (ww_X7_drops cI cC oT oT_s oT_aside oT_states oT_snapshot oT_text oT_serves oT_took oT_tookMany oT_helps oT_before oT_read T_thrown T_stateMany T_hasSnapshot T_length T_stopNumber T_stopError T_at T_isWell T_readMany T_sy) H locs → lv_has ls 3 [(0, .ref oT)] → W p l e (headSpec wsX7_drops rm_X7_drops).room s m args below meth c H locs 0 0 Z (F0 m 56 ls [])) : ∀ (n : Nat) (T_s : Nat → Int32) (x2 : Int32), wb_X7_drops_15 K_56 n T_s x2 → ∀ (H : Heap) (locs : List Loc) (ls : Array Slot), wd D A s (ww_X7_drops cI cC oT oT_s oT_aside oT_states oT_snapshot oT_text oT_serves oT_took oT_tookMany oT_helps oT_before oT_read T_thrown T_stateMany T_hasSnapshot T_length T_stopNumber T_stopError T_at T_isWell T_readMany T_s) H locs → lv_has ls 3 [(0, .ref oT), (2, .int x2)] → W p l e (headSpec wsX7_drops rm_X7_drops).room s m args below meth c H locs 0 0 Z (F0 m 15 ls []) := by
  obtain ⟨hx, hb, hr, hml, hts, hown, hlocks, hKw, hA⟩ := id CX
  intro n
  induction n with
  | zero => intro T_s x2 hw; exact False.elim hw
  | succ n ih =>
    intro T_s x2 hw H locs ls hwd hl
    rw [wb_X7_drops_15] at hw
    refine lv_iload_n hx hb dX7_drops_15 rfl (lv_at hl 1 rfl) ?_
    refine lv_iconst (v := (nI 3)) hx hb dX7_drops_16 rfl ?_
    refine lv_aload_n hx hb dX7_drops_17 rfl (lv_at hl 0 rfl) ?_
    refine va_get (D := D) (ci := 7) (v := .ref oT_s) (C := RX7) (T := TX7) (N := 20) hx hb hts ic_X7_drops_X7 hown hKw.1 hwd.1 0 rfl rfl 1 (by decide) (hts (.fieldLink RX7 7 "DrillWardensModel" "s" "[I") (List.mem_of_getElem? (i := 1) rfl)) (fun _ h9 => h9) rfl dX7_drops_18 ?_
    refine lv_bipush (v := (nI 6)) hx hb dX7_drops_21 rfl ?_
    refine va_iald hx hb hKw.1 hwd.1 1 0 rfl rfl hw.1 dX7_drops_23 ?_
    replace hw := hw.2
    refine lv_imul hx hb dX7_drops_24 ?_
    refine lv_icmp_ge (tgt := 56) hx hb dX7_drops_25 (by decide) (fun c1 => ?_) (fun c1 => ?_)
    · replace hw := hw.1 c1
      exact HK_56 T_s hw _ _ _ hwd (lv_sub hl [0] rfl)
    · replace hw := hw.2 c1
      refine lv_aload_n hx hb dX7_drops_28 rfl (lv_at hl 0 rfl) ?_
      refine va_get (D := D) (ci := 7) (v := .ref oT_s) (C := RX7) (T := TX7) (N := 20) hx hb hts ic_X7_drops_X7 hown hKw.1 hwd.1 0 rfl rfl 1 (by decide) (hts (.fieldLink RX7 7 "DrillWardensModel" "s" "[I") (List.mem_of_getElem? (i := 1) rfl)) (fun _ h9 => h9) rfl dX7_drops_29 ?_
      refine lv_sipush (v := (nI 350)) hx hb dX7_drops_32 rfl ?_
      refine lv_iload_n hx hb dX7_drops_35 rfl (lv_at hl 1 rfl) ?_
      refine lv_iadd hx hb dX7_drops_36 ?_
      refine lv_aload_n hx hb dX7_drops_37 rfl (lv_at hl 0 rfl) ?_
      refine va_get (D := D) (ci := 7) (v := .ref oT_s) (C := RX7) (T := TX7) (N := 20) hx hb hts ic_X7_drops_X7 hown hKw.1 hwd.1 0 rfl rfl 1 (by decide) (hts (.fieldLink RX7 7 "DrillWardensModel" "s" "[I") (List.mem_of_getElem? (i := 1) rfl)) (fun _ h9 => h9) rfl dX7_drops_38 ?_
      refine lv_sipush (v := (nI 350)) hx hb dX7_drops_41 rfl ?_
      refine lv_iload_n hx hb dX7_drops_44 rfl (lv_at hl 1 rfl) ?_
      refine lv_iadd hx hb dX7_drops_45 ?_
      refine lv_iconst (v := (nI 3)) hx hb dX7_drops_46 rfl ?_
      refine lv_iadd hx hb dX7_drops_47 ?_
      refine va_iald hx hb hKw.1 hwd.1 1 0 rfl rfl hw.1 dX7_drops_48 ?_
      replace hw := hw.2
      obtain ⟨T_s2, e_T_s2⟩ : ∃ y : Nat → Int32, y = upd T_s ((nI 350) + x2).toNatClampNeg (T_s (((nI 350) + x2) + (nI 3)).toNatClampNeg) := ⟨_, rfl⟩
      refine va_iast hx hb hKw.1 hwd.1 hwd.2.1 hwd.2.2 1 0 rfl rfl hw.1 dX7_drops_49 (fun H locs h1 h2 h3 => ?_)
      replace hw := hw.2 T_s2 e_T_s2
      rw [← e_T_s2] at h1 h2
      replace hwd : wd D A s (ww_X7_drops cI cC oT oT_s oT_aside oT_states oT_snapshot oT_text oT_serves oT_took oT_tookMany oT_helps oT_before oT_read T_thrown T_stateMany T_hasSnapshot T_length T_stopNumber T_stopError T_at T_isWell T_readMany T_s2) H locs := ⟨h1, h2, h3⟩
      clear h1 h2 h3
      obtain ⟨x2_3, e_x2_3⟩ : ∃ y : Int32, y = x2 + (nI 1) := ⟨_, rfl⟩
      replace hw := hw x2_3 e_x2_3
      refine lv_iinc (v := x2_3) (lv' := [(2, .int x2_3), (0, .ref oT)]) hx hb dX7_drops_50 hl (k := 1) rfl (by rw [e_x2_3]; rfl) (by decide) rfl (fun ls hl => ?_)
      refine lv_goto (tgt := 15) hx hb dX7_drops_53 (by decide) ?_
      exact ih T_s2 x2_3 hw _ _ _ hwd (lv_sub hl [1, 0] rfl)
def wb_X7_drops_58  (K_90 : (Nat → Int32) → Prop) : Nat → (Nat → Int32) → Int32 → Prop
  | 0, _, _ => False
  | n + 1, T_s, x2 => (((nI 3) ≤ x2 → K_90 T_s) ∧ (¬ (nI 3) ≤ x2 → vp_in (nI 6) 474 ∧ vp_in (((nI 350) + ((nI 3) * (T_s (nI 6).toNatClampNeg))) + x2) 474 ∧ ∀ T_s2, T_s2 = upd T_s (((nI 350) + ((nI 3) * (T_s (nI 6).toNatClampNeg))) + x2).toNatClampNeg (nI 0) → ∀ x2_3, x2_3 = x2 + (nI 1) → wb_X7_drops_58 K_90 n T_s2 x2_3))
set_option maxRecDepth 100000 in
set_option maxHeartbeats 4000000 in
theorem blk_X7_drops_58 {p : Program} {l : Launch} {e : Env} {s : State} {m : MethodId} {args : Array Value} {below : List Frame} {meth : Method} {c : Code} {D : va_G} {cI cC cR : ClassId} {A : Nat → Prop} {Z : State → Prop} (CX : cx cX7_drops none 3 RX7 wsX7_drops p m meth c s args D cI cC cR A) (oT oT_s oT_aside oT_states oT_snapshot oT_text oT_serves oT_took oT_tookMany oT_helps oT_before oT_read : Nat) (T_thrown : Int32) (T_stateMany : Int32) (T_hasSnapshot : Int32) (T_length : Int32) (T_stopNumber : Int32) (T_stopError : Int32) (T_at : Int32) (T_isWell : Int32) (T_readMany : Int32) {K_90 : (Nat → Int32) → Prop} {Q : (Nat → Int32) → Prop} (HR : ∀ (u0 : Nat → Int32) {H : Heap} {locs : List Loc} {ls : Array Slot} {pc : Nat}, Q u0 → wd D A s (ww_X7_drops cI cC oT oT_s oT_aside oT_states oT_snapshot oT_text oT_serves oT_took oT_tookMany oT_helps oT_before oT_read T_thrown T_stateMany T_hasSnapshot T_length T_stopNumber T_stopError T_at T_isWell T_readMany u0) H locs → decode cX7_drops pc = .ok (.return_, 1) → W p l e (headSpec wsX7_drops rm_X7_drops).room s m args below meth c H locs 0 0 Z (F0 m pc ls [])) (HK_90 : ∀ (T_sy : Nat → Int32), K_90 T_sy → ∀ (H : Heap) (locs : List Loc) (ls : Array Slot), wd D A s (ww_X7_drops cI cC oT oT_s oT_aside oT_states oT_snapshot oT_text oT_serves oT_took oT_tookMany oT_helps oT_before oT_read T_thrown T_stateMany T_hasSnapshot T_length T_stopNumber T_stopError T_at T_isWell T_readMany T_sy) H locs → lv_has ls 3 [] → W p l e (headSpec wsX7_drops rm_X7_drops).room s m args below meth c H locs 0 0 Z (F0 m 90 ls [])) : ∀ (n : Nat) (T_s : Nat → Int32) (x2 : Int32), wb_X7_drops_58 K_90 n T_s x2 → ∀ (H : Heap) (locs : List Loc) (ls : Array Slot), wd D A s (ww_X7_drops cI cC oT oT_s oT_aside oT_states oT_snapshot oT_text oT_serves oT_took oT_tookMany oT_helps oT_before oT_read T_thrown T_stateMany T_hasSnapshot T_length T_stopNumber T_stopError T_at T_isWell T_readMany T_s) H locs → lv_has ls 3 [(0, .ref oT), (2, .int x2)] → W p l e (headSpec wsX7_drops rm_X7_drops).room s m args below meth c H locs 0 0 Z (F0 m 58 ls []) := by
  obtain ⟨hx, hb, hr, hml, hts, hown, hlocks, hKw, hA⟩ := id CX
  intro n
  induction n with
  | zero => intro T_s x2 hw; exact False.elim hw
  | succ n ih =>
    intro T_s x2 hw H locs ls hwd hl
    rw [wb_X7_drops_58] at hw
    refine lv_iload_n hx hb dX7_drops_58 rfl (lv_at hl 1 rfl) ?_
    refine lv_iconst (v := (nI 3)) hx hb dX7_drops_59 rfl ?_
    refine lv_icmp_ge (tgt := 90) hx hb dX7_drops_60 (by decide) (fun c1 => ?_) (fun c1 => ?_)
    · replace hw := hw.1 c1
      exact HK_90 T_s hw _ _ _ hwd (lv_sub hl [] rfl)
    · replace hw := hw.2 c1
      refine lv_aload_n hx hb dX7_drops_63 rfl (lv_at hl 0 rfl) ?_
      refine va_get (D := D) (ci := 7) (v := .ref oT_s) (C := RX7) (T := TX7) (N := 20) hx hb hts ic_X7_drops_X7 hown hKw.1 hwd.1 0 rfl rfl 1 (by decide) (hts (.fieldLink RX7 7 "DrillWardensModel" "s" "[I") (List.mem_of_getElem? (i := 1) rfl)) (fun _ h9 => h9) rfl dX7_drops_64 ?_
      refine lv_sipush (v := (nI 350)) hx hb dX7_drops_67 rfl ?_
      refine lv_iconst (v := (nI 3)) hx hb dX7_drops_70 rfl ?_
      refine lv_aload_n hx hb dX7_drops_71 rfl (lv_at hl 0 rfl) ?_
      refine va_get (D := D) (ci := 7) (v := .ref oT_s) (C := RX7) (T := TX7) (N := 20) hx hb hts ic_X7_drops_X7 hown hKw.1 hwd.1 0 rfl rfl 1 (by decide) (hts (.fieldLink RX7 7 "DrillWardensModel" "s" "[I") (List.mem_of_getElem? (i := 1) rfl)) (fun _ h9 => h9) rfl dX7_drops_72 ?_
      refine lv_bipush (v := (nI 6)) hx hb dX7_drops_75 rfl ?_
      refine va_iald hx hb hKw.1 hwd.1 1 0 rfl rfl hw.1 dX7_drops_77 ?_
      replace hw := hw.2
      refine lv_imul hx hb dX7_drops_78 ?_
      refine lv_iadd hx hb dX7_drops_79 ?_
      refine lv_iload_n hx hb dX7_drops_80 rfl (lv_at hl 1 rfl) ?_
      refine lv_iadd hx hb dX7_drops_81 ?_
      refine lv_iconst (v := (nI 0)) hx hb dX7_drops_82 rfl ?_
      obtain ⟨T_s2, e_T_s2⟩ : ∃ y : Nat → Int32, y = upd T_s (((nI 350) + ((nI 3) * (T_s (nI 6).toNatClampNeg))) + x2).toNatClampNeg (nI 0) := ⟨_, rfl⟩
      refine va_iast hx hb hKw.1 hwd.1 hwd.2.1 hwd.2.2 1 0 rfl rfl hw.1 dX7_drops_83 (fun H locs h1 h2 h3 => ?_)
      replace hw := hw.2 T_s2 e_T_s2
      rw [← e_T_s2] at h1 h2
      replace hwd : wd D A s (ww_X7_drops cI cC oT oT_s oT_aside oT_states oT_snapshot oT_text oT_serves oT_took oT_tookMany oT_helps oT_before oT_read T_thrown T_stateMany T_hasSnapshot T_length T_stopNumber T_stopError T_at T_isWell T_readMany T_s2) H locs := ⟨h1, h2, h3⟩
      clear h1 h2 h3
      obtain ⟨x2_3, e_x2_3⟩ : ∃ y : Int32, y = x2 + (nI 1) := ⟨_, rfl⟩
      replace hw := hw x2_3 e_x2_3
      refine lv_iinc (v := x2_3) (lv' := [(2, .int x2_3), (0, .ref oT)]) hx hb dX7_drops_84 hl (k := 1) rfl (by rw [e_x2_3]; rfl) (by decide) rfl (fun ls hl => ?_)
      refine lv_goto (tgt := 58) hx hb dX7_drops_87 (by decide) ?_
      exact ih T_s2 x2_3 hw _ _ _ hwd (lv_sub hl [1, 0] rfl)
def wp_X7_drops (T_s : Nat → Int32) (x1 : Int32) (Q : (Nat → Int32) → Prop) : Prop := vp_in (nI 6) 474 ∧ vp_in (nI 6) 474 ∧ ∀ T_s1, T_s1 = upd T_s (nI 6).toNatClampNeg ((T_s (nI 6).toNatClampNeg) - (nI 1)) → ∀ x2_2, x2_2 = (nI 3) * x1 → (∃ n3, wb_X7_drops_15 (fun T_s4 => (∃ n5, wb_X7_drops_58 (fun T_s6 => Q T_s6) n5 T_s4 (nI 0))) n3 T_s1 x2_2)
set_option maxRecDepth 100000 in
set_option maxHeartbeats 4000000 in
theorem c_X7_drops (l : Launch) {D : va_G} {cI cC cR : ClassId} (oT oT_s oT_aside oT_states oT_snapshot oT_text oT_serves oT_took oT_tookMany oT_helps oT_before oT_read : Nat) (sz : Nat) (T_thrown : Int32) (T_stateMany : Int32) (T_hasSnapshot : Int32) (T_length : Int32) (T_stopNumber : Int32) (T_stopError : Int32) (T_at : Int32) (T_isWell : Int32) (T_readMany : Int32) (T_s : Nat → Int32) (x1 : Int32) {Q : (Nat → Int32) → Prop} (hw : wp_X7_drops T_s x1 Q) : Met l yX7_drops wsX7_drops rm_X7_drops (PcW D cI cC cR [.ref oT, .int x1] (ww_X7_drops cI cC oT oT_s oT_aside oT_states oT_snapshot oT_text oT_serves oT_took oT_tookMany oT_helps oT_before oT_read T_thrown T_stateMany T_hasSnapshot T_length T_stopNumber T_stopError T_at T_isWell T_readMany T_s) sz) (QvW D (fun (u : (Nat → Int32)) => Q u) (fun u => (ww_X7_drops cI cC oT oT_s oT_aside oT_states oT_snapshot oT_text oT_serves oT_took oT_tookMany oT_helps oT_before oT_read T_thrown T_stateMany T_hasSnapshot T_length T_stopNumber T_stopError T_at T_isWell T_readMany u)) (ww_X7_drops cI cC oT oT_s oT_aside oT_states oT_snapshot oT_text oT_serves oT_took oT_tookMany oT_helps oT_before oT_read T_thrown T_stateMany T_hasSnapshot T_length T_stopNumber T_stopError T_at T_isWell T_readMany T_s) sz) 0 0 (va_A (ww_X7_drops cI cC oT oT_s oT_aside oT_states oT_snapshot oT_text oT_serves oT_took oT_tookMany oT_helps oT_before oT_read T_thrown T_stateMany T_hasSnapshot T_length T_stopNumber T_stopError T_at T_isWell T_readMany T_s) sz) := by
  refine Met.ofW (cc := cX7_drops) (maxL := 3) (ret := none) (by decide) rfl ?_
  intro p e s m args below meth c s₁ B hml hv
  obtain ⟨rfl, hsz, hP, hKw, hD0⟩ := hv
  have hlocks := B.notSynchronized
  subst hsz
  have hD := hD0.self (sz := s.heap.size)
  have CX : cx cX7_drops none 3 RX7 wsX7_drops p m meth c s ([.ref oT, .int x1] : List Value).toArray D cI cC cR (va_A (ww_X7_drops cI cC oT oT_s oT_aside oT_states oT_snapshot oT_text oT_serves oT_took oT_tookMany oT_helps oT_before oT_read T_thrown T_stateMany T_hasSnapshot T_length T_stopNumber T_stopError T_at T_isWell T_readMany T_s) s.heap.size) := ⟨B.exec, B.bytes, B.returns, hml, atoms_spec (ws := wsX7_drops) B.pre, findClass_of_methodNamed B.named, hlocks, hKw, fun q h => Or.inr h⟩
  obtain ⟨hx, hb, hr, -, hts, hown, -, -, hA⟩ := id CX
  have hwd : wd D (va_A (ww_X7_drops cI cC oT oT_s oT_aside oT_states oT_snapshot oT_text oT_serves oT_took oT_tookMany oT_helps oT_before oT_read T_thrown T_stateMany T_hasSnapshot T_length T_stopNumber T_stopError T_at T_isWell T_readMany T_s) s.heap.size) s (ww_X7_drops cI cC oT oT_s oT_aside oT_states oT_snapshot oT_text oT_serves oT_took oT_tookMany oT_helps oT_before oT_read T_thrown T_stateMany T_hasSnapshot T_length T_stopNumber T_stopError T_at T_isWell T_readMany T_s) s.heap [] := ⟨hP, hD, va_S.rf⟩
  have hl := lv_entry ([.ref oT, .int x1]) (n := 3) (Nat.le_of_ble_eq_true rfl)
  rw [lg_entry_eq]
  generalize (lg_sl ([.ref oT, .int x1]) ++ List.replicate (3 - (lg_sl ([.ref oT, .int x1])).length) Slot.unset).toArray = ls at hl ⊢
  have hl : lv_has ls 3 [(0, .ref oT), (1, .int x1)] := hl
  have HR : ∀ (u0 : Nat → Int32) {H : Heap} {locs : List Loc} {ls : Array Slot} {pc : Nat}, Q u0 → wd D (va_A (ww_X7_drops cI cC oT oT_s oT_aside oT_states oT_snapshot oT_text oT_serves oT_took oT_tookMany oT_helps oT_before oT_read T_thrown T_stateMany T_hasSnapshot T_length T_stopNumber T_stopError T_at T_isWell T_readMany T_s) s.heap.size) s (ww_X7_drops cI cC oT oT_s oT_aside oT_states oT_snapshot oT_text oT_serves oT_took oT_tookMany oT_helps oT_before oT_read T_thrown T_stateMany T_hasSnapshot T_length T_stopNumber T_stopError T_at T_isWell T_readMany u0) H locs → decode cX7_drops pc = .ok (.return_, 1) → W p l e (headSpec wsX7_drops rm_X7_drops).room s m ([.ref oT, .int x1] : List Value).toArray below meth c H locs 0 0 (MQ below (QvW D (fun (u : (Nat → Int32)) => Q u) (fun u => (ww_X7_drops cI cC oT oT_s oT_aside oT_states oT_snapshot oT_text oT_serves oT_took oT_tookMany oT_helps oT_before oT_read T_thrown T_stateMany T_hasSnapshot T_length T_stopNumber T_stopError T_at T_isWell T_readMany u)) (ww_X7_drops cI cC oT oT_s oT_aside oT_states oT_snapshot oT_text oT_serves oT_took oT_tookMany oT_helps oT_before oT_read T_thrown T_stateMany T_hasSnapshot T_length T_stopNumber T_stopError T_at T_isWell T_readMany T_s) s.heap.size) ([.ref oT, .int x1] : List Value).toArray s 0 0 (va_A (ww_X7_drops cI cC oT oT_s oT_aside oT_states oT_snapshot oT_text oT_serves oT_took oT_tookMany oT_helps oT_before oT_read T_thrown T_stateMany T_hasSnapshot T_length T_stopNumber T_stopError T_at T_isWell T_readMany T_s) s.heap.size)) (F0 m pc ls []) := by
    intro u0 H locs ls pc hq hw9 hd9
    exact W.vret hx hb hr (fun t ht hW => ⟨⟨u0, rfl, hq, by rw [ht]; exact hw9.1, hw9.2.1⟩, hw9.2.2.F ht⟩) hw9.2.2.2.2 hd9
  unfold wp_X7_drops at hw
  refine lv_aload_n hx hb dX7_drops_0 rfl (lv_at hl 0 rfl) ?_
  refine va_get (D := D) (ci := 7) (v := .ref oT_s) (C := RX7) (T := TX7) (N := 20) hx hb hts ic_X7_drops_X7 hown hKw.1 hwd.1 0 rfl rfl 1 (by decide) (hts (.fieldLink RX7 7 "DrillWardensModel" "s" "[I") (List.mem_of_getElem? (i := 1) rfl)) (fun _ h9 => h9) rfl dX7_drops_1 ?_
  refine lv_bipush (v := (nI 6)) hx hb dX7_drops_4 rfl ?_
  refine lv_dup2_11 hx hb dX7_drops_6 rfl rfl ?_
  refine va_iald hx hb hKw.1 hwd.1 1 0 rfl rfl hw.1 dX7_drops_7 ?_
  replace hw := hw.2
  refine lv_iconst (v := (nI 1)) hx hb dX7_drops_8 rfl ?_
  refine lv_isub hx hb dX7_drops_9 ?_
  obtain ⟨T_s1, e_T_s1⟩ : ∃ y : Nat → Int32, y = upd T_s (nI 6).toNatClampNeg ((T_s (nI 6).toNatClampNeg) - (nI 1)) := ⟨_, rfl⟩
  refine va_iast hx hb hKw.1 hwd.1 hwd.2.1 hwd.2.2 1 0 rfl rfl hw.1 dX7_drops_10 (fun H locs h1 h2 h3 => ?_)
  replace hw := hw.2 T_s1 e_T_s1
  rw [← e_T_s1] at h1 h2
  replace hwd : wd D (va_A (ww_X7_drops cI cC oT oT_s oT_aside oT_states oT_snapshot oT_text oT_serves oT_took oT_tookMany oT_helps oT_before oT_read T_thrown T_stateMany T_hasSnapshot T_length T_stopNumber T_stopError T_at T_isWell T_readMany T_s) s.heap.size) s (ww_X7_drops cI cC oT oT_s oT_aside oT_states oT_snapshot oT_text oT_serves oT_took oT_tookMany oT_helps oT_before oT_read T_thrown T_stateMany T_hasSnapshot T_length T_stopNumber T_stopError T_at T_isWell T_readMany T_s1) H locs := ⟨h1, h2, h3⟩
  clear h1 h2 h3
  refine lv_iconst (v := (nI 3)) hx hb dX7_drops_11 rfl ?_
  refine lv_iload_n hx hb dX7_drops_12 rfl (lv_at hl 1 rfl) ?_
  refine lv_imul hx hb dX7_drops_13 ?_
  refine lv_topi (fun x2_2 e_x2_2 => ?_)
  replace hw := hw x2_2 e_x2_2
  refine lv_istore_n (lv' := [(2, .int x2_2), (0, .ref oT), (1, .int x1)]) hx hb dX7_drops_14 rfl hl (by decide) rfl (fun ls hl => ?_)
  obtain ⟨n3, hw⟩ := hw
  refine blk_X7_drops_15 (CX := CX) (oT := oT) (oT_s := oT_s) (oT_aside := oT_aside) (oT_states := oT_states) (oT_snapshot := oT_snapshot) (oT_text := oT_text) (oT_serves := oT_serves) (oT_took := oT_took) (oT_tookMany := oT_tookMany) (oT_helps := oT_helps) (oT_before := oT_before) (oT_read := oT_read) (T_thrown := T_thrown) (T_stateMany := T_stateMany) (T_hasSnapshot := T_hasSnapshot) (T_length := T_length) (T_stopNumber := T_stopNumber) (T_stopError := T_stopError) (T_at := T_at) (T_isWell := T_isWell) (T_readMany := T_readMany) (HR := HR) (HK_56 := fun T_s4 hw H locs ls hwd hl => ?_) n3 T_s1 x2_2 hw _ _ _ hwd (lv_sub hl [1, 0] rfl)
  try dsimp only at hw
  refine lv_iconst (v := (nI 0)) hx hb dX7_drops_56 rfl ?_
  refine lv_istore_n (lv' := [(2, .int (nI 0)), (0, .ref oT)]) hx hb dX7_drops_57 rfl hl (by decide) rfl (fun ls hl => ?_)
  obtain ⟨n5, hw⟩ := hw
  refine blk_X7_drops_58 (CX := CX) (oT := oT) (oT_s := oT_s) (oT_aside := oT_aside) (oT_states := oT_states) (oT_snapshot := oT_snapshot) (oT_text := oT_text) (oT_serves := oT_serves) (oT_took := oT_took) (oT_tookMany := oT_tookMany) (oT_helps := oT_helps) (oT_before := oT_before) (oT_read := oT_read) (T_thrown := T_thrown) (T_stateMany := T_stateMany) (T_hasSnapshot := T_hasSnapshot) (T_length := T_length) (T_stopNumber := T_stopNumber) (T_stopError := T_stopError) (T_at := T_at) (T_isWell := T_isWell) (T_readMany := T_readMany) (HR := HR) (HK_90 := fun T_s6 hw H locs ls hwd hl => ?_) n5 T_s4 (nI 0) hw _ _ _ hwd (lv_sub hl [1, 0] rfl)
  try dsimp only at hw
  exact HR T_s6 hw hwd dX7_drops_90
abbrev ww_X7_shortByMore (cI cC : ClassId) (oT oT_s oT_aside oT_states oT_snapshot oT_text oT_serves oT_took oT_tookMany oT_helps oT_before oT_read : Nat) (T_thrown : Int32) (T_stateMany : Int32) (T_hasSnapshot : Int32) (T_length : Int32) (T_stopNumber : Int32) (T_stopError : Int32) (T_at : Int32) (T_isWell : Int32) (T_readMany : Int32) (T_s : Nat → Int32) (T_serves : Nat → Int32) (T_took : Nat → Int32) (T_tookMany : Nat → Int32) (T_helps : Nat → Int32) (T_before : Nat → Int32) : va_W := [(oT, .inr (7, [.int T_thrown, .ref oT_s, .ref oT_aside, .ref oT_states, .int T_stateMany, .ref oT_snapshot, .int T_hasSnapshot, .ref oT_text, .int T_length, .int T_stopNumber, .int T_stopError, .ref oT_serves, .ref oT_took, .ref oT_tookMany, .ref oT_helps, .ref oT_before, .int T_at, .int T_isWell, .ref oT_read, .int T_readMany])), (oT_s, .inl (cI, 474, .inl T_s)), (oT_serves, .inl (cI, 16, .inl T_serves)), (oT_took, .inl (cI, 30, .inl T_took)), (oT_tookMany, .inl (cI, 10, .inl T_tookMany)), (oT_helps, .inl (cI, 10, .inl T_helps)), (oT_before, .inl (cI, 10, .inl T_before))]
abbrev rm_X7_shortByMore : Room := { frames := 5, cells := 0, slots := 0, locals := 113 }
theorem ic_X7_shortByMore_X7 : ∀ w ∈ u_ws RX7 TX7 20, w ∈ wsX7_shortByMore := by
  intro w h
  simp only [wsX7_shortByMore, List.mem_cons, List.mem_append]
  simp only [h, or_true, true_or]
def wb_X7_shortByMore_21 (T_s : Nat → Int32) (T_tookMany : Nat → Int32) (K_47 : (Nat → Int32) → Prop) : Nat → (Nat → Int32) → Int32 → Prop
  | 0, _, _ => False
  | n + 1, T_before, x6 => (((nI 10) ≤ x6 → K_47 T_before) ∧ (¬ (nI 10) ≤ x6 → wp_X7_shortBy T_s T_tookMany x6 (fun r2 => vp_in x6 10 ∧ ∀ T_before3, T_before3 = upd T_before x6.toNatClampNeg r2 → ∀ x6_4, x6_4 = x6 + (nI 1) → wb_X7_shortByMore_21 T_s T_tookMany K_47 n T_before3 x6_4)))
set_option maxRecDepth 100000 in
set_option maxHeartbeats 4000000 in
theorem blk_X7_shortByMore_21 {p : Program} {l : Launch} {e : Env} {s : State} {m : MethodId} {args : Array Value} {below : List Frame} {meth : Method} {c : Code} {D : va_G} {cI cC cR : ClassId} {A : Nat → Prop} {Z : State → Prop} (CX : cx cX7_shortByMore (some .int) 7 RX7 wsX7_shortByMore p m meth c s args D cI cC cR A) (oT oT_s oT_aside oT_states oT_snapshot oT_text oT_serves oT_took oT_tookMany oT_helps oT_before oT_read : Nat) (T_thrown : Int32) (T_stateMany : Int32) (T_hasSnapshot : Int32) (T_length : Int32) (T_stopNumber : Int32) (T_stopError : Int32) (T_at : Int32) (T_isWell : Int32) (T_readMany : Int32) (T_s : Nat → Int32) (T_serves : Nat → Int32) (T_took : Nat → Int32) (T_tookMany : Nat → Int32) (T_helps : Nat → Int32) (x1 : Int32) (x3 : Int32) (x4 : Int32) (x5 : Int32) {K_47 : (Nat → Int32) → Prop} {Q : Int32 → (Nat → Int32) → (Nat → Int32) → (Nat → Int32) → (Nat → Int32) → (Nat → Int32) → (Nat → Int32) → Prop} (HR : ∀ (r : Int32) (u0 : Nat → Int32) (u1 : Nat → Int32) (u2 : Nat → Int32) (u3 : Nat → Int32) (u4 : Nat → Int32) (u5 : Nat → Int32) {H : Heap} {locs : List Loc} {ls : Array Slot} {pc : Nat}, Q r u0 u1 u2 u3 u4 u5 → wd D A s (ww_X7_shortByMore cI cC oT oT_s oT_aside oT_states oT_snapshot oT_text oT_serves oT_took oT_tookMany oT_helps oT_before oT_read T_thrown T_stateMany T_hasSnapshot T_length T_stopNumber T_stopError T_at T_isWell T_readMany u0 u1 u2 u3 u4 u5) H locs → decode cX7_shortByMore pc = .ok (.ireturn, 1) → W p l e (headSpec wsX7_shortByMore rm_X7_shortByMore).room s m args below meth c H locs 0 0 Z (F0 m pc ls [.int r])) (HK_47 : ∀ (T_beforey : Nat → Int32), K_47 T_beforey → ∀ (H : Heap) (locs : List Loc) (ls : Array Slot), wd D A s (ww_X7_shortByMore cI cC oT oT_s oT_aside oT_states oT_snapshot oT_text oT_serves oT_took oT_tookMany oT_helps oT_before oT_read T_thrown T_stateMany T_hasSnapshot T_length T_stopNumber T_stopError T_at T_isWell T_readMany T_s T_serves T_took T_tookMany T_helps T_beforey) H locs → lv_has ls 7 [(0, .ref oT), (1, .int x1), (3, .int x3), (4, .int x4), (5, .int x5)] → W p l e (headSpec wsX7_shortByMore rm_X7_shortByMore).room s m args below meth c H locs 0 0 Z (F0 m 47 ls [])) : ∀ (n : Nat) (T_before : Nat → Int32) (x6 : Int32), wb_X7_shortByMore_21 T_s T_tookMany K_47 n T_before x6 → ∀ (H : Heap) (locs : List Loc) (ls : Array Slot), wd D A s (ww_X7_shortByMore cI cC oT oT_s oT_aside oT_states oT_snapshot oT_text oT_serves oT_took oT_tookMany oT_helps oT_before oT_read T_thrown T_stateMany T_hasSnapshot T_length T_stopNumber T_stopError T_at T_isWell T_readMany T_s T_serves T_took T_tookMany T_helps T_before) H locs → lv_has ls 7 [(0, .ref oT), (1, .int x1), (3, .int x3), (4, .int x4), (5, .int x5), (6, .int x6)] → W p l e (headSpec wsX7_shortByMore rm_X7_shortByMore).room s m args below meth c H locs 0 0 Z (F0 m 21 ls []) := by
  obtain ⟨hx, hb, hr, hml, hts, hown, hlocks, hKw, hA⟩ := id CX
  intro n
  induction n with
  | zero => intro T_before x6 hw; exact False.elim hw
  | succ n ih =>
    intro T_before x6 hw H locs ls hwd hl
    rw [wb_X7_shortByMore_21] at hw
    refine lv_iload hx hb dX7_shortByMore_21 (lv_at hl 5 rfl) ?_
    refine lv_bipush (v := (nI 10)) hx hb dX7_shortByMore_23 rfl ?_
    refine lv_icmp_ge (tgt := 47) hx hb dX7_shortByMore_25 (by decide) (fun c1 => ?_) (fun c1 => ?_)
    · replace hw := hw.1 c1
      exact HK_47 T_before hw _ _ _ hwd (lv_sub hl [0, 1, 2, 3, 4] rfl)
    · replace hw := hw.2 c1
      refine lv_aload_n hx hb dX7_shortByMore_28 rfl (lv_at hl 0 rfl) ?_
      refine va_get (D := D) (ci := 7) (v := .ref oT_before) (C := RX7) (T := TX7) (N := 20) hx hb hts ic_X7_shortByMore_X7 hown hKw.1 hwd.1 0 rfl rfl 15 (by decide) (hts (.fieldLink RX7 37 "DrillWardensModel" "before" "[I") (List.mem_of_getElem? (i := 1) rfl)) (fun _ h9 => h9) rfl dX7_shortByMore_29 ?_
      refine lv_iload hx hb dX7_shortByMore_32 (lv_at hl 5 rfl) ?_
      refine lv_aload_n hx hb dX7_shortByMore_34 rfl (lv_at hl 0 rfl) ?_
      refine lv_iload hx hb dX7_shortByMore_35 (lv_at hl 5 rfl) ?_
      refine kcVi (W1 := (fun u => (ww_X7_shortByMore cI cC oT oT_s oT_aside oT_states oT_snapshot oT_text oT_serves oT_took oT_tookMany oT_helps oT_before oT_read T_thrown T_stateMany T_hasSnapshot T_length T_stopNumber T_stopError T_at T_isWell T_readMany T_s T_serves T_took T_tookMany T_helps T_before))) (rest := [.int x6, .ref oT_before]) (As := [.int x6]) ⟨Nat.le_of_ble_eq_true rfl, Nat.le_of_ble_eq_true rfl⟩ ⟨hx, hb, hml, hown, hts⟩ (c_X7_shortBy l oT oT_s oT_aside oT_states oT_snapshot oT_text oT_serves oT_took oT_tookMany oT_helps oT_before oT_read H.size T_thrown T_stateMany T_hasSnapshot T_length T_stopNumber T_stopError T_at T_isWell T_readMany T_s T_tookMany x6 hw) (cwV 1 hts gX7_shortByMore_X7_shortBy rfl rfl rfl ⟨rfl, hd_X7_shortBy⟩ ⟨Nat.le_of_ble_eq_true rfl, Nat.le_of_ble_eq_true rfl⟩) hKw hA hwd [0, 1, 4] [2, 3, 5, 6] [4, 5, 0, 1, 6, 2, 3] [(oT_serves, .inl (cI, 16, .inl T_serves)), (oT_took, .inl (cI, 30, .inl T_took)), (oT_helps, .inl (cI, 10, .inl T_helps)), (oT_before, .inl (cI, 10, .inl T_before))] rfl rfl rfl rfl (by decide) rfl (fun _ => rfl) 0 7 rfl rfl rfl rfl hl.1 rfl (lv_room (Nat.le_of_ble_eq_true rfl)) dX7_shortByMore_37 (fun r2 u H locs hw hwd => ?_)
      try dsimp only at hw
      replace hwd : wd D A s (ww_X7_shortByMore cI cC oT oT_s oT_aside oT_states oT_snapshot oT_text oT_serves oT_took oT_tookMany oT_helps oT_before oT_read T_thrown T_stateMany T_hasSnapshot T_length T_stopNumber T_stopError T_at T_isWell T_readMany T_s T_serves T_took T_tookMany T_helps T_before) H locs := hwd
      obtain ⟨T_before3, e_T_before3⟩ : ∃ y : Nat → Int32, y = upd T_before x6.toNatClampNeg r2 := ⟨_, rfl⟩
      refine va_iast hx hb hKw.1 hwd.1 hwd.2.1 hwd.2.2 6 0 rfl rfl hw.1 dX7_shortByMore_40 (fun H locs h1 h2 h3 => ?_)
      replace hw := hw.2 T_before3 e_T_before3
      rw [← e_T_before3] at h1 h2
      replace hwd : wd D A s (ww_X7_shortByMore cI cC oT oT_s oT_aside oT_states oT_snapshot oT_text oT_serves oT_took oT_tookMany oT_helps oT_before oT_read T_thrown T_stateMany T_hasSnapshot T_length T_stopNumber T_stopError T_at T_isWell T_readMany T_s T_serves T_took T_tookMany T_helps T_before3) H locs := ⟨h1, h2, h3⟩
      clear h1 h2 h3
      obtain ⟨x6_4, e_x6_4⟩ : ∃ y : Int32, y = x6 + (nI 1) := ⟨_, rfl⟩
      replace hw := hw x6_4 e_x6_4
      refine lv_iinc (v := x6_4) (lv' := [(6, .int x6_4), (0, .ref oT), (1, .int x1), (3, .int x3), (4, .int x4), (5, .int x5)]) hx hb dX7_shortByMore_41 hl (k := 5) rfl (by rw [e_x6_4]; rfl) (by decide) rfl (fun ls hl => ?_)
      refine lv_goto (tgt := 21) hx hb dX7_shortByMore_44 (by decide) ?_
      exact ih T_before3 x6_4 hw _ _ _ hwd (lv_sub hl [1, 2, 3, 4, 5, 0] rfl)
def wb_X7_shortByMore_65 (T_s : Nat → Int32) (T_tookMany : Nat → Int32) (T_before : Nat → Int32) (K_117 : Int32 → Prop) : Nat → Int32 → Int32 → Prop
  | 0, _, _ => False
  | n + 1, x4, x6 => (((nI 10) ≤ x6 → K_117 x4) ∧ (¬ (nI 10) ≤ x6 → wp_X7_shortBy T_s T_tookMany x6 (fun r2 => vp_in x6 10 ∧ ((r2 ≤ (T_before x6.toNatClampNeg) → ∀ x4_4, x4_4 = x4 + (nI 0) → ∀ x6_5, x6_5 = x6 + (nI 1) → wb_X7_shortByMore_65 T_s T_tookMany T_before K_117 n x4_4 x6_5) ∧ (¬ r2 ≤ (T_before x6.toNatClampNeg) → wp_X7_shortBy T_s T_tookMany x6 (fun r6 => vp_in x6 10 ∧ ∀ x4_7, x4_7 = x4 + (r6 - (T_before x6.toNatClampNeg)) → ∀ x6_8, x6_8 = x6 + (nI 1) → wb_X7_shortByMore_65 T_s T_tookMany T_before K_117 n x4_7 x6_8))))))
set_option maxRecDepth 100000 in
set_option maxHeartbeats 4000000 in
theorem blk_X7_shortByMore_65 {p : Program} {l : Launch} {e : Env} {s : State} {m : MethodId} {args : Array Value} {below : List Frame} {meth : Method} {c : Code} {D : va_G} {cI cC cR : ClassId} {A : Nat → Prop} {Z : State → Prop} (CX : cx cX7_shortByMore (some .int) 7 RX7 wsX7_shortByMore p m meth c s args D cI cC cR A) (oT oT_s oT_aside oT_states oT_snapshot oT_text oT_serves oT_took oT_tookMany oT_helps oT_before oT_read : Nat) (T_thrown : Int32) (T_stateMany : Int32) (T_hasSnapshot : Int32) (T_length : Int32) (T_stopNumber : Int32) (T_stopError : Int32) (T_at : Int32) (T_isWell : Int32) (T_readMany : Int32) (T_s : Nat → Int32) (T_serves : Nat → Int32) (T_took : Nat → Int32) (T_tookMany : Nat → Int32) (T_helps : Nat → Int32) (T_before : Nat → Int32) (x1 : Int32) (x3 : Int32) (x5 : Int32) {K_117 : Int32 → Prop} {Q : Int32 → (Nat → Int32) → (Nat → Int32) → (Nat → Int32) → (Nat → Int32) → (Nat → Int32) → (Nat → Int32) → Prop} (HR : ∀ (r : Int32) (u0 : Nat → Int32) (u1 : Nat → Int32) (u2 : Nat → Int32) (u3 : Nat → Int32) (u4 : Nat → Int32) (u5 : Nat → Int32) {H : Heap} {locs : List Loc} {ls : Array Slot} {pc : Nat}, Q r u0 u1 u2 u3 u4 u5 → wd D A s (ww_X7_shortByMore cI cC oT oT_s oT_aside oT_states oT_snapshot oT_text oT_serves oT_took oT_tookMany oT_helps oT_before oT_read T_thrown T_stateMany T_hasSnapshot T_length T_stopNumber T_stopError T_at T_isWell T_readMany u0 u1 u2 u3 u4 u5) H locs → decode cX7_shortByMore pc = .ok (.ireturn, 1) → W p l e (headSpec wsX7_shortByMore rm_X7_shortByMore).room s m args below meth c H locs 0 0 Z (F0 m pc ls [.int r])) (HK_117 : ∀ (x4y : Int32), K_117 x4y → ∀ (H : Heap) (locs : List Loc) (ls : Array Slot), wd D A s (ww_X7_shortByMore cI cC oT oT_s oT_aside oT_states oT_snapshot oT_text oT_serves oT_took oT_tookMany oT_helps oT_before oT_read T_thrown T_stateMany T_hasSnapshot T_length T_stopNumber T_stopError T_at T_isWell T_readMany T_s T_serves T_took T_tookMany T_helps T_before) H locs → lv_has ls 7 [(0, .ref oT), (1, .int x1), (3, .int x3), (4, .int x4y), (5, .int x5)] → W p l e (headSpec wsX7_shortByMore rm_X7_shortByMore).room s m args below meth c H locs 0 0 Z (F0 m 117 ls [])) : ∀ (n : Nat) (x4 : Int32) (x6 : Int32), wb_X7_shortByMore_65 T_s T_tookMany T_before K_117 n x4 x6 → ∀ (H : Heap) (locs : List Loc) (ls : Array Slot), wd D A s (ww_X7_shortByMore cI cC oT oT_s oT_aside oT_states oT_snapshot oT_text oT_serves oT_took oT_tookMany oT_helps oT_before oT_read T_thrown T_stateMany T_hasSnapshot T_length T_stopNumber T_stopError T_at T_isWell T_readMany T_s T_serves T_took T_tookMany T_helps T_before) H locs → lv_has ls 7 [(0, .ref oT), (1, .int x1), (3, .int x3), (4, .int x4), (5, .int x5), (6, .int x6)] → W p l e (headSpec wsX7_shortByMore rm_X7_shortByMore).room s m args below meth c H locs 0 0 Z (F0 m 65 ls []) := by
  obtain ⟨hx, hb, hr, hml, hts, hown, hlocks, hKw, hA⟩ := id CX
  intro n
  induction n with
  | zero => intro x4 x6 hw; exact False.elim hw
  | succ n ih =>
    intro x4 x6 hw H locs ls hwd hl
    rw [wb_X7_shortByMore_65] at hw
    refine lv_iload hx hb dX7_shortByMore_65 (lv_at hl 5 rfl) ?_
    refine lv_bipush (v := (nI 10)) hx hb dX7_shortByMore_67 rfl ?_
    refine lv_icmp_ge (tgt := 117) hx hb dX7_shortByMore_69 (by decide) (fun c1 => ?_) (fun c1 => ?_)
    · replace hw := hw.1 c1
      exact HK_117 x4 hw _ _ _ hwd (lv_sub hl [0, 1, 2, 3, 4] rfl)
    · replace hw := hw.2 c1
      refine lv_iload hx hb dX7_shortByMore_72 (lv_at hl 3 rfl) ?_
      refine lv_aload_n hx hb dX7_shortByMore_74 rfl (lv_at hl 0 rfl) ?_
      refine lv_iload hx hb dX7_shortByMore_75 (lv_at hl 5 rfl) ?_
      refine kcVi (W1 := (fun u => (ww_X7_shortByMore cI cC oT oT_s oT_aside oT_states oT_snapshot oT_text oT_serves oT_took oT_tookMany oT_helps oT_before oT_read T_thrown T_stateMany T_hasSnapshot T_length T_stopNumber T_stopError T_at T_isWell T_readMany T_s T_serves T_took T_tookMany T_helps T_before))) (rest := [.int x4]) (As := [.int x6]) ⟨Nat.le_of_ble_eq_true rfl, Nat.le_of_ble_eq_true rfl⟩ ⟨hx, hb, hml, hown, hts⟩ (c_X7_shortBy l oT oT_s oT_aside oT_states oT_snapshot oT_text oT_serves oT_took oT_tookMany oT_helps oT_before oT_read H.size T_thrown T_stateMany T_hasSnapshot T_length T_stopNumber T_stopError T_at T_isWell T_readMany T_s T_tookMany x6 hw) (cwV 1 hts gX7_shortByMore_X7_shortBy rfl rfl rfl ⟨rfl, hd_X7_shortBy⟩ ⟨Nat.le_of_ble_eq_true rfl, Nat.le_of_ble_eq_true rfl⟩) hKw hA hwd [0, 1, 4] [2, 3, 5, 6] [4, 5, 0, 1, 6, 2, 3] [(oT_serves, .inl (cI, 16, .inl T_serves)), (oT_took, .inl (cI, 30, .inl T_took)), (oT_helps, .inl (cI, 10, .inl T_helps)), (oT_before, .inl (cI, 10, .inl T_before))] rfl rfl rfl rfl (by decide) rfl (fun _ => rfl) 0 7 rfl rfl rfl rfl hl.1 rfl (lv_room (Nat.le_of_ble_eq_true rfl)) dX7_shortByMore_77 (fun r2 u H locs hw hwd => ?_)
      try dsimp only at hw
      replace hwd : wd D A s (ww_X7_shortByMore cI cC oT oT_s oT_aside oT_states oT_snapshot oT_text oT_serves oT_took oT_tookMany oT_helps oT_before oT_read T_thrown T_stateMany T_hasSnapshot T_length T_stopNumber T_stopError T_at T_isWell T_readMany T_s T_serves T_took T_tookMany T_helps T_before) H locs := hwd
      refine lv_aload_n hx hb dX7_shortByMore_80 rfl (lv_at hl 0 rfl) ?_
      refine va_get (D := D) (ci := 7) (v := .ref oT_before) (C := RX7) (T := TX7) (N := 20) hx hb hts ic_X7_shortByMore_X7 hown hKw.1 hwd.1 0 rfl rfl 15 (by decide) (hts (.fieldLink RX7 37 "DrillWardensModel" "before" "[I") (List.mem_of_getElem? (i := 1) rfl)) (fun _ h9 => h9) rfl dX7_shortByMore_81 ?_
      refine lv_iload hx hb dX7_shortByMore_84 (lv_at hl 5 rfl) ?_
      refine va_iald hx hb hKw.1 hwd.1 6 0 rfl rfl hw.1 dX7_shortByMore_86 ?_
      replace hw := hw.2
      refine lv_icmp_le (tgt := 107) hx hb dX7_shortByMore_87 (by decide) (fun c3 => ?_) (fun c3 => ?_)
      · replace hw := hw.1 c3
        refine lv_iconst (v := (nI 0)) hx hb dX7_shortByMore_107 rfl ?_
        refine lv_iadd hx hb dX7_shortByMore_108 ?_
        refine lv_topi (fun x4_4 e_x4_4 => ?_)
        replace hw := hw x4_4 e_x4_4
        refine lv_istore (lv' := [(4, .int x4_4), (0, .ref oT), (1, .int x1), (3, .int x3), (5, .int x5), (6, .int x6)]) hx hb dX7_shortByMore_109 hl (by decide) rfl (fun ls hl => ?_)
        obtain ⟨x6_5, e_x6_5⟩ : ∃ y : Int32, y = x6 + (nI 1) := ⟨_, rfl⟩
        replace hw := hw x6_5 e_x6_5
        refine lv_iinc (v := x6_5) (lv' := [(6, .int x6_5), (4, .int x4_4), (0, .ref oT), (1, .int x1), (3, .int x3), (5, .int x5)]) hx hb dX7_shortByMore_111 hl (k := 5) rfl (by rw [e_x6_5]; rfl) (by decide) rfl (fun ls hl => ?_)
        refine lv_goto (tgt := 65) hx hb dX7_shortByMore_114 (by decide) ?_
        exact ih x4_4 x6_5 hw _ _ _ hwd (lv_sub hl [2, 3, 4, 1, 5, 0] rfl)
      · replace hw := hw.2 c3
        refine lv_aload_n hx hb dX7_shortByMore_90 rfl (lv_at hl 0 rfl) ?_
        refine lv_iload hx hb dX7_shortByMore_91 (lv_at hl 5 rfl) ?_
        refine kcVi (W1 := (fun u => (ww_X7_shortByMore cI cC oT oT_s oT_aside oT_states oT_snapshot oT_text oT_serves oT_took oT_tookMany oT_helps oT_before oT_read T_thrown T_stateMany T_hasSnapshot T_length T_stopNumber T_stopError T_at T_isWell T_readMany T_s T_serves T_took T_tookMany T_helps T_before))) (rest := [.int x4]) (As := [.int x6]) ⟨Nat.le_of_ble_eq_true rfl, Nat.le_of_ble_eq_true rfl⟩ ⟨hx, hb, hml, hown, hts⟩ (c_X7_shortBy l oT oT_s oT_aside oT_states oT_snapshot oT_text oT_serves oT_took oT_tookMany oT_helps oT_before oT_read H.size T_thrown T_stateMany T_hasSnapshot T_length T_stopNumber T_stopError T_at T_isWell T_readMany T_s T_tookMany x6 hw) (cwV 1 hts gX7_shortByMore_X7_shortBy rfl rfl rfl ⟨rfl, hd_X7_shortBy⟩ ⟨Nat.le_of_ble_eq_true rfl, Nat.le_of_ble_eq_true rfl⟩) hKw hA hwd [0, 1, 4] [2, 3, 5, 6] [4, 5, 0, 1, 6, 2, 3] [(oT_serves, .inl (cI, 16, .inl T_serves)), (oT_took, .inl (cI, 30, .inl T_took)), (oT_helps, .inl (cI, 10, .inl T_helps)), (oT_before, .inl (cI, 10, .inl T_before))] rfl rfl rfl rfl (by decide) rfl (fun _ => rfl) 0 7 rfl rfl rfl rfl hl.1 rfl (lv_room (Nat.le_of_ble_eq_true rfl)) dX7_shortByMore_93 (fun r6 u H locs hw hwd => ?_)
        try dsimp only at hw
        replace hwd : wd D A s (ww_X7_shortByMore cI cC oT oT_s oT_aside oT_states oT_snapshot oT_text oT_serves oT_took oT_tookMany oT_helps oT_before oT_read T_thrown T_stateMany T_hasSnapshot T_length T_stopNumber T_stopError T_at T_isWell T_readMany T_s T_serves T_took T_tookMany T_helps T_before) H locs := hwd
        refine lv_aload_n hx hb dX7_shortByMore_96 rfl (lv_at hl 0 rfl) ?_
        refine va_get (D := D) (ci := 7) (v := .ref oT_before) (C := RX7) (T := TX7) (N := 20) hx hb hts ic_X7_shortByMore_X7 hown hKw.1 hwd.1 0 rfl rfl 15 (by decide) (hts (.fieldLink RX7 37 "DrillWardensModel" "before" "[I") (List.mem_of_getElem? (i := 1) rfl)) (fun _ h9 => h9) rfl dX7_shortByMore_97 ?_
        refine lv_iload hx hb dX7_shortByMore_100 (lv_at hl 5 rfl) ?_
        refine va_iald hx hb hKw.1 hwd.1 6 0 rfl rfl hw.1 dX7_shortByMore_102 ?_
        replace hw := hw.2
        refine lv_isub hx hb dX7_shortByMore_103 ?_
        refine lv_goto (tgt := 108) hx hb dX7_shortByMore_104 (by decide) ?_
        refine lv_iadd hx hb dX7_shortByMore_108 ?_
        refine lv_topi (fun x4_7 e_x4_7 => ?_)
        replace hw := hw x4_7 e_x4_7
        refine lv_istore (lv' := [(4, .int x4_7), (0, .ref oT), (1, .int x1), (3, .int x3), (5, .int x5), (6, .int x6)]) hx hb dX7_shortByMore_109 hl (by decide) rfl (fun ls hl => ?_)
        obtain ⟨x6_8, e_x6_8⟩ : ∃ y : Int32, y = x6 + (nI 1) := ⟨_, rfl⟩
        replace hw := hw x6_8 e_x6_8
        refine lv_iinc (v := x6_8) (lv' := [(6, .int x6_8), (4, .int x4_7), (0, .ref oT), (1, .int x1), (3, .int x3), (5, .int x5)]) hx hb dX7_shortByMore_111 hl (k := 5) rfl (by rw [e_x6_8]; rfl) (by decide) rfl (fun ls hl => ?_)
        refine lv_goto (tgt := 65) hx hb dX7_shortByMore_114 (by decide) ?_
        exact ih x4_7 x6_8 hw _ _ _ hwd (lv_sub hl [2, 3, 4, 1, 5, 0] rfl)
def wb_X7_shortByMore_6 (x1 : Int32) (x3 : Int32) (K_136 : (Nat → Int32) → (Nat → Int32) → (Nat → Int32) → (Nat → Int32) → (Nat → Int32) → (Nat → Int32) → Int32 → Prop) : Nat → (Nat → Int32) → (Nat → Int32) → (Nat → Int32) → (Nat → Int32) → (Nat → Int32) → (Nat → Int32) → Int32 → Int32 → Prop
  | 0, _, _, _, _, _, _, _, _ => False
  | n + 1, T_s, T_serves, T_took, T_tookMany, T_helps, T_before, x4, x5 => ((x3 < x5 → K_136 T_s T_serves T_took T_tookMany T_helps T_before x4) ∧ (¬ x3 < x5 → wp_X7_plans T_s T_serves T_took T_tookMany T_helps x5 (fun T_serves2 T_took3 T_tookMany4 T_helps5 => (∃ n6, wb_X7_shortByMore_21 T_s T_tookMany4 (fun T_before7 => wp_X7_grants T_s x1 x5 x5 (fun T_s8 => wp_X7_plans T_s8 T_serves2 T_took3 T_tookMany4 T_helps5 x5 (fun T_serves9 T_took10 T_tookMany11 T_helps12 => (∃ n13, wb_X7_shortByMore_65 T_s8 T_tookMany11 T_before7 (fun x4_14 => vp_in (nI 6) 474 ∧ wp_X7_drops T_s8 ((T_s8 (nI 6).toNatClampNeg) - (nI 1)) (fun T_s15 => ∀ x5_16, x5_16 = x5 + (nI 1) → wb_X7_shortByMore_6 x1 x3 K_136 n T_s15 T_serves9 T_took10 T_tookMany11 T_helps12 T_before7 x4_14 x5_16)) n13 x4 (nI 0))))) n6 T_before (nI 0)))))
set_option maxRecDepth 100000 in
set_option maxHeartbeats 4000000 in
theorem blk_X7_shortByMore_6 {p : Program} {l : Launch} {e : Env} {s : State} {m : MethodId} {args : Array Value} {below : List Frame} {meth : Method} {c : Code} {D : va_G} {cI cC cR : ClassId} {A : Nat → Prop} {Z : State → Prop} (CX : cx cX7_shortByMore (some .int) 7 RX7 wsX7_shortByMore p m meth c s args D cI cC cR A) (oT oT_s oT_aside oT_states oT_snapshot oT_text oT_serves oT_took oT_tookMany oT_helps oT_before oT_read : Nat) (T_thrown : Int32) (T_stateMany : Int32) (T_hasSnapshot : Int32) (T_length : Int32) (T_stopNumber : Int32) (T_stopError : Int32) (T_at : Int32) (T_isWell : Int32) (T_readMany : Int32) (x1 : Int32) (x3 : Int32) {K_136 : (Nat → Int32) → (Nat → Int32) → (Nat → Int32) → (Nat → Int32) → (Nat → Int32) → (Nat → Int32) → Int32 → Prop} {Q : Int32 → (Nat → Int32) → (Nat → Int32) → (Nat → Int32) → (Nat → Int32) → (Nat → Int32) → (Nat → Int32) → Prop} (HR : ∀ (r : Int32) (u0 : Nat → Int32) (u1 : Nat → Int32) (u2 : Nat → Int32) (u3 : Nat → Int32) (u4 : Nat → Int32) (u5 : Nat → Int32) {H : Heap} {locs : List Loc} {ls : Array Slot} {pc : Nat}, Q r u0 u1 u2 u3 u4 u5 → wd D A s (ww_X7_shortByMore cI cC oT oT_s oT_aside oT_states oT_snapshot oT_text oT_serves oT_took oT_tookMany oT_helps oT_before oT_read T_thrown T_stateMany T_hasSnapshot T_length T_stopNumber T_stopError T_at T_isWell T_readMany u0 u1 u2 u3 u4 u5) H locs → decode cX7_shortByMore pc = .ok (.ireturn, 1) → W p l e (headSpec wsX7_shortByMore rm_X7_shortByMore).room s m args below meth c H locs 0 0 Z (F0 m pc ls [.int r])) (HK_136 : ∀ (T_sy : Nat → Int32) (T_servesy : Nat → Int32) (T_tooky : Nat → Int32) (T_tookManyy : Nat → Int32) (T_helpsy : Nat → Int32) (T_beforey : Nat → Int32) (x4y : Int32), K_136 T_sy T_servesy T_tooky T_tookManyy T_helpsy T_beforey x4y → ∀ (H : Heap) (locs : List Loc) (ls : Array Slot), wd D A s (ww_X7_shortByMore cI cC oT oT_s oT_aside oT_states oT_snapshot oT_text oT_serves oT_took oT_tookMany oT_helps oT_before oT_read T_thrown T_stateMany T_hasSnapshot T_length T_stopNumber T_stopError T_at T_isWell T_readMany T_sy T_servesy T_tooky T_tookManyy T_helpsy T_beforey) H locs → lv_has ls 7 [(4, .int x4y)] → W p l e (headSpec wsX7_shortByMore rm_X7_shortByMore).room s m args below meth c H locs 0 0 Z (F0 m 136 ls [])) : ∀ (n : Nat) (T_s : Nat → Int32) (T_serves : Nat → Int32) (T_took : Nat → Int32) (T_tookMany : Nat → Int32) (T_helps : Nat → Int32) (T_before : Nat → Int32) (x4 : Int32) (x5 : Int32), wb_X7_shortByMore_6 x1 x3 K_136 n T_s T_serves T_took T_tookMany T_helps T_before x4 x5 → ∀ (H : Heap) (locs : List Loc) (ls : Array Slot), wd D A s (ww_X7_shortByMore cI cC oT oT_s oT_aside oT_states oT_snapshot oT_text oT_serves oT_took oT_tookMany oT_helps oT_before oT_read T_thrown T_stateMany T_hasSnapshot T_length T_stopNumber T_stopError T_at T_isWell T_readMany T_s T_serves T_took T_tookMany T_helps T_before) H locs → lv_has ls 7 [(0, .ref oT), (1, .int x1), (3, .int x3), (4, .int x4), (5, .int x5)] → W p l e (headSpec wsX7_shortByMore rm_X7_shortByMore).room s m args below meth c H locs 0 0 Z (F0 m 6 ls []) := by
  obtain ⟨hx, hb, hr, hml, hts, hown, hlocks, hKw, hA⟩ := id CX
  intro n
  induction n with
  | zero => intro T_s T_serves T_took T_tookMany T_helps T_before x4 x5 hw; exact False.elim hw
  | succ n ih =>
    intro T_s T_serves T_took T_tookMany T_helps T_before x4 x5 hw H locs ls hwd hl
    rw [wb_X7_shortByMore_6] at hw
    refine lv_iload hx hb dX7_shortByMore_6 (lv_at hl 4 rfl) ?_
    refine lv_iload_n hx hb dX7_shortByMore_8 rfl (lv_at hl 2 rfl) ?_
    refine lv_icmp_gt (tgt := 136) hx hb dX7_shortByMore_9 (by decide) (fun c1 => ?_) (fun c1 => ?_)
    · replace hw := hw.1 c1
      exact HK_136 T_s T_serves T_took T_tookMany T_helps T_before x4 hw _ _ _ hwd (lv_sub hl [3] rfl)
    · replace hw := hw.2 c1
      refine lv_aload_n hx hb dX7_shortByMore_12 rfl (lv_at hl 0 rfl) ?_
      refine lv_iload hx hb dX7_shortByMore_13 (lv_at hl 4 rfl) ?_
      refine kcVv (W1 := (fun u => (ww_X7_shortByMore cI cC oT oT_s oT_aside oT_states oT_snapshot oT_text oT_serves oT_took oT_tookMany oT_helps oT_before oT_read T_thrown T_stateMany T_hasSnapshot T_length T_stopNumber T_stopError T_at T_isWell T_readMany T_s (u.1) (u.2.1) (u.2.2.1) (u.2.2.2) T_before))) (rest := []) (As := [.int x5]) ⟨Nat.le_of_ble_eq_true rfl, Nat.le_of_ble_eq_true rfl⟩ ⟨hx, hb, hml, hown, hts⟩ (c_X7_plans l oT oT_s oT_aside oT_states oT_snapshot oT_text oT_serves oT_took oT_tookMany oT_helps oT_before oT_read H.size T_thrown T_stateMany T_hasSnapshot T_length T_stopNumber T_stopError T_at T_isWell T_readMany T_s T_serves T_took T_tookMany T_helps x5 hw) (cwV 1 hts gX7_shortByMore_X7_plans rfl rfl rfl ⟨rfl, hd_X7_plans⟩ ⟨Nat.le_of_ble_eq_true rfl, Nat.le_of_ble_eq_true rfl⟩) hKw hA hwd [0, 1, 2, 3, 4, 5] [6] [1, 2, 3, 4, 5, 6, 0] [(oT_before, .inl (cI, 10, .inl T_before))] rfl rfl rfl rfl (by decide) rfl (fun _ => rfl) 0 7 rfl rfl rfl rfl hl.1 rfl (lv_room (Nat.le_of_ble_eq_true rfl)) dX7_shortByMore_15 (fun u H locs hw hwd => ?_)
      obtain ⟨T_serves2, T_took3, T_tookMany4, T_helps5⟩ := u
      try dsimp only at hw
      replace hwd : wd D A s (ww_X7_shortByMore cI cC oT oT_s oT_aside oT_states oT_snapshot oT_text oT_serves oT_took oT_tookMany oT_helps oT_before oT_read T_thrown T_stateMany T_hasSnapshot T_length T_stopNumber T_stopError T_at T_isWell T_readMany T_s T_serves2 T_took3 T_tookMany4 T_helps5 T_before) H locs := hwd
      refine lv_iconst (v := (nI 0)) hx hb dX7_shortByMore_18 rfl ?_
      refine lv_istore (lv' := [(6, .int (nI 0)), (0, .ref oT), (1, .int x1), (3, .int x3), (4, .int x4), (5, .int x5)]) hx hb dX7_shortByMore_19 hl (by decide) rfl (fun ls hl => ?_)
      obtain ⟨n6, hw⟩ := hw
      refine blk_X7_shortByMore_21 (CX := CX) (oT := oT) (oT_s := oT_s) (oT_aside := oT_aside) (oT_states := oT_states) (oT_snapshot := oT_snapshot) (oT_text := oT_text) (oT_serves := oT_serves) (oT_took := oT_took) (oT_tookMany := oT_tookMany) (oT_helps := oT_helps) (oT_before := oT_before) (oT_read := oT_read) (T_thrown := T_thrown) (T_stateMany := T_stateMany) (T_hasSnapshot := T_hasSnapshot) (T_length := T_length) (T_stopNumber := T_stopNumber) (T_stopError := T_stopError) (T_at := T_at) (T_isWell := T_isWell) (T_readMany := T_readMany) (T_s := T_s) (T_serves := T_serves2) (T_took := T_took3) (T_tookMany := T_tookMany4) (T_helps := T_helps5) (x1 := x1) (x3 := x3) (x4 := x4) (x5 := x5) (HR := HR) (HK_47 := fun T_before7 hw H locs ls hwd hl => ?_) n6 T_before (nI 0) hw _ _ _ hwd (lv_sub hl [1, 2, 3, 4, 5, 0] rfl)
      try dsimp only at hw
      refine lv_aload_n hx hb dX7_shortByMore_47 rfl (lv_at hl 0 rfl) ?_
      refine lv_iload_n hx hb dX7_shortByMore_48 rfl (lv_at hl 1 rfl) ?_
      refine lv_iload hx hb dX7_shortByMore_49 (lv_at hl 4 rfl) ?_
      refine lv_iload hx hb dX7_shortByMore_51 (lv_at hl 4 rfl) ?_
      refine kcVv (W1 := (fun u => (ww_X7_shortByMore cI cC oT oT_s oT_aside oT_states oT_snapshot oT_text oT_serves oT_took oT_tookMany oT_helps oT_before oT_read T_thrown T_stateMany T_hasSnapshot T_length T_stopNumber T_stopError T_at T_isWell T_readMany u T_serves2 T_took3 T_tookMany4 T_helps5 T_before7))) (rest := []) (As := [.int x1, .int x5, .int x5]) ⟨Nat.le_of_ble_eq_true rfl, Nat.le_of_ble_eq_true rfl⟩ ⟨hx, hb, hml, hown, hts⟩ (c_X7_grants l oT oT_s oT_aside oT_states oT_snapshot oT_text oT_serves oT_took oT_tookMany oT_helps oT_before oT_read H.size T_thrown T_stateMany T_hasSnapshot T_length T_stopNumber T_stopError T_at T_isWell T_readMany T_s x1 x5 x5 hw) (cwV 3 hts gX7_shortByMore_X7_grants rfl rfl rfl ⟨rfl, hd_X7_grants⟩ ⟨Nat.le_of_ble_eq_true rfl, Nat.le_of_ble_eq_true rfl⟩) hKw hA hwd [0, 1] [2, 3, 4, 5, 6] [5, 6, 0, 1, 2, 3, 4] [(oT_serves, .inl (cI, 16, .inl T_serves2)), (oT_took, .inl (cI, 30, .inl T_took3)), (oT_tookMany, .inl (cI, 10, .inl T_tookMany4)), (oT_helps, .inl (cI, 10, .inl T_helps5)), (oT_before, .inl (cI, 10, .inl T_before7))] rfl rfl rfl rfl (by decide) rfl (fun _ => rfl) 0 7 rfl rfl rfl rfl hl.1 rfl (lv_room (Nat.le_of_ble_eq_true rfl)) dX7_shortByMore_53 (fun u H locs hw hwd => ?_)
      obtain ⟨T_s8, rfl⟩ : ∃ z, z = u := ⟨_, rfl⟩
      try dsimp only at hw
      replace hwd : wd D A s (ww_X7_shortByMore cI cC oT oT_s oT_aside oT_states oT_snapshot oT_text oT_serves oT_took oT_tookMany oT_helps oT_before oT_read T_thrown T_stateMany T_hasSnapshot T_length T_stopNumber T_stopError T_at T_isWell T_readMany T_s8 T_serves2 T_took3 T_tookMany4 T_helps5 T_before7) H locs := hwd
      refine lv_aload_n hx hb dX7_shortByMore_56 rfl (lv_at hl 0 rfl) ?_
      refine lv_iload hx hb dX7_shortByMore_57 (lv_at hl 4 rfl) ?_
      refine kcVv (W1 := (fun u => (ww_X7_shortByMore cI cC oT oT_s oT_aside oT_states oT_snapshot oT_text oT_serves oT_took oT_tookMany oT_helps oT_before oT_read T_thrown T_stateMany T_hasSnapshot T_length T_stopNumber T_stopError T_at T_isWell T_readMany T_s8 (u.1) (u.2.1) (u.2.2.1) (u.2.2.2) T_before7))) (rest := []) (As := [.int x5]) ⟨Nat.le_of_ble_eq_true rfl, Nat.le_of_ble_eq_true rfl⟩ ⟨hx, hb, hml, hown, hts⟩ (c_X7_plans l oT oT_s oT_aside oT_states oT_snapshot oT_text oT_serves oT_took oT_tookMany oT_helps oT_before oT_read H.size T_thrown T_stateMany T_hasSnapshot T_length T_stopNumber T_stopError T_at T_isWell T_readMany T_s8 T_serves2 T_took3 T_tookMany4 T_helps5 x5 hw) (cwV 1 hts gX7_shortByMore_X7_plans rfl rfl rfl ⟨rfl, hd_X7_plans⟩ ⟨Nat.le_of_ble_eq_true rfl, Nat.le_of_ble_eq_true rfl⟩) hKw hA hwd [0, 1, 2, 3, 4, 5] [6] [1, 2, 3, 4, 5, 6, 0] [(oT_before, .inl (cI, 10, .inl T_before7))] rfl rfl rfl rfl (by decide) rfl (fun _ => rfl) 0 7 rfl rfl rfl rfl hl.1 rfl (lv_room (Nat.le_of_ble_eq_true rfl)) dX7_shortByMore_59 (fun u H locs hw hwd => ?_)
      obtain ⟨T_serves9, T_took10, T_tookMany11, T_helps12⟩ := u
      try dsimp only at hw
      replace hwd : wd D A s (ww_X7_shortByMore cI cC oT oT_s oT_aside oT_states oT_snapshot oT_text oT_serves oT_took oT_tookMany oT_helps oT_before oT_read T_thrown T_stateMany T_hasSnapshot T_length T_stopNumber T_stopError T_at T_isWell T_readMany T_s8 T_serves9 T_took10 T_tookMany11 T_helps12 T_before7) H locs := hwd
      refine lv_iconst (v := (nI 0)) hx hb dX7_shortByMore_62 rfl ?_
      refine lv_istore (lv' := [(6, .int (nI 0)), (0, .ref oT), (1, .int x1), (3, .int x3), (4, .int x4), (5, .int x5)]) hx hb dX7_shortByMore_63 hl (by decide) rfl (fun ls hl => ?_)
      obtain ⟨n13, hw⟩ := hw
      refine blk_X7_shortByMore_65 (CX := CX) (oT := oT) (oT_s := oT_s) (oT_aside := oT_aside) (oT_states := oT_states) (oT_snapshot := oT_snapshot) (oT_text := oT_text) (oT_serves := oT_serves) (oT_took := oT_took) (oT_tookMany := oT_tookMany) (oT_helps := oT_helps) (oT_before := oT_before) (oT_read := oT_read) (T_thrown := T_thrown) (T_stateMany := T_stateMany) (T_hasSnapshot := T_hasSnapshot) (T_length := T_length) (T_stopNumber := T_stopNumber) (T_stopError := T_stopError) (T_at := T_at) (T_isWell := T_isWell) (T_readMany := T_readMany) (T_s := T_s8) (T_serves := T_serves9) (T_took := T_took10) (T_tookMany := T_tookMany11) (T_helps := T_helps12) (T_before := T_before7) (x1 := x1) (x3 := x3) (x5 := x5) (HR := HR) (HK_117 := fun x4_14 hw H locs ls hwd hl => ?_) n13 x4 (nI 0) hw _ _ _ hwd (lv_sub hl [1, 2, 3, 4, 5, 0] rfl)
      try dsimp only at hw
      refine lv_aload_n hx hb dX7_shortByMore_117 rfl (lv_at hl 0 rfl) ?_
      refine lv_aload_n hx hb dX7_shortByMore_118 rfl (lv_at hl 0 rfl) ?_
      refine va_get (D := D) (ci := 7) (v := .ref oT_s) (C := RX7) (T := TX7) (N := 20) hx hb hts ic_X7_shortByMore_X7 hown hKw.1 hwd.1 0 rfl rfl 1 (by decide) (hts (.fieldLink RX7 7 "DrillWardensModel" "s" "[I") (List.mem_of_getElem? (i := 2) rfl)) (fun _ h9 => h9) rfl dX7_shortByMore_119 ?_
      refine lv_bipush (v := (nI 6)) hx hb dX7_shortByMore_122 rfl ?_
      refine va_iald hx hb hKw.1 hwd.1 1 0 rfl rfl hw.1 dX7_shortByMore_124 ?_
      replace hw := hw.2
      refine lv_iconst (v := (nI 1)) hx hb dX7_shortByMore_125 rfl ?_
      refine lv_isub hx hb dX7_shortByMore_126 ?_
      refine kcVv (W1 := (fun u => (ww_X7_shortByMore cI cC oT oT_s oT_aside oT_states oT_snapshot oT_text oT_serves oT_took oT_tookMany oT_helps oT_before oT_read T_thrown T_stateMany T_hasSnapshot T_length T_stopNumber T_stopError T_at T_isWell T_readMany u T_serves9 T_took10 T_tookMany11 T_helps12 T_before7))) (rest := []) (As := [.int ((T_s8 (nI 6).toNatClampNeg) - (nI 1))]) ⟨Nat.le_of_ble_eq_true rfl, Nat.le_of_ble_eq_true rfl⟩ ⟨hx, hb, hml, hown, hts⟩ (c_X7_drops l oT oT_s oT_aside oT_states oT_snapshot oT_text oT_serves oT_took oT_tookMany oT_helps oT_before oT_read H.size T_thrown T_stateMany T_hasSnapshot T_length T_stopNumber T_stopError T_at T_isWell T_readMany T_s8 ((T_s8 (nI 6).toNatClampNeg) - (nI 1)) hw) (cwV 1 hts gX7_shortByMore_X7_drops rfl rfl rfl ⟨rfl, hd_X7_drops⟩ ⟨Nat.le_of_ble_eq_true rfl, Nat.le_of_ble_eq_true rfl⟩) hKw hA hwd [0, 1] [2, 3, 4, 5, 6] [5, 6, 0, 1, 2, 3, 4] [(oT_serves, .inl (cI, 16, .inl T_serves9)), (oT_took, .inl (cI, 30, .inl T_took10)), (oT_tookMany, .inl (cI, 10, .inl T_tookMany11)), (oT_helps, .inl (cI, 10, .inl T_helps12)), (oT_before, .inl (cI, 10, .inl T_before7))] rfl rfl rfl rfl (by decide) rfl (fun _ => rfl) 0 7 rfl rfl rfl rfl hl.1 rfl (lv_room (Nat.le_of_ble_eq_true rfl)) dX7_shortByMore_127 (fun u H locs hw hwd => ?_)
      obtain ⟨T_s15, rfl⟩ : ∃ z, z = u := ⟨_, rfl⟩
      try dsimp only at hw
      replace hwd : wd D A s (ww_X7_shortByMore cI cC oT oT_s oT_aside oT_states oT_snapshot oT_text oT_serves oT_took oT_tookMany oT_helps oT_before oT_read T_thrown T_stateMany T_hasSnapshot T_length T_stopNumber T_stopError T_at T_isWell T_readMany T_s15 T_serves9 T_took10 T_tookMany11 T_helps12 T_before7) H locs := hwd
      obtain ⟨x5_16, e_x5_16⟩ : ∃ y : Int32, y = x5 + (nI 1) := ⟨_, rfl⟩
      replace hw := hw x5_16 e_x5_16
      refine lv_iinc (v := x5_16) (lv' := [(5, .int x5_16), (0, .ref oT), (1, .int x1), (3, .int x3), (4, .int x4_14)]) hx hb dX7_shortByMore_130 hl (k := 4) rfl (by rw [e_x5_16]; rfl) (by decide) rfl (fun ls hl => ?_)
      refine lv_goto (tgt := 6) hx hb dX7_shortByMore_133 (by decide) ?_
      exact ih T_s15 T_serves9 T_took10 T_tookMany11 T_helps12 T_before7 x4_14 x5_16 hw _ _ _ hwd (lv_sub hl [1, 2, 3, 4, 0] rfl)
def wp_X7_shortByMore (T_s : Nat → Int32) (T_serves : Nat → Int32) (T_took : Nat → Int32) (T_tookMany : Nat → Int32) (T_helps : Nat → Int32) (T_before : Nat → Int32) (x1 : Int32) (x2 : Int32) (x3 : Int32) (Q : Int32 → (Nat → Int32) → (Nat → Int32) → (Nat → Int32) → (Nat → Int32) → (Nat → Int32) → (Nat → Int32) → Prop) : Prop := (∃ n1, wb_X7_shortByMore_6 x1 x3 (fun T_s2 T_serves3 T_took4 T_tookMany5 T_helps6 T_before7 x4_8 => Q x4_8 T_s2 T_serves3 T_took4 T_tookMany5 T_helps6 T_before7) n1 T_s T_serves T_took T_tookMany T_helps T_before (nI 0) x2)
set_option maxRecDepth 100000 in
set_option maxHeartbeats 4000000 in
theorem c_X7_shortByMore (l : Launch) {D : va_G} {cI cC cR : ClassId} (oT oT_s oT_aside oT_states oT_snapshot oT_text oT_serves oT_took oT_tookMany oT_helps oT_before oT_read : Nat) (sz : Nat) (T_thrown : Int32) (T_stateMany : Int32) (T_hasSnapshot : Int32) (T_length : Int32) (T_stopNumber : Int32) (T_stopError : Int32) (T_at : Int32) (T_isWell : Int32) (T_readMany : Int32) (T_s : Nat → Int32) (T_serves : Nat → Int32) (T_took : Nat → Int32) (T_tookMany : Nat → Int32) (T_helps : Nat → Int32) (T_before : Nat → Int32) (x1 : Int32) (x2 : Int32) (x3 : Int32) {Q : Int32 → (Nat → Int32) → (Nat → Int32) → (Nat → Int32) → (Nat → Int32) → (Nat → Int32) → (Nat → Int32) → Prop} (hw : wp_X7_shortByMore T_s T_serves T_took T_tookMany T_helps T_before x1 x2 x3 Q) : Met l yX7_shortByMore wsX7_shortByMore rm_X7_shortByMore (PcW D cI cC cR [.ref oT, .int x1, .int x2, .int x3] (ww_X7_shortByMore cI cC oT oT_s oT_aside oT_states oT_snapshot oT_text oT_serves oT_took oT_tookMany oT_helps oT_before oT_read T_thrown T_stateMany T_hasSnapshot T_length T_stopNumber T_stopError T_at T_isWell T_readMany T_s T_serves T_took T_tookMany T_helps T_before) sz) (QiW D (fun (r : Int32) (u : (Nat → Int32) × (Nat → Int32) × (Nat → Int32) × (Nat → Int32) × (Nat → Int32) × (Nat → Int32)) => Q r u.1 u.2.1 u.2.2.1 u.2.2.2.1 u.2.2.2.2.1 u.2.2.2.2.2) (fun u => (ww_X7_shortByMore cI cC oT oT_s oT_aside oT_states oT_snapshot oT_text oT_serves oT_took oT_tookMany oT_helps oT_before oT_read T_thrown T_stateMany T_hasSnapshot T_length T_stopNumber T_stopError T_at T_isWell T_readMany (u.1) (u.2.1) (u.2.2.1) (u.2.2.2.1) (u.2.2.2.2.1) (u.2.2.2.2.2))) (ww_X7_shortByMore cI cC oT oT_s oT_aside oT_states oT_snapshot oT_text oT_serves oT_took oT_tookMany oT_helps oT_before oT_read T_thrown T_stateMany T_hasSnapshot T_length T_stopNumber T_stopError T_at T_isWell T_readMany T_s T_serves T_took T_tookMany T_helps T_before) sz) 0 0 (va_A (ww_X7_shortByMore cI cC oT oT_s oT_aside oT_states oT_snapshot oT_text oT_serves oT_took oT_tookMany oT_helps oT_before oT_read T_thrown T_stateMany T_hasSnapshot T_length T_stopNumber T_stopError T_at T_isWell T_readMany T_s T_serves T_took T_tookMany T_helps T_before) sz) := by
  refine Met.ofW (cc := cX7_shortByMore) (maxL := 7) (ret := (some .int)) (by decide) rfl ?_
  intro p e s m args below meth c s₁ B hml hv
  obtain ⟨rfl, hsz, hP, hKw, hD0⟩ := hv
  have hlocks := B.notSynchronized
  subst hsz
  have hD := hD0.self (sz := s.heap.size)
  have CX : cx cX7_shortByMore (some .int) 7 RX7 wsX7_shortByMore p m meth c s ([.ref oT, .int x1, .int x2, .int x3] : List Value).toArray D cI cC cR (va_A (ww_X7_shortByMore cI cC oT oT_s oT_aside oT_states oT_snapshot oT_text oT_serves oT_took oT_tookMany oT_helps oT_before oT_read T_thrown T_stateMany T_hasSnapshot T_length T_stopNumber T_stopError T_at T_isWell T_readMany T_s T_serves T_took T_tookMany T_helps T_before) s.heap.size) := ⟨B.exec, B.bytes, B.returns, hml, atoms_spec (ws := wsX7_shortByMore) B.pre, findClass_of_methodNamed B.named, hlocks, hKw, fun q h => Or.inr h⟩
  obtain ⟨hx, hb, hr, -, hts, hown, -, -, hA⟩ := id CX
  have hwd : wd D (va_A (ww_X7_shortByMore cI cC oT oT_s oT_aside oT_states oT_snapshot oT_text oT_serves oT_took oT_tookMany oT_helps oT_before oT_read T_thrown T_stateMany T_hasSnapshot T_length T_stopNumber T_stopError T_at T_isWell T_readMany T_s T_serves T_took T_tookMany T_helps T_before) s.heap.size) s (ww_X7_shortByMore cI cC oT oT_s oT_aside oT_states oT_snapshot oT_text oT_serves oT_took oT_tookMany oT_helps oT_before oT_read T_thrown T_stateMany T_hasSnapshot T_length T_stopNumber T_stopError T_at T_isWell T_readMany T_s T_serves T_took T_tookMany T_helps T_before) s.heap [] := ⟨hP, hD, va_S.rf⟩
  have hl := lv_entry ([.ref oT, .int x1, .int x2, .int x3]) (n := 7) (Nat.le_of_ble_eq_true rfl)
  rw [lg_entry_eq]
  generalize (lg_sl ([.ref oT, .int x1, .int x2, .int x3]) ++ List.replicate (7 - (lg_sl ([.ref oT, .int x1, .int x2, .int x3])).length) Slot.unset).toArray = ls at hl ⊢
  have hl : lv_has ls 7 [(0, .ref oT), (1, .int x1), (2, .int x2), (3, .int x3)] := hl
  have HR : ∀ (r : Int32) (u0 : Nat → Int32) (u1 : Nat → Int32) (u2 : Nat → Int32) (u3 : Nat → Int32) (u4 : Nat → Int32) (u5 : Nat → Int32) {H : Heap} {locs : List Loc} {ls : Array Slot} {pc : Nat}, Q r u0 u1 u2 u3 u4 u5 → wd D (va_A (ww_X7_shortByMore cI cC oT oT_s oT_aside oT_states oT_snapshot oT_text oT_serves oT_took oT_tookMany oT_helps oT_before oT_read T_thrown T_stateMany T_hasSnapshot T_length T_stopNumber T_stopError T_at T_isWell T_readMany T_s T_serves T_took T_tookMany T_helps T_before) s.heap.size) s (ww_X7_shortByMore cI cC oT oT_s oT_aside oT_states oT_snapshot oT_text oT_serves oT_took oT_tookMany oT_helps oT_before oT_read T_thrown T_stateMany T_hasSnapshot T_length T_stopNumber T_stopError T_at T_isWell T_readMany u0 u1 u2 u3 u4 u5) H locs → decode cX7_shortByMore pc = .ok (.ireturn, 1) → W p l e (headSpec wsX7_shortByMore rm_X7_shortByMore).room s m ([.ref oT, .int x1, .int x2, .int x3] : List Value).toArray below meth c H locs 0 0 (MQ below (QiW D (fun (r : Int32) (u : (Nat → Int32) × (Nat → Int32) × (Nat → Int32) × (Nat → Int32) × (Nat → Int32) × (Nat → Int32)) => Q r u.1 u.2.1 u.2.2.1 u.2.2.2.1 u.2.2.2.2.1 u.2.2.2.2.2) (fun u => (ww_X7_shortByMore cI cC oT oT_s oT_aside oT_states oT_snapshot oT_text oT_serves oT_took oT_tookMany oT_helps oT_before oT_read T_thrown T_stateMany T_hasSnapshot T_length T_stopNumber T_stopError T_at T_isWell T_readMany (u.1) (u.2.1) (u.2.2.1) (u.2.2.2.1) (u.2.2.2.2.1) (u.2.2.2.2.2))) (ww_X7_shortByMore cI cC oT oT_s oT_aside oT_states oT_snapshot oT_text oT_serves oT_took oT_tookMany oT_helps oT_before oT_read T_thrown T_stateMany T_hasSnapshot T_length T_stopNumber T_stopError T_at T_isWell T_readMany T_s T_serves T_took T_tookMany T_helps T_before) s.heap.size) ([.ref oT, .int x1, .int x2, .int x3] : List Value).toArray s 0 0 (va_A (ww_X7_shortByMore cI cC oT oT_s oT_aside oT_states oT_snapshot oT_text oT_serves oT_took oT_tookMany oT_helps oT_before oT_read T_thrown T_stateMany T_hasSnapshot T_length T_stopNumber T_stopError T_at T_isWell T_readMany T_s T_serves T_took T_tookMany T_helps T_before) s.heap.size)) (F0 m pc ls [.int r]) := by
    intro r u0 u1 u2 u3 u4 u5 H locs ls pc hq hw9 hd9
    exact W.iret (v := r) hx hb hr (fun t ht hW => ⟨⟨r, (u0, u1, u2, u3, u4, u5), rfl, hq, by rw [ht]; exact hw9.1, hw9.2.1⟩, hw9.2.2.F ht⟩) hw9.2.2.2.2 hd9
  unfold wp_X7_shortByMore at hw
  refine lv_iconst (v := (nI 0)) hx hb dX7_shortByMore_0 rfl ?_
  refine lv_istore (lv' := [(4, .int (nI 0)), (0, .ref oT), (1, .int x1), (2, .int x2), (3, .int x3)]) hx hb dX7_shortByMore_1 hl (by decide) rfl (fun ls hl => ?_)
  refine lv_iload_n hx hb dX7_shortByMore_3 rfl (lv_at hl 3 rfl) ?_
  refine lv_istore (lv' := [(5, .int x2), (4, .int (nI 0)), (0, .ref oT), (1, .int x1), (2, .int x2), (3, .int x3)]) hx hb dX7_shortByMore_4 hl (by decide) rfl (fun ls hl => ?_)
  obtain ⟨n1, hw⟩ := hw
  refine blk_X7_shortByMore_6 (CX := CX) (oT := oT) (oT_s := oT_s) (oT_aside := oT_aside) (oT_states := oT_states) (oT_snapshot := oT_snapshot) (oT_text := oT_text) (oT_serves := oT_serves) (oT_took := oT_took) (oT_tookMany := oT_tookMany) (oT_helps := oT_helps) (oT_before := oT_before) (oT_read := oT_read) (T_thrown := T_thrown) (T_stateMany := T_stateMany) (T_hasSnapshot := T_hasSnapshot) (T_length := T_length) (T_stopNumber := T_stopNumber) (T_stopError := T_stopError) (T_at := T_at) (T_isWell := T_isWell) (T_readMany := T_readMany) (x1 := x1) (x3 := x3) (HR := HR) (HK_136 := fun T_s2 T_serves3 T_took4 T_tookMany5 T_helps6 T_before7 x4_8 hw H locs ls hwd hl => ?_) n1 T_s T_serves T_took T_tookMany T_helps T_before (nI 0) x2 hw _ _ _ hwd (lv_sub hl [2, 3, 5, 1, 0] rfl)
  try dsimp only at hw
  refine lv_iload hx hb dX7_shortByMore_136 (lv_at hl 0 rfl) ?_
  exact HR x4_8 T_s2 T_serves3 T_took4 T_tookMany5 T_helps6 T_before7 hw hwd dX7_shortByMore_138
abbrev ww_X7_refusesDays (cI cC : ClassId) (oT oT_s oT_aside oT_states oT_snapshot oT_text oT_serves oT_took oT_tookMany oT_helps oT_before oT_read : Nat) (T_thrown : Int32) (T_stateMany : Int32) (T_hasSnapshot : Int32) (T_length : Int32) (T_stopNumber : Int32) (T_stopError : Int32) (T_at : Int32) (T_isWell : Int32) (T_readMany : Int32) (T_s : Nat → Int32) : va_W := [(oT, .inr (7, [.int T_thrown, .ref oT_s, .ref oT_aside, .ref oT_states, .int T_stateMany, .ref oT_snapshot, .int T_hasSnapshot, .ref oT_text, .int T_length, .int T_stopNumber, .int T_stopError, .ref oT_serves, .ref oT_took, .ref oT_tookMany, .ref oT_helps, .ref oT_before, .int T_at, .int T_isWell, .ref oT_read, .int T_readMany])), (oT_s, .inl (cI, 474, .inl T_s))]
abbrev rm_X7_refusesDays : Room := { frames := 2, cells := 0, slots := 0, locals := 47 }
def wp_X7_refusesDays (T_s : Nat → Int32) (x1 : Int32) (x2 : Int32) (x3 : Int32) (Q : Int32 → Prop) : Prop := wp_X7_isPerson x1 (fun r1 => ((¬ r1 = 0 → wp_X7_isDay x2 (fun r3 => ((r3 = 0 → Q (-2)) ∧ (¬ r3 = 0 → wp_X7_in x3 x2 (nI 399) (fun r5 => ((¬ r5 = 0 → wp_X7_isAway T_s x1 x2 x3 (fun r7 => ((r7 = 0 → Q (nI 0)) ∧ (¬ r7 = 0 → Q (-4))))) ∧ (r5 = 0 → Q (-2)))))))) ∧ (r1 = 0 → Q (-1))))
set_option maxRecDepth 100000 in
set_option maxHeartbeats 4000000 in
theorem c_X7_refusesDays (l : Launch) {D : va_G} {cI cC cR : ClassId} (oT oT_s oT_aside oT_states oT_snapshot oT_text oT_serves oT_took oT_tookMany oT_helps oT_before oT_read : Nat) (sz : Nat) (T_thrown : Int32) (T_stateMany : Int32) (T_hasSnapshot : Int32) (T_length : Int32) (T_stopNumber : Int32) (T_stopError : Int32) (T_at : Int32) (T_isWell : Int32) (T_readMany : Int32) (T_s : Nat → Int32) (x1 : Int32) (x2 : Int32) (x3 : Int32) {Q : Int32 → Prop} (hw : wp_X7_refusesDays T_s x1 x2 x3 Q) : Met l yX7_refusesDays wsX7_refusesDays rm_X7_refusesDays (PcW D cI cC cR [.ref oT, .int x1, .int x2, .int x3] (ww_X7_refusesDays cI cC oT oT_s oT_aside oT_states oT_snapshot oT_text oT_serves oT_took oT_tookMany oT_helps oT_before oT_read T_thrown T_stateMany T_hasSnapshot T_length T_stopNumber T_stopError T_at T_isWell T_readMany T_s) sz) (QiW D (fun (r : Int32) (u : Unit) => Q r ) (fun u => (ww_X7_refusesDays cI cC oT oT_s oT_aside oT_states oT_snapshot oT_text oT_serves oT_took oT_tookMany oT_helps oT_before oT_read T_thrown T_stateMany T_hasSnapshot T_length T_stopNumber T_stopError T_at T_isWell T_readMany T_s)) (ww_X7_refusesDays cI cC oT oT_s oT_aside oT_states oT_snapshot oT_text oT_serves oT_took oT_tookMany oT_helps oT_before oT_read T_thrown T_stateMany T_hasSnapshot T_length T_stopNumber T_stopError T_at T_isWell T_readMany T_s) sz) 0 0 (va_A (ww_X7_refusesDays cI cC oT oT_s oT_aside oT_states oT_snapshot oT_text oT_serves oT_took oT_tookMany oT_helps oT_before oT_read T_thrown T_stateMany T_hasSnapshot T_length T_stopNumber T_stopError T_at T_isWell T_readMany T_s) sz) := by
  refine Met.ofW (cc := cX7_refusesDays) (maxL := 4) (ret := (some .int)) (by decide) rfl ?_
  intro p e s m args below meth c s₁ B hml hv
  obtain ⟨rfl, hsz, hP, hKw, hD0⟩ := hv
  have hlocks := B.notSynchronized
  subst hsz
  have hD := hD0.self (sz := s.heap.size)
  have CX : cx cX7_refusesDays (some .int) 4 RX7 wsX7_refusesDays p m meth c s ([.ref oT, .int x1, .int x2, .int x3] : List Value).toArray D cI cC cR (va_A (ww_X7_refusesDays cI cC oT oT_s oT_aside oT_states oT_snapshot oT_text oT_serves oT_took oT_tookMany oT_helps oT_before oT_read T_thrown T_stateMany T_hasSnapshot T_length T_stopNumber T_stopError T_at T_isWell T_readMany T_s) s.heap.size) := ⟨B.exec, B.bytes, B.returns, hml, atoms_spec (ws := wsX7_refusesDays) B.pre, findClass_of_methodNamed B.named, hlocks, hKw, fun q h => Or.inr h⟩
  obtain ⟨hx, hb, hr, -, hts, hown, -, -, hA⟩ := id CX
  have hwd : wd D (va_A (ww_X7_refusesDays cI cC oT oT_s oT_aside oT_states oT_snapshot oT_text oT_serves oT_took oT_tookMany oT_helps oT_before oT_read T_thrown T_stateMany T_hasSnapshot T_length T_stopNumber T_stopError T_at T_isWell T_readMany T_s) s.heap.size) s (ww_X7_refusesDays cI cC oT oT_s oT_aside oT_states oT_snapshot oT_text oT_serves oT_took oT_tookMany oT_helps oT_before oT_read T_thrown T_stateMany T_hasSnapshot T_length T_stopNumber T_stopError T_at T_isWell T_readMany T_s) s.heap [] := ⟨hP, hD, va_S.rf⟩
  have hl := lv_entry ([.ref oT, .int x1, .int x2, .int x3]) (n := 4) (Nat.le_of_ble_eq_true rfl)
  rw [lg_entry_eq]
  generalize (lg_sl ([.ref oT, .int x1, .int x2, .int x3]) ++ List.replicate (4 - (lg_sl ([.ref oT, .int x1, .int x2, .int x3])).length) Slot.unset).toArray = ls at hl ⊢
  have hl : lv_has ls 4 [(0, .ref oT), (1, .int x1), (2, .int x2), (3, .int x3)] := hl
  have HR : ∀ (r : Int32) {H : Heap} {locs : List Loc} {ls : Array Slot} {pc : Nat}, Q r → wd D (va_A (ww_X7_refusesDays cI cC oT oT_s oT_aside oT_states oT_snapshot oT_text oT_serves oT_took oT_tookMany oT_helps oT_before oT_read T_thrown T_stateMany T_hasSnapshot T_length T_stopNumber T_stopError T_at T_isWell T_readMany T_s) s.heap.size) s (ww_X7_refusesDays cI cC oT oT_s oT_aside oT_states oT_snapshot oT_text oT_serves oT_took oT_tookMany oT_helps oT_before oT_read T_thrown T_stateMany T_hasSnapshot T_length T_stopNumber T_stopError T_at T_isWell T_readMany T_s) H locs → decode cX7_refusesDays pc = .ok (.ireturn, 1) → W p l e (headSpec wsX7_refusesDays rm_X7_refusesDays).room s m ([.ref oT, .int x1, .int x2, .int x3] : List Value).toArray below meth c H locs 0 0 (MQ below (QiW D (fun (r : Int32) (u : Unit) => Q r ) (fun u => (ww_X7_refusesDays cI cC oT oT_s oT_aside oT_states oT_snapshot oT_text oT_serves oT_took oT_tookMany oT_helps oT_before oT_read T_thrown T_stateMany T_hasSnapshot T_length T_stopNumber T_stopError T_at T_isWell T_readMany T_s)) (ww_X7_refusesDays cI cC oT oT_s oT_aside oT_states oT_snapshot oT_text oT_serves oT_took oT_tookMany oT_helps oT_before oT_read T_thrown T_stateMany T_hasSnapshot T_length T_stopNumber T_stopError T_at T_isWell T_readMany T_s) s.heap.size) ([.ref oT, .int x1, .int x2, .int x3] : List Value).toArray s 0 0 (va_A (ww_X7_refusesDays cI cC oT oT_s oT_aside oT_states oT_snapshot oT_text oT_serves oT_took oT_tookMany oT_helps oT_before oT_read T_thrown T_stateMany T_hasSnapshot T_length T_stopNumber T_stopError T_at T_isWell T_readMany T_s) s.heap.size)) (F0 m pc ls [.int r]) := by
    intro r H locs ls pc hq hw9 hd9
    exact W.iret (v := r) hx hb hr (fun t ht hW => ⟨⟨r, (), rfl, hq, by rw [ht]; exact hw9.1, hw9.2.1⟩, hw9.2.2.F ht⟩) hw9.2.2.2.2 hd9
  unfold wp_X7_refusesDays at hw
  refine lv_iload_n hx hb dX7_refusesDays_0 rfl (lv_at hl 1 rfl) ?_
  refine kcSi (rest := []) (As := [.int x1]) ⟨Nat.le_of_ble_eq_true rfl, Nat.le_of_ble_eq_true rfl⟩ ⟨hx, hb, hml, hown, hts⟩ (c_X7_isPerson l s.heap.size x1 hw) (va_cwS 1 hts gX7_refusesDays_X7_isPerson rfl rfl rfl hd_X7_isPerson ⟨Nat.le_of_ble_eq_true rfl, Nat.le_of_ble_eq_true rfl⟩) hKw hA hwd rfl hl.1 rfl (lv_room (Nat.le_of_ble_eq_true rfl)) dX7_refusesDays_1 (fun r1 H locs hw hwd => ?_)
  try dsimp only at hw
  refine lv_if_ne (tgt := 9) hx hb dX7_refusesDays_4 (by decide) (fun c2 => ?_) (fun c2 => ?_)
  · replace hw := hw.1 c2
    refine lv_iload_n hx hb dX7_refusesDays_9 rfl (lv_at hl 2 rfl) ?_
    refine kcSi (rest := []) (As := [.int x2]) ⟨Nat.le_of_ble_eq_true rfl, Nat.le_of_ble_eq_true rfl⟩ ⟨hx, hb, hml, hown, hts⟩ (c_X7_isDay l H.size x2 hw) (va_cwS 1 hts gX7_refusesDays_X7_isDay rfl rfl rfl hd_X7_isDay ⟨Nat.le_of_ble_eq_true rfl, Nat.le_of_ble_eq_true rfl⟩) hKw hA hwd rfl hl.1 rfl (lv_room (Nat.le_of_ble_eq_true rfl)) dX7_refusesDays_10 (fun r3 H locs hw hwd => ?_)
    try dsimp only at hw
    refine lv_if_eq (tgt := 27) hx hb dX7_refusesDays_13 (by decide) (fun c4 => ?_) (fun c4 => ?_)
    · replace hw := hw.1 c4
      refine lv_bipush (v := (-2)) hx hb dX7_refusesDays_27 rfl ?_
      exact HR (-2) hw hwd dX7_refusesDays_29
    · replace hw := hw.2 c4
      refine lv_iload_n hx hb dX7_refusesDays_16 rfl (lv_at hl 3 rfl) ?_
      refine lv_iload_n hx hb dX7_refusesDays_17 rfl (lv_at hl 2 rfl) ?_
      refine lv_sipush (v := (nI 399)) hx hb dX7_refusesDays_18 rfl ?_
      refine kcSi (rest := []) (As := [.int x3, .int x2, .int (nI 399)]) ⟨Nat.le_of_ble_eq_true rfl, Nat.le_of_ble_eq_true rfl⟩ ⟨hx, hb, hml, hown, hts⟩ (c_X7_in l H.size x3 x2 (nI 399) hw) (va_cwS 3 hts gX7_refusesDays_X7_in rfl rfl rfl hd_X7_in ⟨Nat.le_of_ble_eq_true rfl, Nat.le_of_ble_eq_true rfl⟩) hKw hA hwd rfl hl.1 rfl (lv_room (Nat.le_of_ble_eq_true rfl)) dX7_refusesDays_21 (fun r5 H locs hw hwd => ?_)
      try dsimp only at hw
      refine lv_if_ne (tgt := 30) hx hb dX7_refusesDays_24 (by decide) (fun c6 => ?_) (fun c6 => ?_)
      · replace hw := hw.1 c6
        refine lv_aload_n hx hb dX7_refusesDays_30 rfl (lv_at hl 0 rfl) ?_
        refine lv_iload_n hx hb dX7_refusesDays_31 rfl (lv_at hl 1 rfl) ?_
        refine lv_iload_n hx hb dX7_refusesDays_32 rfl (lv_at hl 2 rfl) ?_
        refine lv_iload_n hx hb dX7_refusesDays_33 rfl (lv_at hl 3 rfl) ?_
        refine kcVi (W1 := (fun u => (ww_X7_refusesDays cI cC oT oT_s oT_aside oT_states oT_snapshot oT_text oT_serves oT_took oT_tookMany oT_helps oT_before oT_read T_thrown T_stateMany T_hasSnapshot T_length T_stopNumber T_stopError T_at T_isWell T_readMany T_s))) (rest := []) (As := [.int x1, .int x2, .int x3]) ⟨Nat.le_of_ble_eq_true rfl, Nat.le_of_ble_eq_true rfl⟩ ⟨hx, hb, hml, hown, hts⟩ (c_X7_isAway l oT oT_s oT_aside oT_states oT_snapshot oT_text oT_serves oT_took oT_tookMany oT_helps oT_before oT_read H.size T_thrown T_stateMany T_hasSnapshot T_length T_stopNumber T_stopError T_at T_isWell T_readMany T_s x1 x2 x3 hw) (cwV 3 hts gX7_refusesDays_X7_isAway rfl rfl rfl ⟨rfl, hd_X7_isAway⟩ ⟨Nat.le_of_ble_eq_true rfl, Nat.le_of_ble_eq_true rfl⟩) hKw hA hwd [0, 1] [] [0, 1] [] rfl rfl rfl rfl (by decide) rfl (fun _ => rfl) 0 7 rfl rfl rfl rfl hl.1 rfl (lv_room (Nat.le_of_ble_eq_true rfl)) dX7_refusesDays_34 (fun r7 u H locs hw hwd => ?_)
        try dsimp only at hw
        replace hwd : wd D (va_A (ww_X7_refusesDays cI cC oT oT_s oT_aside oT_states oT_snapshot oT_text oT_serves oT_took oT_tookMany oT_helps oT_before oT_read T_thrown T_stateMany T_hasSnapshot T_length T_stopNumber T_stopError T_at T_isWell T_readMany T_s) s.heap.size) s (ww_X7_refusesDays cI cC oT oT_s oT_aside oT_states oT_snapshot oT_text oT_serves oT_took oT_tookMany oT_helps oT_before oT_read T_thrown T_stateMany T_hasSnapshot T_length T_stopNumber T_stopError T_at T_isWell T_readMany T_s) H locs := hwd
        refine lv_if_eq (tgt := 45) hx hb dX7_refusesDays_37 (by decide) (fun c8 => ?_) (fun c8 => ?_)
        · replace hw := hw.1 c8
          refine lv_iconst (v := (nI 0)) hx hb dX7_refusesDays_45 rfl ?_
          exact HR (nI 0) hw hwd dX7_refusesDays_46
        · replace hw := hw.2 c8
          refine lv_bipush (v := (-4)) hx hb dX7_refusesDays_40 rfl ?_
          refine lv_goto (tgt := 46) hx hb dX7_refusesDays_42 (by decide) ?_
          exact HR (-4) hw hwd dX7_refusesDays_46
      · replace hw := hw.2 c6
        refine lv_bipush (v := (-2)) hx hb dX7_refusesDays_27 rfl ?_
        exact HR (-2) hw hwd dX7_refusesDays_29
  · replace hw := hw.2 c2
    refine lv_iconst (v := (-1)) hx hb dX7_refusesDays_7 rfl ?_
    exact HR (-1) hw hwd dX7_refusesDays_8
abbrev ww_X7_refusesLeave (cI cC : ClassId) (oT oT_s oT_aside oT_states oT_snapshot oT_text oT_serves oT_took oT_tookMany oT_helps oT_before oT_read : Nat) (T_thrown : Int32) (T_stateMany : Int32) (T_hasSnapshot : Int32) (T_length : Int32) (T_stopNumber : Int32) (T_stopError : Int32) (T_at : Int32) (T_isWell : Int32) (T_readMany : Int32) (T_s : Nat → Int32) (T_serves : Nat → Int32) (T_took : Nat → Int32) (T_tookMany : Nat → Int32) (T_helps : Nat → Int32) (T_before : Nat → Int32) : va_W := [(oT, .inr (7, [.int T_thrown, .ref oT_s, .ref oT_aside, .ref oT_states, .int T_stateMany, .ref oT_snapshot, .int T_hasSnapshot, .ref oT_text, .int T_length, .int T_stopNumber, .int T_stopError, .ref oT_serves, .ref oT_took, .ref oT_tookMany, .ref oT_helps, .ref oT_before, .int T_at, .int T_isWell, .ref oT_read, .int T_readMany])), (oT_s, .inl (cI, 474, .inl T_s)), (oT_serves, .inl (cI, 16, .inl T_serves)), (oT_took, .inl (cI, 30, .inl T_took)), (oT_tookMany, .inl (cI, 10, .inl T_tookMany)), (oT_helps, .inl (cI, 10, .inl T_helps)), (oT_before, .inl (cI, 10, .inl T_before))]
abbrev rm_X7_refusesLeave : Room := { frames := 6, cells := 0, slots := 0, locals := 139 }
theorem ic_X7_refusesLeave_X7 : ∀ w ∈ u_ws RX7 TX7 20, w ∈ wsX7_refusesLeave := by
  intro w h
  simp only [wsX7_refusesLeave, List.mem_cons, List.mem_append]
  simp only [h, or_true, true_or]
def wp_X7_refusesLeave (T_s : Nat → Int32) (T_serves : Nat → Int32) (T_took : Nat → Int32) (T_tookMany : Nat → Int32) (T_helps : Nat → Int32) (T_before : Nat → Int32) (x1 : Int32) (x2 : Int32) (x3 : Int32) (Q : Int32 → (Nat → Int32) → (Nat → Int32) → (Nat → Int32) → (Nat → Int32) → (Nat → Int32) → (Nat → Int32) → Prop) : Prop := wp_X7_refusesDays T_s x1 x2 x3 (fun r1 => ((r1 = 0 → vp_in (nI 6) 474 ∧ ((¬ (T_s (nI 6).toNatClampNeg) = (nI 40) → vp_in (nI 2) 474 ∧ ((¬ (T_s (nI 2).toNatClampNeg) = (nI 1) → Q (nI 0) T_s T_serves T_took T_tookMany T_helps T_before) ∧ ((T_s (nI 2).toNatClampNeg) = (nI 1) → wp_X7_shortByMore T_s T_serves T_took T_tookMany T_helps T_before x1 x2 x3 (fun r5 T_s6 T_serves7 T_took8 T_tookMany9 T_helps10 T_before11 => ((r5 ≤ 0 → Q (nI 0) T_s6 T_serves7 T_took8 T_tookMany9 T_helps10 T_before11) ∧ (¬ r5 ≤ 0 → Q (-6) T_s6 T_serves7 T_took8 T_tookMany9 T_helps10 T_before11)))))) ∧ ((T_s (nI 6).toNatClampNeg) = (nI 40) → Q (-3) T_s T_serves T_took T_tookMany T_helps T_before))) ∧ (¬ r1 = 0 → Q r1 T_s T_serves T_took T_tookMany T_helps T_before)))
set_option maxRecDepth 100000 in
set_option maxHeartbeats 4000000 in
theorem c_X7_refusesLeave (l : Launch) {D : va_G} {cI cC cR : ClassId} (oT oT_s oT_aside oT_states oT_snapshot oT_text oT_serves oT_took oT_tookMany oT_helps oT_before oT_read : Nat) (sz : Nat) (T_thrown : Int32) (T_stateMany : Int32) (T_hasSnapshot : Int32) (T_length : Int32) (T_stopNumber : Int32) (T_stopError : Int32) (T_at : Int32) (T_isWell : Int32) (T_readMany : Int32) (T_s : Nat → Int32) (T_serves : Nat → Int32) (T_took : Nat → Int32) (T_tookMany : Nat → Int32) (T_helps : Nat → Int32) (T_before : Nat → Int32) (x1 : Int32) (x2 : Int32) (x3 : Int32) {Q : Int32 → (Nat → Int32) → (Nat → Int32) → (Nat → Int32) → (Nat → Int32) → (Nat → Int32) → (Nat → Int32) → Prop} (hw : wp_X7_refusesLeave T_s T_serves T_took T_tookMany T_helps T_before x1 x2 x3 Q) : Met l yX7_refusesLeave wsX7_refusesLeave rm_X7_refusesLeave (PcW D cI cC cR [.ref oT, .int x1, .int x2, .int x3] (ww_X7_refusesLeave cI cC oT oT_s oT_aside oT_states oT_snapshot oT_text oT_serves oT_took oT_tookMany oT_helps oT_before oT_read T_thrown T_stateMany T_hasSnapshot T_length T_stopNumber T_stopError T_at T_isWell T_readMany T_s T_serves T_took T_tookMany T_helps T_before) sz) (QiW D (fun (r : Int32) (u : (Nat → Int32) × (Nat → Int32) × (Nat → Int32) × (Nat → Int32) × (Nat → Int32) × (Nat → Int32)) => Q r u.1 u.2.1 u.2.2.1 u.2.2.2.1 u.2.2.2.2.1 u.2.2.2.2.2) (fun u => (ww_X7_refusesLeave cI cC oT oT_s oT_aside oT_states oT_snapshot oT_text oT_serves oT_took oT_tookMany oT_helps oT_before oT_read T_thrown T_stateMany T_hasSnapshot T_length T_stopNumber T_stopError T_at T_isWell T_readMany (u.1) (u.2.1) (u.2.2.1) (u.2.2.2.1) (u.2.2.2.2.1) (u.2.2.2.2.2))) (ww_X7_refusesLeave cI cC oT oT_s oT_aside oT_states oT_snapshot oT_text oT_serves oT_took oT_tookMany oT_helps oT_before oT_read T_thrown T_stateMany T_hasSnapshot T_length T_stopNumber T_stopError T_at T_isWell T_readMany T_s T_serves T_took T_tookMany T_helps T_before) sz) 0 0 (va_A (ww_X7_refusesLeave cI cC oT oT_s oT_aside oT_states oT_snapshot oT_text oT_serves oT_took oT_tookMany oT_helps oT_before oT_read T_thrown T_stateMany T_hasSnapshot T_length T_stopNumber T_stopError T_at T_isWell T_readMany T_s T_serves T_took T_tookMany T_helps T_before) sz) := by
  refine Met.ofW (cc := cX7_refusesLeave) (maxL := 5) (ret := (some .int)) (by decide) rfl ?_
  intro p e s m args below meth c s₁ B hml hv
  obtain ⟨rfl, hsz, hP, hKw, hD0⟩ := hv
  have hlocks := B.notSynchronized
  subst hsz
  have hD := hD0.self (sz := s.heap.size)
  have CX : cx cX7_refusesLeave (some .int) 5 RX7 wsX7_refusesLeave p m meth c s ([.ref oT, .int x1, .int x2, .int x3] : List Value).toArray D cI cC cR (va_A (ww_X7_refusesLeave cI cC oT oT_s oT_aside oT_states oT_snapshot oT_text oT_serves oT_took oT_tookMany oT_helps oT_before oT_read T_thrown T_stateMany T_hasSnapshot T_length T_stopNumber T_stopError T_at T_isWell T_readMany T_s T_serves T_took T_tookMany T_helps T_before) s.heap.size) := ⟨B.exec, B.bytes, B.returns, hml, atoms_spec (ws := wsX7_refusesLeave) B.pre, findClass_of_methodNamed B.named, hlocks, hKw, fun q h => Or.inr h⟩
  obtain ⟨hx, hb, hr, -, hts, hown, -, -, hA⟩ := id CX
  have hwd : wd D (va_A (ww_X7_refusesLeave cI cC oT oT_s oT_aside oT_states oT_snapshot oT_text oT_serves oT_took oT_tookMany oT_helps oT_before oT_read T_thrown T_stateMany T_hasSnapshot T_length T_stopNumber T_stopError T_at T_isWell T_readMany T_s T_serves T_took T_tookMany T_helps T_before) s.heap.size) s (ww_X7_refusesLeave cI cC oT oT_s oT_aside oT_states oT_snapshot oT_text oT_serves oT_took oT_tookMany oT_helps oT_before oT_read T_thrown T_stateMany T_hasSnapshot T_length T_stopNumber T_stopError T_at T_isWell T_readMany T_s T_serves T_took T_tookMany T_helps T_before) s.heap [] := ⟨hP, hD, va_S.rf⟩
  have hl := lv_entry ([.ref oT, .int x1, .int x2, .int x3]) (n := 5) (Nat.le_of_ble_eq_true rfl)
  rw [lg_entry_eq]
  generalize (lg_sl ([.ref oT, .int x1, .int x2, .int x3]) ++ List.replicate (5 - (lg_sl ([.ref oT, .int x1, .int x2, .int x3])).length) Slot.unset).toArray = ls at hl ⊢
  have hl : lv_has ls 5 [(0, .ref oT), (1, .int x1), (2, .int x2), (3, .int x3)] := hl
  have HR : ∀ (r : Int32) (u0 : Nat → Int32) (u1 : Nat → Int32) (u2 : Nat → Int32) (u3 : Nat → Int32) (u4 : Nat → Int32) (u5 : Nat → Int32) {H : Heap} {locs : List Loc} {ls : Array Slot} {pc : Nat}, Q r u0 u1 u2 u3 u4 u5 → wd D (va_A (ww_X7_refusesLeave cI cC oT oT_s oT_aside oT_states oT_snapshot oT_text oT_serves oT_took oT_tookMany oT_helps oT_before oT_read T_thrown T_stateMany T_hasSnapshot T_length T_stopNumber T_stopError T_at T_isWell T_readMany T_s T_serves T_took T_tookMany T_helps T_before) s.heap.size) s (ww_X7_refusesLeave cI cC oT oT_s oT_aside oT_states oT_snapshot oT_text oT_serves oT_took oT_tookMany oT_helps oT_before oT_read T_thrown T_stateMany T_hasSnapshot T_length T_stopNumber T_stopError T_at T_isWell T_readMany u0 u1 u2 u3 u4 u5) H locs → decode cX7_refusesLeave pc = .ok (.ireturn, 1) → W p l e (headSpec wsX7_refusesLeave rm_X7_refusesLeave).room s m ([.ref oT, .int x1, .int x2, .int x3] : List Value).toArray below meth c H locs 0 0 (MQ below (QiW D (fun (r : Int32) (u : (Nat → Int32) × (Nat → Int32) × (Nat → Int32) × (Nat → Int32) × (Nat → Int32) × (Nat → Int32)) => Q r u.1 u.2.1 u.2.2.1 u.2.2.2.1 u.2.2.2.2.1 u.2.2.2.2.2) (fun u => (ww_X7_refusesLeave cI cC oT oT_s oT_aside oT_states oT_snapshot oT_text oT_serves oT_took oT_tookMany oT_helps oT_before oT_read T_thrown T_stateMany T_hasSnapshot T_length T_stopNumber T_stopError T_at T_isWell T_readMany (u.1) (u.2.1) (u.2.2.1) (u.2.2.2.1) (u.2.2.2.2.1) (u.2.2.2.2.2))) (ww_X7_refusesLeave cI cC oT oT_s oT_aside oT_states oT_snapshot oT_text oT_serves oT_took oT_tookMany oT_helps oT_before oT_read T_thrown T_stateMany T_hasSnapshot T_length T_stopNumber T_stopError T_at T_isWell T_readMany T_s T_serves T_took T_tookMany T_helps T_before) s.heap.size) ([.ref oT, .int x1, .int x2, .int x3] : List Value).toArray s 0 0 (va_A (ww_X7_refusesLeave cI cC oT oT_s oT_aside oT_states oT_snapshot oT_text oT_serves oT_took oT_tookMany oT_helps oT_before oT_read T_thrown T_stateMany T_hasSnapshot T_length T_stopNumber T_stopError T_at T_isWell T_readMany T_s T_serves T_took T_tookMany T_helps T_before) s.heap.size)) (F0 m pc ls [.int r]) := by
    intro r u0 u1 u2 u3 u4 u5 H locs ls pc hq hw9 hd9
    exact W.iret (v := r) hx hb hr (fun t ht hW => ⟨⟨r, (u0, u1, u2, u3, u4, u5), rfl, hq, by rw [ht]; exact hw9.1, hw9.2.1⟩, hw9.2.2.F ht⟩) hw9.2.2.2.2 hd9
  unfold wp_X7_refusesLeave at hw
  refine lv_aload_n hx hb dX7_refusesLeave_0 rfl (lv_at hl 0 rfl) ?_
  refine lv_iload_n hx hb dX7_refusesLeave_1 rfl (lv_at hl 1 rfl) ?_
  refine lv_iload_n hx hb dX7_refusesLeave_2 rfl (lv_at hl 2 rfl) ?_
  refine lv_iload_n hx hb dX7_refusesLeave_3 rfl (lv_at hl 3 rfl) ?_
  refine kcVi (W1 := (fun u => (ww_X7_refusesLeave cI cC oT oT_s oT_aside oT_states oT_snapshot oT_text oT_serves oT_took oT_tookMany oT_helps oT_before oT_read T_thrown T_stateMany T_hasSnapshot T_length T_stopNumber T_stopError T_at T_isWell T_readMany T_s T_serves T_took T_tookMany T_helps T_before))) (rest := []) (As := [.int x1, .int x2, .int x3]) ⟨Nat.le_of_ble_eq_true rfl, Nat.le_of_ble_eq_true rfl⟩ ⟨hx, hb, hml, hown, hts⟩ (c_X7_refusesDays l oT oT_s oT_aside oT_states oT_snapshot oT_text oT_serves oT_took oT_tookMany oT_helps oT_before oT_read s.heap.size T_thrown T_stateMany T_hasSnapshot T_length T_stopNumber T_stopError T_at T_isWell T_readMany T_s x1 x2 x3 hw) (cwV 3 hts gX7_refusesLeave_X7_refusesDays rfl rfl rfl ⟨rfl, hd_X7_refusesDays⟩ ⟨Nat.le_of_ble_eq_true rfl, Nat.le_of_ble_eq_true rfl⟩) hKw hA hwd [0, 1] [2, 3, 4, 5, 6] [5, 6, 0, 1, 2, 3, 4] [(oT_serves, .inl (cI, 16, .inl T_serves)), (oT_took, .inl (cI, 30, .inl T_took)), (oT_tookMany, .inl (cI, 10, .inl T_tookMany)), (oT_helps, .inl (cI, 10, .inl T_helps)), (oT_before, .inl (cI, 10, .inl T_before))] rfl rfl rfl rfl (by decide) rfl (fun _ => rfl) 0 7 rfl rfl rfl rfl hl.1 rfl (lv_room (Nat.le_of_ble_eq_true rfl)) dX7_refusesLeave_4 (fun r1 u H locs hw hwd => ?_)
  try dsimp only at hw
  replace hwd : wd D (va_A (ww_X7_refusesLeave cI cC oT oT_s oT_aside oT_states oT_snapshot oT_text oT_serves oT_took oT_tookMany oT_helps oT_before oT_read T_thrown T_stateMany T_hasSnapshot T_length T_stopNumber T_stopError T_at T_isWell T_readMany T_s T_serves T_took T_tookMany T_helps T_before) s.heap.size) s (ww_X7_refusesLeave cI cC oT oT_s oT_aside oT_states oT_snapshot oT_text oT_serves oT_took oT_tookMany oT_helps oT_before oT_read T_thrown T_stateMany T_hasSnapshot T_length T_stopNumber T_stopError T_at T_isWell T_readMany T_s T_serves T_took T_tookMany T_helps T_before) H locs := hwd
  refine lv_istore (lv' := [(4, .int r1), (0, .ref oT), (1, .int x1), (2, .int x2), (3, .int x3)]) hx hb dX7_refusesLeave_7 hl (by decide) rfl (fun ls hl => ?_)
  refine lv_iload hx hb dX7_refusesLeave_9 (lv_at hl 0 rfl) ?_
  refine lv_if_eq (tgt := 17) hx hb dX7_refusesLeave_11 (by decide) (fun c2 => ?_) (fun c2 => ?_)
  · replace hw := hw.1 c2
    refine lv_aload_n hx hb dX7_refusesLeave_17 rfl (lv_at hl 1 rfl) ?_
    refine va_get (D := D) (ci := 7) (v := .ref oT_s) (C := RX7) (T := TX7) (N := 20) hx hb hts ic_X7_refusesLeave_X7 hown hKw.1 hwd.1 0 rfl rfl 1 (by decide) (hts (.fieldLink RX7 7 "DrillWardensModel" "s" "[I") (List.mem_of_getElem? (i := 1) rfl)) (fun _ h9 => h9) rfl dX7_refusesLeave_18 ?_
    refine lv_bipush (v := (nI 6)) hx hb dX7_refusesLeave_21 rfl ?_
    refine va_iald hx hb hKw.1 hwd.1 1 0 rfl rfl hw.1 dX7_refusesLeave_23 ?_
    replace hw := hw.2
    refine lv_bipush (v := (nI 40)) hx hb dX7_refusesLeave_24 rfl ?_
    refine lv_icmp_ne (tgt := 32) hx hb dX7_refusesLeave_26 (by decide) (fun c3 => ?_) (fun c3 => ?_)
    · replace hw := hw.1 c3
      refine lv_aload_n hx hb dX7_refusesLeave_32 rfl (lv_at hl 1 rfl) ?_
      refine va_get (D := D) (ci := 7) (v := .ref oT_s) (C := RX7) (T := TX7) (N := 20) hx hb hts ic_X7_refusesLeave_X7 hown hKw.1 hwd.1 0 rfl rfl 1 (by decide) (hts (.fieldLink RX7 7 "DrillWardensModel" "s" "[I") (List.mem_of_getElem? (i := 1) rfl)) (fun _ h9 => h9) rfl dX7_refusesLeave_33 ?_
      refine lv_iconst (v := (nI 2)) hx hb dX7_refusesLeave_36 rfl ?_
      refine va_iald hx hb hKw.1 hwd.1 1 0 rfl rfl hw.1 dX7_refusesLeave_37 ?_
      replace hw := hw.2
      refine lv_iconst (v := (nI 1)) hx hb dX7_refusesLeave_38 rfl ?_
      refine lv_icmp_ne (tgt := 57) hx hb dX7_refusesLeave_39 (by decide) (fun c4 => ?_) (fun c4 => ?_)
      · replace hw := hw.1 c4
        refine lv_iconst (v := (nI 0)) hx hb dX7_refusesLeave_57 rfl ?_
        exact HR (nI 0) T_s T_serves T_took T_tookMany T_helps T_before hw hwd dX7_refusesLeave_58
      · replace hw := hw.2 c4
        refine lv_aload_n hx hb dX7_refusesLeave_42 rfl (lv_at hl 1 rfl) ?_
        refine lv_iload_n hx hb dX7_refusesLeave_43 rfl (lv_at hl 2 rfl) ?_
        refine lv_iload_n hx hb dX7_refusesLeave_44 rfl (lv_at hl 3 rfl) ?_
        refine lv_iload_n hx hb dX7_refusesLeave_45 rfl (lv_at hl 4 rfl) ?_
        refine kcVi (W1 := (fun u => (ww_X7_refusesLeave cI cC oT oT_s oT_aside oT_states oT_snapshot oT_text oT_serves oT_took oT_tookMany oT_helps oT_before oT_read T_thrown T_stateMany T_hasSnapshot T_length T_stopNumber T_stopError T_at T_isWell T_readMany (u.1) (u.2.1) (u.2.2.1) (u.2.2.2.1) (u.2.2.2.2.1) (u.2.2.2.2.2)))) (rest := []) (As := [.int x1, .int x2, .int x3]) ⟨Nat.le_of_ble_eq_true rfl, Nat.le_of_ble_eq_true rfl⟩ ⟨hx, hb, hml, hown, hts⟩ (c_X7_shortByMore l oT oT_s oT_aside oT_states oT_snapshot oT_text oT_serves oT_took oT_tookMany oT_helps oT_before oT_read H.size T_thrown T_stateMany T_hasSnapshot T_length T_stopNumber T_stopError T_at T_isWell T_readMany T_s T_serves T_took T_tookMany T_helps T_before x1 x2 x3 hw) (cwV 3 hts gX7_refusesLeave_X7_shortByMore rfl rfl rfl ⟨rfl, hd_X7_shortByMore⟩ ⟨Nat.le_of_ble_eq_true rfl, Nat.le_of_ble_eq_true rfl⟩) hKw hA hwd [0, 1, 2, 3, 4, 5, 6] [] [0, 1, 2, 3, 4, 5, 6] [] rfl rfl rfl rfl (by decide) rfl (fun _ => rfl) 0 7 rfl rfl rfl rfl hl.1 rfl (lv_room (Nat.le_of_ble_eq_true rfl)) dX7_refusesLeave_46 (fun r5 u H locs hw hwd => ?_)
        obtain ⟨T_s6, T_serves7, T_took8, T_tookMany9, T_helps10, T_before11⟩ := u
        try dsimp only at hw
        replace hwd : wd D (va_A (ww_X7_refusesLeave cI cC oT oT_s oT_aside oT_states oT_snapshot oT_text oT_serves oT_took oT_tookMany oT_helps oT_before oT_read T_thrown T_stateMany T_hasSnapshot T_length T_stopNumber T_stopError T_at T_isWell T_readMany T_s T_serves T_took T_tookMany T_helps T_before) s.heap.size) s (ww_X7_refusesLeave cI cC oT oT_s oT_aside oT_states oT_snapshot oT_text oT_serves oT_took oT_tookMany oT_helps oT_before oT_read T_thrown T_stateMany T_hasSnapshot T_length T_stopNumber T_stopError T_at T_isWell T_readMany T_s6 T_serves7 T_took8 T_tookMany9 T_helps10 T_before11) H locs := hwd
        refine lv_if_le (tgt := 57) hx hb dX7_refusesLeave_49 (by decide) (fun c12 => ?_) (fun c12 => ?_)
        · replace hw := hw.1 c12
          refine lv_iconst (v := (nI 0)) hx hb dX7_refusesLeave_57 rfl ?_
          exact HR (nI 0) T_s6 T_serves7 T_took8 T_tookMany9 T_helps10 T_before11 hw hwd dX7_refusesLeave_58
        · replace hw := hw.2 c12
          refine lv_bipush (v := (-6)) hx hb dX7_refusesLeave_52 rfl ?_
          refine lv_goto (tgt := 58) hx hb dX7_refusesLeave_54 (by decide) ?_
          exact HR (-6) T_s6 T_serves7 T_took8 T_tookMany9 T_helps10 T_before11 hw hwd dX7_refusesLeave_58
    · replace hw := hw.2 c3
      refine lv_bipush (v := (-3)) hx hb dX7_refusesLeave_29 rfl ?_
      exact HR (-3) T_s T_serves T_took T_tookMany T_helps T_before hw hwd dX7_refusesLeave_31
  · replace hw := hw.2 c2
    refine lv_iload hx hb dX7_refusesLeave_14 (lv_at hl 0 rfl) ?_
    exact HR r1 T_s T_serves T_took T_tookMany T_helps T_before hw hwd dX7_refusesLeave_16
abbrev ww_X7_leave (cI cC : ClassId) (oT oT_s oT_aside oT_states oT_snapshot oT_text oT_serves oT_took oT_tookMany oT_helps oT_before oT_read : Nat) (T_thrown : Int32) (T_stateMany : Int32) (T_hasSnapshot : Int32) (T_length : Int32) (T_stopNumber : Int32) (T_stopError : Int32) (T_at : Int32) (T_isWell : Int32) (T_readMany : Int32) (T_s : Nat → Int32) (T_states : Nat → Int32) (T_serves : Nat → Int32) (T_took : Nat → Int32) (T_tookMany : Nat → Int32) (T_helps : Nat → Int32) (T_before : Nat → Int32) : va_W := [(oT, .inr (7, [.int T_thrown, .ref oT_s, .ref oT_aside, .ref oT_states, .int T_stateMany, .ref oT_snapshot, .int T_hasSnapshot, .ref oT_text, .int T_length, .int T_stopNumber, .int T_stopError, .ref oT_serves, .ref oT_took, .ref oT_tookMany, .ref oT_helps, .ref oT_before, .int T_at, .int T_isWell, .ref oT_read, .int T_readMany])), (oT_s, .inl (cI, 474, .inl T_s)), (oT_states, .inl (cI, 1896, .inl T_states)), (oT_serves, .inl (cI, 16, .inl T_serves)), (oT_took, .inl (cI, 30, .inl T_took)), (oT_tookMany, .inl (cI, 10, .inl T_tookMany)), (oT_helps, .inl (cI, 10, .inl T_helps)), (oT_before, .inl (cI, 10, .inl T_before))]
abbrev rm_X7_leave : Room := { frames := 7, cells := 0, slots := 0, locals := 163 }
theorem ic_X7_leave_X7 : ∀ w ∈ u_ws RX7 TX7 20, w ∈ wsX7_leave := by
  intro w h
  simp only [wsX7_leave, List.mem_cons, List.mem_append]
  simp only [h, or_true, true_or]
def wp_X7_leave (T_thrown : Int32) (T_stateMany : Int32) (T_s : Nat → Int32) (T_states : Nat → Int32) (T_serves : Nat → Int32) (T_took : Nat → Int32) (T_tookMany : Nat → Int32) (T_helps : Nat → Int32) (T_before : Nat → Int32) (x1 : Int32) (x2 : Int32) (x3 : Int32) (Q : Int32 → Int32 → Int32 → (Nat → Int32) → (Nat → Int32) → (Nat → Int32) → (Nat → Int32) → (Nat → Int32) → (Nat → Int32) → (Nat → Int32) → Prop) : Prop := wp_X7_refusesLeave T_s T_serves T_took T_tookMany T_helps T_before x1 x2 x3 (fun r1 T_s2 T_serves3 T_took4 T_tookMany5 T_helps6 T_before7 => ((r1 = 0 → wp_X7_records T_stateMany T_s2 T_states (fun T_stateMany9 T_states10 => wp_X7_grants T_s2 x1 x2 x3 (fun T_s11 => Q ((x3 - x2) + (nI 1)) (nI 0) T_stateMany9 T_s11 T_states10 T_serves3 T_took4 T_tookMany5 T_helps6 T_before7))) ∧ (¬ r1 = 0 → Q r1 (nI 0) T_stateMany T_s2 T_states T_serves3 T_took4 T_tookMany5 T_helps6 T_before7)))
set_option maxRecDepth 100000 in
set_option maxHeartbeats 4000000 in
theorem c_X7_leave (l : Launch) {D : va_G} {cI cC cR : ClassId} (oT oT_s oT_aside oT_states oT_snapshot oT_text oT_serves oT_took oT_tookMany oT_helps oT_before oT_read : Nat) (sz : Nat) (T_thrown : Int32) (T_stateMany : Int32) (T_hasSnapshot : Int32) (T_length : Int32) (T_stopNumber : Int32) (T_stopError : Int32) (T_at : Int32) (T_isWell : Int32) (T_readMany : Int32) (T_s : Nat → Int32) (T_states : Nat → Int32) (T_serves : Nat → Int32) (T_took : Nat → Int32) (T_tookMany : Nat → Int32) (T_helps : Nat → Int32) (T_before : Nat → Int32) (x1 : Int32) (x2 : Int32) (x3 : Int32) {Q : Int32 → Int32 → Int32 → (Nat → Int32) → (Nat → Int32) → (Nat → Int32) → (Nat → Int32) → (Nat → Int32) → (Nat → Int32) → (Nat → Int32) → Prop} (hw : wp_X7_leave T_thrown T_stateMany T_s T_states T_serves T_took T_tookMany T_helps T_before x1 x2 x3 Q) : Met l yX7_leave wsX7_leave rm_X7_leave (PcW D cI cC cR [.ref oT, .int x1, .int x2, .int x3] (ww_X7_leave cI cC oT oT_s oT_aside oT_states oT_snapshot oT_text oT_serves oT_took oT_tookMany oT_helps oT_before oT_read T_thrown T_stateMany T_hasSnapshot T_length T_stopNumber T_stopError T_at T_isWell T_readMany T_s T_states T_serves T_took T_tookMany T_helps T_before) sz) (QiW D (fun (r : Int32) (u : Int32 × Int32 × (Nat → Int32) × (Nat → Int32) × (Nat → Int32) × (Nat → Int32) × (Nat → Int32) × (Nat → Int32) × (Nat → Int32)) => Q r u.1 u.2.1 u.2.2.1 u.2.2.2.1 u.2.2.2.2.1 u.2.2.2.2.2.1 u.2.2.2.2.2.2.1 u.2.2.2.2.2.2.2.1 u.2.2.2.2.2.2.2.2) (fun u => (ww_X7_leave cI cC oT oT_s oT_aside oT_states oT_snapshot oT_text oT_serves oT_took oT_tookMany oT_helps oT_before oT_read (u.1) (u.2.1) T_hasSnapshot T_length T_stopNumber T_stopError T_at T_isWell T_readMany (u.2.2.1) (u.2.2.2.1) (u.2.2.2.2.1) (u.2.2.2.2.2.1) (u.2.2.2.2.2.2.1) (u.2.2.2.2.2.2.2.1) (u.2.2.2.2.2.2.2.2))) (ww_X7_leave cI cC oT oT_s oT_aside oT_states oT_snapshot oT_text oT_serves oT_took oT_tookMany oT_helps oT_before oT_read T_thrown T_stateMany T_hasSnapshot T_length T_stopNumber T_stopError T_at T_isWell T_readMany T_s T_states T_serves T_took T_tookMany T_helps T_before) sz) 0 0 (va_A (ww_X7_leave cI cC oT oT_s oT_aside oT_states oT_snapshot oT_text oT_serves oT_took oT_tookMany oT_helps oT_before oT_read T_thrown T_stateMany T_hasSnapshot T_length T_stopNumber T_stopError T_at T_isWell T_readMany T_s T_states T_serves T_took T_tookMany T_helps T_before) sz) := by
  refine Met.ofW (cc := cX7_leave) (maxL := 5) (ret := (some .int)) (by decide) rfl ?_
  intro p e s m args below meth c s₁ B hml hv
  obtain ⟨rfl, hsz, hP, hKw, hD0⟩ := hv
  have hlocks := B.notSynchronized
  subst hsz
  have hD := hD0.self (sz := s.heap.size)
  have CX : cx cX7_leave (some .int) 5 RX7 wsX7_leave p m meth c s ([.ref oT, .int x1, .int x2, .int x3] : List Value).toArray D cI cC cR (va_A (ww_X7_leave cI cC oT oT_s oT_aside oT_states oT_snapshot oT_text oT_serves oT_took oT_tookMany oT_helps oT_before oT_read T_thrown T_stateMany T_hasSnapshot T_length T_stopNumber T_stopError T_at T_isWell T_readMany T_s T_states T_serves T_took T_tookMany T_helps T_before) s.heap.size) := ⟨B.exec, B.bytes, B.returns, hml, atoms_spec (ws := wsX7_leave) B.pre, findClass_of_methodNamed B.named, hlocks, hKw, fun q h => Or.inr h⟩
  obtain ⟨hx, hb, hr, -, hts, hown, -, -, hA⟩ := id CX
  have hwd : wd D (va_A (ww_X7_leave cI cC oT oT_s oT_aside oT_states oT_snapshot oT_text oT_serves oT_took oT_tookMany oT_helps oT_before oT_read T_thrown T_stateMany T_hasSnapshot T_length T_stopNumber T_stopError T_at T_isWell T_readMany T_s T_states T_serves T_took T_tookMany T_helps T_before) s.heap.size) s (ww_X7_leave cI cC oT oT_s oT_aside oT_states oT_snapshot oT_text oT_serves oT_took oT_tookMany oT_helps oT_before oT_read T_thrown T_stateMany T_hasSnapshot T_length T_stopNumber T_stopError T_at T_isWell T_readMany T_s T_states T_serves T_took T_tookMany T_helps T_before) s.heap [] := ⟨hP, hD, va_S.rf⟩
  have hl := lv_entry ([.ref oT, .int x1, .int x2, .int x3]) (n := 5) (Nat.le_of_ble_eq_true rfl)
  rw [lg_entry_eq]
  generalize (lg_sl ([.ref oT, .int x1, .int x2, .int x3]) ++ List.replicate (5 - (lg_sl ([.ref oT, .int x1, .int x2, .int x3])).length) Slot.unset).toArray = ls at hl ⊢
  have hl : lv_has ls 5 [(0, .ref oT), (1, .int x1), (2, .int x2), (3, .int x3)] := hl
  have HR : ∀ (r : Int32) (u0 : Int32) (u1 : Int32) (u2 : Nat → Int32) (u3 : Nat → Int32) (u4 : Nat → Int32) (u5 : Nat → Int32) (u6 : Nat → Int32) (u7 : Nat → Int32) (u8 : Nat → Int32) {H : Heap} {locs : List Loc} {ls : Array Slot} {pc : Nat}, Q r u0 u1 u2 u3 u4 u5 u6 u7 u8 → wd D (va_A (ww_X7_leave cI cC oT oT_s oT_aside oT_states oT_snapshot oT_text oT_serves oT_took oT_tookMany oT_helps oT_before oT_read T_thrown T_stateMany T_hasSnapshot T_length T_stopNumber T_stopError T_at T_isWell T_readMany T_s T_states T_serves T_took T_tookMany T_helps T_before) s.heap.size) s (ww_X7_leave cI cC oT oT_s oT_aside oT_states oT_snapshot oT_text oT_serves oT_took oT_tookMany oT_helps oT_before oT_read u0 u1 T_hasSnapshot T_length T_stopNumber T_stopError T_at T_isWell T_readMany u2 u3 u4 u5 u6 u7 u8) H locs → decode cX7_leave pc = .ok (.ireturn, 1) → W p l e (headSpec wsX7_leave rm_X7_leave).room s m ([.ref oT, .int x1, .int x2, .int x3] : List Value).toArray below meth c H locs 0 0 (MQ below (QiW D (fun (r : Int32) (u : Int32 × Int32 × (Nat → Int32) × (Nat → Int32) × (Nat → Int32) × (Nat → Int32) × (Nat → Int32) × (Nat → Int32) × (Nat → Int32)) => Q r u.1 u.2.1 u.2.2.1 u.2.2.2.1 u.2.2.2.2.1 u.2.2.2.2.2.1 u.2.2.2.2.2.2.1 u.2.2.2.2.2.2.2.1 u.2.2.2.2.2.2.2.2) (fun u => (ww_X7_leave cI cC oT oT_s oT_aside oT_states oT_snapshot oT_text oT_serves oT_took oT_tookMany oT_helps oT_before oT_read (u.1) (u.2.1) T_hasSnapshot T_length T_stopNumber T_stopError T_at T_isWell T_readMany (u.2.2.1) (u.2.2.2.1) (u.2.2.2.2.1) (u.2.2.2.2.2.1) (u.2.2.2.2.2.2.1) (u.2.2.2.2.2.2.2.1) (u.2.2.2.2.2.2.2.2))) (ww_X7_leave cI cC oT oT_s oT_aside oT_states oT_snapshot oT_text oT_serves oT_took oT_tookMany oT_helps oT_before oT_read T_thrown T_stateMany T_hasSnapshot T_length T_stopNumber T_stopError T_at T_isWell T_readMany T_s T_states T_serves T_took T_tookMany T_helps T_before) s.heap.size) ([.ref oT, .int x1, .int x2, .int x3] : List Value).toArray s 0 0 (va_A (ww_X7_leave cI cC oT oT_s oT_aside oT_states oT_snapshot oT_text oT_serves oT_took oT_tookMany oT_helps oT_before oT_read T_thrown T_stateMany T_hasSnapshot T_length T_stopNumber T_stopError T_at T_isWell T_readMany T_s T_states T_serves T_took T_tookMany T_helps T_before) s.heap.size)) (F0 m pc ls [.int r]) := by
    intro r u0 u1 u2 u3 u4 u5 u6 u7 u8 H locs ls pc hq hw9 hd9
    exact W.iret (v := r) hx hb hr (fun t ht hW => ⟨⟨r, (u0, u1, u2, u3, u4, u5, u6, u7, u8), rfl, hq, by rw [ht]; exact hw9.1, hw9.2.1⟩, hw9.2.2.F ht⟩) hw9.2.2.2.2 hd9
  unfold wp_X7_leave at hw
  refine lv_aload_n hx hb dX7_leave_0 rfl (lv_at hl 0 rfl) ?_
  refine lv_iconst (v := (nI 0)) hx hb dX7_leave_1 rfl ?_
  refine va_put (D := D) (ci := 7) (v := .int (nI 0)) (ty := .int) (C := RX7) (T := TX7) (N := 20) hx hb hts ic_X7_leave_X7 tyX7 tyX7_ok nmX7 hown hKw.1 hwd.1 hwd.2.1 hwd.2.2 0 rfl rfl 0 (by decide) (hts (.fieldLink RX7 43 "DrillWardensModel" "thrown" "I") (List.mem_of_getElem? (i := 1) rfl)) (fun _ h9 => h9) rfl (tyX7_ok 0 (by decide)) rfl rfl (Nat.le_of_ble_eq_true rfl) dX7_leave_2 (fun H locs h1 h2 h3 => ?_)
  replace hwd : wd D (va_A (ww_X7_leave cI cC oT oT_s oT_aside oT_states oT_snapshot oT_text oT_serves oT_took oT_tookMany oT_helps oT_before oT_read T_thrown T_stateMany T_hasSnapshot T_length T_stopNumber T_stopError T_at T_isWell T_readMany T_s T_states T_serves T_took T_tookMany T_helps T_before) s.heap.size) s (ww_X7_leave cI cC oT oT_s oT_aside oT_states oT_snapshot oT_text oT_serves oT_took oT_tookMany oT_helps oT_before oT_read (nI 0) T_stateMany T_hasSnapshot T_length T_stopNumber T_stopError T_at T_isWell T_readMany T_s T_states T_serves T_took T_tookMany T_helps T_before) H locs := ⟨h1, h2, h3⟩
  clear h1 h2 h3
  refine lv_aload_n hx hb dX7_leave_5 rfl (lv_at hl 0 rfl) ?_
  refine lv_iload_n hx hb dX7_leave_6 rfl (lv_at hl 1 rfl) ?_
  refine lv_iload_n hx hb dX7_leave_7 rfl (lv_at hl 2 rfl) ?_
  refine lv_iload_n hx hb dX7_leave_8 rfl (lv_at hl 3 rfl) ?_
  refine kcVi (W1 := (fun u => (ww_X7_leave cI cC oT oT_s oT_aside oT_states oT_snapshot oT_text oT_serves oT_took oT_tookMany oT_helps oT_before oT_read (nI 0) T_stateMany T_hasSnapshot T_length T_stopNumber T_stopError T_at T_isWell T_readMany (u.1) T_states (u.2.1) (u.2.2.1) (u.2.2.2.1) (u.2.2.2.2.1) (u.2.2.2.2.2)))) (rest := []) (As := [.int x1, .int x2, .int x3]) ⟨Nat.le_of_ble_eq_true rfl, Nat.le_of_ble_eq_true rfl⟩ ⟨hx, hb, hml, hown, hts⟩ (c_X7_refusesLeave l oT oT_s oT_aside oT_states oT_snapshot oT_text oT_serves oT_took oT_tookMany oT_helps oT_before oT_read H.size (nI 0) T_stateMany T_hasSnapshot T_length T_stopNumber T_stopError T_at T_isWell T_readMany T_s T_serves T_took T_tookMany T_helps T_before x1 x2 x3 hw) (cwV 3 hts gX7_leave_X7_refusesLeave rfl rfl rfl ⟨rfl, hd_X7_refusesLeave⟩ ⟨Nat.le_of_ble_eq_true rfl, Nat.le_of_ble_eq_true rfl⟩) hKw hA hwd [0, 1, 3, 4, 5, 6, 7] [2] [1, 2, 0, 3, 4, 5, 6, 7] [(oT_states, .inl (cI, 1896, .inl T_states))] rfl rfl rfl rfl (by decide) rfl (fun _ => rfl) 0 7 rfl rfl rfl rfl hl.1 rfl (lv_room (Nat.le_of_ble_eq_true rfl)) dX7_leave_9 (fun r1 u H locs hw hwd => ?_)
  obtain ⟨T_s2, T_serves3, T_took4, T_tookMany5, T_helps6, T_before7⟩ := u
  try dsimp only at hw
  replace hwd : wd D (va_A (ww_X7_leave cI cC oT oT_s oT_aside oT_states oT_snapshot oT_text oT_serves oT_took oT_tookMany oT_helps oT_before oT_read T_thrown T_stateMany T_hasSnapshot T_length T_stopNumber T_stopError T_at T_isWell T_readMany T_s T_states T_serves T_took T_tookMany T_helps T_before) s.heap.size) s (ww_X7_leave cI cC oT oT_s oT_aside oT_states oT_snapshot oT_text oT_serves oT_took oT_tookMany oT_helps oT_before oT_read (nI 0) T_stateMany T_hasSnapshot T_length T_stopNumber T_stopError T_at T_isWell T_readMany T_s2 T_states T_serves3 T_took4 T_tookMany5 T_helps6 T_before7) H locs := hwd
  refine lv_istore (lv' := [(4, .int r1), (0, .ref oT), (1, .int x1), (2, .int x2), (3, .int x3)]) hx hb dX7_leave_12 hl (by decide) rfl (fun ls hl => ?_)
  refine lv_iload hx hb dX7_leave_14 (lv_at hl 0 rfl) ?_
  refine lv_if_eq (tgt := 22) hx hb dX7_leave_16 (by decide) (fun c8 => ?_) (fun c8 => ?_)
  · replace hw := hw.1 c8
    refine lv_aload_n hx hb dX7_leave_22 rfl (lv_at hl 1 rfl) ?_
    refine kcVv (W1 := (fun u => (ww_X7_leave cI cC oT oT_s oT_aside oT_states oT_snapshot oT_text oT_serves oT_took oT_tookMany oT_helps oT_before oT_read (nI 0) (u.1) T_hasSnapshot T_length T_stopNumber T_stopError T_at T_isWell T_readMany T_s2 (u.2) T_serves3 T_took4 T_tookMany5 T_helps6 T_before7))) (rest := []) (As := []) ⟨Nat.le_of_ble_eq_true rfl, Nat.le_of_ble_eq_true rfl⟩ ⟨hx, hb, hml, hown, hts⟩ (c_X7_records l oT oT_s oT_aside oT_states oT_snapshot oT_text oT_serves oT_took oT_tookMany oT_helps oT_before oT_read H.size (nI 0) T_stateMany T_hasSnapshot T_length T_stopNumber T_stopError T_at T_isWell T_readMany T_s2 T_states hw) (cwV 0 hts gX7_leave_X7_records rfl rfl rfl ⟨rfl, hd_X7_records⟩ ⟨Nat.le_of_ble_eq_true rfl, Nat.le_of_ble_eq_true rfl⟩) hKw hA hwd [0, 1, 2] [3, 4, 5, 6, 7] [5, 6, 7, 0, 1, 2, 3, 4] [(oT_serves, .inl (cI, 16, .inl T_serves3)), (oT_took, .inl (cI, 30, .inl T_took4)), (oT_tookMany, .inl (cI, 10, .inl T_tookMany5)), (oT_helps, .inl (cI, 10, .inl T_helps6)), (oT_before, .inl (cI, 10, .inl T_before7))] rfl rfl rfl rfl (by decide) rfl (fun _ => rfl) 0 7 rfl rfl rfl rfl hl.1 rfl (lv_room (Nat.le_of_ble_eq_true rfl)) dX7_leave_23 (fun u H locs hw hwd => ?_)
    obtain ⟨T_stateMany9, T_states10⟩ := u
    try dsimp only at hw
    replace hwd : wd D (va_A (ww_X7_leave cI cC oT oT_s oT_aside oT_states oT_snapshot oT_text oT_serves oT_took oT_tookMany oT_helps oT_before oT_read T_thrown T_stateMany T_hasSnapshot T_length T_stopNumber T_stopError T_at T_isWell T_readMany T_s T_states T_serves T_took T_tookMany T_helps T_before) s.heap.size) s (ww_X7_leave cI cC oT oT_s oT_aside oT_states oT_snapshot oT_text oT_serves oT_took oT_tookMany oT_helps oT_before oT_read (nI 0) T_stateMany9 T_hasSnapshot T_length T_stopNumber T_stopError T_at T_isWell T_readMany T_s2 T_states10 T_serves3 T_took4 T_tookMany5 T_helps6 T_before7) H locs := hwd
    refine lv_aload_n hx hb dX7_leave_26 rfl (lv_at hl 1 rfl) ?_
    refine lv_iload_n hx hb dX7_leave_27 rfl (lv_at hl 2 rfl) ?_
    refine lv_iload_n hx hb dX7_leave_28 rfl (lv_at hl 3 rfl) ?_
    refine lv_iload_n hx hb dX7_leave_29 rfl (lv_at hl 4 rfl) ?_
    refine kcVv (W1 := (fun u => (ww_X7_leave cI cC oT oT_s oT_aside oT_states oT_snapshot oT_text oT_serves oT_took oT_tookMany oT_helps oT_before oT_read (nI 0) T_stateMany9 T_hasSnapshot T_length T_stopNumber T_stopError T_at T_isWell T_readMany u T_states10 T_serves3 T_took4 T_tookMany5 T_helps6 T_before7))) (rest := []) (As := [.int x1, .int x2, .int x3]) ⟨Nat.le_of_ble_eq_true rfl, Nat.le_of_ble_eq_true rfl⟩ ⟨hx, hb, hml, hown, hts⟩ (c_X7_grants l oT oT_s oT_aside oT_states oT_snapshot oT_text oT_serves oT_took oT_tookMany oT_helps oT_before oT_read H.size (nI 0) T_stateMany9 T_hasSnapshot T_length T_stopNumber T_stopError T_at T_isWell T_readMany T_s2 x1 x2 x3 hw) (cwV 3 hts gX7_leave_X7_grants rfl rfl rfl ⟨rfl, hd_X7_grants⟩ ⟨Nat.le_of_ble_eq_true rfl, Nat.le_of_ble_eq_true rfl⟩) hKw hA hwd [0, 1] [2, 3, 4, 5, 6, 7] [6, 7, 0, 1, 2, 3, 4, 5] [(oT_states, .inl (cI, 1896, .inl T_states10)), (oT_serves, .inl (cI, 16, .inl T_serves3)), (oT_took, .inl (cI, 30, .inl T_took4)), (oT_tookMany, .inl (cI, 10, .inl T_tookMany5)), (oT_helps, .inl (cI, 10, .inl T_helps6)), (oT_before, .inl (cI, 10, .inl T_before7))] rfl rfl rfl rfl (by decide) rfl (fun _ => rfl) 0 7 rfl rfl rfl rfl hl.1 rfl (lv_room (Nat.le_of_ble_eq_true rfl)) dX7_leave_30 (fun u H locs hw hwd => ?_)
    obtain ⟨T_s11, rfl⟩ : ∃ z, z = u := ⟨_, rfl⟩
    try dsimp only at hw
    replace hwd : wd D (va_A (ww_X7_leave cI cC oT oT_s oT_aside oT_states oT_snapshot oT_text oT_serves oT_took oT_tookMany oT_helps oT_before oT_read T_thrown T_stateMany T_hasSnapshot T_length T_stopNumber T_stopError T_at T_isWell T_readMany T_s T_states T_serves T_took T_tookMany T_helps T_before) s.heap.size) s (ww_X7_leave cI cC oT oT_s oT_aside oT_states oT_snapshot oT_text oT_serves oT_took oT_tookMany oT_helps oT_before oT_read (nI 0) T_stateMany9 T_hasSnapshot T_length T_stopNumber T_stopError T_at T_isWell T_readMany T_s11 T_states10 T_serves3 T_took4 T_tookMany5 T_helps6 T_before7) H locs := hwd
    refine lv_iload_n hx hb dX7_leave_33 rfl (lv_at hl 4 rfl) ?_
    refine lv_iload_n hx hb dX7_leave_34 rfl (lv_at hl 3 rfl) ?_
    refine lv_isub hx hb dX7_leave_35 ?_
    refine lv_iconst (v := (nI 1)) hx hb dX7_leave_36 rfl ?_
    refine lv_iadd hx hb dX7_leave_37 ?_
    exact HR ((x3 - x2) + (nI 1)) (nI 0) T_stateMany9 T_s11 T_states10 T_serves3 T_took4 T_tookMany5 T_helps6 T_before7 hw hwd dX7_leave_38
  · replace hw := hw.2 c8
    refine lv_iload hx hb dX7_leave_19 (lv_at hl 0 rfl) ?_
    exact HR r1 (nI 0) T_stateMany T_s2 T_states T_serves3 T_took4 T_tookMany5 T_helps6 T_before7 hw hwd dX7_leave_21
abbrev ww_X7_takeBack (cI cC : ClassId) (oT oT_s oT_aside oT_states oT_snapshot oT_text oT_serves oT_took oT_tookMany oT_helps oT_before oT_read : Nat) (T_thrown : Int32) (T_stateMany : Int32) (T_hasSnapshot : Int32) (T_length : Int32) (T_stopNumber : Int32) (T_stopError : Int32) (T_at : Int32) (T_isWell : Int32) (T_readMany : Int32) (T_s : Nat → Int32) (T_states : Nat → Int32) : va_W := [(oT, .inr (7, [.int T_thrown, .ref oT_s, .ref oT_aside, .ref oT_states, .int T_stateMany, .ref oT_snapshot, .int T_hasSnapshot, .ref oT_text, .int T_length, .int T_stopNumber, .int T_stopError, .ref oT_serves, .ref oT_took, .ref oT_tookMany, .ref oT_helps, .ref oT_before, .int T_at, .int T_isWell, .ref oT_read, .int T_readMany])), (oT_s, .inl (cI, 474, .inl T_s)), (oT_states, .inl (cI, 1896, .inl T_states))]
abbrev rm_X7_takeBack : Room := { frames := 2, cells := 0, slots := 0, locals := 45 }
theorem ic_X7_takeBack_X7 : ∀ w ∈ u_ws RX7 TX7 20, w ∈ wsX7_takeBack := by
  intro w h
  simp only [wsX7_takeBack, List.mem_cons, List.mem_append]
  simp only [h, or_true, true_or]
def wp_X7_takeBack (T_thrown : Int32) (T_stateMany : Int32) (T_s : Nat → Int32) (T_states : Nat → Int32) (x1 : Int32) (x2 : Int32) (Q : Int32 → Int32 → Int32 → (Nat → Int32) → (Nat → Int32) → Prop) : Prop := wp_X7_isPerson x1 (fun r1 => ((¬ r1 = 0 → wp_X7_isDay x2 (fun r3 => ((¬ r3 = 0 → wp_X7_leaveOn T_s x1 x2 (fun r5 => ((¬ r5 = (-5) → wp_X7_records T_stateMany T_s T_states (fun T_stateMany7 T_states8 => wp_X7_ofLeave T_s r5 (nI 2) (fun r9 => wp_X7_ofLeave T_s r5 (nI 1) (fun r10 => ∀ x4_11, x4_11 = (r9 - r10) + (nI 1) → wp_X7_drops T_s r5 (fun T_s12 => Q x4_11 (nI 0) T_stateMany7 T_s12 T_states8))))) ∧ (r5 = (-5) → Q (-5) (nI 0) T_stateMany T_s T_states)))) ∧ (r3 = 0 → Q (-2) (nI 0) T_stateMany T_s T_states)))) ∧ (r1 = 0 → Q (-1) (nI 0) T_stateMany T_s T_states)))
set_option maxRecDepth 100000 in
set_option maxHeartbeats 4000000 in
theorem c_X7_takeBack (l : Launch) {D : va_G} {cI cC cR : ClassId} (oT oT_s oT_aside oT_states oT_snapshot oT_text oT_serves oT_took oT_tookMany oT_helps oT_before oT_read : Nat) (sz : Nat) (T_thrown : Int32) (T_stateMany : Int32) (T_hasSnapshot : Int32) (T_length : Int32) (T_stopNumber : Int32) (T_stopError : Int32) (T_at : Int32) (T_isWell : Int32) (T_readMany : Int32) (T_s : Nat → Int32) (T_states : Nat → Int32) (x1 : Int32) (x2 : Int32) {Q : Int32 → Int32 → Int32 → (Nat → Int32) → (Nat → Int32) → Prop} (hw : wp_X7_takeBack T_thrown T_stateMany T_s T_states x1 x2 Q) : Met l yX7_takeBack wsX7_takeBack rm_X7_takeBack (PcW D cI cC cR [.ref oT, .int x1, .int x2] (ww_X7_takeBack cI cC oT oT_s oT_aside oT_states oT_snapshot oT_text oT_serves oT_took oT_tookMany oT_helps oT_before oT_read T_thrown T_stateMany T_hasSnapshot T_length T_stopNumber T_stopError T_at T_isWell T_readMany T_s T_states) sz) (QiW D (fun (r : Int32) (u : Int32 × Int32 × (Nat → Int32) × (Nat → Int32)) => Q r u.1 u.2.1 u.2.2.1 u.2.2.2) (fun u => (ww_X7_takeBack cI cC oT oT_s oT_aside oT_states oT_snapshot oT_text oT_serves oT_took oT_tookMany oT_helps oT_before oT_read (u.1) (u.2.1) T_hasSnapshot T_length T_stopNumber T_stopError T_at T_isWell T_readMany (u.2.2.1) (u.2.2.2))) (ww_X7_takeBack cI cC oT oT_s oT_aside oT_states oT_snapshot oT_text oT_serves oT_took oT_tookMany oT_helps oT_before oT_read T_thrown T_stateMany T_hasSnapshot T_length T_stopNumber T_stopError T_at T_isWell T_readMany T_s T_states) sz) 0 0 (va_A (ww_X7_takeBack cI cC oT oT_s oT_aside oT_states oT_snapshot oT_text oT_serves oT_took oT_tookMany oT_helps oT_before oT_read T_thrown T_stateMany T_hasSnapshot T_length T_stopNumber T_stopError T_at T_isWell T_readMany T_s T_states) sz) := by
  refine Met.ofW (cc := cX7_takeBack) (maxL := 5) (ret := (some .int)) (by decide) rfl ?_
  intro p e s m args below meth c s₁ B hml hv
  obtain ⟨rfl, hsz, hP, hKw, hD0⟩ := hv
  have hlocks := B.notSynchronized
  subst hsz
  have hD := hD0.self (sz := s.heap.size)
  have CX : cx cX7_takeBack (some .int) 5 RX7 wsX7_takeBack p m meth c s ([.ref oT, .int x1, .int x2] : List Value).toArray D cI cC cR (va_A (ww_X7_takeBack cI cC oT oT_s oT_aside oT_states oT_snapshot oT_text oT_serves oT_took oT_tookMany oT_helps oT_before oT_read T_thrown T_stateMany T_hasSnapshot T_length T_stopNumber T_stopError T_at T_isWell T_readMany T_s T_states) s.heap.size) := ⟨B.exec, B.bytes, B.returns, hml, atoms_spec (ws := wsX7_takeBack) B.pre, findClass_of_methodNamed B.named, hlocks, hKw, fun q h => Or.inr h⟩
  obtain ⟨hx, hb, hr, -, hts, hown, -, -, hA⟩ := id CX
  have hwd : wd D (va_A (ww_X7_takeBack cI cC oT oT_s oT_aside oT_states oT_snapshot oT_text oT_serves oT_took oT_tookMany oT_helps oT_before oT_read T_thrown T_stateMany T_hasSnapshot T_length T_stopNumber T_stopError T_at T_isWell T_readMany T_s T_states) s.heap.size) s (ww_X7_takeBack cI cC oT oT_s oT_aside oT_states oT_snapshot oT_text oT_serves oT_took oT_tookMany oT_helps oT_before oT_read T_thrown T_stateMany T_hasSnapshot T_length T_stopNumber T_stopError T_at T_isWell T_readMany T_s T_states) s.heap [] := ⟨hP, hD, va_S.rf⟩
  have hl := lv_entry ([.ref oT, .int x1, .int x2]) (n := 5) (Nat.le_of_ble_eq_true rfl)
  rw [lg_entry_eq]
  generalize (lg_sl ([.ref oT, .int x1, .int x2]) ++ List.replicate (5 - (lg_sl ([.ref oT, .int x1, .int x2])).length) Slot.unset).toArray = ls at hl ⊢
  have hl : lv_has ls 5 [(0, .ref oT), (1, .int x1), (2, .int x2)] := hl
  have HR : ∀ (r : Int32) (u0 : Int32) (u1 : Int32) (u2 : Nat → Int32) (u3 : Nat → Int32) {H : Heap} {locs : List Loc} {ls : Array Slot} {pc : Nat}, Q r u0 u1 u2 u3 → wd D (va_A (ww_X7_takeBack cI cC oT oT_s oT_aside oT_states oT_snapshot oT_text oT_serves oT_took oT_tookMany oT_helps oT_before oT_read T_thrown T_stateMany T_hasSnapshot T_length T_stopNumber T_stopError T_at T_isWell T_readMany T_s T_states) s.heap.size) s (ww_X7_takeBack cI cC oT oT_s oT_aside oT_states oT_snapshot oT_text oT_serves oT_took oT_tookMany oT_helps oT_before oT_read u0 u1 T_hasSnapshot T_length T_stopNumber T_stopError T_at T_isWell T_readMany u2 u3) H locs → decode cX7_takeBack pc = .ok (.ireturn, 1) → W p l e (headSpec wsX7_takeBack rm_X7_takeBack).room s m ([.ref oT, .int x1, .int x2] : List Value).toArray below meth c H locs 0 0 (MQ below (QiW D (fun (r : Int32) (u : Int32 × Int32 × (Nat → Int32) × (Nat → Int32)) => Q r u.1 u.2.1 u.2.2.1 u.2.2.2) (fun u => (ww_X7_takeBack cI cC oT oT_s oT_aside oT_states oT_snapshot oT_text oT_serves oT_took oT_tookMany oT_helps oT_before oT_read (u.1) (u.2.1) T_hasSnapshot T_length T_stopNumber T_stopError T_at T_isWell T_readMany (u.2.2.1) (u.2.2.2))) (ww_X7_takeBack cI cC oT oT_s oT_aside oT_states oT_snapshot oT_text oT_serves oT_took oT_tookMany oT_helps oT_before oT_read T_thrown T_stateMany T_hasSnapshot T_length T_stopNumber T_stopError T_at T_isWell T_readMany T_s T_states) s.heap.size) ([.ref oT, .int x1, .int x2] : List Value).toArray s 0 0 (va_A (ww_X7_takeBack cI cC oT oT_s oT_aside oT_states oT_snapshot oT_text oT_serves oT_took oT_tookMany oT_helps oT_before oT_read T_thrown T_stateMany T_hasSnapshot T_length T_stopNumber T_stopError T_at T_isWell T_readMany T_s T_states) s.heap.size)) (F0 m pc ls [.int r]) := by
    intro r u0 u1 u2 u3 H locs ls pc hq hw9 hd9
    exact W.iret (v := r) hx hb hr (fun t ht hW => ⟨⟨r, (u0, u1, u2, u3), rfl, hq, by rw [ht]; exact hw9.1, hw9.2.1⟩, hw9.2.2.F ht⟩) hw9.2.2.2.2 hd9
  unfold wp_X7_takeBack at hw
  refine lv_aload_n hx hb dX7_takeBack_0 rfl (lv_at hl 0 rfl) ?_
  refine lv_iconst (v := (nI 0)) hx hb dX7_takeBack_1 rfl ?_
  refine va_put (D := D) (ci := 7) (v := .int (nI 0)) (ty := .int) (C := RX7) (T := TX7) (N := 20) hx hb hts ic_X7_takeBack_X7 tyX7 tyX7_ok nmX7 hown hKw.1 hwd.1 hwd.2.1 hwd.2.2 0 rfl rfl 0 (by decide) (hts (.fieldLink RX7 43 "DrillWardensModel" "thrown" "I") (List.mem_of_getElem? (i := 1) rfl)) (fun _ h9 => h9) rfl (tyX7_ok 0 (by decide)) rfl rfl (Nat.le_of_ble_eq_true rfl) dX7_takeBack_2 (fun H locs h1 h2 h3 => ?_)
  replace hwd : wd D (va_A (ww_X7_takeBack cI cC oT oT_s oT_aside oT_states oT_snapshot oT_text oT_serves oT_took oT_tookMany oT_helps oT_before oT_read T_thrown T_stateMany T_hasSnapshot T_length T_stopNumber T_stopError T_at T_isWell T_readMany T_s T_states) s.heap.size) s (ww_X7_takeBack cI cC oT oT_s oT_aside oT_states oT_snapshot oT_text oT_serves oT_took oT_tookMany oT_helps oT_before oT_read (nI 0) T_stateMany T_hasSnapshot T_length T_stopNumber T_stopError T_at T_isWell T_readMany T_s T_states) H locs := ⟨h1, h2, h3⟩
  clear h1 h2 h3
  refine lv_iload_n hx hb dX7_takeBack_5 rfl (lv_at hl 1 rfl) ?_
  refine kcSi (rest := []) (As := [.int x1]) ⟨Nat.le_of_ble_eq_true rfl, Nat.le_of_ble_eq_true rfl⟩ ⟨hx, hb, hml, hown, hts⟩ (c_X7_isPerson l H.size x1 hw) (va_cwS 1 hts gX7_takeBack_X7_isPerson rfl rfl rfl hd_X7_isPerson ⟨Nat.le_of_ble_eq_true rfl, Nat.le_of_ble_eq_true rfl⟩) hKw hA hwd rfl hl.1 rfl (lv_room (Nat.le_of_ble_eq_true rfl)) dX7_takeBack_6 (fun r1 H locs hw hwd => ?_)
  try dsimp only at hw
  refine lv_if_ne (tgt := 14) hx hb dX7_takeBack_9 (by decide) (fun c2 => ?_) (fun c2 => ?_)
  · replace hw := hw.1 c2
    refine lv_iload_n hx hb dX7_takeBack_14 rfl (lv_at hl 2 rfl) ?_
    refine kcSi (rest := []) (As := [.int x2]) ⟨Nat.le_of_ble_eq_true rfl, Nat.le_of_ble_eq_true rfl⟩ ⟨hx, hb, hml, hown, hts⟩ (c_X7_isDay l H.size x2 hw) (va_cwS 1 hts gX7_takeBack_X7_isDay rfl rfl rfl hd_X7_isDay ⟨Nat.le_of_ble_eq_true rfl, Nat.le_of_ble_eq_true rfl⟩) hKw hA hwd rfl hl.1 rfl (lv_room (Nat.le_of_ble_eq_true rfl)) dX7_takeBack_15 (fun r3 H locs hw hwd => ?_)
    try dsimp only at hw
    refine lv_if_ne (tgt := 24) hx hb dX7_takeBack_18 (by decide) (fun c4 => ?_) (fun c4 => ?_)
    · replace hw := hw.1 c4
      refine lv_aload_n hx hb dX7_takeBack_24 rfl (lv_at hl 0 rfl) ?_
      refine lv_iload_n hx hb dX7_takeBack_25 rfl (lv_at hl 1 rfl) ?_
      refine lv_iload_n hx hb dX7_takeBack_26 rfl (lv_at hl 2 rfl) ?_
      refine kcVi (W1 := (fun u => (ww_X7_takeBack cI cC oT oT_s oT_aside oT_states oT_snapshot oT_text oT_serves oT_took oT_tookMany oT_helps oT_before oT_read (nI 0) T_stateMany T_hasSnapshot T_length T_stopNumber T_stopError T_at T_isWell T_readMany T_s T_states))) (rest := []) (As := [.int x1, .int x2]) ⟨Nat.le_of_ble_eq_true rfl, Nat.le_of_ble_eq_true rfl⟩ ⟨hx, hb, hml, hown, hts⟩ (c_X7_leaveOn l oT oT_s oT_aside oT_states oT_snapshot oT_text oT_serves oT_took oT_tookMany oT_helps oT_before oT_read H.size (nI 0) T_stateMany T_hasSnapshot T_length T_stopNumber T_stopError T_at T_isWell T_readMany T_s x1 x2 hw) (cwV 2 hts gX7_takeBack_X7_leaveOn rfl rfl rfl ⟨rfl, hd_X7_leaveOn⟩ ⟨Nat.le_of_ble_eq_true rfl, Nat.le_of_ble_eq_true rfl⟩) hKw hA hwd [0, 1] [2] [1, 2, 0] [(oT_states, .inl (cI, 1896, .inl T_states))] rfl rfl rfl rfl (by decide) rfl (fun _ => rfl) 0 7 rfl rfl rfl rfl hl.1 rfl (lv_room (Nat.le_of_ble_eq_true rfl)) dX7_takeBack_27 (fun r5 u H locs hw hwd => ?_)
      try dsimp only at hw
      replace hwd : wd D (va_A (ww_X7_takeBack cI cC oT oT_s oT_aside oT_states oT_snapshot oT_text oT_serves oT_took oT_tookMany oT_helps oT_before oT_read T_thrown T_stateMany T_hasSnapshot T_length T_stopNumber T_stopError T_at T_isWell T_readMany T_s T_states) s.heap.size) s (ww_X7_takeBack cI cC oT oT_s oT_aside oT_states oT_snapshot oT_text oT_serves oT_took oT_tookMany oT_helps oT_before oT_read (nI 0) T_stateMany T_hasSnapshot T_length T_stopNumber T_stopError T_at T_isWell T_readMany T_s T_states) H locs := hwd
      refine lv_istore_n (lv' := [(3, .int r5), (0, .ref oT), (1, .int x1), (2, .int x2)]) hx hb dX7_takeBack_30 rfl hl (by decide) rfl (fun ls hl => ?_)
      refine lv_iload_n hx hb dX7_takeBack_31 rfl (lv_at hl 0 rfl) ?_
      refine lv_bipush (v := (-5)) hx hb dX7_takeBack_32 rfl ?_
      refine lv_icmp_ne (tgt := 40) hx hb dX7_takeBack_34 (by decide) (fun c6 => ?_) (fun c6 => ?_)
      · replace hw := hw.1 c6
        refine lv_aload_n hx hb dX7_takeBack_40 rfl (lv_at hl 1 rfl) ?_
        refine kcVv (W1 := (fun u => (ww_X7_takeBack cI cC oT oT_s oT_aside oT_states oT_snapshot oT_text oT_serves oT_took oT_tookMany oT_helps oT_before oT_read (nI 0) (u.1) T_hasSnapshot T_length T_stopNumber T_stopError T_at T_isWell T_readMany T_s (u.2)))) (rest := []) (As := []) ⟨Nat.le_of_ble_eq_true rfl, Nat.le_of_ble_eq_true rfl⟩ ⟨hx, hb, hml, hown, hts⟩ (c_X7_records l oT oT_s oT_aside oT_states oT_snapshot oT_text oT_serves oT_took oT_tookMany oT_helps oT_before oT_read H.size (nI 0) T_stateMany T_hasSnapshot T_length T_stopNumber T_stopError T_at T_isWell T_readMany T_s T_states hw) (cwV 0 hts gX7_takeBack_X7_records rfl rfl rfl ⟨rfl, hd_X7_records⟩ ⟨Nat.le_of_ble_eq_true rfl, Nat.le_of_ble_eq_true rfl⟩) hKw hA hwd [0, 1, 2] [] [0, 1, 2] [] rfl rfl rfl rfl (by decide) rfl (fun _ => rfl) 0 7 rfl rfl rfl rfl hl.1 rfl (lv_room (Nat.le_of_ble_eq_true rfl)) dX7_takeBack_41 (fun u H locs hw hwd => ?_)
        obtain ⟨T_stateMany7, T_states8⟩ := u
        try dsimp only at hw
        replace hwd : wd D (va_A (ww_X7_takeBack cI cC oT oT_s oT_aside oT_states oT_snapshot oT_text oT_serves oT_took oT_tookMany oT_helps oT_before oT_read T_thrown T_stateMany T_hasSnapshot T_length T_stopNumber T_stopError T_at T_isWell T_readMany T_s T_states) s.heap.size) s (ww_X7_takeBack cI cC oT oT_s oT_aside oT_states oT_snapshot oT_text oT_serves oT_took oT_tookMany oT_helps oT_before oT_read (nI 0) T_stateMany7 T_hasSnapshot T_length T_stopNumber T_stopError T_at T_isWell T_readMany T_s T_states8) H locs := hwd
        refine lv_aload_n hx hb dX7_takeBack_44 rfl (lv_at hl 1 rfl) ?_
        refine lv_iload_n hx hb dX7_takeBack_45 rfl (lv_at hl 0 rfl) ?_
        refine lv_iconst (v := (nI 2)) hx hb dX7_takeBack_46 rfl ?_
        refine kcVi (W1 := (fun u => (ww_X7_takeBack cI cC oT oT_s oT_aside oT_states oT_snapshot oT_text oT_serves oT_took oT_tookMany oT_helps oT_before oT_read (nI 0) T_stateMany7 T_hasSnapshot T_length T_stopNumber T_stopError T_at T_isWell T_readMany T_s T_states8))) (rest := []) (As := [.int r5, .int (nI 2)]) ⟨Nat.le_of_ble_eq_true rfl, Nat.le_of_ble_eq_true rfl⟩ ⟨hx, hb, hml, hown, hts⟩ (c_X7_ofLeave l oT oT_s oT_aside oT_states oT_snapshot oT_text oT_serves oT_took oT_tookMany oT_helps oT_before oT_read H.size (nI 0) T_stateMany7 T_hasSnapshot T_length T_stopNumber T_stopError T_at T_isWell T_readMany T_s r5 (nI 2) hw) (cwV 2 hts gX7_takeBack_X7_ofLeave rfl rfl rfl ⟨rfl, hd_X7_ofLeave⟩ ⟨Nat.le_of_ble_eq_true rfl, Nat.le_of_ble_eq_true rfl⟩) hKw hA hwd [0, 1] [2] [1, 2, 0] [(oT_states, .inl (cI, 1896, .inl T_states8))] rfl rfl rfl rfl (by decide) rfl (fun _ => rfl) 0 7 rfl rfl rfl rfl hl.1 rfl (lv_room (Nat.le_of_ble_eq_true rfl)) dX7_takeBack_47 (fun r9 u H locs hw hwd => ?_)
        try dsimp only at hw
        replace hwd : wd D (va_A (ww_X7_takeBack cI cC oT oT_s oT_aside oT_states oT_snapshot oT_text oT_serves oT_took oT_tookMany oT_helps oT_before oT_read T_thrown T_stateMany T_hasSnapshot T_length T_stopNumber T_stopError T_at T_isWell T_readMany T_s T_states) s.heap.size) s (ww_X7_takeBack cI cC oT oT_s oT_aside oT_states oT_snapshot oT_text oT_serves oT_took oT_tookMany oT_helps oT_before oT_read (nI 0) T_stateMany7 T_hasSnapshot T_length T_stopNumber T_stopError T_at T_isWell T_readMany T_s T_states8) H locs := hwd
        refine lv_aload_n hx hb dX7_takeBack_50 rfl (lv_at hl 1 rfl) ?_
        refine lv_iload_n hx hb dX7_takeBack_51 rfl (lv_at hl 0 rfl) ?_
        refine lv_iconst (v := (nI 1)) hx hb dX7_takeBack_52 rfl ?_
        refine kcVi (W1 := (fun u => (ww_X7_takeBack cI cC oT oT_s oT_aside oT_states oT_snapshot oT_text oT_serves oT_took oT_tookMany oT_helps oT_before oT_read (nI 0) T_stateMany7 T_hasSnapshot T_length T_stopNumber T_stopError T_at T_isWell T_readMany T_s T_states8))) (rest := [.int r9]) (As := [.int r5, .int (nI 1)]) ⟨Nat.le_of_ble_eq_true rfl, Nat.le_of_ble_eq_true rfl⟩ ⟨hx, hb, hml, hown, hts⟩ (c_X7_ofLeave l oT oT_s oT_aside oT_states oT_snapshot oT_text oT_serves oT_took oT_tookMany oT_helps oT_before oT_read H.size (nI 0) T_stateMany7 T_hasSnapshot T_length T_stopNumber T_stopError T_at T_isWell T_readMany T_s r5 (nI 1) hw) (cwV 2 hts gX7_takeBack_X7_ofLeave rfl rfl rfl ⟨rfl, hd_X7_ofLeave⟩ ⟨Nat.le_of_ble_eq_true rfl, Nat.le_of_ble_eq_true rfl⟩) hKw hA hwd [0, 1] [2] [1, 2, 0] [(oT_states, .inl (cI, 1896, .inl T_states8))] rfl rfl rfl rfl (by decide) rfl (fun _ => rfl) 0 7 rfl rfl rfl rfl hl.1 rfl (lv_room (Nat.le_of_ble_eq_true rfl)) dX7_takeBack_53 (fun r10 u H locs hw hwd => ?_)
        try dsimp only at hw
        replace hwd : wd D (va_A (ww_X7_takeBack cI cC oT oT_s oT_aside oT_states oT_snapshot oT_text oT_serves oT_took oT_tookMany oT_helps oT_before oT_read T_thrown T_stateMany T_hasSnapshot T_length T_stopNumber T_stopError T_at T_isWell T_readMany T_s T_states) s.heap.size) s (ww_X7_takeBack cI cC oT oT_s oT_aside oT_states oT_snapshot oT_text oT_serves oT_took oT_tookMany oT_helps oT_before oT_read (nI 0) T_stateMany7 T_hasSnapshot T_length T_stopNumber T_stopError T_at T_isWell T_readMany T_s T_states8) H locs := hwd
        refine lv_isub hx hb dX7_takeBack_56 ?_
        refine lv_iconst (v := (nI 1)) hx hb dX7_takeBack_57 rfl ?_
        refine lv_iadd hx hb dX7_takeBack_58 ?_
        refine lv_topi (fun x4_11 e_x4_11 => ?_)
        replace hw := hw x4_11 e_x4_11
        refine lv_istore (lv' := [(4, .int x4_11), (3, .int r5), (0, .ref oT), (1, .int x1), (2, .int x2)]) hx hb dX7_takeBack_59 hl (by decide) rfl (fun ls hl => ?_)
        refine lv_aload_n hx hb dX7_takeBack_61 rfl (lv_at hl 2 rfl) ?_
        refine lv_iload_n hx hb dX7_takeBack_62 rfl (lv_at hl 1 rfl) ?_
        refine kcVv (W1 := (fun u => (ww_X7_takeBack cI cC oT oT_s oT_aside oT_states oT_snapshot oT_text oT_serves oT_took oT_tookMany oT_helps oT_before oT_read (nI 0) T_stateMany7 T_hasSnapshot T_length T_stopNumber T_stopError T_at T_isWell T_readMany u T_states8))) (rest := []) (As := [.int r5]) ⟨Nat.le_of_ble_eq_true rfl, Nat.le_of_ble_eq_true rfl⟩ ⟨hx, hb, hml, hown, hts⟩ (c_X7_drops l oT oT_s oT_aside oT_states oT_snapshot oT_text oT_serves oT_took oT_tookMany oT_helps oT_before oT_read H.size (nI 0) T_stateMany7 T_hasSnapshot T_length T_stopNumber T_stopError T_at T_isWell T_readMany T_s r5 hw) (cwV 1 hts gX7_takeBack_X7_drops rfl rfl rfl ⟨rfl, hd_X7_drops⟩ ⟨Nat.le_of_ble_eq_true rfl, Nat.le_of_ble_eq_true rfl⟩) hKw hA hwd [0, 1] [2] [1, 2, 0] [(oT_states, .inl (cI, 1896, .inl T_states8))] rfl rfl rfl rfl (by decide) rfl (fun _ => rfl) 0 7 rfl rfl rfl rfl hl.1 rfl (lv_room (Nat.le_of_ble_eq_true rfl)) dX7_takeBack_63 (fun u H locs hw hwd => ?_)
        obtain ⟨T_s12, rfl⟩ : ∃ z, z = u := ⟨_, rfl⟩
        try dsimp only at hw
        replace hwd : wd D (va_A (ww_X7_takeBack cI cC oT oT_s oT_aside oT_states oT_snapshot oT_text oT_serves oT_took oT_tookMany oT_helps oT_before oT_read T_thrown T_stateMany T_hasSnapshot T_length T_stopNumber T_stopError T_at T_isWell T_readMany T_s T_states) s.heap.size) s (ww_X7_takeBack cI cC oT oT_s oT_aside oT_states oT_snapshot oT_text oT_serves oT_took oT_tookMany oT_helps oT_before oT_read (nI 0) T_stateMany7 T_hasSnapshot T_length T_stopNumber T_stopError T_at T_isWell T_readMany T_s12 T_states8) H locs := hwd
        refine lv_iload hx hb dX7_takeBack_66 (lv_at hl 0 rfl) ?_
        exact HR x4_11 (nI 0) T_stateMany7 T_s12 T_states8 hw hwd dX7_takeBack_68
      · replace hw := hw.2 c6
        refine lv_bipush (v := (-5)) hx hb dX7_takeBack_37 rfl ?_
        exact HR (-5) (nI 0) T_stateMany T_s T_states hw hwd dX7_takeBack_39
    · replace hw := hw.2 c4
      refine lv_bipush (v := (-2)) hx hb dX7_takeBack_21 rfl ?_
      exact HR (-2) (nI 0) T_stateMany T_s T_states hw hwd dX7_takeBack_23
  · replace hw := hw.2 c2
    refine lv_iconst (v := (-1)) hx hb dX7_takeBack_12 rfl ?_
    exact HR (-1) (nI 0) T_stateMany T_s T_states hw hwd dX7_takeBack_13
abbrev ww_X7_refusesDrill (cI cC : ClassId) (oT oT_s oT_aside oT_states oT_snapshot oT_text oT_serves oT_took oT_tookMany oT_helps oT_before oT_read : Nat) (T_thrown : Int32) (T_stateMany : Int32) (T_hasSnapshot : Int32) (T_length : Int32) (T_stopNumber : Int32) (T_stopError : Int32) (T_at : Int32) (T_isWell : Int32) (T_readMany : Int32) (T_s : Nat → Int32) (T_serves : Nat → Int32) (T_took : Nat → Int32) (T_tookMany : Nat → Int32) (T_helps : Nat → Int32) : va_W := [(oT, .inr (7, [.int T_thrown, .ref oT_s, .ref oT_aside, .ref oT_states, .int T_stateMany, .ref oT_snapshot, .int T_hasSnapshot, .ref oT_text, .int T_length, .int T_stopNumber, .int T_stopError, .ref oT_serves, .ref oT_took, .ref oT_tookMany, .ref oT_helps, .ref oT_before, .int T_at, .int T_isWell, .ref oT_read, .int T_readMany])), (oT_s, .inl (cI, 474, .inl T_s)), (oT_serves, .inl (cI, 16, .inl T_serves)), (oT_took, .inl (cI, 30, .inl T_took)), (oT_tookMany, .inl (cI, 10, .inl T_tookMany)), (oT_helps, .inl (cI, 10, .inl T_helps))]
abbrev rm_X7_refusesDrill : Room := { frames := 5, cells := 0, slots := 0, locals := 113 }
theorem ic_X7_refusesDrill_X7 : ∀ w ∈ u_ws RX7 TX7 20, w ∈ wsX7_refusesDrill := by
  intro w h
  simp only [wsX7_refusesDrill, List.mem_cons, List.mem_append]
  simp only [h, or_true, true_or]
def wp_X7_refusesDrill (T_s : Nat → Int32) (T_serves : Nat → Int32) (T_took : Nat → Int32) (T_tookMany : Nat → Int32) (T_helps : Nat → Int32) (x1 : Int32) (x2 : Int32) (Q : Int32 → (Nat → Int32) → (Nat → Int32) → (Nat → Int32) → (Nat → Int32) → Prop) : Prop := wp_X7_isFloor x1 (fun r1 => ((¬ r1 = 0 → wp_X7_in x2 (nI 1) (nI 60) (fun r3 => ((¬ r3 = 0 → vp_in (nI 3) 474 ∧ wp_X7_plans T_s T_serves T_took T_tookMany T_helps (T_s (nI 3).toNatClampNeg) (fun T_serves5 T_took6 T_tookMany7 T_helps8 => wp_X7_of T_s x1 (nI 0) (fun r9 => ((r9 = 0 → Q (-4) T_serves5 T_took6 T_tookMany7 T_helps8) ∧ (¬ r9 = 0 → wp_X7_shortBy T_s T_tookMany7 x1 (fun r11 => ((r11 ≤ 0 → Q (nI 0) T_serves5 T_took6 T_tookMany7 T_helps8) ∧ (¬ r11 ≤ 0 → Q (-4) T_serves5 T_took6 T_tookMany7 T_helps8)))))))) ∧ (r3 = 0 → Q (-2) T_serves T_took T_tookMany T_helps)))) ∧ (r1 = 0 → Q (-1) T_serves T_took T_tookMany T_helps)))
set_option maxRecDepth 100000 in
set_option maxHeartbeats 4000000 in
theorem c_X7_refusesDrill (l : Launch) {D : va_G} {cI cC cR : ClassId} (oT oT_s oT_aside oT_states oT_snapshot oT_text oT_serves oT_took oT_tookMany oT_helps oT_before oT_read : Nat) (sz : Nat) (T_thrown : Int32) (T_stateMany : Int32) (T_hasSnapshot : Int32) (T_length : Int32) (T_stopNumber : Int32) (T_stopError : Int32) (T_at : Int32) (T_isWell : Int32) (T_readMany : Int32) (T_s : Nat → Int32) (T_serves : Nat → Int32) (T_took : Nat → Int32) (T_tookMany : Nat → Int32) (T_helps : Nat → Int32) (x1 : Int32) (x2 : Int32) {Q : Int32 → (Nat → Int32) → (Nat → Int32) → (Nat → Int32) → (Nat → Int32) → Prop} (hw : wp_X7_refusesDrill T_s T_serves T_took T_tookMany T_helps x1 x2 Q) : Met l yX7_refusesDrill wsX7_refusesDrill rm_X7_refusesDrill (PcW D cI cC cR [.ref oT, .int x1, .int x2] (ww_X7_refusesDrill cI cC oT oT_s oT_aside oT_states oT_snapshot oT_text oT_serves oT_took oT_tookMany oT_helps oT_before oT_read T_thrown T_stateMany T_hasSnapshot T_length T_stopNumber T_stopError T_at T_isWell T_readMany T_s T_serves T_took T_tookMany T_helps) sz) (QiW D (fun (r : Int32) (u : (Nat → Int32) × (Nat → Int32) × (Nat → Int32) × (Nat → Int32)) => Q r u.1 u.2.1 u.2.2.1 u.2.2.2) (fun u => (ww_X7_refusesDrill cI cC oT oT_s oT_aside oT_states oT_snapshot oT_text oT_serves oT_took oT_tookMany oT_helps oT_before oT_read T_thrown T_stateMany T_hasSnapshot T_length T_stopNumber T_stopError T_at T_isWell T_readMany T_s (u.1) (u.2.1) (u.2.2.1) (u.2.2.2))) (ww_X7_refusesDrill cI cC oT oT_s oT_aside oT_states oT_snapshot oT_text oT_serves oT_took oT_tookMany oT_helps oT_before oT_read T_thrown T_stateMany T_hasSnapshot T_length T_stopNumber T_stopError T_at T_isWell T_readMany T_s T_serves T_took T_tookMany T_helps) sz) 0 0 (va_A (ww_X7_refusesDrill cI cC oT oT_s oT_aside oT_states oT_snapshot oT_text oT_serves oT_took oT_tookMany oT_helps oT_before oT_read T_thrown T_stateMany T_hasSnapshot T_length T_stopNumber T_stopError T_at T_isWell T_readMany T_s T_serves T_took T_tookMany T_helps) sz) := by
  refine Met.ofW (cc := cX7_refusesDrill) (maxL := 3) (ret := (some .int)) (by decide) rfl ?_
  intro p e s m args below meth c s₁ B hml hv
  obtain ⟨rfl, hsz, hP, hKw, hD0⟩ := hv
  have hlocks := B.notSynchronized
  subst hsz
  have hD := hD0.self (sz := s.heap.size)
  have CX : cx cX7_refusesDrill (some .int) 3 RX7 wsX7_refusesDrill p m meth c s ([.ref oT, .int x1, .int x2] : List Value).toArray D cI cC cR (va_A (ww_X7_refusesDrill cI cC oT oT_s oT_aside oT_states oT_snapshot oT_text oT_serves oT_took oT_tookMany oT_helps oT_before oT_read T_thrown T_stateMany T_hasSnapshot T_length T_stopNumber T_stopError T_at T_isWell T_readMany T_s T_serves T_took T_tookMany T_helps) s.heap.size) := ⟨B.exec, B.bytes, B.returns, hml, atoms_spec (ws := wsX7_refusesDrill) B.pre, findClass_of_methodNamed B.named, hlocks, hKw, fun q h => Or.inr h⟩
  obtain ⟨hx, hb, hr, -, hts, hown, -, -, hA⟩ := id CX
  have hwd : wd D (va_A (ww_X7_refusesDrill cI cC oT oT_s oT_aside oT_states oT_snapshot oT_text oT_serves oT_took oT_tookMany oT_helps oT_before oT_read T_thrown T_stateMany T_hasSnapshot T_length T_stopNumber T_stopError T_at T_isWell T_readMany T_s T_serves T_took T_tookMany T_helps) s.heap.size) s (ww_X7_refusesDrill cI cC oT oT_s oT_aside oT_states oT_snapshot oT_text oT_serves oT_took oT_tookMany oT_helps oT_before oT_read T_thrown T_stateMany T_hasSnapshot T_length T_stopNumber T_stopError T_at T_isWell T_readMany T_s T_serves T_took T_tookMany T_helps) s.heap [] := ⟨hP, hD, va_S.rf⟩
  have hl := lv_entry ([.ref oT, .int x1, .int x2]) (n := 3) (Nat.le_of_ble_eq_true rfl)
  rw [lg_entry_eq]
  generalize (lg_sl ([.ref oT, .int x1, .int x2]) ++ List.replicate (3 - (lg_sl ([.ref oT, .int x1, .int x2])).length) Slot.unset).toArray = ls at hl ⊢
  have hl : lv_has ls 3 [(0, .ref oT), (1, .int x1), (2, .int x2)] := hl
  have HR : ∀ (r : Int32) (u0 : Nat → Int32) (u1 : Nat → Int32) (u2 : Nat → Int32) (u3 : Nat → Int32) {H : Heap} {locs : List Loc} {ls : Array Slot} {pc : Nat}, Q r u0 u1 u2 u3 → wd D (va_A (ww_X7_refusesDrill cI cC oT oT_s oT_aside oT_states oT_snapshot oT_text oT_serves oT_took oT_tookMany oT_helps oT_before oT_read T_thrown T_stateMany T_hasSnapshot T_length T_stopNumber T_stopError T_at T_isWell T_readMany T_s T_serves T_took T_tookMany T_helps) s.heap.size) s (ww_X7_refusesDrill cI cC oT oT_s oT_aside oT_states oT_snapshot oT_text oT_serves oT_took oT_tookMany oT_helps oT_before oT_read T_thrown T_stateMany T_hasSnapshot T_length T_stopNumber T_stopError T_at T_isWell T_readMany T_s u0 u1 u2 u3) H locs → decode cX7_refusesDrill pc = .ok (.ireturn, 1) → W p l e (headSpec wsX7_refusesDrill rm_X7_refusesDrill).room s m ([.ref oT, .int x1, .int x2] : List Value).toArray below meth c H locs 0 0 (MQ below (QiW D (fun (r : Int32) (u : (Nat → Int32) × (Nat → Int32) × (Nat → Int32) × (Nat → Int32)) => Q r u.1 u.2.1 u.2.2.1 u.2.2.2) (fun u => (ww_X7_refusesDrill cI cC oT oT_s oT_aside oT_states oT_snapshot oT_text oT_serves oT_took oT_tookMany oT_helps oT_before oT_read T_thrown T_stateMany T_hasSnapshot T_length T_stopNumber T_stopError T_at T_isWell T_readMany T_s (u.1) (u.2.1) (u.2.2.1) (u.2.2.2))) (ww_X7_refusesDrill cI cC oT oT_s oT_aside oT_states oT_snapshot oT_text oT_serves oT_took oT_tookMany oT_helps oT_before oT_read T_thrown T_stateMany T_hasSnapshot T_length T_stopNumber T_stopError T_at T_isWell T_readMany T_s T_serves T_took T_tookMany T_helps) s.heap.size) ([.ref oT, .int x1, .int x2] : List Value).toArray s 0 0 (va_A (ww_X7_refusesDrill cI cC oT oT_s oT_aside oT_states oT_snapshot oT_text oT_serves oT_took oT_tookMany oT_helps oT_before oT_read T_thrown T_stateMany T_hasSnapshot T_length T_stopNumber T_stopError T_at T_isWell T_readMany T_s T_serves T_took T_tookMany T_helps) s.heap.size)) (F0 m pc ls [.int r]) := by
    intro r u0 u1 u2 u3 H locs ls pc hq hw9 hd9
    exact W.iret (v := r) hx hb hr (fun t ht hW => ⟨⟨r, (u0, u1, u2, u3), rfl, hq, by rw [ht]; exact hw9.1, hw9.2.1⟩, hw9.2.2.F ht⟩) hw9.2.2.2.2 hd9
  unfold wp_X7_refusesDrill at hw
  refine lv_iload_n hx hb dX7_refusesDrill_0 rfl (lv_at hl 1 rfl) ?_
  refine kcSi (rest := []) (As := [.int x1]) ⟨Nat.le_of_ble_eq_true rfl, Nat.le_of_ble_eq_true rfl⟩ ⟨hx, hb, hml, hown, hts⟩ (c_X7_isFloor l s.heap.size x1 hw) (va_cwS 1 hts gX7_refusesDrill_X7_isFloor rfl rfl rfl hd_X7_isFloor ⟨Nat.le_of_ble_eq_true rfl, Nat.le_of_ble_eq_true rfl⟩) hKw hA hwd rfl hl.1 rfl (lv_room (Nat.le_of_ble_eq_true rfl)) dX7_refusesDrill_1 (fun r1 H locs hw hwd => ?_)
  try dsimp only at hw
  refine lv_if_ne (tgt := 9) hx hb dX7_refusesDrill_4 (by decide) (fun c2 => ?_) (fun c2 => ?_)
  · replace hw := hw.1 c2
    refine lv_iload_n hx hb dX7_refusesDrill_9 rfl (lv_at hl 2 rfl) ?_
    refine lv_iconst (v := (nI 1)) hx hb dX7_refusesDrill_10 rfl ?_
    refine lv_bipush (v := (nI 60)) hx hb dX7_refusesDrill_11 rfl ?_
    refine kcSi (rest := []) (As := [.int x2, .int (nI 1), .int (nI 60)]) ⟨Nat.le_of_ble_eq_true rfl, Nat.le_of_ble_eq_true rfl⟩ ⟨hx, hb, hml, hown, hts⟩ (c_X7_in l H.size x2 (nI 1) (nI 60) hw) (va_cwS 3 hts gX7_refusesDrill_X7_in rfl rfl rfl hd_X7_in ⟨Nat.le_of_ble_eq_true rfl, Nat.le_of_ble_eq_true rfl⟩) hKw hA hwd rfl hl.1 rfl (lv_room (Nat.le_of_ble_eq_true rfl)) dX7_refusesDrill_13 (fun r3 H locs hw hwd => ?_)
    try dsimp only at hw
    refine lv_if_ne (tgt := 22) hx hb dX7_refusesDrill_16 (by decide) (fun c4 => ?_) (fun c4 => ?_)
    · replace hw := hw.1 c4
      refine lv_aload_n hx hb dX7_refusesDrill_22 rfl (lv_at hl 0 rfl) ?_
      refine lv_aload_n hx hb dX7_refusesDrill_23 rfl (lv_at hl 0 rfl) ?_
      refine va_get (D := D) (ci := 7) (v := .ref oT_s) (C := RX7) (T := TX7) (N := 20) hx hb hts ic_X7_refusesDrill_X7 hown hKw.1 hwd.1 0 rfl rfl 1 (by decide) (hts (.fieldLink RX7 7 "DrillWardensModel" "s" "[I") (List.mem_of_getElem? (i := 1) rfl)) (fun _ h9 => h9) rfl dX7_refusesDrill_24 ?_
      refine lv_iconst (v := (nI 3)) hx hb dX7_refusesDrill_27 rfl ?_
      refine va_iald hx hb hKw.1 hwd.1 1 0 rfl rfl hw.1 dX7_refusesDrill_28 ?_
      replace hw := hw.2
      refine kcVv (W1 := (fun u => (ww_X7_refusesDrill cI cC oT oT_s oT_aside oT_states oT_snapshot oT_text oT_serves oT_took oT_tookMany oT_helps oT_before oT_read T_thrown T_stateMany T_hasSnapshot T_length T_stopNumber T_stopError T_at T_isWell T_readMany T_s (u.1) (u.2.1) (u.2.2.1) (u.2.2.2)))) (rest := []) (As := [.int (T_s (nI 3).toNatClampNeg)]) ⟨Nat.le_of_ble_eq_true rfl, Nat.le_of_ble_eq_true rfl⟩ ⟨hx, hb, hml, hown, hts⟩ (c_X7_plans l oT oT_s oT_aside oT_states oT_snapshot oT_text oT_serves oT_took oT_tookMany oT_helps oT_before oT_read H.size T_thrown T_stateMany T_hasSnapshot T_length T_stopNumber T_stopError T_at T_isWell T_readMany T_s T_serves T_took T_tookMany T_helps (T_s (nI 3).toNatClampNeg) hw) (cwV 1 hts gX7_refusesDrill_X7_plans rfl rfl rfl ⟨rfl, hd_X7_plans⟩ ⟨Nat.le_of_ble_eq_true rfl, Nat.le_of_ble_eq_true rfl⟩) hKw hA hwd [0, 1, 2, 3, 4, 5] [] [0, 1, 2, 3, 4, 5] [] rfl rfl rfl rfl (by decide) rfl (fun _ => rfl) 0 7 rfl rfl rfl rfl hl.1 rfl (lv_room (Nat.le_of_ble_eq_true rfl)) dX7_refusesDrill_29 (fun u H locs hw hwd => ?_)
      obtain ⟨T_serves5, T_took6, T_tookMany7, T_helps8⟩ := u
      try dsimp only at hw
      replace hwd : wd D (va_A (ww_X7_refusesDrill cI cC oT oT_s oT_aside oT_states oT_snapshot oT_text oT_serves oT_took oT_tookMany oT_helps oT_before oT_read T_thrown T_stateMany T_hasSnapshot T_length T_stopNumber T_stopError T_at T_isWell T_readMany T_s T_serves T_took T_tookMany T_helps) s.heap.size) s (ww_X7_refusesDrill cI cC oT oT_s oT_aside oT_states oT_snapshot oT_text oT_serves oT_took oT_tookMany oT_helps oT_before oT_read T_thrown T_stateMany T_hasSnapshot T_length T_stopNumber T_stopError T_at T_isWell T_readMany T_s T_serves5 T_took6 T_tookMany7 T_helps8) H locs := hwd
      refine lv_aload_n hx hb dX7_refusesDrill_32 rfl (lv_at hl 0 rfl) ?_
      refine lv_iload_n hx hb dX7_refusesDrill_33 rfl (lv_at hl 1 rfl) ?_
      refine lv_iconst (v := (nI 0)) hx hb dX7_refusesDrill_34 rfl ?_
      refine kcVi (W1 := (fun u => (ww_X7_refusesDrill cI cC oT oT_s oT_aside oT_states oT_snapshot oT_text oT_serves oT_took oT_tookMany oT_helps oT_before oT_read T_thrown T_stateMany T_hasSnapshot T_length T_stopNumber T_stopError T_at T_isWell T_readMany T_s T_serves5 T_took6 T_tookMany7 T_helps8))) (rest := []) (As := [.int x1, .int (nI 0)]) ⟨Nat.le_of_ble_eq_true rfl, Nat.le_of_ble_eq_true rfl⟩ ⟨hx, hb, hml, hown, hts⟩ (c_X7_of l oT oT_s oT_aside oT_states oT_snapshot oT_text oT_serves oT_took oT_tookMany oT_helps oT_before oT_read H.size T_thrown T_stateMany T_hasSnapshot T_length T_stopNumber T_stopError T_at T_isWell T_readMany T_s x1 (nI 0) hw) (cwV 2 hts gX7_refusesDrill_X7_of rfl rfl rfl ⟨rfl, hd_X7_of⟩ ⟨Nat.le_of_ble_eq_true rfl, Nat.le_of_ble_eq_true rfl⟩) hKw hA hwd [0, 1] [2, 3, 4, 5] [4, 5, 0, 1, 2, 3] [(oT_serves, .inl (cI, 16, .inl T_serves5)), (oT_took, .inl (cI, 30, .inl T_took6)), (oT_tookMany, .inl (cI, 10, .inl T_tookMany7)), (oT_helps, .inl (cI, 10, .inl T_helps8))] rfl rfl rfl rfl (by decide) rfl (fun _ => rfl) 0 7 rfl rfl rfl rfl hl.1 rfl (lv_room (Nat.le_of_ble_eq_true rfl)) dX7_refusesDrill_35 (fun r9 u H locs hw hwd => ?_)
      try dsimp only at hw
      replace hwd : wd D (va_A (ww_X7_refusesDrill cI cC oT oT_s oT_aside oT_states oT_snapshot oT_text oT_serves oT_took oT_tookMany oT_helps oT_before oT_read T_thrown T_stateMany T_hasSnapshot T_length T_stopNumber T_stopError T_at T_isWell T_readMany T_s T_serves T_took T_tookMany T_helps) s.heap.size) s (ww_X7_refusesDrill cI cC oT oT_s oT_aside oT_states oT_snapshot oT_text oT_serves oT_took oT_tookMany oT_helps oT_before oT_read T_thrown T_stateMany T_hasSnapshot T_length T_stopNumber T_stopError T_at T_isWell T_readMany T_s T_serves5 T_took6 T_tookMany7 T_helps8) H locs := hwd
      refine lv_if_eq (tgt := 49) hx hb dX7_refusesDrill_38 (by decide) (fun c10 => ?_) (fun c10 => ?_)
      · replace hw := hw.1 c10
        refine lv_bipush (v := (-4)) hx hb dX7_refusesDrill_49 rfl ?_
        refine lv_goto (tgt := 55) hx hb dX7_refusesDrill_51 (by decide) ?_
        exact HR (-4) T_serves5 T_took6 T_tookMany7 T_helps8 hw hwd dX7_refusesDrill_55
      · replace hw := hw.2 c10
        refine lv_aload_n hx hb dX7_refusesDrill_41 rfl (lv_at hl 0 rfl) ?_
        refine lv_iload_n hx hb dX7_refusesDrill_42 rfl (lv_at hl 1 rfl) ?_
        refine kcVi (W1 := (fun u => (ww_X7_refusesDrill cI cC oT oT_s oT_aside oT_states oT_snapshot oT_text oT_serves oT_took oT_tookMany oT_helps oT_before oT_read T_thrown T_stateMany T_hasSnapshot T_length T_stopNumber T_stopError T_at T_isWell T_readMany T_s T_serves5 T_took6 T_tookMany7 T_helps8))) (rest := []) (As := [.int x1]) ⟨Nat.le_of_ble_eq_true rfl, Nat.le_of_ble_eq_true rfl⟩ ⟨hx, hb, hml, hown, hts⟩ (c_X7_shortBy l oT oT_s oT_aside oT_states oT_snapshot oT_text oT_serves oT_took oT_tookMany oT_helps oT_before oT_read H.size T_thrown T_stateMany T_hasSnapshot T_length T_stopNumber T_stopError T_at T_isWell T_readMany T_s T_tookMany7 x1 hw) (cwV 1 hts gX7_refusesDrill_X7_shortBy rfl rfl rfl ⟨rfl, hd_X7_shortBy⟩ ⟨Nat.le_of_ble_eq_true rfl, Nat.le_of_ble_eq_true rfl⟩) hKw hA hwd [0, 1, 4] [2, 3, 5] [3, 4, 0, 1, 5, 2] [(oT_serves, .inl (cI, 16, .inl T_serves5)), (oT_took, .inl (cI, 30, .inl T_took6)), (oT_helps, .inl (cI, 10, .inl T_helps8))] rfl rfl rfl rfl (by decide) rfl (fun _ => rfl) 0 7 rfl rfl rfl rfl hl.1 rfl (lv_room (Nat.le_of_ble_eq_true rfl)) dX7_refusesDrill_43 (fun r11 u H locs hw hwd => ?_)
        try dsimp only at hw
        replace hwd : wd D (va_A (ww_X7_refusesDrill cI cC oT oT_s oT_aside oT_states oT_snapshot oT_text oT_serves oT_took oT_tookMany oT_helps oT_before oT_read T_thrown T_stateMany T_hasSnapshot T_length T_stopNumber T_stopError T_at T_isWell T_readMany T_s T_serves T_took T_tookMany T_helps) s.heap.size) s (ww_X7_refusesDrill cI cC oT oT_s oT_aside oT_states oT_snapshot oT_text oT_serves oT_took oT_tookMany oT_helps oT_before oT_read T_thrown T_stateMany T_hasSnapshot T_length T_stopNumber T_stopError T_at T_isWell T_readMany T_s T_serves5 T_took6 T_tookMany7 T_helps8) H locs := hwd
        refine lv_if_le (tgt := 54) hx hb dX7_refusesDrill_46 (by decide) (fun c12 => ?_) (fun c12 => ?_)
        · replace hw := hw.1 c12
          refine lv_iconst (v := (nI 0)) hx hb dX7_refusesDrill_54 rfl ?_
          exact HR (nI 0) T_serves5 T_took6 T_tookMany7 T_helps8 hw hwd dX7_refusesDrill_55
        · replace hw := hw.2 c12
          refine lv_bipush (v := (-4)) hx hb dX7_refusesDrill_49 rfl ?_
          refine lv_goto (tgt := 55) hx hb dX7_refusesDrill_51 (by decide) ?_
          exact HR (-4) T_serves5 T_took6 T_tookMany7 T_helps8 hw hwd dX7_refusesDrill_55
    · replace hw := hw.2 c4
      refine lv_bipush (v := (-2)) hx hb dX7_refusesDrill_19 rfl ?_
      exact HR (-2) T_serves T_took T_tookMany T_helps hw hwd dX7_refusesDrill_21
  · replace hw := hw.2 c2
    refine lv_iconst (v := (-1)) hx hb dX7_refusesDrill_7 rfl ?_
    exact HR (-1) T_serves T_took T_tookMany T_helps hw hwd dX7_refusesDrill_8
abbrev ww_X7_drills (cI cC : ClassId) (oT oT_s oT_aside oT_states oT_snapshot oT_text oT_serves oT_took oT_tookMany oT_helps oT_before oT_read : Nat) (T_thrown : Int32) (T_stateMany : Int32) (T_hasSnapshot : Int32) (T_length : Int32) (T_stopNumber : Int32) (T_stopError : Int32) (T_at : Int32) (T_isWell : Int32) (T_readMany : Int32) (T_s : Nat → Int32) (T_took : Nat → Int32) : va_W := [(oT, .inr (7, [.int T_thrown, .ref oT_s, .ref oT_aside, .ref oT_states, .int T_stateMany, .ref oT_snapshot, .int T_hasSnapshot, .ref oT_text, .int T_length, .int T_stopNumber, .int T_stopError, .ref oT_serves, .ref oT_took, .ref oT_tookMany, .ref oT_helps, .ref oT_before, .int T_at, .int T_isWell, .ref oT_read, .int T_readMany])), (oT_s, .inl (cI, 474, .inl T_s)), (oT_took, .inl (cI, 30, .inl T_took))]
abbrev rm_X7_drills : Room := { frames := 1, cells := 0, slots := 0, locals := 23 }
theorem ic_X7_drills_X7 : ∀ w ∈ u_ws RX7 TX7 20, w ∈ wsX7_drills := by
  intro w h
  simp only [wsX7_drills, List.mem_cons, List.mem_append]
  simp only [h, or_true, true_or]
def wb_X7_drills_66 (T_s : Nat → Int32) (x1 : Int32) (x2 : Int32) (x3 : Int32) (x4 : Int32) (Q : Int32 → (Nat → Int32) → Prop) : Prop := vp_in (nI 3) 474 ∧ wp_X7_lay T_s x1 ((nI 9) + ((nI 3) * x4)) (T_s (nI 3).toNatClampNeg) (fun T_s1 => wp_X7_lay T_s1 x1 (((nI 9) + ((nI 3) * x4)) + (nI 1)) x2 (fun T_s2 => wp_X7_lay T_s2 x1 (((nI 9) + ((nI 3) * x4)) + (nI 2)) x3 (fun T_s3 => wp_X7_lay T_s3 x1 (nI 8) (x4 + (nI 1)) (fun T_s4 => wp_X7_of T_s4 x1 (nI 7) (fun r5 => wp_X7_lay T_s4 x1 (nI 7) (r5 + (nI 1)) (fun T_s6 => vp_in (nI 3) 474 ∧ wp_X7_lay T_s6 x1 ((nI 27) + ((T_s6 (nI 3).toNatClampNeg) / (nI 100))) (nI 1) (fun T_s7 => vp_in (((nI 318) + ((nI 2) * x3)) + (nI 1)) 474 ∧ vp_in (((nI 318) + ((nI 2) * x3)) + (nI 1)) 474 ∧ ∀ T_s8, T_s8 = upd T_s7 (((nI 318) + ((nI 2) * x3)) + (nI 1)).toNatClampNeg ((T_s7 (((nI 318) + ((nI 2) * x3)) + (nI 1)).toNatClampNeg) + (nI 1)) → vp_in (nI 4) 474 ∧ vp_in (nI 4) 474 ∧ ∀ T_s9, T_s9 = upd T_s8 (nI 4).toNatClampNeg ((T_s8 (nI 4).toNatClampNeg) + (nI 1)) → vp_in (nI 5) 474 ∧ vp_in (nI 5) 474 ∧ ∀ T_s10, T_s10 = upd T_s9 (nI 5).toNatClampNeg ((T_s9 (nI 5).toNatClampNeg) + x2) → Q x3 T_s10)))))))
set_option maxRecDepth 100000 in
set_option maxHeartbeats 4000000 in
theorem blk_X7_drills_66 {p : Program} {l : Launch} {e : Env} {s : State} {m : MethodId} {args : Array Value} {below : List Frame} {meth : Method} {c : Code} {D : va_G} {cI cC cR : ClassId} {A : Nat → Prop} {Z : State → Prop} (CX : cx cX7_drills (some .int) 6 RX7 wsX7_drills p m meth c s args D cI cC cR A) (oT oT_s oT_aside oT_states oT_snapshot oT_text oT_serves oT_took oT_tookMany oT_helps oT_before oT_read : Nat) (T_thrown : Int32) (T_stateMany : Int32) (T_hasSnapshot : Int32) (T_length : Int32) (T_stopNumber : Int32) (T_stopError : Int32) (T_at : Int32) (T_isWell : Int32) (T_readMany : Int32) (T_s : Nat → Int32) (T_took : Nat → Int32) (x1 : Int32) (x2 : Int32) (x3 : Int32) (x4 : Int32) {Q : Int32 → (Nat → Int32) → Prop} (HR : ∀ (r : Int32) (u0 : Nat → Int32) {H : Heap} {locs : List Loc} {ls : Array Slot} {pc : Nat}, Q r u0 → wd D A s (ww_X7_drills cI cC oT oT_s oT_aside oT_states oT_snapshot oT_text oT_serves oT_took oT_tookMany oT_helps oT_before oT_read T_thrown T_stateMany T_hasSnapshot T_length T_stopNumber T_stopError T_at T_isWell T_readMany u0 T_took) H locs → decode cX7_drills pc = .ok (.ireturn, 1) → W p l e (headSpec wsX7_drills rm_X7_drills).room s m args below meth c H locs 0 0 Z (F0 m pc ls [.int r])) : wb_X7_drills_66 T_s x1 x2 x3 x4 Q → ∀ (H : Heap) (locs : List Loc) (ls : Array Slot), wd D A s (ww_X7_drills cI cC oT oT_s oT_aside oT_states oT_snapshot oT_text oT_serves oT_took oT_tookMany oT_helps oT_before oT_read T_thrown T_stateMany T_hasSnapshot T_length T_stopNumber T_stopError T_at T_isWell T_readMany T_s T_took) H locs → lv_has ls 6 [(0, .ref oT), (1, .int x1), (2, .int x2), (3, .int x3), (4, .int x4)] → W p l e (headSpec wsX7_drills rm_X7_drills).room s m args below meth c H locs 0 0 Z (F0 m 66 ls []) := by
  obtain ⟨hx, hb, hr, hml, hts, hown, hlocks, hKw, hA⟩ := id CX
  intro  hw H locs ls hwd hl
  unfold wb_X7_drills_66 at hw
  refine lv_aload_n hx hb dX7_drills_66 rfl (lv_at hl 0 rfl) ?_
  refine lv_iload_n hx hb dX7_drills_67 rfl (lv_at hl 1 rfl) ?_
  refine lv_bipush (v := (nI 9)) hx hb dX7_drills_68 rfl ?_
  refine lv_iconst (v := (nI 3)) hx hb dX7_drills_70 rfl ?_
  refine lv_iload hx hb dX7_drills_71 (lv_at hl 4 rfl) ?_
  refine lv_imul hx hb dX7_drills_73 ?_
  refine lv_iadd hx hb dX7_drills_74 ?_
  refine lv_aload_n hx hb dX7_drills_75 rfl (lv_at hl 0 rfl) ?_
  refine va_get (D := D) (ci := 7) (v := .ref oT_s) (C := RX7) (T := TX7) (N := 20) hx hb hts ic_X7_drills_X7 hown hKw.1 hwd.1 0 rfl rfl 1 (by decide) (hts (.fieldLink RX7 7 "DrillWardensModel" "s" "[I") (List.mem_of_getElem? (i := 2) rfl)) (fun _ h9 => h9) rfl dX7_drills_76 ?_
  refine lv_iconst (v := (nI 3)) hx hb dX7_drills_79 rfl ?_
  refine va_iald hx hb hKw.1 hwd.1 1 0 rfl rfl hw.1 dX7_drills_80 ?_
  replace hw := hw.2
  refine kcVv (W1 := (fun u => (ww_X7_drills cI cC oT oT_s oT_aside oT_states oT_snapshot oT_text oT_serves oT_took oT_tookMany oT_helps oT_before oT_read T_thrown T_stateMany T_hasSnapshot T_length T_stopNumber T_stopError T_at T_isWell T_readMany u T_took))) (rest := []) (As := [.int x1, .int ((nI 9) + ((nI 3) * x4)), .int (T_s (nI 3).toNatClampNeg)]) ⟨Nat.le_of_ble_eq_true rfl, Nat.le_of_ble_eq_true rfl⟩ ⟨hx, hb, hml, hown, hts⟩ (c_X7_lay l oT oT_s oT_aside oT_states oT_snapshot oT_text oT_serves oT_took oT_tookMany oT_helps oT_before oT_read H.size T_thrown T_stateMany T_hasSnapshot T_length T_stopNumber T_stopError T_at T_isWell T_readMany T_s x1 ((nI 9) + ((nI 3) * x4)) (T_s (nI 3).toNatClampNeg) hw) (cwV 3 hts gX7_drills_X7_lay rfl rfl rfl ⟨rfl, hd_X7_lay⟩ ⟨Nat.le_of_ble_eq_true rfl, Nat.le_of_ble_eq_true rfl⟩) hKw hA hwd [0, 1] [2] [1, 2, 0] [(oT_took, .inl (cI, 30, .inl T_took))] rfl rfl rfl rfl (by decide) rfl (fun _ => rfl) 0 7 rfl rfl rfl rfl hl.1 rfl (lv_room (Nat.le_of_ble_eq_true rfl)) dX7_drills_81 (fun u H locs hw hwd => ?_)
  obtain ⟨T_s1, rfl⟩ : ∃ z, z = u := ⟨_, rfl⟩
  try dsimp only at hw
  replace hwd : wd D A s (ww_X7_drills cI cC oT oT_s oT_aside oT_states oT_snapshot oT_text oT_serves oT_took oT_tookMany oT_helps oT_before oT_read T_thrown T_stateMany T_hasSnapshot T_length T_stopNumber T_stopError T_at T_isWell T_readMany T_s1 T_took) H locs := hwd
  refine lv_aload_n hx hb dX7_drills_84 rfl (lv_at hl 0 rfl) ?_
  refine lv_iload_n hx hb dX7_drills_85 rfl (lv_at hl 1 rfl) ?_
  refine lv_bipush (v := (nI 9)) hx hb dX7_drills_86 rfl ?_
  refine lv_iconst (v := (nI 3)) hx hb dX7_drills_88 rfl ?_
  refine lv_iload hx hb dX7_drills_89 (lv_at hl 4 rfl) ?_
  refine lv_imul hx hb dX7_drills_91 ?_
  refine lv_iadd hx hb dX7_drills_92 ?_
  refine lv_iconst (v := (nI 1)) hx hb dX7_drills_93 rfl ?_
  refine lv_iadd hx hb dX7_drills_94 ?_
  refine lv_iload_n hx hb dX7_drills_95 rfl (lv_at hl 2 rfl) ?_
  refine kcVv (W1 := (fun u => (ww_X7_drills cI cC oT oT_s oT_aside oT_states oT_snapshot oT_text oT_serves oT_took oT_tookMany oT_helps oT_before oT_read T_thrown T_stateMany T_hasSnapshot T_length T_stopNumber T_stopError T_at T_isWell T_readMany u T_took))) (rest := []) (As := [.int x1, .int (((nI 9) + ((nI 3) * x4)) + (nI 1)), .int x2]) ⟨Nat.le_of_ble_eq_true rfl, Nat.le_of_ble_eq_true rfl⟩ ⟨hx, hb, hml, hown, hts⟩ (c_X7_lay l oT oT_s oT_aside oT_states oT_snapshot oT_text oT_serves oT_took oT_tookMany oT_helps oT_before oT_read H.size T_thrown T_stateMany T_hasSnapshot T_length T_stopNumber T_stopError T_at T_isWell T_readMany T_s1 x1 (((nI 9) + ((nI 3) * x4)) + (nI 1)) x2 hw) (cwV 3 hts gX7_drills_X7_lay rfl rfl rfl ⟨rfl, hd_X7_lay⟩ ⟨Nat.le_of_ble_eq_true rfl, Nat.le_of_ble_eq_true rfl⟩) hKw hA hwd [0, 1] [2] [1, 2, 0] [(oT_took, .inl (cI, 30, .inl T_took))] rfl rfl rfl rfl (by decide) rfl (fun _ => rfl) 0 7 rfl rfl rfl rfl hl.1 rfl (lv_room (Nat.le_of_ble_eq_true rfl)) dX7_drills_96 (fun u H locs hw hwd => ?_)
  obtain ⟨T_s2, rfl⟩ : ∃ z, z = u := ⟨_, rfl⟩
  try dsimp only at hw
  replace hwd : wd D A s (ww_X7_drills cI cC oT oT_s oT_aside oT_states oT_snapshot oT_text oT_serves oT_took oT_tookMany oT_helps oT_before oT_read T_thrown T_stateMany T_hasSnapshot T_length T_stopNumber T_stopError T_at T_isWell T_readMany T_s2 T_took) H locs := hwd
  refine lv_aload_n hx hb dX7_drills_99 rfl (lv_at hl 0 rfl) ?_
  refine lv_iload_n hx hb dX7_drills_100 rfl (lv_at hl 1 rfl) ?_
  refine lv_bipush (v := (nI 9)) hx hb dX7_drills_101 rfl ?_
  refine lv_iconst (v := (nI 3)) hx hb dX7_drills_103 rfl ?_
  refine lv_iload hx hb dX7_drills_104 (lv_at hl 4 rfl) ?_
  refine lv_imul hx hb dX7_drills_106 ?_
  refine lv_iadd hx hb dX7_drills_107 ?_
  refine lv_iconst (v := (nI 2)) hx hb dX7_drills_108 rfl ?_
  refine lv_iadd hx hb dX7_drills_109 ?_
  refine lv_iload_n hx hb dX7_drills_110 rfl (lv_at hl 3 rfl) ?_
  refine kcVv (W1 := (fun u => (ww_X7_drills cI cC oT oT_s oT_aside oT_states oT_snapshot oT_text oT_serves oT_took oT_tookMany oT_helps oT_before oT_read T_thrown T_stateMany T_hasSnapshot T_length T_stopNumber T_stopError T_at T_isWell T_readMany u T_took))) (rest := []) (As := [.int x1, .int (((nI 9) + ((nI 3) * x4)) + (nI 2)), .int x3]) ⟨Nat.le_of_ble_eq_true rfl, Nat.le_of_ble_eq_true rfl⟩ ⟨hx, hb, hml, hown, hts⟩ (c_X7_lay l oT oT_s oT_aside oT_states oT_snapshot oT_text oT_serves oT_took oT_tookMany oT_helps oT_before oT_read H.size T_thrown T_stateMany T_hasSnapshot T_length T_stopNumber T_stopError T_at T_isWell T_readMany T_s2 x1 (((nI 9) + ((nI 3) * x4)) + (nI 2)) x3 hw) (cwV 3 hts gX7_drills_X7_lay rfl rfl rfl ⟨rfl, hd_X7_lay⟩ ⟨Nat.le_of_ble_eq_true rfl, Nat.le_of_ble_eq_true rfl⟩) hKw hA hwd [0, 1] [2] [1, 2, 0] [(oT_took, .inl (cI, 30, .inl T_took))] rfl rfl rfl rfl (by decide) rfl (fun _ => rfl) 0 7 rfl rfl rfl rfl hl.1 rfl (lv_room (Nat.le_of_ble_eq_true rfl)) dX7_drills_111 (fun u H locs hw hwd => ?_)
  obtain ⟨T_s3, rfl⟩ : ∃ z, z = u := ⟨_, rfl⟩
  try dsimp only at hw
  replace hwd : wd D A s (ww_X7_drills cI cC oT oT_s oT_aside oT_states oT_snapshot oT_text oT_serves oT_took oT_tookMany oT_helps oT_before oT_read T_thrown T_stateMany T_hasSnapshot T_length T_stopNumber T_stopError T_at T_isWell T_readMany T_s3 T_took) H locs := hwd
  refine lv_aload_n hx hb dX7_drills_114 rfl (lv_at hl 0 rfl) ?_
  refine lv_iload_n hx hb dX7_drills_115 rfl (lv_at hl 1 rfl) ?_
  refine lv_bipush (v := (nI 8)) hx hb dX7_drills_116 rfl ?_
  refine lv_iload hx hb dX7_drills_118 (lv_at hl 4 rfl) ?_
  refine lv_iconst (v := (nI 1)) hx hb dX7_drills_120 rfl ?_
  refine lv_iadd hx hb dX7_drills_121 ?_
  refine kcVv (W1 := (fun u => (ww_X7_drills cI cC oT oT_s oT_aside oT_states oT_snapshot oT_text oT_serves oT_took oT_tookMany oT_helps oT_before oT_read T_thrown T_stateMany T_hasSnapshot T_length T_stopNumber T_stopError T_at T_isWell T_readMany u T_took))) (rest := []) (As := [.int x1, .int (nI 8), .int (x4 + (nI 1))]) ⟨Nat.le_of_ble_eq_true rfl, Nat.le_of_ble_eq_true rfl⟩ ⟨hx, hb, hml, hown, hts⟩ (c_X7_lay l oT oT_s oT_aside oT_states oT_snapshot oT_text oT_serves oT_took oT_tookMany oT_helps oT_before oT_read H.size T_thrown T_stateMany T_hasSnapshot T_length T_stopNumber T_stopError T_at T_isWell T_readMany T_s3 x1 (nI 8) (x4 + (nI 1)) hw) (cwV 3 hts gX7_drills_X7_lay rfl rfl rfl ⟨rfl, hd_X7_lay⟩ ⟨Nat.le_of_ble_eq_true rfl, Nat.le_of_ble_eq_true rfl⟩) hKw hA hwd [0, 1] [2] [1, 2, 0] [(oT_took, .inl (cI, 30, .inl T_took))] rfl rfl rfl rfl (by decide) rfl (fun _ => rfl) 0 7 rfl rfl rfl rfl hl.1 rfl (lv_room (Nat.le_of_ble_eq_true rfl)) dX7_drills_122 (fun u H locs hw hwd => ?_)
  obtain ⟨T_s4, rfl⟩ : ∃ z, z = u := ⟨_, rfl⟩
  try dsimp only at hw
  replace hwd : wd D A s (ww_X7_drills cI cC oT oT_s oT_aside oT_states oT_snapshot oT_text oT_serves oT_took oT_tookMany oT_helps oT_before oT_read T_thrown T_stateMany T_hasSnapshot T_length T_stopNumber T_stopError T_at T_isWell T_readMany T_s4 T_took) H locs := hwd
  refine lv_aload_n hx hb dX7_drills_125 rfl (lv_at hl 0 rfl) ?_
  refine lv_iload_n hx hb dX7_drills_126 rfl (lv_at hl 1 rfl) ?_
  refine lv_bipush (v := (nI 7)) hx hb dX7_drills_127 rfl ?_
  refine lv_aload_n hx hb dX7_drills_129 rfl (lv_at hl 0 rfl) ?_
  refine lv_iload_n hx hb dX7_drills_130 rfl (lv_at hl 1 rfl) ?_
  refine lv_bipush (v := (nI 7)) hx hb dX7_drills_131 rfl ?_
  refine kcVi (W1 := (fun u => (ww_X7_drills cI cC oT oT_s oT_aside oT_states oT_snapshot oT_text oT_serves oT_took oT_tookMany oT_helps oT_before oT_read T_thrown T_stateMany T_hasSnapshot T_length T_stopNumber T_stopError T_at T_isWell T_readMany T_s4 T_took))) (rest := [.int (nI 7), .int x1, .ref oT]) (As := [.int x1, .int (nI 7)]) ⟨Nat.le_of_ble_eq_true rfl, Nat.le_of_ble_eq_true rfl⟩ ⟨hx, hb, hml, hown, hts⟩ (c_X7_of l oT oT_s oT_aside oT_states oT_snapshot oT_text oT_serves oT_took oT_tookMany oT_helps oT_before oT_read H.size T_thrown T_stateMany T_hasSnapshot T_length T_stopNumber T_stopError T_at T_isWell T_readMany T_s4 x1 (nI 7) hw) (cwV 2 hts gX7_drills_X7_of rfl rfl rfl ⟨rfl, hd_X7_of⟩ ⟨Nat.le_of_ble_eq_true rfl, Nat.le_of_ble_eq_true rfl⟩) hKw hA hwd [0, 1] [2] [1, 2, 0] [(oT_took, .inl (cI, 30, .inl T_took))] rfl rfl rfl rfl (by decide) rfl (fun _ => rfl) 0 7 rfl rfl rfl rfl hl.1 rfl (lv_room (Nat.le_of_ble_eq_true rfl)) dX7_drills_133 (fun r5 u H locs hw hwd => ?_)
  try dsimp only at hw
  replace hwd : wd D A s (ww_X7_drills cI cC oT oT_s oT_aside oT_states oT_snapshot oT_text oT_serves oT_took oT_tookMany oT_helps oT_before oT_read T_thrown T_stateMany T_hasSnapshot T_length T_stopNumber T_stopError T_at T_isWell T_readMany T_s4 T_took) H locs := hwd
  refine lv_iconst (v := (nI 1)) hx hb dX7_drills_136 rfl ?_
  refine lv_iadd hx hb dX7_drills_137 ?_
  refine kcVv (W1 := (fun u => (ww_X7_drills cI cC oT oT_s oT_aside oT_states oT_snapshot oT_text oT_serves oT_took oT_tookMany oT_helps oT_before oT_read T_thrown T_stateMany T_hasSnapshot T_length T_stopNumber T_stopError T_at T_isWell T_readMany u T_took))) (rest := []) (As := [.int x1, .int (nI 7), .int (r5 + (nI 1))]) ⟨Nat.le_of_ble_eq_true rfl, Nat.le_of_ble_eq_true rfl⟩ ⟨hx, hb, hml, hown, hts⟩ (c_X7_lay l oT oT_s oT_aside oT_states oT_snapshot oT_text oT_serves oT_took oT_tookMany oT_helps oT_before oT_read H.size T_thrown T_stateMany T_hasSnapshot T_length T_stopNumber T_stopError T_at T_isWell T_readMany T_s4 x1 (nI 7) (r5 + (nI 1)) hw) (cwV 3 hts gX7_drills_X7_lay rfl rfl rfl ⟨rfl, hd_X7_lay⟩ ⟨Nat.le_of_ble_eq_true rfl, Nat.le_of_ble_eq_true rfl⟩) hKw hA hwd [0, 1] [2] [1, 2, 0] [(oT_took, .inl (cI, 30, .inl T_took))] rfl rfl rfl rfl (by decide) rfl (fun _ => rfl) 0 7 rfl rfl rfl rfl hl.1 rfl (lv_room (Nat.le_of_ble_eq_true rfl)) dX7_drills_138 (fun u H locs hw hwd => ?_)
  obtain ⟨T_s6, rfl⟩ : ∃ z, z = u := ⟨_, rfl⟩
  try dsimp only at hw
  replace hwd : wd D A s (ww_X7_drills cI cC oT oT_s oT_aside oT_states oT_snapshot oT_text oT_serves oT_took oT_tookMany oT_helps oT_before oT_read T_thrown T_stateMany T_hasSnapshot T_length T_stopNumber T_stopError T_at T_isWell T_readMany T_s6 T_took) H locs := hwd
  refine lv_aload_n hx hb dX7_drills_141 rfl (lv_at hl 0 rfl) ?_
  refine lv_iload_n hx hb dX7_drills_142 rfl (lv_at hl 1 rfl) ?_
  refine lv_bipush (v := (nI 27)) hx hb dX7_drills_143 rfl ?_
  refine lv_aload_n hx hb dX7_drills_145 rfl (lv_at hl 0 rfl) ?_
  refine va_get (D := D) (ci := 7) (v := .ref oT_s) (C := RX7) (T := TX7) (N := 20) hx hb hts ic_X7_drills_X7 hown hKw.1 hwd.1 0 rfl rfl 1 (by decide) (hts (.fieldLink RX7 7 "DrillWardensModel" "s" "[I") (List.mem_of_getElem? (i := 2) rfl)) (fun _ h9 => h9) rfl dX7_drills_146 ?_
  refine lv_iconst (v := (nI 3)) hx hb dX7_drills_149 rfl ?_
  refine va_iald hx hb hKw.1 hwd.1 1 0 rfl rfl hw.1 dX7_drills_150 ?_
  replace hw := hw.2
  refine lv_bipush (v := (nI 100)) hx hb dX7_drills_151 rfl ?_
  refine lv_idiv hx hb dX7_drills_153 (by decide) ?_
  refine lv_iadd hx hb dX7_drills_154 ?_
  refine lv_iconst (v := (nI 1)) hx hb dX7_drills_155 rfl ?_
  refine kcVv (W1 := (fun u => (ww_X7_drills cI cC oT oT_s oT_aside oT_states oT_snapshot oT_text oT_serves oT_took oT_tookMany oT_helps oT_before oT_read T_thrown T_stateMany T_hasSnapshot T_length T_stopNumber T_stopError T_at T_isWell T_readMany u T_took))) (rest := []) (As := [.int x1, .int ((nI 27) + ((T_s6 (nI 3).toNatClampNeg) / (nI 100))), .int (nI 1)]) ⟨Nat.le_of_ble_eq_true rfl, Nat.le_of_ble_eq_true rfl⟩ ⟨hx, hb, hml, hown, hts⟩ (c_X7_lay l oT oT_s oT_aside oT_states oT_snapshot oT_text oT_serves oT_took oT_tookMany oT_helps oT_before oT_read H.size T_thrown T_stateMany T_hasSnapshot T_length T_stopNumber T_stopError T_at T_isWell T_readMany T_s6 x1 ((nI 27) + ((T_s6 (nI 3).toNatClampNeg) / (nI 100))) (nI 1) hw) (cwV 3 hts gX7_drills_X7_lay rfl rfl rfl ⟨rfl, hd_X7_lay⟩ ⟨Nat.le_of_ble_eq_true rfl, Nat.le_of_ble_eq_true rfl⟩) hKw hA hwd [0, 1] [2] [1, 2, 0] [(oT_took, .inl (cI, 30, .inl T_took))] rfl rfl rfl rfl (by decide) rfl (fun _ => rfl) 0 7 rfl rfl rfl rfl hl.1 rfl (lv_room (Nat.le_of_ble_eq_true rfl)) dX7_drills_156 (fun u H locs hw hwd => ?_)
  obtain ⟨T_s7, rfl⟩ : ∃ z, z = u := ⟨_, rfl⟩
  try dsimp only at hw
  replace hwd : wd D A s (ww_X7_drills cI cC oT oT_s oT_aside oT_states oT_snapshot oT_text oT_serves oT_took oT_tookMany oT_helps oT_before oT_read T_thrown T_stateMany T_hasSnapshot T_length T_stopNumber T_stopError T_at T_isWell T_readMany T_s7 T_took) H locs := hwd
  refine lv_aload_n hx hb dX7_drills_159 rfl (lv_at hl 0 rfl) ?_
  refine va_get (D := D) (ci := 7) (v := .ref oT_s) (C := RX7) (T := TX7) (N := 20) hx hb hts ic_X7_drills_X7 hown hKw.1 hwd.1 0 rfl rfl 1 (by decide) (hts (.fieldLink RX7 7 "DrillWardensModel" "s" "[I") (List.mem_of_getElem? (i := 2) rfl)) (fun _ h9 => h9) rfl dX7_drills_160 ?_
  refine lv_sipush (v := (nI 318)) hx hb dX7_drills_163 rfl ?_
  refine lv_iconst (v := (nI 2)) hx hb dX7_drills_166 rfl ?_
  refine lv_iload_n hx hb dX7_drills_167 rfl (lv_at hl 3 rfl) ?_
  refine lv_imul hx hb dX7_drills_168 ?_
  refine lv_iadd hx hb dX7_drills_169 ?_
  refine lv_iconst (v := (nI 1)) hx hb dX7_drills_170 rfl ?_
  refine lv_iadd hx hb dX7_drills_171 ?_
  refine lv_dup2_11 hx hb dX7_drills_172 rfl rfl ?_
  refine va_iald hx hb hKw.1 hwd.1 1 0 rfl rfl hw.1 dX7_drills_173 ?_
  replace hw := hw.2
  refine lv_iconst (v := (nI 1)) hx hb dX7_drills_174 rfl ?_
  refine lv_iadd hx hb dX7_drills_175 ?_
  obtain ⟨T_s8, e_T_s8⟩ : ∃ y : Nat → Int32, y = upd T_s7 (((nI 318) + ((nI 2) * x3)) + (nI 1)).toNatClampNeg ((T_s7 (((nI 318) + ((nI 2) * x3)) + (nI 1)).toNatClampNeg) + (nI 1)) := ⟨_, rfl⟩
  refine va_iast hx hb hKw.1 hwd.1 hwd.2.1 hwd.2.2 1 0 rfl rfl hw.1 dX7_drills_176 (fun H locs h1 h2 h3 => ?_)
  replace hw := hw.2 T_s8 e_T_s8
  rw [← e_T_s8] at h1 h2
  replace hwd : wd D A s (ww_X7_drills cI cC oT oT_s oT_aside oT_states oT_snapshot oT_text oT_serves oT_took oT_tookMany oT_helps oT_before oT_read T_thrown T_stateMany T_hasSnapshot T_length T_stopNumber T_stopError T_at T_isWell T_readMany T_s8 T_took) H locs := ⟨h1, h2, h3⟩
  clear h1 h2 h3
  refine lv_aload_n hx hb dX7_drills_177 rfl (lv_at hl 0 rfl) ?_
  refine va_get (D := D) (ci := 7) (v := .ref oT_s) (C := RX7) (T := TX7) (N := 20) hx hb hts ic_X7_drills_X7 hown hKw.1 hwd.1 0 rfl rfl 1 (by decide) (hts (.fieldLink RX7 7 "DrillWardensModel" "s" "[I") (List.mem_of_getElem? (i := 2) rfl)) (fun _ h9 => h9) rfl dX7_drills_178 ?_
  refine lv_iconst (v := (nI 4)) hx hb dX7_drills_181 rfl ?_
  refine lv_dup2_11 hx hb dX7_drills_182 rfl rfl ?_
  refine va_iald hx hb hKw.1 hwd.1 1 0 rfl rfl hw.1 dX7_drills_183 ?_
  replace hw := hw.2
  refine lv_iconst (v := (nI 1)) hx hb dX7_drills_184 rfl ?_
  refine lv_iadd hx hb dX7_drills_185 ?_
  obtain ⟨T_s9, e_T_s9⟩ : ∃ y : Nat → Int32, y = upd T_s8 (nI 4).toNatClampNeg ((T_s8 (nI 4).toNatClampNeg) + (nI 1)) := ⟨_, rfl⟩
  refine va_iast hx hb hKw.1 hwd.1 hwd.2.1 hwd.2.2 1 0 rfl rfl hw.1 dX7_drills_186 (fun H locs h1 h2 h3 => ?_)
  replace hw := hw.2 T_s9 e_T_s9
  rw [← e_T_s9] at h1 h2
  replace hwd : wd D A s (ww_X7_drills cI cC oT oT_s oT_aside oT_states oT_snapshot oT_text oT_serves oT_took oT_tookMany oT_helps oT_before oT_read T_thrown T_stateMany T_hasSnapshot T_length T_stopNumber T_stopError T_at T_isWell T_readMany T_s9 T_took) H locs := ⟨h1, h2, h3⟩
  clear h1 h2 h3
  refine lv_aload_n hx hb dX7_drills_187 rfl (lv_at hl 0 rfl) ?_
  refine va_get (D := D) (ci := 7) (v := .ref oT_s) (C := RX7) (T := TX7) (N := 20) hx hb hts ic_X7_drills_X7 hown hKw.1 hwd.1 0 rfl rfl 1 (by decide) (hts (.fieldLink RX7 7 "DrillWardensModel" "s" "[I") (List.mem_of_getElem? (i := 2) rfl)) (fun _ h9 => h9) rfl dX7_drills_188 ?_
  refine lv_iconst (v := (nI 5)) hx hb dX7_drills_191 rfl ?_
  refine lv_dup2_11 hx hb dX7_drills_192 rfl rfl ?_
  refine va_iald hx hb hKw.1 hwd.1 1 0 rfl rfl hw.1 dX7_drills_193 ?_
  replace hw := hw.2
  refine lv_iload_n hx hb dX7_drills_194 rfl (lv_at hl 2 rfl) ?_
  refine lv_iadd hx hb dX7_drills_195 ?_
  obtain ⟨T_s10, e_T_s10⟩ : ∃ y : Nat → Int32, y = upd T_s9 (nI 5).toNatClampNeg ((T_s9 (nI 5).toNatClampNeg) + x2) := ⟨_, rfl⟩
  refine va_iast hx hb hKw.1 hwd.1 hwd.2.1 hwd.2.2 1 0 rfl rfl hw.1 dX7_drills_196 (fun H locs h1 h2 h3 => ?_)
  replace hw := hw.2 T_s10 e_T_s10
  rw [← e_T_s10] at h1 h2
  replace hwd : wd D A s (ww_X7_drills cI cC oT oT_s oT_aside oT_states oT_snapshot oT_text oT_serves oT_took oT_tookMany oT_helps oT_before oT_read T_thrown T_stateMany T_hasSnapshot T_length T_stopNumber T_stopError T_at T_isWell T_readMany T_s10 T_took) H locs := ⟨h1, h2, h3⟩
  clear h1 h2 h3
  refine lv_iload_n hx hb dX7_drills_197 rfl (lv_at hl 3 rfl) ?_
  exact HR x3 T_s10 hw hwd dX7_drills_198
def wb_X7_drills_28 (x1 : Int32) (K_63 : (Nat → Int32) → Prop) : Nat → (Nat → Int32) → Int32 → Prop
  | 0, _, _ => False
  | n + 1, T_s, x5 => (((nI 15) ≤ x5 → K_63 T_s) ∧ (¬ (nI 15) ≤ x5 → wp_X7_of T_s x1 (((nI 9) + x5) + (nI 3)) (fun r2 => wp_X7_lay T_s x1 ((nI 9) + x5) r2 (fun T_s3 => ∀ x5_4, x5_4 = x5 + (nI 1) → wb_X7_drills_28 x1 K_63 n T_s3 x5_4))))
set_option maxRecDepth 100000 in
set_option maxHeartbeats 4000000 in
theorem blk_X7_drills_28 {p : Program} {l : Launch} {e : Env} {s : State} {m : MethodId} {args : Array Value} {below : List Frame} {meth : Method} {c : Code} {D : va_G} {cI cC cR : ClassId} {A : Nat → Prop} {Z : State → Prop} (CX : cx cX7_drills (some .int) 6 RX7 wsX7_drills p m meth c s args D cI cC cR A) (oT oT_s oT_aside oT_states oT_snapshot oT_text oT_serves oT_took oT_tookMany oT_helps oT_before oT_read : Nat) (T_thrown : Int32) (T_stateMany : Int32) (T_hasSnapshot : Int32) (T_length : Int32) (T_stopNumber : Int32) (T_stopError : Int32) (T_at : Int32) (T_isWell : Int32) (T_readMany : Int32) (T_took : Nat → Int32) (x1 : Int32) (x2 : Int32) (x3 : Int32) (x4 : Int32) {K_63 : (Nat → Int32) → Prop} {Q : Int32 → (Nat → Int32) → Prop} (HR : ∀ (r : Int32) (u0 : Nat → Int32) {H : Heap} {locs : List Loc} {ls : Array Slot} {pc : Nat}, Q r u0 → wd D A s (ww_X7_drills cI cC oT oT_s oT_aside oT_states oT_snapshot oT_text oT_serves oT_took oT_tookMany oT_helps oT_before oT_read T_thrown T_stateMany T_hasSnapshot T_length T_stopNumber T_stopError T_at T_isWell T_readMany u0 T_took) H locs → decode cX7_drills pc = .ok (.ireturn, 1) → W p l e (headSpec wsX7_drills rm_X7_drills).room s m args below meth c H locs 0 0 Z (F0 m pc ls [.int r])) (HK_63 : ∀ (T_sy : Nat → Int32), K_63 T_sy → ∀ (H : Heap) (locs : List Loc) (ls : Array Slot), wd D A s (ww_X7_drills cI cC oT oT_s oT_aside oT_states oT_snapshot oT_text oT_serves oT_took oT_tookMany oT_helps oT_before oT_read T_thrown T_stateMany T_hasSnapshot T_length T_stopNumber T_stopError T_at T_isWell T_readMany T_sy T_took) H locs → lv_has ls 6 [(0, .ref oT), (1, .int x1), (2, .int x2), (3, .int x3), (4, .int x4)] → W p l e (headSpec wsX7_drills rm_X7_drills).room s m args below meth c H locs 0 0 Z (F0 m 63 ls [])) : ∀ (n : Nat) (T_s : Nat → Int32) (x5 : Int32), wb_X7_drills_28 x1 K_63 n T_s x5 → ∀ (H : Heap) (locs : List Loc) (ls : Array Slot), wd D A s (ww_X7_drills cI cC oT oT_s oT_aside oT_states oT_snapshot oT_text oT_serves oT_took oT_tookMany oT_helps oT_before oT_read T_thrown T_stateMany T_hasSnapshot T_length T_stopNumber T_stopError T_at T_isWell T_readMany T_s T_took) H locs → lv_has ls 6 [(0, .ref oT), (1, .int x1), (2, .int x2), (3, .int x3), (4, .int x4), (5, .int x5)] → W p l e (headSpec wsX7_drills rm_X7_drills).room s m args below meth c H locs 0 0 Z (F0 m 28 ls []) := by
  obtain ⟨hx, hb, hr, hml, hts, hown, hlocks, hKw, hA⟩ := id CX
  intro n
  induction n with
  | zero => intro T_s x5 hw; exact False.elim hw
  | succ n ih =>
    intro T_s x5 hw H locs ls hwd hl
    rw [wb_X7_drills_28] at hw
    refine lv_iload hx hb dX7_drills_28 (lv_at hl 5 rfl) ?_
    refine lv_bipush (v := (nI 15)) hx hb dX7_drills_30 rfl ?_
    refine lv_icmp_ge (tgt := 63) hx hb dX7_drills_32 (by decide) (fun c1 => ?_) (fun c1 => ?_)
    · replace hw := hw.1 c1
      exact HK_63 T_s hw _ _ _ hwd (lv_sub hl [0, 1, 2, 3, 4] rfl)
    · replace hw := hw.2 c1
      refine lv_aload_n hx hb dX7_drills_35 rfl (lv_at hl 0 rfl) ?_
      refine lv_iload_n hx hb dX7_drills_36 rfl (lv_at hl 1 rfl) ?_
      refine lv_bipush (v := (nI 9)) hx hb dX7_drills_37 rfl ?_
      refine lv_iload hx hb dX7_drills_39 (lv_at hl 5 rfl) ?_
      refine lv_iadd hx hb dX7_drills_41 ?_
      refine lv_aload_n hx hb dX7_drills_42 rfl (lv_at hl 0 rfl) ?_
      refine lv_iload_n hx hb dX7_drills_43 rfl (lv_at hl 1 rfl) ?_
      refine lv_bipush (v := (nI 9)) hx hb dX7_drills_44 rfl ?_
      refine lv_iload hx hb dX7_drills_46 (lv_at hl 5 rfl) ?_
      refine lv_iadd hx hb dX7_drills_48 ?_
      refine lv_iconst (v := (nI 3)) hx hb dX7_drills_49 rfl ?_
      refine lv_iadd hx hb dX7_drills_50 ?_
      refine kcVi (W1 := (fun u => (ww_X7_drills cI cC oT oT_s oT_aside oT_states oT_snapshot oT_text oT_serves oT_took oT_tookMany oT_helps oT_before oT_read T_thrown T_stateMany T_hasSnapshot T_length T_stopNumber T_stopError T_at T_isWell T_readMany T_s T_took))) (rest := [.int ((nI 9) + x5), .int x1, .ref oT]) (As := [.int x1, .int (((nI 9) + x5) + (nI 3))]) ⟨Nat.le_of_ble_eq_true rfl, Nat.le_of_ble_eq_true rfl⟩ ⟨hx, hb, hml, hown, hts⟩ (c_X7_of l oT oT_s oT_aside oT_states oT_snapshot oT_text oT_serves oT_took oT_tookMany oT_helps oT_before oT_read H.size T_thrown T_stateMany T_hasSnapshot T_length T_stopNumber T_stopError T_at T_isWell T_readMany T_s x1 (((nI 9) + x5) + (nI 3)) hw) (cwV 2 hts gX7_drills_X7_of rfl rfl rfl ⟨rfl, hd_X7_of⟩ ⟨Nat.le_of_ble_eq_true rfl, Nat.le_of_ble_eq_true rfl⟩) hKw hA hwd [0, 1] [2] [1, 2, 0] [(oT_took, .inl (cI, 30, .inl T_took))] rfl rfl rfl rfl (by decide) rfl (fun _ => rfl) 0 7 rfl rfl rfl rfl hl.1 rfl (lv_room (Nat.le_of_ble_eq_true rfl)) dX7_drills_51 (fun r2 u H locs hw hwd => ?_)
      try dsimp only at hw
      replace hwd : wd D A s (ww_X7_drills cI cC oT oT_s oT_aside oT_states oT_snapshot oT_text oT_serves oT_took oT_tookMany oT_helps oT_before oT_read T_thrown T_stateMany T_hasSnapshot T_length T_stopNumber T_stopError T_at T_isWell T_readMany T_s T_took) H locs := hwd
      refine kcVv (W1 := (fun u => (ww_X7_drills cI cC oT oT_s oT_aside oT_states oT_snapshot oT_text oT_serves oT_took oT_tookMany oT_helps oT_before oT_read T_thrown T_stateMany T_hasSnapshot T_length T_stopNumber T_stopError T_at T_isWell T_readMany u T_took))) (rest := []) (As := [.int x1, .int ((nI 9) + x5), .int r2]) ⟨Nat.le_of_ble_eq_true rfl, Nat.le_of_ble_eq_true rfl⟩ ⟨hx, hb, hml, hown, hts⟩ (c_X7_lay l oT oT_s oT_aside oT_states oT_snapshot oT_text oT_serves oT_took oT_tookMany oT_helps oT_before oT_read H.size T_thrown T_stateMany T_hasSnapshot T_length T_stopNumber T_stopError T_at T_isWell T_readMany T_s x1 ((nI 9) + x5) r2 hw) (cwV 3 hts gX7_drills_X7_lay rfl rfl rfl ⟨rfl, hd_X7_lay⟩ ⟨Nat.le_of_ble_eq_true rfl, Nat.le_of_ble_eq_true rfl⟩) hKw hA hwd [0, 1] [2] [1, 2, 0] [(oT_took, .inl (cI, 30, .inl T_took))] rfl rfl rfl rfl (by decide) rfl (fun _ => rfl) 0 7 rfl rfl rfl rfl hl.1 rfl (lv_room (Nat.le_of_ble_eq_true rfl)) dX7_drills_54 (fun u H locs hw hwd => ?_)
      obtain ⟨T_s3, rfl⟩ : ∃ z, z = u := ⟨_, rfl⟩
      try dsimp only at hw
      replace hwd : wd D A s (ww_X7_drills cI cC oT oT_s oT_aside oT_states oT_snapshot oT_text oT_serves oT_took oT_tookMany oT_helps oT_before oT_read T_thrown T_stateMany T_hasSnapshot T_length T_stopNumber T_stopError T_at T_isWell T_readMany T_s3 T_took) H locs := hwd
      obtain ⟨x5_4, e_x5_4⟩ : ∃ y : Int32, y = x5 + (nI 1) := ⟨_, rfl⟩
      replace hw := hw x5_4 e_x5_4
      refine lv_iinc (v := x5_4) (lv' := [(5, .int x5_4), (0, .ref oT), (1, .int x1), (2, .int x2), (3, .int x3), (4, .int x4)]) hx hb dX7_drills_57 hl (k := 5) rfl (by rw [e_x5_4]; rfl) (by decide) rfl (fun ls hl => ?_)
      refine lv_goto (tgt := 28) hx hb dX7_drills_60 (by decide) ?_
      exact ih T_s3 x5_4 hw _ _ _ hwd (lv_sub hl [1, 2, 3, 4, 5, 0] rfl)
def wp_X7_drills (T_s : Nat → Int32) (T_took : Nat → Int32) (x1 : Int32) (x2 : Int32) (Q : Int32 → (Nat → Int32) → Prop) : Prop := vp_in ((nI 3) * x1) 30 ∧ ∀ x3_1, x3_1 = T_took ((nI 3) * x1).toNatClampNeg → wp_X7_of T_s x1 (nI 8) (fun r2 => ((¬ r2 = (nI 6) → wb_X7_drills_66 T_s x1 x2 x3_1 r2 Q) ∧ (r2 = (nI 6) → (∃ n4, wb_X7_drills_28 x1 (fun T_s5 => ∀ x4_6, x4_6 = r2 + (-1) → wb_X7_drills_66 T_s5 x1 x2 x3_1 x4_6 Q) n4 T_s (nI 0)))))
set_option maxRecDepth 100000 in
set_option maxHeartbeats 4000000 in
theorem c_X7_drills (l : Launch) {D : va_G} {cI cC cR : ClassId} (oT oT_s oT_aside oT_states oT_snapshot oT_text oT_serves oT_took oT_tookMany oT_helps oT_before oT_read : Nat) (sz : Nat) (T_thrown : Int32) (T_stateMany : Int32) (T_hasSnapshot : Int32) (T_length : Int32) (T_stopNumber : Int32) (T_stopError : Int32) (T_at : Int32) (T_isWell : Int32) (T_readMany : Int32) (T_s : Nat → Int32) (T_took : Nat → Int32) (x1 : Int32) (x2 : Int32) {Q : Int32 → (Nat → Int32) → Prop} (hw : wp_X7_drills T_s T_took x1 x2 Q) : Met l yX7_drills wsX7_drills rm_X7_drills (PcW D cI cC cR [.ref oT, .int x1, .int x2] (ww_X7_drills cI cC oT oT_s oT_aside oT_states oT_snapshot oT_text oT_serves oT_took oT_tookMany oT_helps oT_before oT_read T_thrown T_stateMany T_hasSnapshot T_length T_stopNumber T_stopError T_at T_isWell T_readMany T_s T_took) sz) (QiW D (fun (r : Int32) (u : (Nat → Int32)) => Q r u) (fun u => (ww_X7_drills cI cC oT oT_s oT_aside oT_states oT_snapshot oT_text oT_serves oT_took oT_tookMany oT_helps oT_before oT_read T_thrown T_stateMany T_hasSnapshot T_length T_stopNumber T_stopError T_at T_isWell T_readMany u T_took)) (ww_X7_drills cI cC oT oT_s oT_aside oT_states oT_snapshot oT_text oT_serves oT_took oT_tookMany oT_helps oT_before oT_read T_thrown T_stateMany T_hasSnapshot T_length T_stopNumber T_stopError T_at T_isWell T_readMany T_s T_took) sz) 0 0 (va_A (ww_X7_drills cI cC oT oT_s oT_aside oT_states oT_snapshot oT_text oT_serves oT_took oT_tookMany oT_helps oT_before oT_read T_thrown T_stateMany T_hasSnapshot T_length T_stopNumber T_stopError T_at T_isWell T_readMany T_s T_took) sz) := by
  refine Met.ofW (cc := cX7_drills) (maxL := 6) (ret := (some .int)) (by decide) rfl ?_
  intro p e s m args below meth c s₁ B hml hv
  obtain ⟨rfl, hsz, hP, hKw, hD0⟩ := hv
  have hlocks := B.notSynchronized
  subst hsz
  have hD := hD0.self (sz := s.heap.size)
  have CX : cx cX7_drills (some .int) 6 RX7 wsX7_drills p m meth c s ([.ref oT, .int x1, .int x2] : List Value).toArray D cI cC cR (va_A (ww_X7_drills cI cC oT oT_s oT_aside oT_states oT_snapshot oT_text oT_serves oT_took oT_tookMany oT_helps oT_before oT_read T_thrown T_stateMany T_hasSnapshot T_length T_stopNumber T_stopError T_at T_isWell T_readMany T_s T_took) s.heap.size) := ⟨B.exec, B.bytes, B.returns, hml, atoms_spec (ws := wsX7_drills) B.pre, findClass_of_methodNamed B.named, hlocks, hKw, fun q h => Or.inr h⟩
  obtain ⟨hx, hb, hr, -, hts, hown, -, -, hA⟩ := id CX
  have hwd : wd D (va_A (ww_X7_drills cI cC oT oT_s oT_aside oT_states oT_snapshot oT_text oT_serves oT_took oT_tookMany oT_helps oT_before oT_read T_thrown T_stateMany T_hasSnapshot T_length T_stopNumber T_stopError T_at T_isWell T_readMany T_s T_took) s.heap.size) s (ww_X7_drills cI cC oT oT_s oT_aside oT_states oT_snapshot oT_text oT_serves oT_took oT_tookMany oT_helps oT_before oT_read T_thrown T_stateMany T_hasSnapshot T_length T_stopNumber T_stopError T_at T_isWell T_readMany T_s T_took) s.heap [] := ⟨hP, hD, va_S.rf⟩
  have hl := lv_entry ([.ref oT, .int x1, .int x2]) (n := 6) (Nat.le_of_ble_eq_true rfl)
  rw [lg_entry_eq]
  generalize (lg_sl ([.ref oT, .int x1, .int x2]) ++ List.replicate (6 - (lg_sl ([.ref oT, .int x1, .int x2])).length) Slot.unset).toArray = ls at hl ⊢
  have hl : lv_has ls 6 [(0, .ref oT), (1, .int x1), (2, .int x2)] := hl
  have HR : ∀ (r : Int32) (u0 : Nat → Int32) {H : Heap} {locs : List Loc} {ls : Array Slot} {pc : Nat}, Q r u0 → wd D (va_A (ww_X7_drills cI cC oT oT_s oT_aside oT_states oT_snapshot oT_text oT_serves oT_took oT_tookMany oT_helps oT_before oT_read T_thrown T_stateMany T_hasSnapshot T_length T_stopNumber T_stopError T_at T_isWell T_readMany T_s T_took) s.heap.size) s (ww_X7_drills cI cC oT oT_s oT_aside oT_states oT_snapshot oT_text oT_serves oT_took oT_tookMany oT_helps oT_before oT_read T_thrown T_stateMany T_hasSnapshot T_length T_stopNumber T_stopError T_at T_isWell T_readMany u0 T_took) H locs → decode cX7_drills pc = .ok (.ireturn, 1) → W p l e (headSpec wsX7_drills rm_X7_drills).room s m ([.ref oT, .int x1, .int x2] : List Value).toArray below meth c H locs 0 0 (MQ below (QiW D (fun (r : Int32) (u : (Nat → Int32)) => Q r u) (fun u => (ww_X7_drills cI cC oT oT_s oT_aside oT_states oT_snapshot oT_text oT_serves oT_took oT_tookMany oT_helps oT_before oT_read T_thrown T_stateMany T_hasSnapshot T_length T_stopNumber T_stopError T_at T_isWell T_readMany u T_took)) (ww_X7_drills cI cC oT oT_s oT_aside oT_states oT_snapshot oT_text oT_serves oT_took oT_tookMany oT_helps oT_before oT_read T_thrown T_stateMany T_hasSnapshot T_length T_stopNumber T_stopError T_at T_isWell T_readMany T_s T_took) s.heap.size) ([.ref oT, .int x1, .int x2] : List Value).toArray s 0 0 (va_A (ww_X7_drills cI cC oT oT_s oT_aside oT_states oT_snapshot oT_text oT_serves oT_took oT_tookMany oT_helps oT_before oT_read T_thrown T_stateMany T_hasSnapshot T_length T_stopNumber T_stopError T_at T_isWell T_readMany T_s T_took) s.heap.size)) (F0 m pc ls [.int r]) := by
    intro r u0 H locs ls pc hq hw9 hd9
    exact W.iret (v := r) hx hb hr (fun t ht hW => ⟨⟨r, u0, rfl, hq, by rw [ht]; exact hw9.1, hw9.2.1⟩, hw9.2.2.F ht⟩) hw9.2.2.2.2 hd9
  unfold wp_X7_drills at hw
  refine lv_aload_n hx hb dX7_drills_0 rfl (lv_at hl 0 rfl) ?_
  refine va_get (D := D) (ci := 7) (v := .ref oT_took) (C := RX7) (T := TX7) (N := 20) hx hb hts ic_X7_drills_X7 hown hKw.1 hwd.1 0 rfl rfl 12 (by decide) (hts (.fieldLink RX7 28 "DrillWardensModel" "took" "[I") (List.mem_of_getElem? (i := 1) rfl)) (fun _ h9 => h9) rfl dX7_drills_1 ?_
  refine lv_iconst (v := (nI 3)) hx hb dX7_drills_4 rfl ?_
  refine lv_iload_n hx hb dX7_drills_5 rfl (lv_at hl 1 rfl) ?_
  refine lv_imul hx hb dX7_drills_6 ?_
  refine va_iald hx hb hKw.1 hwd.1 2 0 rfl rfl hw.1 dX7_drills_7 ?_
  replace hw := hw.2
  refine lv_topi (fun x3_1 e_x3_1 => ?_)
  replace hw := hw x3_1 e_x3_1
  refine lv_istore_n (lv' := [(3, .int x3_1), (0, .ref oT), (1, .int x1), (2, .int x2)]) hx hb dX7_drills_8 rfl hl (by decide) rfl (fun ls hl => ?_)
  refine lv_aload_n hx hb dX7_drills_9 rfl (lv_at hl 1 rfl) ?_
  refine lv_iload_n hx hb dX7_drills_10 rfl (lv_at hl 2 rfl) ?_
  refine lv_bipush (v := (nI 8)) hx hb dX7_drills_11 rfl ?_
  refine kcVi (W1 := (fun u => (ww_X7_drills cI cC oT oT_s oT_aside oT_states oT_snapshot oT_text oT_serves oT_took oT_tookMany oT_helps oT_before oT_read T_thrown T_stateMany T_hasSnapshot T_length T_stopNumber T_stopError T_at T_isWell T_readMany T_s T_took))) (rest := []) (As := [.int x1, .int (nI 8)]) ⟨Nat.le_of_ble_eq_true rfl, Nat.le_of_ble_eq_true rfl⟩ ⟨hx, hb, hml, hown, hts⟩ (c_X7_of l oT oT_s oT_aside oT_states oT_snapshot oT_text oT_serves oT_took oT_tookMany oT_helps oT_before oT_read s.heap.size T_thrown T_stateMany T_hasSnapshot T_length T_stopNumber T_stopError T_at T_isWell T_readMany T_s x1 (nI 8) hw) (cwV 2 hts gX7_drills_X7_of rfl rfl rfl ⟨rfl, hd_X7_of⟩ ⟨Nat.le_of_ble_eq_true rfl, Nat.le_of_ble_eq_true rfl⟩) hKw hA hwd [0, 1] [2] [1, 2, 0] [(oT_took, .inl (cI, 30, .inl T_took))] rfl rfl rfl rfl (by decide) rfl (fun _ => rfl) 0 7 rfl rfl rfl rfl hl.1 rfl (lv_room (Nat.le_of_ble_eq_true rfl)) dX7_drills_13 (fun r2 u H locs hw hwd => ?_)
  try dsimp only at hw
  replace hwd : wd D (va_A (ww_X7_drills cI cC oT oT_s oT_aside oT_states oT_snapshot oT_text oT_serves oT_took oT_tookMany oT_helps oT_before oT_read T_thrown T_stateMany T_hasSnapshot T_length T_stopNumber T_stopError T_at T_isWell T_readMany T_s T_took) s.heap.size) s (ww_X7_drills cI cC oT oT_s oT_aside oT_states oT_snapshot oT_text oT_serves oT_took oT_tookMany oT_helps oT_before oT_read T_thrown T_stateMany T_hasSnapshot T_length T_stopNumber T_stopError T_at T_isWell T_readMany T_s T_took) H locs := hwd
  refine lv_istore (lv' := [(4, .int r2), (3, .int x3_1), (0, .ref oT), (1, .int x1), (2, .int x2)]) hx hb dX7_drills_16 hl (by decide) rfl (fun ls hl => ?_)
  refine lv_iload hx hb dX7_drills_18 (lv_at hl 0 rfl) ?_
  refine lv_bipush (v := (nI 6)) hx hb dX7_drills_20 rfl ?_
  refine lv_icmp_ne (tgt := 66) hx hb dX7_drills_22 (by decide) (fun c3 => ?_) (fun c3 => ?_)
  · replace hw := hw.1 c3
    refine blk_X7_drills_66 (CX := CX) (oT := oT) (oT_s := oT_s) (oT_aside := oT_aside) (oT_states := oT_states) (oT_snapshot := oT_snapshot) (oT_text := oT_text) (oT_serves := oT_serves) (oT_took := oT_took) (oT_tookMany := oT_tookMany) (oT_helps := oT_helps) (oT_before := oT_before) (oT_read := oT_read) (T_thrown := T_thrown) (T_stateMany := T_stateMany) (T_hasSnapshot := T_hasSnapshot) (T_length := T_length) (T_stopNumber := T_stopNumber) (T_stopError := T_stopError) (T_at := T_at) (T_isWell := T_isWell) (T_readMany := T_readMany) (T_s := T_s) (T_took := T_took) (x1 := x1) (x2 := x2) (x3 := x3_1) (x4 := r2) (HR := HR) hw _ _ _ hwd (lv_sub hl [2, 3, 4, 1, 0] rfl)
  · replace hw := hw.2 c3
    refine lv_iconst (v := (nI 0)) hx hb dX7_drills_25 rfl ?_
    refine lv_istore (lv' := [(5, .int (nI 0)), (4, .int r2), (3, .int x3_1), (0, .ref oT), (1, .int x1), (2, .int x2)]) hx hb dX7_drills_26 hl (by decide) rfl (fun ls hl => ?_)
    obtain ⟨n4, hw⟩ := hw
    refine blk_X7_drills_28 (CX := CX) (oT := oT) (oT_s := oT_s) (oT_aside := oT_aside) (oT_states := oT_states) (oT_snapshot := oT_snapshot) (oT_text := oT_text) (oT_serves := oT_serves) (oT_took := oT_took) (oT_tookMany := oT_tookMany) (oT_helps := oT_helps) (oT_before := oT_before) (oT_read := oT_read) (T_thrown := T_thrown) (T_stateMany := T_stateMany) (T_hasSnapshot := T_hasSnapshot) (T_length := T_length) (T_stopNumber := T_stopNumber) (T_stopError := T_stopError) (T_at := T_at) (T_isWell := T_isWell) (T_readMany := T_readMany) (T_took := T_took) (x1 := x1) (x2 := x2) (x3 := x3_1) (x4 := r2) (HR := HR) (HK_63 := fun T_s5 hw H locs ls hwd hl => ?_) n4 T_s (nI 0) hw _ _ _ hwd (lv_sub hl [3, 4, 5, 2, 1, 0] rfl)
    try dsimp only at hw
    obtain ⟨x4_6, e_x4_6⟩ : ∃ y : Int32, y = r2 + (-1) := ⟨_, rfl⟩
    replace hw := hw x4_6 e_x4_6
    refine lv_iinc (v := x4_6) (lv' := [(4, .int x4_6), (0, .ref oT), (1, .int x1), (2, .int x2), (3, .int x3_1)]) hx hb dX7_drills_63 hl (k := 4) rfl (by rw [e_x4_6]; rfl) (by decide) rfl (fun ls hl => ?_)
    refine blk_X7_drills_66 (CX := CX) (oT := oT) (oT_s := oT_s) (oT_aside := oT_aside) (oT_states := oT_states) (oT_snapshot := oT_snapshot) (oT_text := oT_text) (oT_serves := oT_serves) (oT_took := oT_took) (oT_tookMany := oT_tookMany) (oT_helps := oT_helps) (oT_before := oT_before) (oT_read := oT_read) (T_thrown := T_thrown) (T_stateMany := T_stateMany) (T_hasSnapshot := T_hasSnapshot) (T_length := T_length) (T_stopNumber := T_stopNumber) (T_stopError := T_stopError) (T_at := T_at) (T_isWell := T_isWell) (T_readMany := T_readMany) (T_s := T_s5) (T_took := T_took) (x1 := x1) (x2 := x2) (x3 := x3_1) (x4 := x4_6) (HR := HR) hw _ _ _ hwd (lv_sub hl [1, 2, 3, 4, 0] rfl)
