abbrev ww_X7_log (cI cC : ClassId) (oT oT_s oT_aside oT_states oT_snapshot oT_text oT_serves oT_took oT_tookMany oT_helps oT_before oT_read : Nat) (T_thrown : Int32) (T_stateMany : Int32) (T_hasSnapshot : Int32) (T_length : Int32) (T_stopNumber : Int32) (T_stopError : Int32) (T_at : Int32) (T_isWell : Int32) (T_readMany : Int32) (T_s : Nat → Int32) : va_W := [(oT, .inr (7, [.int T_thrown, .ref oT_s, .ref oT_aside, .ref oT_states, .int T_stateMany, .ref oT_snapshot, .int T_hasSnapshot, .ref oT_text, .int T_length, .int T_stopNumber, .int T_stopError, .ref oT_serves, .ref oT_took, .ref oT_tookMany, .ref oT_helps, .ref oT_before, .int T_at, .int T_isWell, .ref oT_read, .int T_readMany])), (oT_s, .inl (cI, 474, .inl T_s))]
abbrev rm_X7_log : Room := { frames := 2, cells := 0, slots := 0, locals := 42 }
theorem ic_X7_log_X7 : ∀ w ∈ u_ws RX7 TX7 20, w ∈ wsX7_log := by
  intro w h
  simp only [wsX7_log, List.mem_cons, List.mem_append]
  simp only [h, or_true, true_or]
def wp_X7_log (T_thrown : Int32) (T_s : Nat → Int32) (x1 : Int32) (x2 : Int32) (x3 : Int32) (Q : Int32 → Int32 → Prop) : Prop := wp_X7_isFloor x1 (fun r1 => ((¬ r1 = 0 → ((x2 < 0 → Q (-2) (nI 0)) ∧ (¬ x2 < 0 → wp_X7_in x3 (nI 0) (nI 2) (fun r4 => ((¬ r4 = 0 → wp_X7_of T_s x1 (nI 8) (fun r6 => ((r6 ≤ x2 → Q (-5) (nI 0)) ∧ (¬ r6 ≤ x2 → wp_X7_of T_s x1 (((nI 9) + ((nI 3) * ((r6 - (nI 1)) - x2))) + x3) (fun r8 => Q r8 (nI 0)))))) ∧ (r4 = 0 → Q (-2) (nI 0))))))) ∧ (r1 = 0 → Q (-1) (nI 0))))
set_option maxRecDepth 100000 in
set_option maxHeartbeats 4000000 in
theorem c_X7_log (l : Launch) {D : va_G} {cI cC cR : ClassId} (oT oT_s oT_aside oT_states oT_snapshot oT_text oT_serves oT_took oT_tookMany oT_helps oT_before oT_read : Nat) (sz : Nat) (T_thrown : Int32) (T_stateMany : Int32) (T_hasSnapshot : Int32) (T_length : Int32) (T_stopNumber : Int32) (T_stopError : Int32) (T_at : Int32) (T_isWell : Int32) (T_readMany : Int32) (T_s : Nat → Int32) (x1 : Int32) (x2 : Int32) (x3 : Int32) {Q : Int32 → Int32 → Prop} (hw : wp_X7_log T_thrown T_s x1 x2 x3 Q) : Met l yX7_log wsX7_log rm_X7_log (PcW D cI cC cR [.ref oT, .int x1, .int x2, .int x3] (ww_X7_log cI cC oT oT_s oT_aside oT_states oT_snapshot oT_text oT_serves oT_took oT_tookMany oT_helps oT_before oT_read T_thrown T_stateMany T_hasSnapshot T_length T_stopNumber T_stopError T_at T_isWell T_readMany T_s) sz) (QiW D (fun (r : Int32) (u : Int32) => Q r u) (fun u => (ww_X7_log cI cC oT oT_s oT_aside oT_states oT_snapshot oT_text oT_serves oT_took oT_tookMany oT_helps oT_before oT_read u T_stateMany T_hasSnapshot T_length T_stopNumber T_stopError T_at T_isWell T_readMany T_s)) (ww_X7_log cI cC oT oT_s oT_aside oT_states oT_snapshot oT_text oT_serves oT_took oT_tookMany oT_helps oT_before oT_read T_thrown T_stateMany T_hasSnapshot T_length T_stopNumber T_stopError T_at T_isWell T_readMany T_s) sz) 0 0 (va_A (ww_X7_log cI cC oT oT_s oT_aside oT_states oT_snapshot oT_text oT_serves oT_took oT_tookMany oT_helps oT_before oT_read T_thrown T_stateMany T_hasSnapshot T_length T_stopNumber T_stopError T_at T_isWell T_readMany T_s) sz) := by
  refine Met.ofW (cc := cX7_log) (maxL := 5) (ret := (some .int)) (by decide) rfl ?_
  intro p e s m args below meth c s₁ B hml hv
  obtain ⟨rfl, hsz, hP, hKw, hD0⟩ := hv
  have hlocks := B.notSynchronized
  subst hsz
  have hD := hD0.self (sz := s.heap.size)
  have CX : cx cX7_log (some .int) 5 RX7 wsX7_log p m meth c s ([.ref oT, .int x1, .int x2, .int x3] : List Value).toArray D cI cC cR (va_A (ww_X7_log cI cC oT oT_s oT_aside oT_states oT_snapshot oT_text oT_serves oT_took oT_tookMany oT_helps oT_before oT_read T_thrown T_stateMany T_hasSnapshot T_length T_stopNumber T_stopError T_at T_isWell T_readMany T_s) s.heap.size) := ⟨B.exec, B.bytes, B.returns, hml, atoms_spec (ws := wsX7_log) B.pre, findClass_of_methodNamed B.named, hlocks, hKw, fun q h => Or.inr h⟩
  obtain ⟨hx, hb, hr, -, hts, hown, -, -, hA⟩ := id CX
  have hwd : wd D (va_A (ww_X7_log cI cC oT oT_s oT_aside oT_states oT_snapshot oT_text oT_serves oT_took oT_tookMany oT_helps oT_before oT_read T_thrown T_stateMany T_hasSnapshot T_length T_stopNumber T_stopError T_at T_isWell T_readMany T_s) s.heap.size) s (ww_X7_log cI cC oT oT_s oT_aside oT_states oT_snapshot oT_text oT_serves oT_took oT_tookMany oT_helps oT_before oT_read T_thrown T_stateMany T_hasSnapshot T_length T_stopNumber T_stopError T_at T_isWell T_readMany T_s) s.heap [] := ⟨hP, hD, va_S.rf⟩
  have hl := lv_entry ([.ref oT, .int x1, .int x2, .int x3]) (n := 5) (Nat.le_of_ble_eq_true rfl)
  rw [lg_entry_eq]
  generalize (lg_sl ([.ref oT, .int x1, .int x2, .int x3]) ++ List.replicate (5 - (lg_sl ([.ref oT, .int x1, .int x2, .int x3])).length) Slot.unset).toArray = ls at hl ⊢
  have hl : lv_has ls 5 [(0, .ref oT), (1, .int x1), (2, .int x2), (3, .int x3)] := hl
  have HR : ∀ (r : Int32) (u0 : Int32) {H : Heap} {locs : List Loc} {ls : Array Slot} {pc : Nat}, Q r u0 → wd D (va_A (ww_X7_log cI cC oT oT_s oT_aside oT_states oT_snapshot oT_text oT_serves oT_took oT_tookMany oT_helps oT_before oT_read T_thrown T_stateMany T_hasSnapshot T_length T_stopNumber T_stopError T_at T_isWell T_readMany T_s) s.heap.size) s (ww_X7_log cI cC oT oT_s oT_aside oT_states oT_snapshot oT_text oT_serves oT_took oT_tookMany oT_helps oT_before oT_read u0 T_stateMany T_hasSnapshot T_length T_stopNumber T_stopError T_at T_isWell T_readMany T_s) H locs → decode cX7_log pc = .ok (.ireturn, 1) → W p l e (headSpec wsX7_log rm_X7_log).room s m ([.ref oT, .int x1, .int x2, .int x3] : List Value).toArray below meth c H locs 0 0 (MQ below (QiW D (fun (r : Int32) (u : Int32) => Q r u) (fun u => (ww_X7_log cI cC oT oT_s oT_aside oT_states oT_snapshot oT_text oT_serves oT_took oT_tookMany oT_helps oT_before oT_read u T_stateMany T_hasSnapshot T_length T_stopNumber T_stopError T_at T_isWell T_readMany T_s)) (ww_X7_log cI cC oT oT_s oT_aside oT_states oT_snapshot oT_text oT_serves oT_took oT_tookMany oT_helps oT_before oT_read T_thrown T_stateMany T_hasSnapshot T_length T_stopNumber T_stopError T_at T_isWell T_readMany T_s) s.heap.size) ([.ref oT, .int x1, .int x2, .int x3] : List Value).toArray s 0 0 (va_A (ww_X7_log cI cC oT oT_s oT_aside oT_states oT_snapshot oT_text oT_serves oT_took oT_tookMany oT_helps oT_before oT_read T_thrown T_stateMany T_hasSnapshot T_length T_stopNumber T_stopError T_at T_isWell T_readMany T_s) s.heap.size)) (F0 m pc ls [.int r]) := by
    intro r u0 H locs ls pc hq hw9 hd9
    exact W.iret (v := r) hx hb hr (fun t ht hW => ⟨⟨r, u0, rfl, hq, by rw [ht]; exact hw9.1, hw9.2.1⟩, hw9.2.2.F ht⟩) hw9.2.2.2.2 hd9
  unfold wp_X7_log at hw
  refine lv_aload_n hx hb dX7_log_0 rfl (lv_at hl 0 rfl) ?_
  refine lv_iconst (v := (nI 0)) hx hb dX7_log_1 rfl ?_
  refine va_put (D := D) (ci := 7) (v := .int (nI 0)) (ty := .int) (C := RX7) (T := TX7) (N := 20) hx hb hts ic_X7_log_X7 tyX7 tyX7_ok nmX7 hown hKw.1 hwd.1 hwd.2.1 hwd.2.2 0 rfl rfl 0 (by decide) (hts (.fieldLink RX7 43 "DrillWardensModel" "thrown" "I") (List.mem_of_getElem? (i := 1) rfl)) (fun _ h9 => h9) rfl (tyX7_ok 0 (by decide)) rfl rfl (Nat.le_of_ble_eq_true rfl) dX7_log_2 (fun H locs h1 h2 h3 => ?_)
  replace hwd : wd D (va_A (ww_X7_log cI cC oT oT_s oT_aside oT_states oT_snapshot oT_text oT_serves oT_took oT_tookMany oT_helps oT_before oT_read T_thrown T_stateMany T_hasSnapshot T_length T_stopNumber T_stopError T_at T_isWell T_readMany T_s) s.heap.size) s (ww_X7_log cI cC oT oT_s oT_aside oT_states oT_snapshot oT_text oT_serves oT_took oT_tookMany oT_helps oT_before oT_read (nI 0) T_stateMany T_hasSnapshot T_length T_stopNumber T_stopError T_at T_isWell T_readMany T_s) H locs := ⟨h1, h2, h3⟩
  clear h1 h2 h3
  refine lv_iload_n hx hb dX7_log_5 rfl (lv_at hl 1 rfl) ?_
  refine kcSi (rest := []) (As := [.int x1]) ⟨Nat.le_of_ble_eq_true rfl, Nat.le_of_ble_eq_true rfl⟩ ⟨hx, hb, hml, hown, hts⟩ (c_X7_isFloor l H.size x1 hw) (va_cwS 1 hts gX7_log_X7_isFloor rfl rfl rfl hd_X7_isFloor ⟨Nat.le_of_ble_eq_true rfl, Nat.le_of_ble_eq_true rfl⟩) hKw hA hwd rfl hl.1 rfl (lv_room (Nat.le_of_ble_eq_true rfl)) dX7_log_6 (fun r1 H locs hw hwd => ?_)
  try dsimp only at hw
  refine lv_if_ne (tgt := 14) hx hb dX7_log_9 (by decide) (fun c2 => ?_) (fun c2 => ?_)
  · replace hw := hw.1 c2
    refine lv_iload_n hx hb dX7_log_14 rfl (lv_at hl 2 rfl) ?_
    refine lv_if_lt (tgt := 27) hx hb dX7_log_15 (by decide) (fun c3 => ?_) (fun c3 => ?_)
    · replace hw := hw.1 c3
      refine lv_bipush (v := (-2)) hx hb dX7_log_27 rfl ?_
      exact HR (-2) (nI 0) hw hwd dX7_log_29
    · replace hw := hw.2 c3
      refine lv_iload_n hx hb dX7_log_18 rfl (lv_at hl 3 rfl) ?_
      refine lv_iconst (v := (nI 0)) hx hb dX7_log_19 rfl ?_
      refine lv_iconst (v := (nI 2)) hx hb dX7_log_20 rfl ?_
      refine kcSi (rest := []) (As := [.int x3, .int (nI 0), .int (nI 2)]) ⟨Nat.le_of_ble_eq_true rfl, Nat.le_of_ble_eq_true rfl⟩ ⟨hx, hb, hml, hown, hts⟩ (c_X7_in l H.size x3 (nI 0) (nI 2) hw) (va_cwS 3 hts gX7_log_X7_in rfl rfl rfl hd_X7_in ⟨Nat.le_of_ble_eq_true rfl, Nat.le_of_ble_eq_true rfl⟩) hKw hA hwd rfl hl.1 rfl (lv_room (Nat.le_of_ble_eq_true rfl)) dX7_log_21 (fun r4 H locs hw hwd => ?_)
      try dsimp only at hw
      refine lv_if_ne (tgt := 30) hx hb dX7_log_24 (by decide) (fun c5 => ?_) (fun c5 => ?_)
      · replace hw := hw.1 c5
        refine lv_aload_n hx hb dX7_log_30 rfl (lv_at hl 0 rfl) ?_
        refine lv_iload_n hx hb dX7_log_31 rfl (lv_at hl 1 rfl) ?_
        refine lv_bipush (v := (nI 8)) hx hb dX7_log_32 rfl ?_
        refine kcVi (W1 := (fun u => (ww_X7_log cI cC oT oT_s oT_aside oT_states oT_snapshot oT_text oT_serves oT_took oT_tookMany oT_helps oT_before oT_read (nI 0) T_stateMany T_hasSnapshot T_length T_stopNumber T_stopError T_at T_isWell T_readMany T_s))) (rest := []) (As := [.int x1, .int (nI 8)]) ⟨Nat.le_of_ble_eq_true rfl, Nat.le_of_ble_eq_true rfl⟩ ⟨hx, hb, hml, hown, hts⟩ (c_X7_of l oT oT_s oT_aside oT_states oT_snapshot oT_text oT_serves oT_took oT_tookMany oT_helps oT_before oT_read H.size (nI 0) T_stateMany T_hasSnapshot T_length T_stopNumber T_stopError T_at T_isWell T_readMany T_s x1 (nI 8) hw) (cwV 2 hts gX7_log_X7_of rfl rfl rfl ⟨rfl, hd_X7_of⟩ ⟨Nat.le_of_ble_eq_true rfl, Nat.le_of_ble_eq_true rfl⟩) hKw hA hwd [0, 1] [] [0, 1] [] rfl rfl rfl rfl (by decide) rfl (fun _ => rfl) 0 7 rfl rfl rfl rfl hl.1 rfl (lv_room (Nat.le_of_ble_eq_true rfl)) dX7_log_34 (fun r6 u H locs hw hwd => ?_)
        try dsimp only at hw
        replace hwd : wd D (va_A (ww_X7_log cI cC oT oT_s oT_aside oT_states oT_snapshot oT_text oT_serves oT_took oT_tookMany oT_helps oT_before oT_read T_thrown T_stateMany T_hasSnapshot T_length T_stopNumber T_stopError T_at T_isWell T_readMany T_s) s.heap.size) s (ww_X7_log cI cC oT oT_s oT_aside oT_states oT_snapshot oT_text oT_serves oT_took oT_tookMany oT_helps oT_before oT_read (nI 0) T_stateMany T_hasSnapshot T_length T_stopNumber T_stopError T_at T_isWell T_readMany T_s) H locs := hwd
        refine lv_istore (lv' := [(4, .int r6), (0, .ref oT), (1, .int x1), (2, .int x2), (3, .int x3)]) hx hb dX7_log_37 hl (by decide) rfl (fun ls hl => ?_)
        refine lv_iload_n hx hb dX7_log_39 rfl (lv_at hl 3 rfl) ?_
        refine lv_iload hx hb dX7_log_40 (lv_at hl 0 rfl) ?_
        refine lv_icmp_ge (tgt := 66) hx hb dX7_log_42 (by decide) (fun c7 => ?_) (fun c7 => ?_)
        · replace hw := hw.1 c7
          refine lv_bipush (v := (-5)) hx hb dX7_log_66 rfl ?_
          exact HR (-5) (nI 0) hw hwd dX7_log_68
        · replace hw := hw.2 c7
          refine lv_aload_n hx hb dX7_log_45 rfl (lv_at hl 1 rfl) ?_
          refine lv_iload_n hx hb dX7_log_46 rfl (lv_at hl 2 rfl) ?_
          refine lv_bipush (v := (nI 9)) hx hb dX7_log_47 rfl ?_
          refine lv_iconst (v := (nI 3)) hx hb dX7_log_49 rfl ?_
          refine lv_iload hx hb dX7_log_50 (lv_at hl 0 rfl) ?_
          refine lv_iconst (v := (nI 1)) hx hb dX7_log_52 rfl ?_
          refine lv_isub hx hb dX7_log_53 ?_
          refine lv_iload_n hx hb dX7_log_54 rfl (lv_at hl 3 rfl) ?_
          refine lv_isub hx hb dX7_log_55 ?_
          refine lv_imul hx hb dX7_log_56 ?_
          refine lv_iadd hx hb dX7_log_57 ?_
          refine lv_iload_n hx hb dX7_log_58 rfl (lv_at hl 4 rfl) ?_
          refine lv_iadd hx hb dX7_log_59 ?_
          refine kcVi (W1 := (fun u => (ww_X7_log cI cC oT oT_s oT_aside oT_states oT_snapshot oT_text oT_serves oT_took oT_tookMany oT_helps oT_before oT_read (nI 0) T_stateMany T_hasSnapshot T_length T_stopNumber T_stopError T_at T_isWell T_readMany T_s))) (rest := []) (As := [.int x1, .int (((nI 9) + ((nI 3) * ((r6 - (nI 1)) - x2))) + x3)]) ⟨Nat.le_of_ble_eq_true rfl, Nat.le_of_ble_eq_true rfl⟩ ⟨hx, hb, hml, hown, hts⟩ (c_X7_of l oT oT_s oT_aside oT_states oT_snapshot oT_text oT_serves oT_took oT_tookMany oT_helps oT_before oT_read H.size (nI 0) T_stateMany T_hasSnapshot T_length T_stopNumber T_stopError T_at T_isWell T_readMany T_s x1 (((nI 9) + ((nI 3) * ((r6 - (nI 1)) - x2))) + x3) hw) (cwV 2 hts gX7_log_X7_of rfl rfl rfl ⟨rfl, hd_X7_of⟩ ⟨Nat.le_of_ble_eq_true rfl, Nat.le_of_ble_eq_true rfl⟩) hKw hA hwd [0, 1] [] [0, 1] [] rfl rfl rfl rfl (by decide) rfl (fun _ => rfl) 0 7 rfl rfl rfl rfl hl.1 rfl (lv_room (Nat.le_of_ble_eq_true rfl)) dX7_log_60 (fun r8 u H locs hw hwd => ?_)
          try dsimp only at hw
          replace hwd : wd D (va_A (ww_X7_log cI cC oT oT_s oT_aside oT_states oT_snapshot oT_text oT_serves oT_took oT_tookMany oT_helps oT_before oT_read T_thrown T_stateMany T_hasSnapshot T_length T_stopNumber T_stopError T_at T_isWell T_readMany T_s) s.heap.size) s (ww_X7_log cI cC oT oT_s oT_aside oT_states oT_snapshot oT_text oT_serves oT_took oT_tookMany oT_helps oT_before oT_read (nI 0) T_stateMany T_hasSnapshot T_length T_stopNumber T_stopError T_at T_isWell T_readMany T_s) H locs := hwd
          refine lv_goto (tgt := 68) hx hb dX7_log_63 (by decide) ?_
          exact HR r8 (nI 0) hw hwd dX7_log_68
      · replace hw := hw.2 c5
        refine lv_bipush (v := (-2)) hx hb dX7_log_27 rfl ?_
        exact HR (-2) (nI 0) hw hwd dX7_log_29
  · replace hw := hw.2 c2
    refine lv_iconst (v := (-1)) hx hb dX7_log_12 rfl ?_
    exact HR (-1) (nI 0) hw hwd dX7_log_13
abbrev ww_X7_dueIn (cI cC : ClassId) (oT oT_s oT_aside oT_states oT_snapshot oT_text oT_serves oT_took oT_tookMany oT_helps oT_before oT_read : Nat) (T_thrown : Int32) (T_stateMany : Int32) (T_hasSnapshot : Int32) (T_length : Int32) (T_stopNumber : Int32) (T_stopError : Int32) (T_at : Int32) (T_isWell : Int32) (T_readMany : Int32) (T_s : Nat → Int32) : va_W := [(oT, .inr (7, [.int T_thrown, .ref oT_s, .ref oT_aside, .ref oT_states, .int T_stateMany, .ref oT_snapshot, .int T_hasSnapshot, .ref oT_text, .int T_length, .int T_stopNumber, .int T_stopError, .ref oT_serves, .ref oT_took, .ref oT_tookMany, .ref oT_helps, .ref oT_before, .int T_at, .int T_isWell, .ref oT_read, .int T_readMany])), (oT_s, .inl (cI, 474, .inl T_s))]
abbrev rm_X7_dueIn : Room := { frames := 1, cells := 0, slots := 0, locals := 22 }
def wb_X7_dueIn_4 (T_s : Nat → Int32) (x1 : Int32) (K_47 : Int32 → Prop) : Nat → Int32 → Int32 → Prop
  | 0, _, _ => False
  | n + 1, x2, x3 => (((nI 10) ≤ x3 → K_47 x2) ∧ (¬ (nI 10) ≤ x3 → wp_X7_of T_s x3 (nI 0) (fun r2 => ((r2 ≤ 0 → ∀ x2_4, x2_4 = x2 ||| (nI 0) → ∀ x3_5, x3_5 = x3 + (nI 1) → wb_X7_dueIn_4 T_s x1 K_47 n x2_4 x3_5) ∧ (¬ r2 ≤ 0 → wp_X7_of T_s x3 ((nI 27) + x1) (fun r6 => ((¬ r6 = 0 → ∀ x2_8, x2_8 = x2 ||| (nI 0) → ∀ x3_9, x3_9 = x3 + (nI 1) → wb_X7_dueIn_4 T_s x1 K_47 n x2_8 x3_9) ∧ (r6 = 0 → ∀ x2_10, x2_10 = x2 ||| ((nI 1) <<< (x3 &&& 31)) → ∀ x3_11, x3_11 = x3 + (nI 1) → wb_X7_dueIn_4 T_s x1 K_47 n x2_10 x3_11))))))))
set_option maxRecDepth 100000 in
set_option maxHeartbeats 4000000 in
theorem blk_X7_dueIn_4 {p : Program} {l : Launch} {e : Env} {s : State} {m : MethodId} {args : Array Value} {below : List Frame} {meth : Method} {c : Code} {D : va_G} {cI cC cR : ClassId} {A : Nat → Prop} {Z : State → Prop} (CX : cx cX7_dueIn (some .int) 4 RX7 wsX7_dueIn p m meth c s args D cI cC cR A) (oT oT_s oT_aside oT_states oT_snapshot oT_text oT_serves oT_took oT_tookMany oT_helps oT_before oT_read : Nat) (T_thrown : Int32) (T_stateMany : Int32) (T_hasSnapshot : Int32) (T_length : Int32) (T_stopNumber : Int32) (T_stopError : Int32) (T_at : Int32) (T_isWell : Int32) (T_readMany : Int32) (T_s : Nat → Int32) (x1 : Int32) {K_47 : Int32 → Prop} {Q : Int32 → Prop} (HR : ∀ (r : Int32) {H : Heap} {locs : List Loc} {ls : Array Slot} {pc : Nat}, Q r → wd D A s (ww_X7_dueIn cI cC oT oT_s oT_aside oT_states oT_snapshot oT_text oT_serves oT_took oT_tookMany oT_helps oT_before oT_read T_thrown T_stateMany T_hasSnapshot T_length T_stopNumber T_stopError T_at T_isWell T_readMany T_s) H locs → decode cX7_dueIn pc = .ok (.ireturn, 1) → W p l e (headSpec wsX7_dueIn rm_X7_dueIn).room s m args below meth c H locs 0 0 Z (F0 m pc ls [.int r])) (HK_47 : ∀ (x2y : Int32), K_47 x2y → ∀ (H : Heap) (locs : List Loc) (ls : Array Slot), wd D A s (ww_X7_dueIn cI cC oT oT_s oT_aside oT_states oT_snapshot oT_text oT_serves oT_took oT_tookMany oT_helps oT_before oT_read T_thrown T_stateMany T_hasSnapshot T_length T_stopNumber T_stopError T_at T_isWell T_readMany T_s) H locs → lv_has ls 4 [(2, .int x2y)] → W p l e (headSpec wsX7_dueIn rm_X7_dueIn).room s m args below meth c H locs 0 0 Z (F0 m 47 ls [])) : ∀ (n : Nat) (x2 : Int32) (x3 : Int32), wb_X7_dueIn_4 T_s x1 K_47 n x2 x3 → ∀ (H : Heap) (locs : List Loc) (ls : Array Slot), wd D A s (ww_X7_dueIn cI cC oT oT_s oT_aside oT_states oT_snapshot oT_text oT_serves oT_took oT_tookMany oT_helps oT_before oT_read T_thrown T_stateMany T_hasSnapshot T_length T_stopNumber T_stopError T_at T_isWell T_readMany T_s) H locs → lv_has ls 4 [(0, .ref oT), (1, .int x1), (2, .int x2), (3, .int x3)] → W p l e (headSpec wsX7_dueIn rm_X7_dueIn).room s m args below meth c H locs 0 0 Z (F0 m 4 ls []) := by
  obtain ⟨hx, hb, hr, hml, hts, hown, hlocks, hKw, hA⟩ := id CX
  intro n
  induction n with
  | zero => intro x2 x3 hw; exact False.elim hw
  | succ n ih =>
    intro x2 x3 hw H locs ls hwd hl
    rw [wb_X7_dueIn_4] at hw
    refine lv_iload_n hx hb dX7_dueIn_4 rfl (lv_at hl 3 rfl) ?_
    refine lv_bipush (v := (nI 10)) hx hb dX7_dueIn_5 rfl ?_
    refine lv_icmp_ge (tgt := 47) hx hb dX7_dueIn_7 (by decide) (fun c1 => ?_) (fun c1 => ?_)
    · replace hw := hw.1 c1
      exact HK_47 x2 hw _ _ _ hwd (lv_sub hl [2] rfl)
    · replace hw := hw.2 c1
      refine lv_iload_n hx hb dX7_dueIn_10 rfl (lv_at hl 2 rfl) ?_
      refine lv_aload_n hx hb dX7_dueIn_11 rfl (lv_at hl 0 rfl) ?_
      refine lv_iload_n hx hb dX7_dueIn_12 rfl (lv_at hl 3 rfl) ?_
      refine lv_iconst (v := (nI 0)) hx hb dX7_dueIn_13 rfl ?_
      refine kcVi (W1 := (fun u => (ww_X7_dueIn cI cC oT oT_s oT_aside oT_states oT_snapshot oT_text oT_serves oT_took oT_tookMany oT_helps oT_before oT_read T_thrown T_stateMany T_hasSnapshot T_length T_stopNumber T_stopError T_at T_isWell T_readMany T_s))) (rest := [.int x2]) (As := [.int x3, .int (nI 0)]) ⟨Nat.le_of_ble_eq_true rfl, Nat.le_of_ble_eq_true rfl⟩ ⟨hx, hb, hml, hown, hts⟩ (c_X7_of l oT oT_s oT_aside oT_states oT_snapshot oT_text oT_serves oT_took oT_tookMany oT_helps oT_before oT_read H.size T_thrown T_stateMany T_hasSnapshot T_length T_stopNumber T_stopError T_at T_isWell T_readMany T_s x3 (nI 0) hw) (cwV 2 hts gX7_dueIn_X7_of rfl rfl rfl ⟨rfl, hd_X7_of⟩ ⟨Nat.le_of_ble_eq_true rfl, Nat.le_of_ble_eq_true rfl⟩) hKw hA hwd [0, 1] [] [0, 1] [] rfl rfl rfl rfl (by decide) rfl (fun _ => rfl) 0 7 rfl rfl rfl rfl hl.1 rfl (lv_room (Nat.le_of_ble_eq_true rfl)) dX7_dueIn_14 (fun r2 u H locs hw hwd => ?_)
      try dsimp only at hw
      replace hwd : wd D A s (ww_X7_dueIn cI cC oT oT_s oT_aside oT_states oT_snapshot oT_text oT_serves oT_took oT_tookMany oT_helps oT_before oT_read T_thrown T_stateMany T_hasSnapshot T_length T_stopNumber T_stopError T_at T_isWell T_readMany T_s) H locs := hwd
      refine lv_if_le (tgt := 38) hx hb dX7_dueIn_17 (by decide) (fun c3 => ?_) (fun c3 => ?_)
      · replace hw := hw.1 c3
        refine lv_iconst (v := (nI 0)) hx hb dX7_dueIn_38 rfl ?_
        refine lv_ior hx hb dX7_dueIn_39 ?_
        refine lv_topi (fun x2_4 e_x2_4 => ?_)
        replace hw := hw x2_4 e_x2_4
        refine lv_istore_n (lv' := [(2, .int x2_4), (0, .ref oT), (1, .int x1), (3, .int x3)]) hx hb dX7_dueIn_40 rfl hl (by decide) rfl (fun ls hl => ?_)
        obtain ⟨x3_5, e_x3_5⟩ : ∃ y : Int32, y = x3 + (nI 1) := ⟨_, rfl⟩
        replace hw := hw x3_5 e_x3_5
        refine lv_iinc (v := x3_5) (lv' := [(3, .int x3_5), (2, .int x2_4), (0, .ref oT), (1, .int x1)]) hx hb dX7_dueIn_41 hl (k := 3) rfl (by rw [e_x3_5]; rfl) (by decide) rfl (fun ls hl => ?_)
        refine lv_goto (tgt := 4) hx hb dX7_dueIn_44 (by decide) ?_
        exact ih x2_4 x3_5 hw _ _ _ hwd (lv_sub hl [2, 3, 1, 0] rfl)
      · replace hw := hw.2 c3
        refine lv_aload_n hx hb dX7_dueIn_20 rfl (lv_at hl 0 rfl) ?_
        refine lv_iload_n hx hb dX7_dueIn_21 rfl (lv_at hl 3 rfl) ?_
        refine lv_bipush (v := (nI 27)) hx hb dX7_dueIn_22 rfl ?_
        refine lv_iload_n hx hb dX7_dueIn_24 rfl (lv_at hl 1 rfl) ?_
        refine lv_iadd hx hb dX7_dueIn_25 ?_
        refine kcVi (W1 := (fun u => (ww_X7_dueIn cI cC oT oT_s oT_aside oT_states oT_snapshot oT_text oT_serves oT_took oT_tookMany oT_helps oT_before oT_read T_thrown T_stateMany T_hasSnapshot T_length T_stopNumber T_stopError T_at T_isWell T_readMany T_s))) (rest := [.int x2]) (As := [.int x3, .int ((nI 27) + x1)]) ⟨Nat.le_of_ble_eq_true rfl, Nat.le_of_ble_eq_true rfl⟩ ⟨hx, hb, hml, hown, hts⟩ (c_X7_of l oT oT_s oT_aside oT_states oT_snapshot oT_text oT_serves oT_took oT_tookMany oT_helps oT_before oT_read H.size T_thrown T_stateMany T_hasSnapshot T_length T_stopNumber T_stopError T_at T_isWell T_readMany T_s x3 ((nI 27) + x1) hw) (cwV 2 hts gX7_dueIn_X7_of rfl rfl rfl ⟨rfl, hd_X7_of⟩ ⟨Nat.le_of_ble_eq_true rfl, Nat.le_of_ble_eq_true rfl⟩) hKw hA hwd [0, 1] [] [0, 1] [] rfl rfl rfl rfl (by decide) rfl (fun _ => rfl) 0 7 rfl rfl rfl rfl hl.1 rfl (lv_room (Nat.le_of_ble_eq_true rfl)) dX7_dueIn_26 (fun r6 u H locs hw hwd => ?_)
        try dsimp only at hw
        replace hwd : wd D A s (ww_X7_dueIn cI cC oT oT_s oT_aside oT_states oT_snapshot oT_text oT_serves oT_took oT_tookMany oT_helps oT_before oT_read T_thrown T_stateMany T_hasSnapshot T_length T_stopNumber T_stopError T_at T_isWell T_readMany T_s) H locs := hwd
        refine lv_if_ne (tgt := 38) hx hb dX7_dueIn_29 (by decide) (fun c7 => ?_) (fun c7 => ?_)
        · replace hw := hw.1 c7
          refine lv_iconst (v := (nI 0)) hx hb dX7_dueIn_38 rfl ?_
          refine lv_ior hx hb dX7_dueIn_39 ?_
          refine lv_topi (fun x2_8 e_x2_8 => ?_)
          replace hw := hw x2_8 e_x2_8
          refine lv_istore_n (lv' := [(2, .int x2_8), (0, .ref oT), (1, .int x1), (3, .int x3)]) hx hb dX7_dueIn_40 rfl hl (by decide) rfl (fun ls hl => ?_)
          obtain ⟨x3_9, e_x3_9⟩ : ∃ y : Int32, y = x3 + (nI 1) := ⟨_, rfl⟩
          replace hw := hw x3_9 e_x3_9
          refine lv_iinc (v := x3_9) (lv' := [(3, .int x3_9), (2, .int x2_8), (0, .ref oT), (1, .int x1)]) hx hb dX7_dueIn_41 hl (k := 3) rfl (by rw [e_x3_9]; rfl) (by decide) rfl (fun ls hl => ?_)
          refine lv_goto (tgt := 4) hx hb dX7_dueIn_44 (by decide) ?_
          exact ih x2_8 x3_9 hw _ _ _ hwd (lv_sub hl [2, 3, 1, 0] rfl)
        · replace hw := hw.2 c7
          refine lv_iconst (v := (nI 1)) hx hb dX7_dueIn_32 rfl ?_
          refine lv_iload_n hx hb dX7_dueIn_33 rfl (lv_at hl 3 rfl) ?_
          refine lv_ishl hx hb dX7_dueIn_34 ?_
          refine lv_goto (tgt := 39) hx hb dX7_dueIn_35 (by decide) ?_
          refine lv_ior hx hb dX7_dueIn_39 ?_
          refine lv_topi (fun x2_10 e_x2_10 => ?_)
          replace hw := hw x2_10 e_x2_10
          refine lv_istore_n (lv' := [(2, .int x2_10), (0, .ref oT), (1, .int x1), (3, .int x3)]) hx hb dX7_dueIn_40 rfl hl (by decide) rfl (fun ls hl => ?_)
          obtain ⟨x3_11, e_x3_11⟩ : ∃ y : Int32, y = x3 + (nI 1) := ⟨_, rfl⟩
          replace hw := hw x3_11 e_x3_11
          refine lv_iinc (v := x3_11) (lv' := [(3, .int x3_11), (2, .int x2_10), (0, .ref oT), (1, .int x1)]) hx hb dX7_dueIn_41 hl (k := 3) rfl (by rw [e_x3_11]; rfl) (by decide) rfl (fun ls hl => ?_)
          refine lv_goto (tgt := 4) hx hb dX7_dueIn_44 (by decide) ?_
          exact ih x2_10 x3_11 hw _ _ _ hwd (lv_sub hl [2, 3, 1, 0] rfl)
def wp_X7_dueIn (T_s : Nat → Int32) (x1 : Int32) (Q : Int32 → Prop) : Prop := (∃ n1, wb_X7_dueIn_4 T_s x1 (fun x2_2 => Q x2_2) n1 (nI 0) (nI 0))
set_option maxRecDepth 100000 in
set_option maxHeartbeats 4000000 in
theorem c_X7_dueIn (l : Launch) {D : va_G} {cI cC cR : ClassId} (oT oT_s oT_aside oT_states oT_snapshot oT_text oT_serves oT_took oT_tookMany oT_helps oT_before oT_read : Nat) (sz : Nat) (T_thrown : Int32) (T_stateMany : Int32) (T_hasSnapshot : Int32) (T_length : Int32) (T_stopNumber : Int32) (T_stopError : Int32) (T_at : Int32) (T_isWell : Int32) (T_readMany : Int32) (T_s : Nat → Int32) (x1 : Int32) {Q : Int32 → Prop} (hw : wp_X7_dueIn T_s x1 Q) : Met l yX7_dueIn wsX7_dueIn rm_X7_dueIn (PcW D cI cC cR [.ref oT, .int x1] (ww_X7_dueIn cI cC oT oT_s oT_aside oT_states oT_snapshot oT_text oT_serves oT_took oT_tookMany oT_helps oT_before oT_read T_thrown T_stateMany T_hasSnapshot T_length T_stopNumber T_stopError T_at T_isWell T_readMany T_s) sz) (QiW D (fun (r : Int32) (u : Unit) => Q r ) (fun u => (ww_X7_dueIn cI cC oT oT_s oT_aside oT_states oT_snapshot oT_text oT_serves oT_took oT_tookMany oT_helps oT_before oT_read T_thrown T_stateMany T_hasSnapshot T_length T_stopNumber T_stopError T_at T_isWell T_readMany T_s)) (ww_X7_dueIn cI cC oT oT_s oT_aside oT_states oT_snapshot oT_text oT_serves oT_took oT_tookMany oT_helps oT_before oT_read T_thrown T_stateMany T_hasSnapshot T_length T_stopNumber T_stopError T_at T_isWell T_readMany T_s) sz) 0 0 (va_A (ww_X7_dueIn cI cC oT oT_s oT_aside oT_states oT_snapshot oT_text oT_serves oT_took oT_tookMany oT_helps oT_before oT_read T_thrown T_stateMany T_hasSnapshot T_length T_stopNumber T_stopError T_at T_isWell T_readMany T_s) sz) := by
  refine Met.ofW (cc := cX7_dueIn) (maxL := 4) (ret := (some .int)) (by decide) rfl ?_
  intro p e s m args below meth c s₁ B hml hv
  obtain ⟨rfl, hsz, hP, hKw, hD0⟩ := hv
  have hlocks := B.notSynchronized
  subst hsz
  have hD := hD0.self (sz := s.heap.size)
  have CX : cx cX7_dueIn (some .int) 4 RX7 wsX7_dueIn p m meth c s ([.ref oT, .int x1] : List Value).toArray D cI cC cR (va_A (ww_X7_dueIn cI cC oT oT_s oT_aside oT_states oT_snapshot oT_text oT_serves oT_took oT_tookMany oT_helps oT_before oT_read T_thrown T_stateMany T_hasSnapshot T_length T_stopNumber T_stopError T_at T_isWell T_readMany T_s) s.heap.size) := ⟨B.exec, B.bytes, B.returns, hml, atoms_spec (ws := wsX7_dueIn) B.pre, findClass_of_methodNamed B.named, hlocks, hKw, fun q h => Or.inr h⟩
  obtain ⟨hx, hb, hr, -, hts, hown, -, -, hA⟩ := id CX
  have hwd : wd D (va_A (ww_X7_dueIn cI cC oT oT_s oT_aside oT_states oT_snapshot oT_text oT_serves oT_took oT_tookMany oT_helps oT_before oT_read T_thrown T_stateMany T_hasSnapshot T_length T_stopNumber T_stopError T_at T_isWell T_readMany T_s) s.heap.size) s (ww_X7_dueIn cI cC oT oT_s oT_aside oT_states oT_snapshot oT_text oT_serves oT_took oT_tookMany oT_helps oT_before oT_read T_thrown T_stateMany T_hasSnapshot T_length T_stopNumber T_stopError T_at T_isWell T_readMany T_s) s.heap [] := ⟨hP, hD, va_S.rf⟩
  have hl := lv_entry ([.ref oT, .int x1]) (n := 4) (Nat.le_of_ble_eq_true rfl)
  rw [lg_entry_eq]
  generalize (lg_sl ([.ref oT, .int x1]) ++ List.replicate (4 - (lg_sl ([.ref oT, .int x1])).length) Slot.unset).toArray = ls at hl ⊢
  have hl : lv_has ls 4 [(0, .ref oT), (1, .int x1)] := hl
  have HR : ∀ (r : Int32) {H : Heap} {locs : List Loc} {ls : Array Slot} {pc : Nat}, Q r → wd D (va_A (ww_X7_dueIn cI cC oT oT_s oT_aside oT_states oT_snapshot oT_text oT_serves oT_took oT_tookMany oT_helps oT_before oT_read T_thrown T_stateMany T_hasSnapshot T_length T_stopNumber T_stopError T_at T_isWell T_readMany T_s) s.heap.size) s (ww_X7_dueIn cI cC oT oT_s oT_aside oT_states oT_snapshot oT_text oT_serves oT_took oT_tookMany oT_helps oT_before oT_read T_thrown T_stateMany T_hasSnapshot T_length T_stopNumber T_stopError T_at T_isWell T_readMany T_s) H locs → decode cX7_dueIn pc = .ok (.ireturn, 1) → W p l e (headSpec wsX7_dueIn rm_X7_dueIn).room s m ([.ref oT, .int x1] : List Value).toArray below meth c H locs 0 0 (MQ below (QiW D (fun (r : Int32) (u : Unit) => Q r ) (fun u => (ww_X7_dueIn cI cC oT oT_s oT_aside oT_states oT_snapshot oT_text oT_serves oT_took oT_tookMany oT_helps oT_before oT_read T_thrown T_stateMany T_hasSnapshot T_length T_stopNumber T_stopError T_at T_isWell T_readMany T_s)) (ww_X7_dueIn cI cC oT oT_s oT_aside oT_states oT_snapshot oT_text oT_serves oT_took oT_tookMany oT_helps oT_before oT_read T_thrown T_stateMany T_hasSnapshot T_length T_stopNumber T_stopError T_at T_isWell T_readMany T_s) s.heap.size) ([.ref oT, .int x1] : List Value).toArray s 0 0 (va_A (ww_X7_dueIn cI cC oT oT_s oT_aside oT_states oT_snapshot oT_text oT_serves oT_took oT_tookMany oT_helps oT_before oT_read T_thrown T_stateMany T_hasSnapshot T_length T_stopNumber T_stopError T_at T_isWell T_readMany T_s) s.heap.size)) (F0 m pc ls [.int r]) := by
    intro r H locs ls pc hq hw9 hd9
    exact W.iret (v := r) hx hb hr (fun t ht hW => ⟨⟨r, (), rfl, hq, by rw [ht]; exact hw9.1, hw9.2.1⟩, hw9.2.2.F ht⟩) hw9.2.2.2.2 hd9
  unfold wp_X7_dueIn at hw
  refine lv_iconst (v := (nI 0)) hx hb dX7_dueIn_0 rfl ?_
  refine lv_istore_n (lv' := [(2, .int (nI 0)), (0, .ref oT), (1, .int x1)]) hx hb dX7_dueIn_1 rfl hl (by decide) rfl (fun ls hl => ?_)
  refine lv_iconst (v := (nI 0)) hx hb dX7_dueIn_2 rfl ?_
  refine lv_istore_n (lv' := [(3, .int (nI 0)), (2, .int (nI 0)), (0, .ref oT), (1, .int x1)]) hx hb dX7_dueIn_3 rfl hl (by decide) rfl (fun ls hl => ?_)
  obtain ⟨n1, hw⟩ := hw
  refine blk_X7_dueIn_4 (CX := CX) (oT := oT) (oT_s := oT_s) (oT_aside := oT_aside) (oT_states := oT_states) (oT_snapshot := oT_snapshot) (oT_text := oT_text) (oT_serves := oT_serves) (oT_took := oT_took) (oT_tookMany := oT_tookMany) (oT_helps := oT_helps) (oT_before := oT_before) (oT_read := oT_read) (T_thrown := T_thrown) (T_stateMany := T_stateMany) (T_hasSnapshot := T_hasSnapshot) (T_length := T_length) (T_stopNumber := T_stopNumber) (T_stopError := T_stopError) (T_at := T_at) (T_isWell := T_isWell) (T_readMany := T_readMany) (T_s := T_s) (x1 := x1) (HR := HR) (HK_47 := fun x2_2 hw H locs ls hwd hl => ?_) n1 (nI 0) (nI 0) hw _ _ _ hwd (lv_sub hl [2, 3, 1, 0] rfl)
  try dsimp only at hw
  refine lv_iload_n hx hb dX7_dueIn_47 rfl (lv_at hl 0 rfl) ?_
  exact HR x2_2 hw hwd dX7_dueIn_48
abbrev ww_X7_due (cI cC : ClassId) (oT oT_s oT_aside oT_states oT_snapshot oT_text oT_serves oT_took oT_tookMany oT_helps oT_before oT_read : Nat) (T_thrown : Int32) (T_stateMany : Int32) (T_hasSnapshot : Int32) (T_length : Int32) (T_stopNumber : Int32) (T_stopError : Int32) (T_at : Int32) (T_isWell : Int32) (T_readMany : Int32) (T_s : Nat → Int32) : va_W := [(oT, .inr (7, [.int T_thrown, .ref oT_s, .ref oT_aside, .ref oT_states, .int T_stateMany, .ref oT_snapshot, .int T_hasSnapshot, .ref oT_text, .int T_length, .int T_stopNumber, .int T_stopError, .ref oT_serves, .ref oT_took, .ref oT_tookMany, .ref oT_helps, .ref oT_before, .int T_at, .int T_isWell, .ref oT_read, .int T_readMany])), (oT_s, .inl (cI, 474, .inl T_s))]
abbrev rm_X7_due : Room := { frames := 2, cells := 0, slots := 0, locals := 45 }
theorem ic_X7_due_X7 : ∀ w ∈ u_ws RX7 TX7 20, w ∈ wsX7_due := by
  intro w h
  simp only [wsX7_due, List.mem_cons, List.mem_append]
  simp only [h, or_true, true_or]
def wp_X7_due (T_thrown : Int32) (T_s : Nat → Int32) (x1 : Int32) (Q : Int32 → Int32 → Prop) : Prop := wp_X7_in x1 (nI 0) (nI 3) (fun r1 => ((r1 = 0 → Q (-1) (nI 0)) ∧ (¬ r1 = 0 → wp_X7_dueIn T_s x1 (fun r3 => Q r3 (nI 0)))))
set_option maxRecDepth 100000 in
set_option maxHeartbeats 4000000 in
theorem c_X7_due (l : Launch) {D : va_G} {cI cC cR : ClassId} (oT oT_s oT_aside oT_states oT_snapshot oT_text oT_serves oT_took oT_tookMany oT_helps oT_before oT_read : Nat) (sz : Nat) (T_thrown : Int32) (T_stateMany : Int32) (T_hasSnapshot : Int32) (T_length : Int32) (T_stopNumber : Int32) (T_stopError : Int32) (T_at : Int32) (T_isWell : Int32) (T_readMany : Int32) (T_s : Nat → Int32) (x1 : Int32) {Q : Int32 → Int32 → Prop} (hw : wp_X7_due T_thrown T_s x1 Q) : Met l yX7_due wsX7_due rm_X7_due (PcW D cI cC cR [.ref oT, .int x1] (ww_X7_due cI cC oT oT_s oT_aside oT_states oT_snapshot oT_text oT_serves oT_took oT_tookMany oT_helps oT_before oT_read T_thrown T_stateMany T_hasSnapshot T_length T_stopNumber T_stopError T_at T_isWell T_readMany T_s) sz) (QiW D (fun (r : Int32) (u : Int32) => Q r u) (fun u => (ww_X7_due cI cC oT oT_s oT_aside oT_states oT_snapshot oT_text oT_serves oT_took oT_tookMany oT_helps oT_before oT_read u T_stateMany T_hasSnapshot T_length T_stopNumber T_stopError T_at T_isWell T_readMany T_s)) (ww_X7_due cI cC oT oT_s oT_aside oT_states oT_snapshot oT_text oT_serves oT_took oT_tookMany oT_helps oT_before oT_read T_thrown T_stateMany T_hasSnapshot T_length T_stopNumber T_stopError T_at T_isWell T_readMany T_s) sz) 0 0 (va_A (ww_X7_due cI cC oT oT_s oT_aside oT_states oT_snapshot oT_text oT_serves oT_took oT_tookMany oT_helps oT_before oT_read T_thrown T_stateMany T_hasSnapshot T_length T_stopNumber T_stopError T_at T_isWell T_readMany T_s) sz) := by
  refine Met.ofW (cc := cX7_due) (maxL := 2) (ret := (some .int)) (by decide) rfl ?_
  intro p e s m args below meth c s₁ B hml hv
  obtain ⟨rfl, hsz, hP, hKw, hD0⟩ := hv
  have hlocks := B.notSynchronized
  subst hsz
  have hD := hD0.self (sz := s.heap.size)
  have CX : cx cX7_due (some .int) 2 RX7 wsX7_due p m meth c s ([.ref oT, .int x1] : List Value).toArray D cI cC cR (va_A (ww_X7_due cI cC oT oT_s oT_aside oT_states oT_snapshot oT_text oT_serves oT_took oT_tookMany oT_helps oT_before oT_read T_thrown T_stateMany T_hasSnapshot T_length T_stopNumber T_stopError T_at T_isWell T_readMany T_s) s.heap.size) := ⟨B.exec, B.bytes, B.returns, hml, atoms_spec (ws := wsX7_due) B.pre, findClass_of_methodNamed B.named, hlocks, hKw, fun q h => Or.inr h⟩
  obtain ⟨hx, hb, hr, -, hts, hown, -, -, hA⟩ := id CX
  have hwd : wd D (va_A (ww_X7_due cI cC oT oT_s oT_aside oT_states oT_snapshot oT_text oT_serves oT_took oT_tookMany oT_helps oT_before oT_read T_thrown T_stateMany T_hasSnapshot T_length T_stopNumber T_stopError T_at T_isWell T_readMany T_s) s.heap.size) s (ww_X7_due cI cC oT oT_s oT_aside oT_states oT_snapshot oT_text oT_serves oT_took oT_tookMany oT_helps oT_before oT_read T_thrown T_stateMany T_hasSnapshot T_length T_stopNumber T_stopError T_at T_isWell T_readMany T_s) s.heap [] := ⟨hP, hD, va_S.rf⟩
  have hl := lv_entry ([.ref oT, .int x1]) (n := 2) (Nat.le_of_ble_eq_true rfl)
  rw [lg_entry_eq]
  generalize (lg_sl ([.ref oT, .int x1]) ++ List.replicate (2 - (lg_sl ([.ref oT, .int x1])).length) Slot.unset).toArray = ls at hl ⊢
  have hl : lv_has ls 2 [(0, .ref oT), (1, .int x1)] := hl
  have HR : ∀ (r : Int32) (u0 : Int32) {H : Heap} {locs : List Loc} {ls : Array Slot} {pc : Nat}, Q r u0 → wd D (va_A (ww_X7_due cI cC oT oT_s oT_aside oT_states oT_snapshot oT_text oT_serves oT_took oT_tookMany oT_helps oT_before oT_read T_thrown T_stateMany T_hasSnapshot T_length T_stopNumber T_stopError T_at T_isWell T_readMany T_s) s.heap.size) s (ww_X7_due cI cC oT oT_s oT_aside oT_states oT_snapshot oT_text oT_serves oT_took oT_tookMany oT_helps oT_before oT_read u0 T_stateMany T_hasSnapshot T_length T_stopNumber T_stopError T_at T_isWell T_readMany T_s) H locs → decode cX7_due pc = .ok (.ireturn, 1) → W p l e (headSpec wsX7_due rm_X7_due).room s m ([.ref oT, .int x1] : List Value).toArray below meth c H locs 0 0 (MQ below (QiW D (fun (r : Int32) (u : Int32) => Q r u) (fun u => (ww_X7_due cI cC oT oT_s oT_aside oT_states oT_snapshot oT_text oT_serves oT_took oT_tookMany oT_helps oT_before oT_read u T_stateMany T_hasSnapshot T_length T_stopNumber T_stopError T_at T_isWell T_readMany T_s)) (ww_X7_due cI cC oT oT_s oT_aside oT_states oT_snapshot oT_text oT_serves oT_took oT_tookMany oT_helps oT_before oT_read T_thrown T_stateMany T_hasSnapshot T_length T_stopNumber T_stopError T_at T_isWell T_readMany T_s) s.heap.size) ([.ref oT, .int x1] : List Value).toArray s 0 0 (va_A (ww_X7_due cI cC oT oT_s oT_aside oT_states oT_snapshot oT_text oT_serves oT_took oT_tookMany oT_helps oT_before oT_read T_thrown T_stateMany T_hasSnapshot T_length T_stopNumber T_stopError T_at T_isWell T_readMany T_s) s.heap.size)) (F0 m pc ls [.int r]) := by
    intro r u0 H locs ls pc hq hw9 hd9
    exact W.iret (v := r) hx hb hr (fun t ht hW => ⟨⟨r, u0, rfl, hq, by rw [ht]; exact hw9.1, hw9.2.1⟩, hw9.2.2.F ht⟩) hw9.2.2.2.2 hd9
  unfold wp_X7_due at hw
  refine lv_aload_n hx hb dX7_due_0 rfl (lv_at hl 0 rfl) ?_
  refine lv_iconst (v := (nI 0)) hx hb dX7_due_1 rfl ?_
  refine va_put (D := D) (ci := 7) (v := .int (nI 0)) (ty := .int) (C := RX7) (T := TX7) (N := 20) hx hb hts ic_X7_due_X7 tyX7 tyX7_ok nmX7 hown hKw.1 hwd.1 hwd.2.1 hwd.2.2 0 rfl rfl 0 (by decide) (hts (.fieldLink RX7 43 "DrillWardensModel" "thrown" "I") (List.mem_of_getElem? (i := 1) rfl)) (fun _ h9 => h9) rfl (tyX7_ok 0 (by decide)) rfl rfl (Nat.le_of_ble_eq_true rfl) dX7_due_2 (fun H locs h1 h2 h3 => ?_)
  replace hwd : wd D (va_A (ww_X7_due cI cC oT oT_s oT_aside oT_states oT_snapshot oT_text oT_serves oT_took oT_tookMany oT_helps oT_before oT_read T_thrown T_stateMany T_hasSnapshot T_length T_stopNumber T_stopError T_at T_isWell T_readMany T_s) s.heap.size) s (ww_X7_due cI cC oT oT_s oT_aside oT_states oT_snapshot oT_text oT_serves oT_took oT_tookMany oT_helps oT_before oT_read (nI 0) T_stateMany T_hasSnapshot T_length T_stopNumber T_stopError T_at T_isWell T_readMany T_s) H locs := ⟨h1, h2, h3⟩
  clear h1 h2 h3
  refine lv_iload_n hx hb dX7_due_5 rfl (lv_at hl 1 rfl) ?_
  refine lv_iconst (v := (nI 0)) hx hb dX7_due_6 rfl ?_
  refine lv_iconst (v := (nI 3)) hx hb dX7_due_7 rfl ?_
  refine kcSi (rest := []) (As := [.int x1, .int (nI 0), .int (nI 3)]) ⟨Nat.le_of_ble_eq_true rfl, Nat.le_of_ble_eq_true rfl⟩ ⟨hx, hb, hml, hown, hts⟩ (c_X7_in l H.size x1 (nI 0) (nI 3) hw) (va_cwS 3 hts gX7_due_X7_in rfl rfl rfl hd_X7_in ⟨Nat.le_of_ble_eq_true rfl, Nat.le_of_ble_eq_true rfl⟩) hKw hA hwd rfl hl.1 rfl (lv_room (Nat.le_of_ble_eq_true rfl)) dX7_due_8 (fun r1 H locs hw hwd => ?_)
  try dsimp only at hw
  refine lv_if_eq (tgt := 22) hx hb dX7_due_11 (by decide) (fun c2 => ?_) (fun c2 => ?_)
  · replace hw := hw.1 c2
    refine lv_iconst (v := (-1)) hx hb dX7_due_22 rfl ?_
    exact HR (-1) (nI 0) hw hwd dX7_due_23
  · replace hw := hw.2 c2
    refine lv_aload_n hx hb dX7_due_14 rfl (lv_at hl 0 rfl) ?_
    refine lv_iload_n hx hb dX7_due_15 rfl (lv_at hl 1 rfl) ?_
    refine kcVi (W1 := (fun u => (ww_X7_due cI cC oT oT_s oT_aside oT_states oT_snapshot oT_text oT_serves oT_took oT_tookMany oT_helps oT_before oT_read (nI 0) T_stateMany T_hasSnapshot T_length T_stopNumber T_stopError T_at T_isWell T_readMany T_s))) (rest := []) (As := [.int x1]) ⟨Nat.le_of_ble_eq_true rfl, Nat.le_of_ble_eq_true rfl⟩ ⟨hx, hb, hml, hown, hts⟩ (c_X7_dueIn l oT oT_s oT_aside oT_states oT_snapshot oT_text oT_serves oT_took oT_tookMany oT_helps oT_before oT_read H.size (nI 0) T_stateMany T_hasSnapshot T_length T_stopNumber T_stopError T_at T_isWell T_readMany T_s x1 hw) (cwV 1 hts gX7_due_X7_dueIn rfl rfl rfl ⟨rfl, hd_X7_dueIn⟩ ⟨Nat.le_of_ble_eq_true rfl, Nat.le_of_ble_eq_true rfl⟩) hKw hA hwd [0, 1] [] [0, 1] [] rfl rfl rfl rfl (by decide) rfl (fun _ => rfl) 0 7 rfl rfl rfl rfl hl.1 rfl (lv_room (Nat.le_of_ble_eq_true rfl)) dX7_due_16 (fun r3 u H locs hw hwd => ?_)
    try dsimp only at hw
    replace hwd : wd D (va_A (ww_X7_due cI cC oT oT_s oT_aside oT_states oT_snapshot oT_text oT_serves oT_took oT_tookMany oT_helps oT_before oT_read T_thrown T_stateMany T_hasSnapshot T_length T_stopNumber T_stopError T_at T_isWell T_readMany T_s) s.heap.size) s (ww_X7_due cI cC oT oT_s oT_aside oT_states oT_snapshot oT_text oT_serves oT_took oT_tookMany oT_helps oT_before oT_read (nI 0) T_stateMany T_hasSnapshot T_length T_stopNumber T_stopError T_at T_isWell T_readMany T_s) H locs := hwd
    refine lv_goto (tgt := 23) hx hb dX7_due_19 (by decide) ?_
    exact HR r3 (nI 0) hw hwd dX7_due_23
abbrev ww_X7_reason (cI cC : ClassId) (oT oT_s oT_aside oT_states oT_snapshot oT_text oT_serves oT_took oT_tookMany oT_helps oT_before oT_read : Nat) (T_thrown : Int32) (T_stateMany : Int32) (T_hasSnapshot : Int32) (T_length : Int32) (T_stopNumber : Int32) (T_stopError : Int32) (T_at : Int32) (T_isWell : Int32) (T_readMany : Int32) (T_s : Nat → Int32) (T_serves : Nat → Int32) (T_took : Nat → Int32) (T_tookMany : Nat → Int32) (T_helps : Nat → Int32) : va_W := [(oT, .inr (7, [.int T_thrown, .ref oT_s, .ref oT_aside, .ref oT_states, .int T_stateMany, .ref oT_snapshot, .int T_hasSnapshot, .ref oT_text, .int T_length, .int T_stopNumber, .int T_stopError, .ref oT_serves, .ref oT_took, .ref oT_tookMany, .ref oT_helps, .ref oT_before, .int T_at, .int T_isWell, .ref oT_read, .int T_readMany])), (oT_s, .inl (cI, 474, .inl T_s)), (oT_serves, .inl (cI, 16, .inl T_serves)), (oT_took, .inl (cI, 30, .inl T_took)), (oT_tookMany, .inl (cI, 10, .inl T_tookMany)), (oT_helps, .inl (cI, 10, .inl T_helps))]
abbrev rm_X7_reason : Room := { frames := 5, cells := 0, slots := 0, locals := 113 }
theorem ic_X7_reason_X7 : ∀ w ∈ u_ws RX7 TX7 20, w ∈ wsX7_reason := by
  intro w h
  simp only [wsX7_reason, List.mem_cons, List.mem_append]
  simp only [h, or_true, true_or]
def wp_X7_reason (T_thrown : Int32) (T_s : Nat → Int32) (T_serves : Nat → Int32) (T_took : Nat → Int32) (T_tookMany : Nat → Int32) (T_helps : Nat → Int32) (x1 : Int32) (x2 : Int32) (x3 : Int32) (Q : Int32 → Int32 → (Nat → Int32) → (Nat → Int32) → (Nat → Int32) → (Nat → Int32) → Prop) : Prop := wp_X7_isFloor x2 (fun r1 => ((r1 = 0 → Q (-1) (nI 0) T_serves T_took T_tookMany T_helps) ∧ (¬ r1 = 0 → wp_X7_isPerson x3 (fun r3 => ((¬ r3 = 0 → wp_X7_isDay x1 (fun r5 => ((¬ r5 = 0 → wp_X7_plans T_s T_serves T_took T_tookMany T_helps x1 (fun T_serves7 T_took8 T_tookMany9 T_helps10 => vp_in x3 16 ∧ ((¬ (T_serves7 x3.toNatClampNeg) = x2 → wp_X7_leaveOn T_s x3 x1 (fun r12 => ((r12 = (-5) → vp_in (((nI 318) + ((nI 2) * x3)) + (nI 0)) 474 ∧ ((x1 ≤ (T_s (((nI 318) + ((nI 2) * x3)) + (nI 0)).toNatClampNeg) → vp_in x3 16 ∧ (((T_serves7 x3.toNatClampNeg) = (-5) → wp_X7_placeIn T_s x2 x3 (fun r16 => ((¬ r16 = (-5) → Q (nI 5) (nI 0) T_serves7 T_took8 T_tookMany9 T_helps10) ∧ (r16 = (-5) → Q (nI 4) (nI 0) T_serves7 T_took8 T_tookMany9 T_helps10)))) ∧ (¬ (T_serves7 x3.toNatClampNeg) = (-5) → Q (nI 3) (nI 0) T_serves7 T_took8 T_tookMany9 T_helps10))) ∧ (¬ x1 ≤ (T_s (((nI 318) + ((nI 2) * x3)) + (nI 0)).toNatClampNeg) → Q (nI 2) (nI 0) T_serves7 T_took8 T_tookMany9 T_helps10))) ∧ (¬ r12 = (-5) → Q (nI 1) (nI 0) T_serves7 T_took8 T_tookMany9 T_helps10)))) ∧ ((T_serves7 x3.toNatClampNeg) = x2 → Q (nI 0) (nI 0) T_serves7 T_took8 T_tookMany9 T_helps10)))) ∧ (r5 = 0 → Q (-2) (nI 0) T_serves T_took T_tookMany T_helps)))) ∧ (r3 = 0 → Q (-1) (nI 0) T_serves T_took T_tookMany T_helps))))))
set_option maxRecDepth 100000 in
set_option maxHeartbeats 4000000 in
theorem c_X7_reason (l : Launch) {D : va_G} {cI cC cR : ClassId} (oT oT_s oT_aside oT_states oT_snapshot oT_text oT_serves oT_took oT_tookMany oT_helps oT_before oT_read : Nat) (sz : Nat) (T_thrown : Int32) (T_stateMany : Int32) (T_hasSnapshot : Int32) (T_length : Int32) (T_stopNumber : Int32) (T_stopError : Int32) (T_at : Int32) (T_isWell : Int32) (T_readMany : Int32) (T_s : Nat → Int32) (T_serves : Nat → Int32) (T_took : Nat → Int32) (T_tookMany : Nat → Int32) (T_helps : Nat → Int32) (x1 : Int32) (x2 : Int32) (x3 : Int32) {Q : Int32 → Int32 → (Nat → Int32) → (Nat → Int32) → (Nat → Int32) → (Nat → Int32) → Prop} (hw : wp_X7_reason T_thrown T_s T_serves T_took T_tookMany T_helps x1 x2 x3 Q) : Met l yX7_reason wsX7_reason rm_X7_reason (PcW D cI cC cR [.ref oT, .int x1, .int x2, .int x3] (ww_X7_reason cI cC oT oT_s oT_aside oT_states oT_snapshot oT_text oT_serves oT_took oT_tookMany oT_helps oT_before oT_read T_thrown T_stateMany T_hasSnapshot T_length T_stopNumber T_stopError T_at T_isWell T_readMany T_s T_serves T_took T_tookMany T_helps) sz) (QiW D (fun (r : Int32) (u : Int32 × (Nat → Int32) × (Nat → Int32) × (Nat → Int32) × (Nat → Int32)) => Q r u.1 u.2.1 u.2.2.1 u.2.2.2.1 u.2.2.2.2) (fun u => (ww_X7_reason cI cC oT oT_s oT_aside oT_states oT_snapshot oT_text oT_serves oT_took oT_tookMany oT_helps oT_before oT_read (u.1) T_stateMany T_hasSnapshot T_length T_stopNumber T_stopError T_at T_isWell T_readMany T_s (u.2.1) (u.2.2.1) (u.2.2.2.1) (u.2.2.2.2))) (ww_X7_reason cI cC oT oT_s oT_aside oT_states oT_snapshot oT_text oT_serves oT_took oT_tookMany oT_helps oT_before oT_read T_thrown T_stateMany T_hasSnapshot T_length T_stopNumber T_stopError T_at T_isWell T_readMany T_s T_serves T_took T_tookMany T_helps) sz) 0 0 (va_A (ww_X7_reason cI cC oT oT_s oT_aside oT_states oT_snapshot oT_text oT_serves oT_took oT_tookMany oT_helps oT_before oT_read T_thrown T_stateMany T_hasSnapshot T_length T_stopNumber T_stopError T_at T_isWell T_readMany T_s T_serves T_took T_tookMany T_helps) sz) := by
  refine Met.ofW (cc := cX7_reason) (maxL := 4) (ret := (some .int)) (by decide) rfl ?_
  intro p e s m args below meth c s₁ B hml hv
  obtain ⟨rfl, hsz, hP, hKw, hD0⟩ := hv
  have hlocks := B.notSynchronized
  subst hsz
  have hD := hD0.self (sz := s.heap.size)
  have CX : cx cX7_reason (some .int) 4 RX7 wsX7_reason p m meth c s ([.ref oT, .int x1, .int x2, .int x3] : List Value).toArray D cI cC cR (va_A (ww_X7_reason cI cC oT oT_s oT_aside oT_states oT_snapshot oT_text oT_serves oT_took oT_tookMany oT_helps oT_before oT_read T_thrown T_stateMany T_hasSnapshot T_length T_stopNumber T_stopError T_at T_isWell T_readMany T_s T_serves T_took T_tookMany T_helps) s.heap.size) := ⟨B.exec, B.bytes, B.returns, hml, atoms_spec (ws := wsX7_reason) B.pre, findClass_of_methodNamed B.named, hlocks, hKw, fun q h => Or.inr h⟩
  obtain ⟨hx, hb, hr, -, hts, hown, -, -, hA⟩ := id CX
  have hwd : wd D (va_A (ww_X7_reason cI cC oT oT_s oT_aside oT_states oT_snapshot oT_text oT_serves oT_took oT_tookMany oT_helps oT_before oT_read T_thrown T_stateMany T_hasSnapshot T_length T_stopNumber T_stopError T_at T_isWell T_readMany T_s T_serves T_took T_tookMany T_helps) s.heap.size) s (ww_X7_reason cI cC oT oT_s oT_aside oT_states oT_snapshot oT_text oT_serves oT_took oT_tookMany oT_helps oT_before oT_read T_thrown T_stateMany T_hasSnapshot T_length T_stopNumber T_stopError T_at T_isWell T_readMany T_s T_serves T_took T_tookMany T_helps) s.heap [] := ⟨hP, hD, va_S.rf⟩
  have hl := lv_entry ([.ref oT, .int x1, .int x2, .int x3]) (n := 4) (Nat.le_of_ble_eq_true rfl)
  rw [lg_entry_eq]
  generalize (lg_sl ([.ref oT, .int x1, .int x2, .int x3]) ++ List.replicate (4 - (lg_sl ([.ref oT, .int x1, .int x2, .int x3])).length) Slot.unset).toArray = ls at hl ⊢
  have hl : lv_has ls 4 [(0, .ref oT), (1, .int x1), (2, .int x2), (3, .int x3)] := hl
  have HR : ∀ (r : Int32) (u0 : Int32) (u1 : Nat → Int32) (u2 : Nat → Int32) (u3 : Nat → Int32) (u4 : Nat → Int32) {H : Heap} {locs : List Loc} {ls : Array Slot} {pc : Nat}, Q r u0 u1 u2 u3 u4 → wd D (va_A (ww_X7_reason cI cC oT oT_s oT_aside oT_states oT_snapshot oT_text oT_serves oT_took oT_tookMany oT_helps oT_before oT_read T_thrown T_stateMany T_hasSnapshot T_length T_stopNumber T_stopError T_at T_isWell T_readMany T_s T_serves T_took T_tookMany T_helps) s.heap.size) s (ww_X7_reason cI cC oT oT_s oT_aside oT_states oT_snapshot oT_text oT_serves oT_took oT_tookMany oT_helps oT_before oT_read u0 T_stateMany T_hasSnapshot T_length T_stopNumber T_stopError T_at T_isWell T_readMany T_s u1 u2 u3 u4) H locs → decode cX7_reason pc = .ok (.ireturn, 1) → W p l e (headSpec wsX7_reason rm_X7_reason).room s m ([.ref oT, .int x1, .int x2, .int x3] : List Value).toArray below meth c H locs 0 0 (MQ below (QiW D (fun (r : Int32) (u : Int32 × (Nat → Int32) × (Nat → Int32) × (Nat → Int32) × (Nat → Int32)) => Q r u.1 u.2.1 u.2.2.1 u.2.2.2.1 u.2.2.2.2) (fun u => (ww_X7_reason cI cC oT oT_s oT_aside oT_states oT_snapshot oT_text oT_serves oT_took oT_tookMany oT_helps oT_before oT_read (u.1) T_stateMany T_hasSnapshot T_length T_stopNumber T_stopError T_at T_isWell T_readMany T_s (u.2.1) (u.2.2.1) (u.2.2.2.1) (u.2.2.2.2))) (ww_X7_reason cI cC oT oT_s oT_aside oT_states oT_snapshot oT_text oT_serves oT_took oT_tookMany oT_helps oT_before oT_read T_thrown T_stateMany T_hasSnapshot T_length T_stopNumber T_stopError T_at T_isWell T_readMany T_s T_serves T_took T_tookMany T_helps) s.heap.size) ([.ref oT, .int x1, .int x2, .int x3] : List Value).toArray s 0 0 (va_A (ww_X7_reason cI cC oT oT_s oT_aside oT_states oT_snapshot oT_text oT_serves oT_took oT_tookMany oT_helps oT_before oT_read T_thrown T_stateMany T_hasSnapshot T_length T_stopNumber T_stopError T_at T_isWell T_readMany T_s T_serves T_took T_tookMany T_helps) s.heap.size)) (F0 m pc ls [.int r]) := by
    intro r u0 u1 u2 u3 u4 H locs ls pc hq hw9 hd9
    exact W.iret (v := r) hx hb hr (fun t ht hW => ⟨⟨r, (u0, u1, u2, u3, u4), rfl, hq, by rw [ht]; exact hw9.1, hw9.2.1⟩, hw9.2.2.F ht⟩) hw9.2.2.2.2 hd9
  unfold wp_X7_reason at hw
  refine lv_aload_n hx hb dX7_reason_0 rfl (lv_at hl 0 rfl) ?_
  refine lv_iconst (v := (nI 0)) hx hb dX7_reason_1 rfl ?_
  refine va_put (D := D) (ci := 7) (v := .int (nI 0)) (ty := .int) (C := RX7) (T := TX7) (N := 20) hx hb hts ic_X7_reason_X7 tyX7 tyX7_ok nmX7 hown hKw.1 hwd.1 hwd.2.1 hwd.2.2 0 rfl rfl 0 (by decide) (hts (.fieldLink RX7 43 "DrillWardensModel" "thrown" "I") (List.mem_of_getElem? (i := 1) rfl)) (fun _ h9 => h9) rfl (tyX7_ok 0 (by decide)) rfl rfl (Nat.le_of_ble_eq_true rfl) dX7_reason_2 (fun H locs h1 h2 h3 => ?_)
  replace hwd : wd D (va_A (ww_X7_reason cI cC oT oT_s oT_aside oT_states oT_snapshot oT_text oT_serves oT_took oT_tookMany oT_helps oT_before oT_read T_thrown T_stateMany T_hasSnapshot T_length T_stopNumber T_stopError T_at T_isWell T_readMany T_s T_serves T_took T_tookMany T_helps) s.heap.size) s (ww_X7_reason cI cC oT oT_s oT_aside oT_states oT_snapshot oT_text oT_serves oT_took oT_tookMany oT_helps oT_before oT_read (nI 0) T_stateMany T_hasSnapshot T_length T_stopNumber T_stopError T_at T_isWell T_readMany T_s T_serves T_took T_tookMany T_helps) H locs := ⟨h1, h2, h3⟩
  clear h1 h2 h3
  refine lv_iload_n hx hb dX7_reason_5 rfl (lv_at hl 2 rfl) ?_
  refine kcSi (rest := []) (As := [.int x2]) ⟨Nat.le_of_ble_eq_true rfl, Nat.le_of_ble_eq_true rfl⟩ ⟨hx, hb, hml, hown, hts⟩ (c_X7_isFloor l H.size x2 hw) (va_cwS 1 hts gX7_reason_X7_isFloor rfl rfl rfl hd_X7_isFloor ⟨Nat.le_of_ble_eq_true rfl, Nat.le_of_ble_eq_true rfl⟩) hKw hA hwd rfl hl.1 rfl (lv_room (Nat.le_of_ble_eq_true rfl)) dX7_reason_6 (fun r1 H locs hw hwd => ?_)
  try dsimp only at hw
  refine lv_if_eq (tgt := 19) hx hb dX7_reason_9 (by decide) (fun c2 => ?_) (fun c2 => ?_)
  · replace hw := hw.1 c2
    refine lv_iconst (v := (-1)) hx hb dX7_reason_19 rfl ?_
    exact HR (-1) (nI 0) T_serves T_took T_tookMany T_helps hw hwd dX7_reason_20
  · replace hw := hw.2 c2
    refine lv_iload_n hx hb dX7_reason_12 rfl (lv_at hl 3 rfl) ?_
    refine kcSi (rest := []) (As := [.int x3]) ⟨Nat.le_of_ble_eq_true rfl, Nat.le_of_ble_eq_true rfl⟩ ⟨hx, hb, hml, hown, hts⟩ (c_X7_isPerson l H.size x3 hw) (va_cwS 1 hts gX7_reason_X7_isPerson rfl rfl rfl hd_X7_isPerson ⟨Nat.le_of_ble_eq_true rfl, Nat.le_of_ble_eq_true rfl⟩) hKw hA hwd rfl hl.1 rfl (lv_room (Nat.le_of_ble_eq_true rfl)) dX7_reason_13 (fun r3 H locs hw hwd => ?_)
    try dsimp only at hw
    refine lv_if_ne (tgt := 21) hx hb dX7_reason_16 (by decide) (fun c4 => ?_) (fun c4 => ?_)
    · replace hw := hw.1 c4
      refine lv_iload_n hx hb dX7_reason_21 rfl (lv_at hl 1 rfl) ?_
      refine kcSi (rest := []) (As := [.int x1]) ⟨Nat.le_of_ble_eq_true rfl, Nat.le_of_ble_eq_true rfl⟩ ⟨hx, hb, hml, hown, hts⟩ (c_X7_isDay l H.size x1 hw) (va_cwS 1 hts gX7_reason_X7_isDay rfl rfl rfl hd_X7_isDay ⟨Nat.le_of_ble_eq_true rfl, Nat.le_of_ble_eq_true rfl⟩) hKw hA hwd rfl hl.1 rfl (lv_room (Nat.le_of_ble_eq_true rfl)) dX7_reason_22 (fun r5 H locs hw hwd => ?_)
      try dsimp only at hw
      refine lv_if_ne (tgt := 31) hx hb dX7_reason_25 (by decide) (fun c6 => ?_) (fun c6 => ?_)
      · replace hw := hw.1 c6
        refine lv_aload_n hx hb dX7_reason_31 rfl (lv_at hl 0 rfl) ?_
        refine lv_iload_n hx hb dX7_reason_32 rfl (lv_at hl 1 rfl) ?_
        refine kcVv (W1 := (fun u => (ww_X7_reason cI cC oT oT_s oT_aside oT_states oT_snapshot oT_text oT_serves oT_took oT_tookMany oT_helps oT_before oT_read (nI 0) T_stateMany T_hasSnapshot T_length T_stopNumber T_stopError T_at T_isWell T_readMany T_s (u.1) (u.2.1) (u.2.2.1) (u.2.2.2)))) (rest := []) (As := [.int x1]) ⟨Nat.le_of_ble_eq_true rfl, Nat.le_of_ble_eq_true rfl⟩ ⟨hx, hb, hml, hown, hts⟩ (c_X7_plans l oT oT_s oT_aside oT_states oT_snapshot oT_text oT_serves oT_took oT_tookMany oT_helps oT_before oT_read H.size (nI 0) T_stateMany T_hasSnapshot T_length T_stopNumber T_stopError T_at T_isWell T_readMany T_s T_serves T_took T_tookMany T_helps x1 hw) (cwV 1 hts gX7_reason_X7_plans rfl rfl rfl ⟨rfl, hd_X7_plans⟩ ⟨Nat.le_of_ble_eq_true rfl, Nat.le_of_ble_eq_true rfl⟩) hKw hA hwd [0, 1, 2, 3, 4, 5] [] [0, 1, 2, 3, 4, 5] [] rfl rfl rfl rfl (by decide) rfl (fun _ => rfl) 0 7 rfl rfl rfl rfl hl.1 rfl (lv_room (Nat.le_of_ble_eq_true rfl)) dX7_reason_33 (fun u H locs hw hwd => ?_)
        obtain ⟨T_serves7, T_took8, T_tookMany9, T_helps10⟩ := u
        try dsimp only at hw
        replace hwd : wd D (va_A (ww_X7_reason cI cC oT oT_s oT_aside oT_states oT_snapshot oT_text oT_serves oT_took oT_tookMany oT_helps oT_before oT_read T_thrown T_stateMany T_hasSnapshot T_length T_stopNumber T_stopError T_at T_isWell T_readMany T_s T_serves T_took T_tookMany T_helps) s.heap.size) s (ww_X7_reason cI cC oT oT_s oT_aside oT_states oT_snapshot oT_text oT_serves oT_took oT_tookMany oT_helps oT_before oT_read (nI 0) T_stateMany T_hasSnapshot T_length T_stopNumber T_stopError T_at T_isWell T_readMany T_s T_serves7 T_took8 T_tookMany9 T_helps10) H locs := hwd
        refine lv_aload_n hx hb dX7_reason_36 rfl (lv_at hl 0 rfl) ?_
        refine va_get (D := D) (ci := 7) (v := .ref oT_serves) (C := RX7) (T := TX7) (N := 20) hx hb hts ic_X7_reason_X7 hown hKw.1 hwd.1 0 rfl rfl 11 (by decide) (hts (.fieldLink RX7 25 "DrillWardensModel" "serves" "[I") (List.mem_of_getElem? (i := 2) rfl)) (fun _ h9 => h9) rfl dX7_reason_37 ?_
        refine lv_iload_n hx hb dX7_reason_40 rfl (lv_at hl 3 rfl) ?_
        refine va_iald hx hb hKw.1 hwd.1 2 0 rfl rfl hw.1 dX7_reason_41 ?_
        replace hw := hw.2
        refine lv_iload_n hx hb dX7_reason_42 rfl (lv_at hl 2 rfl) ?_
        refine lv_icmp_ne (tgt := 48) hx hb dX7_reason_43 (by decide) (fun c11 => ?_) (fun c11 => ?_)
        · replace hw := hw.1 c11
          refine lv_aload_n hx hb dX7_reason_48 rfl (lv_at hl 0 rfl) ?_
          refine lv_iload_n hx hb dX7_reason_49 rfl (lv_at hl 3 rfl) ?_
          refine lv_iload_n hx hb dX7_reason_50 rfl (lv_at hl 1 rfl) ?_
          refine kcVi (W1 := (fun u => (ww_X7_reason cI cC oT oT_s oT_aside oT_states oT_snapshot oT_text oT_serves oT_took oT_tookMany oT_helps oT_before oT_read (nI 0) T_stateMany T_hasSnapshot T_length T_stopNumber T_stopError T_at T_isWell T_readMany T_s T_serves7 T_took8 T_tookMany9 T_helps10))) (rest := []) (As := [.int x3, .int x1]) ⟨Nat.le_of_ble_eq_true rfl, Nat.le_of_ble_eq_true rfl⟩ ⟨hx, hb, hml, hown, hts⟩ (c_X7_leaveOn l oT oT_s oT_aside oT_states oT_snapshot oT_text oT_serves oT_took oT_tookMany oT_helps oT_before oT_read H.size (nI 0) T_stateMany T_hasSnapshot T_length T_stopNumber T_stopError T_at T_isWell T_readMany T_s x3 x1 hw) (cwV 2 hts gX7_reason_X7_leaveOn rfl rfl rfl ⟨rfl, hd_X7_leaveOn⟩ ⟨Nat.le_of_ble_eq_true rfl, Nat.le_of_ble_eq_true rfl⟩) hKw hA hwd [0, 1] [2, 3, 4, 5] [4, 5, 0, 1, 2, 3] [(oT_serves, .inl (cI, 16, .inl T_serves7)), (oT_took, .inl (cI, 30, .inl T_took8)), (oT_tookMany, .inl (cI, 10, .inl T_tookMany9)), (oT_helps, .inl (cI, 10, .inl T_helps10))] rfl rfl rfl rfl (by decide) rfl (fun _ => rfl) 0 7 rfl rfl rfl rfl hl.1 rfl (lv_room (Nat.le_of_ble_eq_true rfl)) dX7_reason_51 (fun r12 u H locs hw hwd => ?_)
          try dsimp only at hw
          replace hwd : wd D (va_A (ww_X7_reason cI cC oT oT_s oT_aside oT_states oT_snapshot oT_text oT_serves oT_took oT_tookMany oT_helps oT_before oT_read T_thrown T_stateMany T_hasSnapshot T_length T_stopNumber T_stopError T_at T_isWell T_readMany T_s T_serves T_took T_tookMany T_helps) s.heap.size) s (ww_X7_reason cI cC oT oT_s oT_aside oT_states oT_snapshot oT_text oT_serves oT_took oT_tookMany oT_helps oT_before oT_read (nI 0) T_stateMany T_hasSnapshot T_length T_stopNumber T_stopError T_at T_isWell T_readMany T_s T_serves7 T_took8 T_tookMany9 T_helps10) H locs := hwd
          refine lv_bipush (v := (-5)) hx hb dX7_reason_54 rfl ?_
          refine lv_icmp_eq (tgt := 61) hx hb dX7_reason_56 (by decide) (fun c13 => ?_) (fun c13 => ?_)
          · replace hw := hw.1 c13
            refine lv_aload_n hx hb dX7_reason_61 rfl (lv_at hl 0 rfl) ?_
            refine va_get (D := D) (ci := 7) (v := .ref oT_s) (C := RX7) (T := TX7) (N := 20) hx hb hts ic_X7_reason_X7 hown hKw.1 hwd.1 0 rfl rfl 1 (by decide) (hts (.fieldLink RX7 7 "DrillWardensModel" "s" "[I") (List.mem_of_getElem? (i := 3) rfl)) (fun _ h9 => h9) rfl dX7_reason_62 ?_
            refine lv_sipush (v := (nI 318)) hx hb dX7_reason_65 rfl ?_
            refine lv_iconst (v := (nI 2)) hx hb dX7_reason_68 rfl ?_
            refine lv_iload_n hx hb dX7_reason_69 rfl (lv_at hl 3 rfl) ?_
            refine lv_imul hx hb dX7_reason_70 ?_
            refine lv_iadd hx hb dX7_reason_71 ?_
            refine lv_iconst (v := (nI 0)) hx hb dX7_reason_72 rfl ?_
            refine lv_iadd hx hb dX7_reason_73 ?_
            refine va_iald hx hb hKw.1 hwd.1 1 0 rfl rfl hw.1 dX7_reason_74 ?_
            replace hw := hw.2
            refine lv_iload_n hx hb dX7_reason_75 rfl (lv_at hl 1 rfl) ?_
            refine lv_icmp_ge (tgt := 81) hx hb dX7_reason_76 (by decide) (fun c14 => ?_) (fun c14 => ?_)
            · replace hw := hw.1 c14
              refine lv_aload_n hx hb dX7_reason_81 rfl (lv_at hl 0 rfl) ?_
              refine va_get (D := D) (ci := 7) (v := .ref oT_serves) (C := RX7) (T := TX7) (N := 20) hx hb hts ic_X7_reason_X7 hown hKw.1 hwd.1 0 rfl rfl 11 (by decide) (hts (.fieldLink RX7 25 "DrillWardensModel" "serves" "[I") (List.mem_of_getElem? (i := 2) rfl)) (fun _ h9 => h9) rfl dX7_reason_82 ?_
              refine lv_iload_n hx hb dX7_reason_85 rfl (lv_at hl 3 rfl) ?_
              refine va_iald hx hb hKw.1 hwd.1 2 0 rfl rfl hw.1 dX7_reason_86 ?_
              replace hw := hw.2
              refine lv_bipush (v := (-5)) hx hb dX7_reason_87 rfl ?_
              refine lv_icmp_eq (tgt := 96) hx hb dX7_reason_89 (by decide) (fun c15 => ?_) (fun c15 => ?_)
              · replace hw := hw.1 c15
                refine lv_aload_n hx hb dX7_reason_96 rfl (lv_at hl 0 rfl) ?_
                refine lv_iload_n hx hb dX7_reason_97 rfl (lv_at hl 2 rfl) ?_
                refine lv_iload_n hx hb dX7_reason_98 rfl (lv_at hl 3 rfl) ?_
                refine kcVi (W1 := (fun u => (ww_X7_reason cI cC oT oT_s oT_aside oT_states oT_snapshot oT_text oT_serves oT_took oT_tookMany oT_helps oT_before oT_read (nI 0) T_stateMany T_hasSnapshot T_length T_stopNumber T_stopError T_at T_isWell T_readMany T_s T_serves7 T_took8 T_tookMany9 T_helps10))) (rest := []) (As := [.int x2, .int x3]) ⟨Nat.le_of_ble_eq_true rfl, Nat.le_of_ble_eq_true rfl⟩ ⟨hx, hb, hml, hown, hts⟩ (c_X7_placeIn l oT oT_s oT_aside oT_states oT_snapshot oT_text oT_serves oT_took oT_tookMany oT_helps oT_before oT_read H.size (nI 0) T_stateMany T_hasSnapshot T_length T_stopNumber T_stopError T_at T_isWell T_readMany T_s x2 x3 hw) (cwV 2 hts gX7_reason_X7_placeIn rfl rfl rfl ⟨rfl, hd_X7_placeIn⟩ ⟨Nat.le_of_ble_eq_true rfl, Nat.le_of_ble_eq_true rfl⟩) hKw hA hwd [0, 1] [2, 3, 4, 5] [4, 5, 0, 1, 2, 3] [(oT_serves, .inl (cI, 16, .inl T_serves7)), (oT_took, .inl (cI, 30, .inl T_took8)), (oT_tookMany, .inl (cI, 10, .inl T_tookMany9)), (oT_helps, .inl (cI, 10, .inl T_helps10))] rfl rfl rfl rfl (by decide) rfl (fun _ => rfl) 0 7 rfl rfl rfl rfl hl.1 rfl (lv_room (Nat.le_of_ble_eq_true rfl)) dX7_reason_99 (fun r16 u H locs hw hwd => ?_)
                try dsimp only at hw
                replace hwd : wd D (va_A (ww_X7_reason cI cC oT oT_s oT_aside oT_states oT_snapshot oT_text oT_serves oT_took oT_tookMany oT_helps oT_before oT_read T_thrown T_stateMany T_hasSnapshot T_length T_stopNumber T_stopError T_at T_isWell T_readMany T_s T_serves T_took T_tookMany T_helps) s.heap.size) s (ww_X7_reason cI cC oT oT_s oT_aside oT_states oT_snapshot oT_text oT_serves oT_took oT_tookMany oT_helps oT_before oT_read (nI 0) T_stateMany T_hasSnapshot T_length T_stopNumber T_stopError T_at T_isWell T_readMany T_s T_serves7 T_took8 T_tookMany9 T_helps10) H locs := hwd
                refine lv_bipush (v := (-5)) hx hb dX7_reason_102 rfl ?_
                refine lv_icmp_ne (tgt := 111) hx hb dX7_reason_104 (by decide) (fun c17 => ?_) (fun c17 => ?_)
                · replace hw := hw.1 c17
                  refine lv_iconst (v := (nI 5)) hx hb dX7_reason_111 rfl ?_
                  exact HR (nI 5) (nI 0) T_serves7 T_took8 T_tookMany9 T_helps10 hw hwd dX7_reason_112
                · replace hw := hw.2 c17
                  refine lv_iconst (v := (nI 4)) hx hb dX7_reason_107 rfl ?_
                  refine lv_goto (tgt := 112) hx hb dX7_reason_108 (by decide) ?_
                  exact HR (nI 4) (nI 0) T_serves7 T_took8 T_tookMany9 T_helps10 hw hwd dX7_reason_112
              · replace hw := hw.2 c15
                refine lv_iconst (v := (nI 3)) hx hb dX7_reason_92 rfl ?_
                refine lv_goto (tgt := 112) hx hb dX7_reason_93 (by decide) ?_
                exact HR (nI 3) (nI 0) T_serves7 T_took8 T_tookMany9 T_helps10 hw hwd dX7_reason_112
            · replace hw := hw.2 c14
              refine lv_iconst (v := (nI 2)) hx hb dX7_reason_79 rfl ?_
              exact HR (nI 2) (nI 0) T_serves7 T_took8 T_tookMany9 T_helps10 hw hwd dX7_reason_80
          · replace hw := hw.2 c13
            refine lv_iconst (v := (nI 1)) hx hb dX7_reason_59 rfl ?_
            exact HR (nI 1) (nI 0) T_serves7 T_took8 T_tookMany9 T_helps10 hw hwd dX7_reason_60
        · replace hw := hw.2 c11
          refine lv_iconst (v := (nI 0)) hx hb dX7_reason_46 rfl ?_
          exact HR (nI 0) (nI 0) T_serves7 T_took8 T_tookMany9 T_helps10 hw hwd dX7_reason_47
      · replace hw := hw.2 c6
        refine lv_bipush (v := (-2)) hx hb dX7_reason_28 rfl ?_
        exact HR (-2) (nI 0) T_serves T_took T_tookMany T_helps hw hwd dX7_reason_30
    · replace hw := hw.2 c4
      refine lv_iconst (v := (-1)) hx hb dX7_reason_19 rfl ?_
      exact HR (-1) (nI 0) T_serves T_took T_tookMany T_helps hw hwd dX7_reason_20
abbrev ww_X7_firstShort (cI cC : ClassId) (oT oT_s oT_aside oT_states oT_snapshot oT_text oT_serves oT_took oT_tookMany oT_helps oT_before oT_read : Nat) (T_thrown : Int32) (T_stateMany : Int32) (T_hasSnapshot : Int32) (T_length : Int32) (T_stopNumber : Int32) (T_stopError : Int32) (T_at : Int32) (T_isWell : Int32) (T_readMany : Int32) (T_s : Nat → Int32) (T_serves : Nat → Int32) (T_took : Nat → Int32) (T_tookMany : Nat → Int32) (T_helps : Nat → Int32) : va_W := [(oT, .inr (7, [.int T_thrown, .ref oT_s, .ref oT_aside, .ref oT_states, .int T_stateMany, .ref oT_snapshot, .int T_hasSnapshot, .ref oT_text, .int T_length, .int T_stopNumber, .int T_stopError, .ref oT_serves, .ref oT_took, .ref oT_tookMany, .ref oT_helps, .ref oT_before, .int T_at, .int T_isWell, .ref oT_read, .int T_readMany])), (oT_s, .inl (cI, 474, .inl T_s)), (oT_serves, .inl (cI, 16, .inl T_serves)), (oT_took, .inl (cI, 30, .inl T_took)), (oT_tookMany, .inl (cI, 10, .inl T_tookMany)), (oT_helps, .inl (cI, 10, .inl T_helps))]
abbrev rm_X7_firstShort : Room := { frames := 5, cells := 0, slots := 0, locals := 113 }
theorem ic_X7_firstShort_X7 : ∀ w ∈ u_ws RX7 TX7 20, w ∈ wsX7_firstShort := by
  intro w h
  simp only [wsX7_firstShort, List.mem_cons, List.mem_append]
  simp only [h, or_true, true_or]
def wb_X7_firstShort_21 (T_thrown : Int32) (T_s : Nat → Int32) (x1 : Int32) (K_49 : (Nat → Int32) → (Nat → Int32) → (Nat → Int32) → (Nat → Int32) → Prop) (Q : Int32 → Int32 → (Nat → Int32) → (Nat → Int32) → (Nat → Int32) → (Nat → Int32) → Prop) : Nat → (Nat → Int32) → (Nat → Int32) → (Nat → Int32) → (Nat → Int32) → Int32 → Prop
  | 0, _, _, _, _, _ => False
  | n + 1, T_serves, T_took, T_tookMany, T_helps, x2 => (((nI 399) < x2 → K_49 T_serves T_took T_tookMany T_helps) ∧ (¬ (nI 399) < x2 → wp_X7_plans T_s T_serves T_took T_tookMany T_helps x2 (fun T_serves2 T_took3 T_tookMany4 T_helps5 => wp_X7_shortBy T_s T_tookMany4 x1 (fun r6 => ((r6 ≤ 0 → ∀ x2_8, x2_8 = x2 + (nI 1) → wb_X7_firstShort_21 T_thrown T_s x1 K_49 Q n T_serves2 T_took3 T_tookMany4 T_helps5 x2_8) ∧ (¬ r6 ≤ 0 → Q x2 T_thrown T_serves2 T_took3 T_tookMany4 T_helps5))))))
set_option maxRecDepth 100000 in
set_option maxHeartbeats 4000000 in
theorem blk_X7_firstShort_21 {p : Program} {l : Launch} {e : Env} {s : State} {m : MethodId} {args : Array Value} {below : List Frame} {meth : Method} {c : Code} {D : va_G} {cI cC cR : ClassId} {A : Nat → Prop} {Z : State → Prop} (CX : cx cX7_firstShort (some .int) 3 RX7 wsX7_firstShort p m meth c s args D cI cC cR A) (oT oT_s oT_aside oT_states oT_snapshot oT_text oT_serves oT_took oT_tookMany oT_helps oT_before oT_read : Nat) (T_thrown : Int32) (T_stateMany : Int32) (T_hasSnapshot : Int32) (T_length : Int32) (T_stopNumber : Int32) (T_stopError : Int32) (T_at : Int32) (T_isWell : Int32) (T_readMany : Int32) (T_s : Nat → Int32) (x1 : Int32) {K_49 : (Nat → Int32) → (Nat → Int32) → (Nat → Int32) → (Nat → Int32) → Prop} {Q : Int32 → Int32 → (Nat → Int32) → (Nat → Int32) → (Nat → Int32) → (Nat → Int32) → Prop} (HR : ∀ (r : Int32) (u0 : Int32) (u1 : Nat → Int32) (u2 : Nat → Int32) (u3 : Nat → Int32) (u4 : Nat → Int32) {H : Heap} {locs : List Loc} {ls : Array Slot} {pc : Nat}, Q r u0 u1 u2 u3 u4 → wd D A s (ww_X7_firstShort cI cC oT oT_s oT_aside oT_states oT_snapshot oT_text oT_serves oT_took oT_tookMany oT_helps oT_before oT_read u0 T_stateMany T_hasSnapshot T_length T_stopNumber T_stopError T_at T_isWell T_readMany T_s u1 u2 u3 u4) H locs → decode cX7_firstShort pc = .ok (.ireturn, 1) → W p l e (headSpec wsX7_firstShort rm_X7_firstShort).room s m args below meth c H locs 0 0 Z (F0 m pc ls [.int r])) (HK_49 : ∀ (T_servesy : Nat → Int32) (T_tooky : Nat → Int32) (T_tookManyy : Nat → Int32) (T_helpsy : Nat → Int32), K_49 T_servesy T_tooky T_tookManyy T_helpsy → ∀ (H : Heap) (locs : List Loc) (ls : Array Slot), wd D A s (ww_X7_firstShort cI cC oT oT_s oT_aside oT_states oT_snapshot oT_text oT_serves oT_took oT_tookMany oT_helps oT_before oT_read T_thrown T_stateMany T_hasSnapshot T_length T_stopNumber T_stopError T_at T_isWell T_readMany T_s T_servesy T_tooky T_tookManyy T_helpsy) H locs → lv_has ls 3 [] → W p l e (headSpec wsX7_firstShort rm_X7_firstShort).room s m args below meth c H locs 0 0 Z (F0 m 49 ls [])) : ∀ (n : Nat) (T_serves : Nat → Int32) (T_took : Nat → Int32) (T_tookMany : Nat → Int32) (T_helps : Nat → Int32) (x2 : Int32), wb_X7_firstShort_21 T_thrown T_s x1 K_49 Q n T_serves T_took T_tookMany T_helps x2 → ∀ (H : Heap) (locs : List Loc) (ls : Array Slot), wd D A s (ww_X7_firstShort cI cC oT oT_s oT_aside oT_states oT_snapshot oT_text oT_serves oT_took oT_tookMany oT_helps oT_before oT_read T_thrown T_stateMany T_hasSnapshot T_length T_stopNumber T_stopError T_at T_isWell T_readMany T_s T_serves T_took T_tookMany T_helps) H locs → lv_has ls 3 [(0, .ref oT), (1, .int x1), (2, .int x2)] → W p l e (headSpec wsX7_firstShort rm_X7_firstShort).room s m args below meth c H locs 0 0 Z (F0 m 21 ls []) := by
  obtain ⟨hx, hb, hr, hml, hts, hown, hlocks, hKw, hA⟩ := id CX
  intro n
  induction n with
  | zero => intro T_serves T_took T_tookMany T_helps x2 hw; exact False.elim hw
  | succ n ih =>
    intro T_serves T_took T_tookMany T_helps x2 hw H locs ls hwd hl
    rw [wb_X7_firstShort_21] at hw
    refine lv_iload_n hx hb dX7_firstShort_21 rfl (lv_at hl 2 rfl) ?_
    refine lv_sipush (v := (nI 399)) hx hb dX7_firstShort_22 rfl ?_
    refine lv_icmp_gt (tgt := 49) hx hb dX7_firstShort_25 (by decide) (fun c1 => ?_) (fun c1 => ?_)
    · replace hw := hw.1 c1
      exact HK_49 T_serves T_took T_tookMany T_helps hw _ _ _ hwd (lv_sub hl [] rfl)
    · replace hw := hw.2 c1
      refine lv_aload_n hx hb dX7_firstShort_28 rfl (lv_at hl 0 rfl) ?_
      refine lv_iload_n hx hb dX7_firstShort_29 rfl (lv_at hl 2 rfl) ?_
      refine kcVv (W1 := (fun u => (ww_X7_firstShort cI cC oT oT_s oT_aside oT_states oT_snapshot oT_text oT_serves oT_took oT_tookMany oT_helps oT_before oT_read T_thrown T_stateMany T_hasSnapshot T_length T_stopNumber T_stopError T_at T_isWell T_readMany T_s (u.1) (u.2.1) (u.2.2.1) (u.2.2.2)))) (rest := []) (As := [.int x2]) ⟨Nat.le_of_ble_eq_true rfl, Nat.le_of_ble_eq_true rfl⟩ ⟨hx, hb, hml, hown, hts⟩ (c_X7_plans l oT oT_s oT_aside oT_states oT_snapshot oT_text oT_serves oT_took oT_tookMany oT_helps oT_before oT_read H.size T_thrown T_stateMany T_hasSnapshot T_length T_stopNumber T_stopError T_at T_isWell T_readMany T_s T_serves T_took T_tookMany T_helps x2 hw) (cwV 1 hts gX7_firstShort_X7_plans rfl rfl rfl ⟨rfl, hd_X7_plans⟩ ⟨Nat.le_of_ble_eq_true rfl, Nat.le_of_ble_eq_true rfl⟩) hKw hA hwd [0, 1, 2, 3, 4, 5] [] [0, 1, 2, 3, 4, 5] [] rfl rfl rfl rfl (by decide) rfl (fun _ => rfl) 0 7 rfl rfl rfl rfl hl.1 rfl (lv_room (Nat.le_of_ble_eq_true rfl)) dX7_firstShort_30 (fun u H locs hw hwd => ?_)
      obtain ⟨T_serves2, T_took3, T_tookMany4, T_helps5⟩ := u
      try dsimp only at hw
      replace hwd : wd D A s (ww_X7_firstShort cI cC oT oT_s oT_aside oT_states oT_snapshot oT_text oT_serves oT_took oT_tookMany oT_helps oT_before oT_read T_thrown T_stateMany T_hasSnapshot T_length T_stopNumber T_stopError T_at T_isWell T_readMany T_s T_serves2 T_took3 T_tookMany4 T_helps5) H locs := hwd
      refine lv_aload_n hx hb dX7_firstShort_33 rfl (lv_at hl 0 rfl) ?_
      refine lv_iload_n hx hb dX7_firstShort_34 rfl (lv_at hl 1 rfl) ?_
      refine kcVi (W1 := (fun u => (ww_X7_firstShort cI cC oT oT_s oT_aside oT_states oT_snapshot oT_text oT_serves oT_took oT_tookMany oT_helps oT_before oT_read T_thrown T_stateMany T_hasSnapshot T_length T_stopNumber T_stopError T_at T_isWell T_readMany T_s T_serves2 T_took3 T_tookMany4 T_helps5))) (rest := []) (As := [.int x1]) ⟨Nat.le_of_ble_eq_true rfl, Nat.le_of_ble_eq_true rfl⟩ ⟨hx, hb, hml, hown, hts⟩ (c_X7_shortBy l oT oT_s oT_aside oT_states oT_snapshot oT_text oT_serves oT_took oT_tookMany oT_helps oT_before oT_read H.size T_thrown T_stateMany T_hasSnapshot T_length T_stopNumber T_stopError T_at T_isWell T_readMany T_s T_tookMany4 x1 hw) (cwV 1 hts gX7_firstShort_X7_shortBy rfl rfl rfl ⟨rfl, hd_X7_shortBy⟩ ⟨Nat.le_of_ble_eq_true rfl, Nat.le_of_ble_eq_true rfl⟩) hKw hA hwd [0, 1, 4] [2, 3, 5] [3, 4, 0, 1, 5, 2] [(oT_serves, .inl (cI, 16, .inl T_serves2)), (oT_took, .inl (cI, 30, .inl T_took3)), (oT_helps, .inl (cI, 10, .inl T_helps5))] rfl rfl rfl rfl (by decide) rfl (fun _ => rfl) 0 7 rfl rfl rfl rfl hl.1 rfl (lv_room (Nat.le_of_ble_eq_true rfl)) dX7_firstShort_35 (fun r6 u H locs hw hwd => ?_)
      try dsimp only at hw
      replace hwd : wd D A s (ww_X7_firstShort cI cC oT oT_s oT_aside oT_states oT_snapshot oT_text oT_serves oT_took oT_tookMany oT_helps oT_before oT_read T_thrown T_stateMany T_hasSnapshot T_length T_stopNumber T_stopError T_at T_isWell T_readMany T_s T_serves2 T_took3 T_tookMany4 T_helps5) H locs := hwd
      refine lv_if_le (tgt := 43) hx hb dX7_firstShort_38 (by decide) (fun c7 => ?_) (fun c7 => ?_)
      · replace hw := hw.1 c7
        obtain ⟨x2_8, e_x2_8⟩ : ∃ y : Int32, y = x2 + (nI 1) := ⟨_, rfl⟩
        replace hw := hw x2_8 e_x2_8
        refine lv_iinc (v := x2_8) (lv' := [(2, .int x2_8), (0, .ref oT), (1, .int x1)]) hx hb dX7_firstShort_43 hl (k := 2) rfl (by rw [e_x2_8]; rfl) (by decide) rfl (fun ls hl => ?_)
        refine lv_goto (tgt := 21) hx hb dX7_firstShort_46 (by decide) ?_
        exact ih T_serves2 T_took3 T_tookMany4 T_helps5 x2_8 hw _ _ _ hwd (lv_sub hl [1, 2, 0] rfl)
      · replace hw := hw.2 c7
        refine lv_iload_n hx hb dX7_firstShort_41 rfl (lv_at hl 2 rfl) ?_
        exact HR x2 T_thrown T_serves2 T_took3 T_tookMany4 T_helps5 hw hwd dX7_firstShort_42
def wp_X7_firstShort (T_thrown : Int32) (T_s : Nat → Int32) (T_serves : Nat → Int32) (T_took : Nat → Int32) (T_tookMany : Nat → Int32) (T_helps : Nat → Int32) (x1 : Int32) (Q : Int32 → Int32 → (Nat → Int32) → (Nat → Int32) → (Nat → Int32) → (Nat → Int32) → Prop) : Prop := wp_X7_isFloor x1 (fun r1 => ((¬ r1 = 0 → vp_in (nI 3) 474 ∧ ∀ x2_3, x2_3 = T_s (nI 3).toNatClampNeg → (∃ n4, wb_X7_firstShort_21 (nI 0) T_s x1 (fun T_serves5 T_took6 T_tookMany7 T_helps8 => Q (-5) (nI 0) T_serves5 T_took6 T_tookMany7 T_helps8) Q n4 T_serves T_took T_tookMany T_helps x2_3)) ∧ (r1 = 0 → Q (-1) (nI 0) T_serves T_took T_tookMany T_helps)))
set_option maxRecDepth 100000 in
set_option maxHeartbeats 4000000 in
theorem c_X7_firstShort (l : Launch) {D : va_G} {cI cC cR : ClassId} (oT oT_s oT_aside oT_states oT_snapshot oT_text oT_serves oT_took oT_tookMany oT_helps oT_before oT_read : Nat) (sz : Nat) (T_thrown : Int32) (T_stateMany : Int32) (T_hasSnapshot : Int32) (T_length : Int32) (T_stopNumber : Int32) (T_stopError : Int32) (T_at : Int32) (T_isWell : Int32) (T_readMany : Int32) (T_s : Nat → Int32) (T_serves : Nat → Int32) (T_took : Nat → Int32) (T_tookMany : Nat → Int32) (T_helps : Nat → Int32) (x1 : Int32) {Q : Int32 → Int32 → (Nat → Int32) → (Nat → Int32) → (Nat → Int32) → (Nat → Int32) → Prop} (hw : wp_X7_firstShort T_thrown T_s T_serves T_took T_tookMany T_helps x1 Q) : Met l yX7_firstShort wsX7_firstShort rm_X7_firstShort (PcW D cI cC cR [.ref oT, .int x1] (ww_X7_firstShort cI cC oT oT_s oT_aside oT_states oT_snapshot oT_text oT_serves oT_took oT_tookMany oT_helps oT_before oT_read T_thrown T_stateMany T_hasSnapshot T_length T_stopNumber T_stopError T_at T_isWell T_readMany T_s T_serves T_took T_tookMany T_helps) sz) (QiW D (fun (r : Int32) (u : Int32 × (Nat → Int32) × (Nat → Int32) × (Nat → Int32) × (Nat → Int32)) => Q r u.1 u.2.1 u.2.2.1 u.2.2.2.1 u.2.2.2.2) (fun u => (ww_X7_firstShort cI cC oT oT_s oT_aside oT_states oT_snapshot oT_text oT_serves oT_took oT_tookMany oT_helps oT_before oT_read (u.1) T_stateMany T_hasSnapshot T_length T_stopNumber T_stopError T_at T_isWell T_readMany T_s (u.2.1) (u.2.2.1) (u.2.2.2.1) (u.2.2.2.2))) (ww_X7_firstShort cI cC oT oT_s oT_aside oT_states oT_snapshot oT_text oT_serves oT_took oT_tookMany oT_helps oT_before oT_read T_thrown T_stateMany T_hasSnapshot T_length T_stopNumber T_stopError T_at T_isWell T_readMany T_s T_serves T_took T_tookMany T_helps) sz) 0 0 (va_A (ww_X7_firstShort cI cC oT oT_s oT_aside oT_states oT_snapshot oT_text oT_serves oT_took oT_tookMany oT_helps oT_before oT_read T_thrown T_stateMany T_hasSnapshot T_length T_stopNumber T_stopError T_at T_isWell T_readMany T_s T_serves T_took T_tookMany T_helps) sz) := by
  refine Met.ofW (cc := cX7_firstShort) (maxL := 3) (ret := (some .int)) (by decide) rfl ?_
  intro p e s m args below meth c s₁ B hml hv
  obtain ⟨rfl, hsz, hP, hKw, hD0⟩ := hv
  have hlocks := B.notSynchronized
  subst hsz
  have hD := hD0.self (sz := s.heap.size)
  have CX : cx cX7_firstShort (some .int) 3 RX7 wsX7_firstShort p m meth c s ([.ref oT, .int x1] : List Value).toArray D cI cC cR (va_A (ww_X7_firstShort cI cC oT oT_s oT_aside oT_states oT_snapshot oT_text oT_serves oT_took oT_tookMany oT_helps oT_before oT_read T_thrown T_stateMany T_hasSnapshot T_length T_stopNumber T_stopError T_at T_isWell T_readMany T_s T_serves T_took T_tookMany T_helps) s.heap.size) := ⟨B.exec, B.bytes, B.returns, hml, atoms_spec (ws := wsX7_firstShort) B.pre, findClass_of_methodNamed B.named, hlocks, hKw, fun q h => Or.inr h⟩
  obtain ⟨hx, hb, hr, -, hts, hown, -, -, hA⟩ := id CX
  have hwd : wd D (va_A (ww_X7_firstShort cI cC oT oT_s oT_aside oT_states oT_snapshot oT_text oT_serves oT_took oT_tookMany oT_helps oT_before oT_read T_thrown T_stateMany T_hasSnapshot T_length T_stopNumber T_stopError T_at T_isWell T_readMany T_s T_serves T_took T_tookMany T_helps) s.heap.size) s (ww_X7_firstShort cI cC oT oT_s oT_aside oT_states oT_snapshot oT_text oT_serves oT_took oT_tookMany oT_helps oT_before oT_read T_thrown T_stateMany T_hasSnapshot T_length T_stopNumber T_stopError T_at T_isWell T_readMany T_s T_serves T_took T_tookMany T_helps) s.heap [] := ⟨hP, hD, va_S.rf⟩
  have hl := lv_entry ([.ref oT, .int x1]) (n := 3) (Nat.le_of_ble_eq_true rfl)
  rw [lg_entry_eq]
  generalize (lg_sl ([.ref oT, .int x1]) ++ List.replicate (3 - (lg_sl ([.ref oT, .int x1])).length) Slot.unset).toArray = ls at hl ⊢
  have hl : lv_has ls 3 [(0, .ref oT), (1, .int x1)] := hl
  have HR : ∀ (r : Int32) (u0 : Int32) (u1 : Nat → Int32) (u2 : Nat → Int32) (u3 : Nat → Int32) (u4 : Nat → Int32) {H : Heap} {locs : List Loc} {ls : Array Slot} {pc : Nat}, Q r u0 u1 u2 u3 u4 → wd D (va_A (ww_X7_firstShort cI cC oT oT_s oT_aside oT_states oT_snapshot oT_text oT_serves oT_took oT_tookMany oT_helps oT_before oT_read T_thrown T_stateMany T_hasSnapshot T_length T_stopNumber T_stopError T_at T_isWell T_readMany T_s T_serves T_took T_tookMany T_helps) s.heap.size) s (ww_X7_firstShort cI cC oT oT_s oT_aside oT_states oT_snapshot oT_text oT_serves oT_took oT_tookMany oT_helps oT_before oT_read u0 T_stateMany T_hasSnapshot T_length T_stopNumber T_stopError T_at T_isWell T_readMany T_s u1 u2 u3 u4) H locs → decode cX7_firstShort pc = .ok (.ireturn, 1) → W p l e (headSpec wsX7_firstShort rm_X7_firstShort).room s m ([.ref oT, .int x1] : List Value).toArray below meth c H locs 0 0 (MQ below (QiW D (fun (r : Int32) (u : Int32 × (Nat → Int32) × (Nat → Int32) × (Nat → Int32) × (Nat → Int32)) => Q r u.1 u.2.1 u.2.2.1 u.2.2.2.1 u.2.2.2.2) (fun u => (ww_X7_firstShort cI cC oT oT_s oT_aside oT_states oT_snapshot oT_text oT_serves oT_took oT_tookMany oT_helps oT_before oT_read (u.1) T_stateMany T_hasSnapshot T_length T_stopNumber T_stopError T_at T_isWell T_readMany T_s (u.2.1) (u.2.2.1) (u.2.2.2.1) (u.2.2.2.2))) (ww_X7_firstShort cI cC oT oT_s oT_aside oT_states oT_snapshot oT_text oT_serves oT_took oT_tookMany oT_helps oT_before oT_read T_thrown T_stateMany T_hasSnapshot T_length T_stopNumber T_stopError T_at T_isWell T_readMany T_s T_serves T_took T_tookMany T_helps) s.heap.size) ([.ref oT, .int x1] : List Value).toArray s 0 0 (va_A (ww_X7_firstShort cI cC oT oT_s oT_aside oT_states oT_snapshot oT_text oT_serves oT_took oT_tookMany oT_helps oT_before oT_read T_thrown T_stateMany T_hasSnapshot T_length T_stopNumber T_stopError T_at T_isWell T_readMany T_s T_serves T_took T_tookMany T_helps) s.heap.size)) (F0 m pc ls [.int r]) := by
    intro r u0 u1 u2 u3 u4 H locs ls pc hq hw9 hd9
    exact W.iret (v := r) hx hb hr (fun t ht hW => ⟨⟨r, (u0, u1, u2, u3, u4), rfl, hq, by rw [ht]; exact hw9.1, hw9.2.1⟩, hw9.2.2.F ht⟩) hw9.2.2.2.2 hd9
  unfold wp_X7_firstShort at hw
  refine lv_aload_n hx hb dX7_firstShort_0 rfl (lv_at hl 0 rfl) ?_
  refine lv_iconst (v := (nI 0)) hx hb dX7_firstShort_1 rfl ?_
  refine va_put (D := D) (ci := 7) (v := .int (nI 0)) (ty := .int) (C := RX7) (T := TX7) (N := 20) hx hb hts ic_X7_firstShort_X7 tyX7 tyX7_ok nmX7 hown hKw.1 hwd.1 hwd.2.1 hwd.2.2 0 rfl rfl 0 (by decide) (hts (.fieldLink RX7 43 "DrillWardensModel" "thrown" "I") (List.mem_of_getElem? (i := 1) rfl)) (fun _ h9 => h9) rfl (tyX7_ok 0 (by decide)) rfl rfl (Nat.le_of_ble_eq_true rfl) dX7_firstShort_2 (fun H locs h1 h2 h3 => ?_)
  replace hwd : wd D (va_A (ww_X7_firstShort cI cC oT oT_s oT_aside oT_states oT_snapshot oT_text oT_serves oT_took oT_tookMany oT_helps oT_before oT_read T_thrown T_stateMany T_hasSnapshot T_length T_stopNumber T_stopError T_at T_isWell T_readMany T_s T_serves T_took T_tookMany T_helps) s.heap.size) s (ww_X7_firstShort cI cC oT oT_s oT_aside oT_states oT_snapshot oT_text oT_serves oT_took oT_tookMany oT_helps oT_before oT_read (nI 0) T_stateMany T_hasSnapshot T_length T_stopNumber T_stopError T_at T_isWell T_readMany T_s T_serves T_took T_tookMany T_helps) H locs := ⟨h1, h2, h3⟩
  clear h1 h2 h3
  refine lv_iload_n hx hb dX7_firstShort_5 rfl (lv_at hl 1 rfl) ?_
  refine kcSi (rest := []) (As := [.int x1]) ⟨Nat.le_of_ble_eq_true rfl, Nat.le_of_ble_eq_true rfl⟩ ⟨hx, hb, hml, hown, hts⟩ (c_X7_isFloor l H.size x1 hw) (va_cwS 1 hts gX7_firstShort_X7_isFloor rfl rfl rfl hd_X7_isFloor ⟨Nat.le_of_ble_eq_true rfl, Nat.le_of_ble_eq_true rfl⟩) hKw hA hwd rfl hl.1 rfl (lv_room (Nat.le_of_ble_eq_true rfl)) dX7_firstShort_6 (fun r1 H locs hw hwd => ?_)
  try dsimp only at hw
  refine lv_if_ne (tgt := 14) hx hb dX7_firstShort_9 (by decide) (fun c2 => ?_) (fun c2 => ?_)
  · replace hw := hw.1 c2
    refine lv_aload_n hx hb dX7_firstShort_14 rfl (lv_at hl 0 rfl) ?_
    refine va_get (D := D) (ci := 7) (v := .ref oT_s) (C := RX7) (T := TX7) (N := 20) hx hb hts ic_X7_firstShort_X7 hown hKw.1 hwd.1 0 rfl rfl 1 (by decide) (hts (.fieldLink RX7 7 "DrillWardensModel" "s" "[I") (List.mem_of_getElem? (i := 2) rfl)) (fun _ h9 => h9) rfl dX7_firstShort_15 ?_
    refine lv_iconst (v := (nI 3)) hx hb dX7_firstShort_18 rfl ?_
    refine va_iald hx hb hKw.1 hwd.1 1 0 rfl rfl hw.1 dX7_firstShort_19 ?_
    replace hw := hw.2
    refine lv_topi (fun x2_3 e_x2_3 => ?_)
    replace hw := hw x2_3 e_x2_3
    refine lv_istore_n (lv' := [(2, .int x2_3), (0, .ref oT), (1, .int x1)]) hx hb dX7_firstShort_20 rfl hl (by decide) rfl (fun ls hl => ?_)
    obtain ⟨n4, hw⟩ := hw
    refine blk_X7_firstShort_21 (CX := CX) (oT := oT) (oT_s := oT_s) (oT_aside := oT_aside) (oT_states := oT_states) (oT_snapshot := oT_snapshot) (oT_text := oT_text) (oT_serves := oT_serves) (oT_took := oT_took) (oT_tookMany := oT_tookMany) (oT_helps := oT_helps) (oT_before := oT_before) (oT_read := oT_read) (T_thrown := (nI 0)) (T_stateMany := T_stateMany) (T_hasSnapshot := T_hasSnapshot) (T_length := T_length) (T_stopNumber := T_stopNumber) (T_stopError := T_stopError) (T_at := T_at) (T_isWell := T_isWell) (T_readMany := T_readMany) (T_s := T_s) (x1 := x1) (HR := HR) (HK_49 := fun T_serves5 T_took6 T_tookMany7 T_helps8 hw H locs ls hwd hl => ?_) n4 T_serves T_took T_tookMany T_helps x2_3 hw _ _ _ hwd (lv_sub hl [1, 2, 0] rfl)
    try dsimp only at hw
    refine lv_bipush (v := (-5)) hx hb dX7_firstShort_49 rfl ?_
    exact HR (-5) (nI 0) T_serves5 T_took6 T_tookMany7 T_helps8 hw hwd dX7_firstShort_51
  · replace hw := hw.2 c2
    refine lv_iconst (v := (-1)) hx hb dX7_firstShort_12 rfl ?_
    exact HR (-1) (nI 0) T_serves T_took T_tookMany T_helps hw hwd dX7_firstShort_13
abbrev ww_X7_load (cI cC : ClassId) (oT oT_s oT_aside oT_states oT_snapshot oT_text oT_serves oT_took oT_tookMany oT_helps oT_before oT_read : Nat) (T_thrown : Int32) (T_stateMany : Int32) (T_hasSnapshot : Int32) (T_length : Int32) (T_stopNumber : Int32) (T_stopError : Int32) (T_at : Int32) (T_isWell : Int32) (T_readMany : Int32) (T_s : Nat → Int32) (T_serves : Nat → Int32) (T_took : Nat → Int32) (T_tookMany : Nat → Int32) (T_helps : Nat → Int32) : va_W := [(oT, .inr (7, [.int T_thrown, .ref oT_s, .ref oT_aside, .ref oT_states, .int T_stateMany, .ref oT_snapshot, .int T_hasSnapshot, .ref oT_text, .int T_length, .int T_stopNumber, .int T_stopError, .ref oT_serves, .ref oT_took, .ref oT_tookMany, .ref oT_helps, .ref oT_before, .int T_at, .int T_isWell, .ref oT_read, .int T_readMany])), (oT_s, .inl (cI, 474, .inl T_s)), (oT_serves, .inl (cI, 16, .inl T_serves)), (oT_took, .inl (cI, 30, .inl T_took)), (oT_tookMany, .inl (cI, 10, .inl T_tookMany)), (oT_helps, .inl (cI, 10, .inl T_helps))]
abbrev rm_X7_load : Room := { frames := 5, cells := 0, slots := 0, locals := 113 }
theorem ic_X7_load_X7 : ∀ w ∈ u_ws RX7 TX7 20, w ∈ wsX7_load := by
  intro w h
  simp only [wsX7_load, List.mem_cons, List.mem_append]
  simp only [h, or_true, true_or]
def wb_X7_load_37 (T_s : Nat → Int32) (x1 : Int32) (x2 : Int32) (K_89 : (Nat → Int32) → (Nat → Int32) → (Nat → Int32) → (Nat → Int32) → Int32 → Prop) : Nat → (Nat → Int32) → (Nat → Int32) → (Nat → Int32) → (Nat → Int32) → Int32 → Int32 → Prop
  | 0, _, _, _, _, _, _ => False
  | n + 1, T_serves, T_took, T_tookMany, T_helps, x3, x4 => vp_in (nI 3) 474 ∧ ((((T_s (nI 3).toNatClampNeg) + x2) ≤ x4 → K_89 T_serves T_took T_tookMany T_helps x3) ∧ (¬ ((T_s (nI 3).toNatClampNeg) + x2) ≤ x4 → (((nI 399) < x4 → K_89 T_serves T_took T_tookMany T_helps x3) ∧ (¬ (nI 399) < x4 → wp_X7_plans T_s T_serves T_took T_tookMany T_helps x4 (fun T_serves3 T_took4 T_tookMany5 T_helps6 => vp_in x1 16 ∧ (((T_serves3 x1.toNatClampNeg) = (-5) → ∀ x3_8, x3_8 = x3 + (nI 0) → ∀ x4_9, x4_9 = x4 + (nI 1) → wb_X7_load_37 T_s x1 x2 K_89 n T_serves3 T_took4 T_tookMany5 T_helps6 x3_8 x4_9) ∧ (¬ (T_serves3 x1.toNatClampNeg) = (-5) → ∀ x3_10, x3_10 = x3 + (nI 1) → ∀ x4_11, x4_11 = x4 + (nI 1) → wb_X7_load_37 T_s x1 x2 K_89 n T_serves3 T_took4 T_tookMany5 T_helps6 x3_10 x4_11)))))))
set_option maxRecDepth 100000 in
set_option maxHeartbeats 4000000 in
theorem blk_X7_load_37 {p : Program} {l : Launch} {e : Env} {s : State} {m : MethodId} {args : Array Value} {below : List Frame} {meth : Method} {c : Code} {D : va_G} {cI cC cR : ClassId} {A : Nat → Prop} {Z : State → Prop} (CX : cx cX7_load (some .int) 5 RX7 wsX7_load p m meth c s args D cI cC cR A) (oT oT_s oT_aside oT_states oT_snapshot oT_text oT_serves oT_took oT_tookMany oT_helps oT_before oT_read : Nat) (T_thrown : Int32) (T_stateMany : Int32) (T_hasSnapshot : Int32) (T_length : Int32) (T_stopNumber : Int32) (T_stopError : Int32) (T_at : Int32) (T_isWell : Int32) (T_readMany : Int32) (T_s : Nat → Int32) (x1 : Int32) (x2 : Int32) {K_89 : (Nat → Int32) → (Nat → Int32) → (Nat → Int32) → (Nat → Int32) → Int32 → Prop} {Q : Int32 → Int32 → (Nat → Int32) → (Nat → Int32) → (Nat → Int32) → (Nat → Int32) → Prop} (HR : ∀ (r : Int32) (u0 : Int32) (u1 : Nat → Int32) (u2 : Nat → Int32) (u3 : Nat → Int32) (u4 : Nat → Int32) {H : Heap} {locs : List Loc} {ls : Array Slot} {pc : Nat}, Q r u0 u1 u2 u3 u4 → wd D A s (ww_X7_load cI cC oT oT_s oT_aside oT_states oT_snapshot oT_text oT_serves oT_took oT_tookMany oT_helps oT_before oT_read u0 T_stateMany T_hasSnapshot T_length T_stopNumber T_stopError T_at T_isWell T_readMany T_s u1 u2 u3 u4) H locs → decode cX7_load pc = .ok (.ireturn, 1) → W p l e (headSpec wsX7_load rm_X7_load).room s m args below meth c H locs 0 0 Z (F0 m pc ls [.int r])) (HK_89 : ∀ (T_servesy : Nat → Int32) (T_tooky : Nat → Int32) (T_tookManyy : Nat → Int32) (T_helpsy : Nat → Int32) (x3y : Int32), K_89 T_servesy T_tooky T_tookManyy T_helpsy x3y → ∀ (H : Heap) (locs : List Loc) (ls : Array Slot), wd D A s (ww_X7_load cI cC oT oT_s oT_aside oT_states oT_snapshot oT_text oT_serves oT_took oT_tookMany oT_helps oT_before oT_read T_thrown T_stateMany T_hasSnapshot T_length T_stopNumber T_stopError T_at T_isWell T_readMany T_s T_servesy T_tooky T_tookManyy T_helpsy) H locs → lv_has ls 5 [(3, .int x3y)] → W p l e (headSpec wsX7_load rm_X7_load).room s m args below meth c H locs 0 0 Z (F0 m 89 ls [])) : ∀ (n : Nat) (T_serves : Nat → Int32) (T_took : Nat → Int32) (T_tookMany : Nat → Int32) (T_helps : Nat → Int32) (x3 : Int32) (x4 : Int32), wb_X7_load_37 T_s x1 x2 K_89 n T_serves T_took T_tookMany T_helps x3 x4 → ∀ (H : Heap) (locs : List Loc) (ls : Array Slot), wd D A s (ww_X7_load cI cC oT oT_s oT_aside oT_states oT_snapshot oT_text oT_serves oT_took oT_tookMany oT_helps oT_before oT_read T_thrown T_stateMany T_hasSnapshot T_length T_stopNumber T_stopError T_at T_isWell T_readMany T_s T_serves T_took T_tookMany T_helps) H locs → lv_has ls 5 [(0, .ref oT), (1, .int x1), (2, .int x2), (3, .int x3), (4, .int x4)] → W p l e (headSpec wsX7_load rm_X7_load).room s m args below meth c H locs 0 0 Z (F0 m 37 ls []) := by
  obtain ⟨hx, hb, hr, hml, hts, hown, hlocks, hKw, hA⟩ := id CX
  intro n
  induction n with
  | zero => intro T_serves T_took T_tookMany T_helps x3 x4 hw; exact False.elim hw
  | succ n ih =>
    intro T_serves T_took T_tookMany T_helps x3 x4 hw H locs ls hwd hl
    rw [wb_X7_load_37] at hw
    refine lv_iload hx hb dX7_load_37 (lv_at hl 4 rfl) ?_
    refine lv_aload_n hx hb dX7_load_39 rfl (lv_at hl 0 rfl) ?_
    refine va_get (D := D) (ci := 7) (v := .ref oT_s) (C := RX7) (T := TX7) (N := 20) hx hb hts ic_X7_load_X7 hown hKw.1 hwd.1 0 rfl rfl 1 (by decide) (hts (.fieldLink RX7 7 "DrillWardensModel" "s" "[I") (List.mem_of_getElem? (i := 2) rfl)) (fun _ h9 => h9) rfl dX7_load_40 ?_
    refine lv_iconst (v := (nI 3)) hx hb dX7_load_43 rfl ?_
    refine va_iald hx hb hKw.1 hwd.1 1 0 rfl rfl hw.1 dX7_load_44 ?_
    replace hw := hw.2
    refine lv_iload_n hx hb dX7_load_45 rfl (lv_at hl 2 rfl) ?_
    refine lv_iadd hx hb dX7_load_46 ?_
    refine lv_icmp_ge (tgt := 89) hx hb dX7_load_47 (by decide) (fun c1 => ?_) (fun c1 => ?_)
    · replace hw := hw.1 c1
      exact HK_89 T_serves T_took T_tookMany T_helps x3 hw _ _ _ hwd (lv_sub hl [3] rfl)
    · replace hw := hw.2 c1
      refine lv_iload hx hb dX7_load_50 (lv_at hl 4 rfl) ?_
      refine lv_sipush (v := (nI 399)) hx hb dX7_load_52 rfl ?_
      refine lv_icmp_gt (tgt := 89) hx hb dX7_load_55 (by decide) (fun c2 => ?_) (fun c2 => ?_)
      · replace hw := hw.1 c2
        exact HK_89 T_serves T_took T_tookMany T_helps x3 hw _ _ _ hwd (lv_sub hl [3] rfl)
      · replace hw := hw.2 c2
        refine lv_aload_n hx hb dX7_load_58 rfl (lv_at hl 0 rfl) ?_
        refine lv_iload hx hb dX7_load_59 (lv_at hl 4 rfl) ?_
        refine kcVv (W1 := (fun u => (ww_X7_load cI cC oT oT_s oT_aside oT_states oT_snapshot oT_text oT_serves oT_took oT_tookMany oT_helps oT_before oT_read T_thrown T_stateMany T_hasSnapshot T_length T_stopNumber T_stopError T_at T_isWell T_readMany T_s (u.1) (u.2.1) (u.2.2.1) (u.2.2.2)))) (rest := []) (As := [.int x4]) ⟨Nat.le_of_ble_eq_true rfl, Nat.le_of_ble_eq_true rfl⟩ ⟨hx, hb, hml, hown, hts⟩ (c_X7_plans l oT oT_s oT_aside oT_states oT_snapshot oT_text oT_serves oT_took oT_tookMany oT_helps oT_before oT_read H.size T_thrown T_stateMany T_hasSnapshot T_length T_stopNumber T_stopError T_at T_isWell T_readMany T_s T_serves T_took T_tookMany T_helps x4 hw) (cwV 1 hts gX7_load_X7_plans rfl rfl rfl ⟨rfl, hd_X7_plans⟩ ⟨Nat.le_of_ble_eq_true rfl, Nat.le_of_ble_eq_true rfl⟩) hKw hA hwd [0, 1, 2, 3, 4, 5] [] [0, 1, 2, 3, 4, 5] [] rfl rfl rfl rfl (by decide) rfl (fun _ => rfl) 0 7 rfl rfl rfl rfl hl.1 rfl (lv_room (Nat.le_of_ble_eq_true rfl)) dX7_load_61 (fun u H locs hw hwd => ?_)
        obtain ⟨T_serves3, T_took4, T_tookMany5, T_helps6⟩ := u
        try dsimp only at hw
        replace hwd : wd D A s (ww_X7_load cI cC oT oT_s oT_aside oT_states oT_snapshot oT_text oT_serves oT_took oT_tookMany oT_helps oT_before oT_read T_thrown T_stateMany T_hasSnapshot T_length T_stopNumber T_stopError T_at T_isWell T_readMany T_s T_serves3 T_took4 T_tookMany5 T_helps6) H locs := hwd
        refine lv_iload_n hx hb dX7_load_64 rfl (lv_at hl 3 rfl) ?_
        refine lv_aload_n hx hb dX7_load_65 rfl (lv_at hl 0 rfl) ?_
        refine va_get (D := D) (ci := 7) (v := .ref oT_serves) (C := RX7) (T := TX7) (N := 20) hx hb hts ic_X7_load_X7 hown hKw.1 hwd.1 0 rfl rfl 11 (by decide) (hts (.fieldLink RX7 25 "DrillWardensModel" "serves" "[I") (List.mem_of_getElem? (i := 3) rfl)) (fun _ h9 => h9) rfl dX7_load_66 ?_
        refine lv_iload_n hx hb dX7_load_69 rfl (lv_at hl 1 rfl) ?_
        refine va_iald hx hb hKw.1 hwd.1 2 0 rfl rfl hw.1 dX7_load_70 ?_
        replace hw := hw.2
        refine lv_bipush (v := (-5)) hx hb dX7_load_71 rfl ?_
        refine lv_icmp_eq (tgt := 80) hx hb dX7_load_73 (by decide) (fun c7 => ?_) (fun c7 => ?_)
        · replace hw := hw.1 c7
          refine lv_iconst (v := (nI 0)) hx hb dX7_load_80 rfl ?_
          refine lv_iadd hx hb dX7_load_81 ?_
          refine lv_topi (fun x3_8 e_x3_8 => ?_)
          replace hw := hw x3_8 e_x3_8
          refine lv_istore_n (lv' := [(3, .int x3_8), (0, .ref oT), (1, .int x1), (2, .int x2), (4, .int x4)]) hx hb dX7_load_82 rfl hl (by decide) rfl (fun ls hl => ?_)
          obtain ⟨x4_9, e_x4_9⟩ : ∃ y : Int32, y = x4 + (nI 1) := ⟨_, rfl⟩
          replace hw := hw x4_9 e_x4_9
          refine lv_iinc (v := x4_9) (lv' := [(4, .int x4_9), (3, .int x3_8), (0, .ref oT), (1, .int x1), (2, .int x2)]) hx hb dX7_load_83 hl (k := 4) rfl (by rw [e_x4_9]; rfl) (by decide) rfl (fun ls hl => ?_)
          refine lv_goto (tgt := 37) hx hb dX7_load_86 (by decide) ?_
          exact ih T_serves3 T_took4 T_tookMany5 T_helps6 x3_8 x4_9 hw _ _ _ hwd (lv_sub hl [2, 3, 4, 1, 0] rfl)
        · replace hw := hw.2 c7
          refine lv_iconst (v := (nI 1)) hx hb dX7_load_76 rfl ?_
          refine lv_goto (tgt := 81) hx hb dX7_load_77 (by decide) ?_
          refine lv_iadd hx hb dX7_load_81 ?_
          refine lv_topi (fun x3_10 e_x3_10 => ?_)
          replace hw := hw x3_10 e_x3_10
          refine lv_istore_n (lv' := [(3, .int x3_10), (0, .ref oT), (1, .int x1), (2, .int x2), (4, .int x4)]) hx hb dX7_load_82 rfl hl (by decide) rfl (fun ls hl => ?_)
          obtain ⟨x4_11, e_x4_11⟩ : ∃ y : Int32, y = x4 + (nI 1) := ⟨_, rfl⟩
          replace hw := hw x4_11 e_x4_11
          refine lv_iinc (v := x4_11) (lv' := [(4, .int x4_11), (3, .int x3_10), (0, .ref oT), (1, .int x1), (2, .int x2)]) hx hb dX7_load_83 hl (k := 4) rfl (by rw [e_x4_11]; rfl) (by decide) rfl (fun ls hl => ?_)
          refine lv_goto (tgt := 37) hx hb dX7_load_86 (by decide) ?_
          exact ih T_serves3 T_took4 T_tookMany5 T_helps6 x3_10 x4_11 hw _ _ _ hwd (lv_sub hl [2, 3, 4, 1, 0] rfl)
def wp_X7_load (T_thrown : Int32) (T_s : Nat → Int32) (T_serves : Nat → Int32) (T_took : Nat → Int32) (T_tookMany : Nat → Int32) (T_helps : Nat → Int32) (x1 : Int32) (x2 : Int32) (Q : Int32 → Int32 → (Nat → Int32) → (Nat → Int32) → (Nat → Int32) → (Nat → Int32) → Prop) : Prop := wp_X7_isPerson x1 (fun r1 => ((¬ r1 = 0 → wp_X7_in x2 (nI 1) (nI 99) (fun r3 => ((¬ r3 = 0 → vp_in (nI 3) 474 ∧ ∀ x4_5, x4_5 = T_s (nI 3).toNatClampNeg → (∃ n6, wb_X7_load_37 T_s x1 x2 (fun T_serves7 T_took8 T_tookMany9 T_helps10 x3_11 => Q x3_11 (nI 0) T_serves7 T_took8 T_tookMany9 T_helps10) n6 T_serves T_took T_tookMany T_helps (nI 0) x4_5)) ∧ (r3 = 0 → Q (-2) (nI 0) T_serves T_took T_tookMany T_helps)))) ∧ (r1 = 0 → Q (-1) (nI 0) T_serves T_took T_tookMany T_helps)))
set_option maxRecDepth 100000 in
set_option maxHeartbeats 4000000 in
theorem c_X7_load (l : Launch) {D : va_G} {cI cC cR : ClassId} (oT oT_s oT_aside oT_states oT_snapshot oT_text oT_serves oT_took oT_tookMany oT_helps oT_before oT_read : Nat) (sz : Nat) (T_thrown : Int32) (T_stateMany : Int32) (T_hasSnapshot : Int32) (T_length : Int32) (T_stopNumber : Int32) (T_stopError : Int32) (T_at : Int32) (T_isWell : Int32) (T_readMany : Int32) (T_s : Nat → Int32) (T_serves : Nat → Int32) (T_took : Nat → Int32) (T_tookMany : Nat → Int32) (T_helps : Nat → Int32) (x1 : Int32) (x2 : Int32) {Q : Int32 → Int32 → (Nat → Int32) → (Nat → Int32) → (Nat → Int32) → (Nat → Int32) → Prop} (hw : wp_X7_load T_thrown T_s T_serves T_took T_tookMany T_helps x1 x2 Q) : Met l yX7_load wsX7_load rm_X7_load (PcW D cI cC cR [.ref oT, .int x1, .int x2] (ww_X7_load cI cC oT oT_s oT_aside oT_states oT_snapshot oT_text oT_serves oT_took oT_tookMany oT_helps oT_before oT_read T_thrown T_stateMany T_hasSnapshot T_length T_stopNumber T_stopError T_at T_isWell T_readMany T_s T_serves T_took T_tookMany T_helps) sz) (QiW D (fun (r : Int32) (u : Int32 × (Nat → Int32) × (Nat → Int32) × (Nat → Int32) × (Nat → Int32)) => Q r u.1 u.2.1 u.2.2.1 u.2.2.2.1 u.2.2.2.2) (fun u => (ww_X7_load cI cC oT oT_s oT_aside oT_states oT_snapshot oT_text oT_serves oT_took oT_tookMany oT_helps oT_before oT_read (u.1) T_stateMany T_hasSnapshot T_length T_stopNumber T_stopError T_at T_isWell T_readMany T_s (u.2.1) (u.2.2.1) (u.2.2.2.1) (u.2.2.2.2))) (ww_X7_load cI cC oT oT_s oT_aside oT_states oT_snapshot oT_text oT_serves oT_took oT_tookMany oT_helps oT_before oT_read T_thrown T_stateMany T_hasSnapshot T_length T_stopNumber T_stopError T_at T_isWell T_readMany T_s T_serves T_took T_tookMany T_helps) sz) 0 0 (va_A (ww_X7_load cI cC oT oT_s oT_aside oT_states oT_snapshot oT_text oT_serves oT_took oT_tookMany oT_helps oT_before oT_read T_thrown T_stateMany T_hasSnapshot T_length T_stopNumber T_stopError T_at T_isWell T_readMany T_s T_serves T_took T_tookMany T_helps) sz) := by
  refine Met.ofW (cc := cX7_load) (maxL := 5) (ret := (some .int)) (by decide) rfl ?_
  intro p e s m args below meth c s₁ B hml hv
  obtain ⟨rfl, hsz, hP, hKw, hD0⟩ := hv
  have hlocks := B.notSynchronized
  subst hsz
  have hD := hD0.self (sz := s.heap.size)
  have CX : cx cX7_load (some .int) 5 RX7 wsX7_load p m meth c s ([.ref oT, .int x1, .int x2] : List Value).toArray D cI cC cR (va_A (ww_X7_load cI cC oT oT_s oT_aside oT_states oT_snapshot oT_text oT_serves oT_took oT_tookMany oT_helps oT_before oT_read T_thrown T_stateMany T_hasSnapshot T_length T_stopNumber T_stopError T_at T_isWell T_readMany T_s T_serves T_took T_tookMany T_helps) s.heap.size) := ⟨B.exec, B.bytes, B.returns, hml, atoms_spec (ws := wsX7_load) B.pre, findClass_of_methodNamed B.named, hlocks, hKw, fun q h => Or.inr h⟩
  obtain ⟨hx, hb, hr, -, hts, hown, -, -, hA⟩ := id CX
  have hwd : wd D (va_A (ww_X7_load cI cC oT oT_s oT_aside oT_states oT_snapshot oT_text oT_serves oT_took oT_tookMany oT_helps oT_before oT_read T_thrown T_stateMany T_hasSnapshot T_length T_stopNumber T_stopError T_at T_isWell T_readMany T_s T_serves T_took T_tookMany T_helps) s.heap.size) s (ww_X7_load cI cC oT oT_s oT_aside oT_states oT_snapshot oT_text oT_serves oT_took oT_tookMany oT_helps oT_before oT_read T_thrown T_stateMany T_hasSnapshot T_length T_stopNumber T_stopError T_at T_isWell T_readMany T_s T_serves T_took T_tookMany T_helps) s.heap [] := ⟨hP, hD, va_S.rf⟩
  have hl := lv_entry ([.ref oT, .int x1, .int x2]) (n := 5) (Nat.le_of_ble_eq_true rfl)
  rw [lg_entry_eq]
  generalize (lg_sl ([.ref oT, .int x1, .int x2]) ++ List.replicate (5 - (lg_sl ([.ref oT, .int x1, .int x2])).length) Slot.unset).toArray = ls at hl ⊢
  have hl : lv_has ls 5 [(0, .ref oT), (1, .int x1), (2, .int x2)] := hl
  have HR : ∀ (r : Int32) (u0 : Int32) (u1 : Nat → Int32) (u2 : Nat → Int32) (u3 : Nat → Int32) (u4 : Nat → Int32) {H : Heap} {locs : List Loc} {ls : Array Slot} {pc : Nat}, Q r u0 u1 u2 u3 u4 → wd D (va_A (ww_X7_load cI cC oT oT_s oT_aside oT_states oT_snapshot oT_text oT_serves oT_took oT_tookMany oT_helps oT_before oT_read T_thrown T_stateMany T_hasSnapshot T_length T_stopNumber T_stopError T_at T_isWell T_readMany T_s T_serves T_took T_tookMany T_helps) s.heap.size) s (ww_X7_load cI cC oT oT_s oT_aside oT_states oT_snapshot oT_text oT_serves oT_took oT_tookMany oT_helps oT_before oT_read u0 T_stateMany T_hasSnapshot T_length T_stopNumber T_stopError T_at T_isWell T_readMany T_s u1 u2 u3 u4) H locs → decode cX7_load pc = .ok (.ireturn, 1) → W p l e (headSpec wsX7_load rm_X7_load).room s m ([.ref oT, .int x1, .int x2] : List Value).toArray below meth c H locs 0 0 (MQ below (QiW D (fun (r : Int32) (u : Int32 × (Nat → Int32) × (Nat → Int32) × (Nat → Int32) × (Nat → Int32)) => Q r u.1 u.2.1 u.2.2.1 u.2.2.2.1 u.2.2.2.2) (fun u => (ww_X7_load cI cC oT oT_s oT_aside oT_states oT_snapshot oT_text oT_serves oT_took oT_tookMany oT_helps oT_before oT_read (u.1) T_stateMany T_hasSnapshot T_length T_stopNumber T_stopError T_at T_isWell T_readMany T_s (u.2.1) (u.2.2.1) (u.2.2.2.1) (u.2.2.2.2))) (ww_X7_load cI cC oT oT_s oT_aside oT_states oT_snapshot oT_text oT_serves oT_took oT_tookMany oT_helps oT_before oT_read T_thrown T_stateMany T_hasSnapshot T_length T_stopNumber T_stopError T_at T_isWell T_readMany T_s T_serves T_took T_tookMany T_helps) s.heap.size) ([.ref oT, .int x1, .int x2] : List Value).toArray s 0 0 (va_A (ww_X7_load cI cC oT oT_s oT_aside oT_states oT_snapshot oT_text oT_serves oT_took oT_tookMany oT_helps oT_before oT_read T_thrown T_stateMany T_hasSnapshot T_length T_stopNumber T_stopError T_at T_isWell T_readMany T_s T_serves T_took T_tookMany T_helps) s.heap.size)) (F0 m pc ls [.int r]) := by
    intro r u0 u1 u2 u3 u4 H locs ls pc hq hw9 hd9
    exact W.iret (v := r) hx hb hr (fun t ht hW => ⟨⟨r, (u0, u1, u2, u3, u4), rfl, hq, by rw [ht]; exact hw9.1, hw9.2.1⟩, hw9.2.2.F ht⟩) hw9.2.2.2.2 hd9
  unfold wp_X7_load at hw
  refine lv_aload_n hx hb dX7_load_0 rfl (lv_at hl 0 rfl) ?_
  refine lv_iconst (v := (nI 0)) hx hb dX7_load_1 rfl ?_
  refine va_put (D := D) (ci := 7) (v := .int (nI 0)) (ty := .int) (C := RX7) (T := TX7) (N := 20) hx hb hts ic_X7_load_X7 tyX7 tyX7_ok nmX7 hown hKw.1 hwd.1 hwd.2.1 hwd.2.2 0 rfl rfl 0 (by decide) (hts (.fieldLink RX7 43 "DrillWardensModel" "thrown" "I") (List.mem_of_getElem? (i := 1) rfl)) (fun _ h9 => h9) rfl (tyX7_ok 0 (by decide)) rfl rfl (Nat.le_of_ble_eq_true rfl) dX7_load_2 (fun H locs h1 h2 h3 => ?_)
  replace hwd : wd D (va_A (ww_X7_load cI cC oT oT_s oT_aside oT_states oT_snapshot oT_text oT_serves oT_took oT_tookMany oT_helps oT_before oT_read T_thrown T_stateMany T_hasSnapshot T_length T_stopNumber T_stopError T_at T_isWell T_readMany T_s T_serves T_took T_tookMany T_helps) s.heap.size) s (ww_X7_load cI cC oT oT_s oT_aside oT_states oT_snapshot oT_text oT_serves oT_took oT_tookMany oT_helps oT_before oT_read (nI 0) T_stateMany T_hasSnapshot T_length T_stopNumber T_stopError T_at T_isWell T_readMany T_s T_serves T_took T_tookMany T_helps) H locs := ⟨h1, h2, h3⟩
  clear h1 h2 h3
  refine lv_iload_n hx hb dX7_load_5 rfl (lv_at hl 1 rfl) ?_
  refine kcSi (rest := []) (As := [.int x1]) ⟨Nat.le_of_ble_eq_true rfl, Nat.le_of_ble_eq_true rfl⟩ ⟨hx, hb, hml, hown, hts⟩ (c_X7_isPerson l H.size x1 hw) (va_cwS 1 hts gX7_load_X7_isPerson rfl rfl rfl hd_X7_isPerson ⟨Nat.le_of_ble_eq_true rfl, Nat.le_of_ble_eq_true rfl⟩) hKw hA hwd rfl hl.1 rfl (lv_room (Nat.le_of_ble_eq_true rfl)) dX7_load_6 (fun r1 H locs hw hwd => ?_)
  try dsimp only at hw
  refine lv_if_ne (tgt := 14) hx hb dX7_load_9 (by decide) (fun c2 => ?_) (fun c2 => ?_)
  · replace hw := hw.1 c2
    refine lv_iload_n hx hb dX7_load_14 rfl (lv_at hl 2 rfl) ?_
    refine lv_iconst (v := (nI 1)) hx hb dX7_load_15 rfl ?_
    refine lv_bipush (v := (nI 99)) hx hb dX7_load_16 rfl ?_
    refine kcSi (rest := []) (As := [.int x2, .int (nI 1), .int (nI 99)]) ⟨Nat.le_of_ble_eq_true rfl, Nat.le_of_ble_eq_true rfl⟩ ⟨hx, hb, hml, hown, hts⟩ (c_X7_in l H.size x2 (nI 1) (nI 99) hw) (va_cwS 3 hts gX7_load_X7_in rfl rfl rfl hd_X7_in ⟨Nat.le_of_ble_eq_true rfl, Nat.le_of_ble_eq_true rfl⟩) hKw hA hwd rfl hl.1 rfl (lv_room (Nat.le_of_ble_eq_true rfl)) dX7_load_18 (fun r3 H locs hw hwd => ?_)
    try dsimp only at hw
    refine lv_if_ne (tgt := 27) hx hb dX7_load_21 (by decide) (fun c4 => ?_) (fun c4 => ?_)
    · replace hw := hw.1 c4
      refine lv_iconst (v := (nI 0)) hx hb dX7_load_27 rfl ?_
      refine lv_istore_n (lv' := [(3, .int (nI 0)), (0, .ref oT), (1, .int x1), (2, .int x2)]) hx hb dX7_load_28 rfl hl (by decide) rfl (fun ls hl => ?_)
      refine lv_aload_n hx hb dX7_load_29 rfl (lv_at hl 1 rfl) ?_
      refine va_get (D := D) (ci := 7) (v := .ref oT_s) (C := RX7) (T := TX7) (N := 20) hx hb hts ic_X7_load_X7 hown hKw.1 hwd.1 0 rfl rfl 1 (by decide) (hts (.fieldLink RX7 7 "DrillWardensModel" "s" "[I") (List.mem_of_getElem? (i := 2) rfl)) (fun _ h9 => h9) rfl dX7_load_30 ?_
      refine lv_iconst (v := (nI 3)) hx hb dX7_load_33 rfl ?_
      refine va_iald hx hb hKw.1 hwd.1 1 0 rfl rfl hw.1 dX7_load_34 ?_
      replace hw := hw.2
      refine lv_topi (fun x4_5 e_x4_5 => ?_)
      replace hw := hw x4_5 e_x4_5
      refine lv_istore (lv' := [(4, .int x4_5), (3, .int (nI 0)), (0, .ref oT), (1, .int x1), (2, .int x2)]) hx hb dX7_load_35 hl (by decide) rfl (fun ls hl => ?_)
      obtain ⟨n6, hw⟩ := hw
      refine blk_X7_load_37 (CX := CX) (oT := oT) (oT_s := oT_s) (oT_aside := oT_aside) (oT_states := oT_states) (oT_snapshot := oT_snapshot) (oT_text := oT_text) (oT_serves := oT_serves) (oT_took := oT_took) (oT_tookMany := oT_tookMany) (oT_helps := oT_helps) (oT_before := oT_before) (oT_read := oT_read) (T_thrown := (nI 0)) (T_stateMany := T_stateMany) (T_hasSnapshot := T_hasSnapshot) (T_length := T_length) (T_stopNumber := T_stopNumber) (T_stopError := T_stopError) (T_at := T_at) (T_isWell := T_isWell) (T_readMany := T_readMany) (T_s := T_s) (x1 := x1) (x2 := x2) (HR := HR) (HK_89 := fun T_serves7 T_took8 T_tookMany9 T_helps10 x3_11 hw H locs ls hwd hl => ?_) n6 T_serves T_took T_tookMany T_helps (nI 0) x4_5 hw _ _ _ hwd (lv_sub hl [2, 3, 4, 1, 0] rfl)
      try dsimp only at hw
      refine lv_iload_n hx hb dX7_load_89 rfl (lv_at hl 0 rfl) ?_
      exact HR x3_11 (nI 0) T_serves7 T_took8 T_tookMany9 T_helps10 hw hwd dX7_load_90
    · replace hw := hw.2 c4
      refine lv_bipush (v := (-2)) hx hb dX7_load_24 rfl ?_
      exact HR (-2) (nI 0) T_serves T_took T_tookMany T_helps hw hwd dX7_load_26
  · replace hw := hw.2 c2
    refine lv_iconst (v := (-1)) hx hb dX7_load_12 rfl ?_
    exact HR (-1) (nI 0) T_serves T_took T_tookMany T_helps hw hwd dX7_load_13
abbrev ww_X7_ifLeft (cI cC : ClassId) (oT oT_s oT_aside oT_states oT_snapshot oT_text oT_serves oT_took oT_tookMany oT_helps oT_before oT_read : Nat) (T_thrown : Int32) (T_stateMany : Int32) (T_hasSnapshot : Int32) (T_length : Int32) (T_stopNumber : Int32) (T_stopError : Int32) (T_at : Int32) (T_isWell : Int32) (T_readMany : Int32) (T_s : Nat → Int32) (T_serves : Nat → Int32) (T_took : Nat → Int32) (T_tookMany : Nat → Int32) (T_helps : Nat → Int32) (T_before : Nat → Int32) : va_W := [(oT, .inr (7, [.int T_thrown, .ref oT_s, .ref oT_aside, .ref oT_states, .int T_stateMany, .ref oT_snapshot, .int T_hasSnapshot, .ref oT_text, .int T_length, .int T_stopNumber, .int T_stopError, .ref oT_serves, .ref oT_took, .ref oT_tookMany, .ref oT_helps, .ref oT_before, .int T_at, .int T_isWell, .ref oT_read, .int T_readMany])), (oT_s, .inl (cI, 474, .inl T_s)), (oT_serves, .inl (cI, 16, .inl T_serves)), (oT_took, .inl (cI, 30, .inl T_took)), (oT_tookMany, .inl (cI, 10, .inl T_tookMany)), (oT_helps, .inl (cI, 10, .inl T_helps)), (oT_before, .inl (cI, 10, .inl T_before))]
abbrev rm_X7_ifLeft : Room := { frames := 6, cells := 0, slots := 0, locals := 139 }
theorem ic_X7_ifLeft_X7 : ∀ w ∈ u_ws RX7 TX7 20, w ∈ wsX7_ifLeft := by
  intro w h
  simp only [wsX7_ifLeft, List.mem_cons, List.mem_append]
  simp only [h, or_true, true_or]
def wp_X7_ifLeft (T_thrown : Int32) (T_s : Nat → Int32) (T_serves : Nat → Int32) (T_took : Nat → Int32) (T_tookMany : Nat → Int32) (T_helps : Nat → Int32) (T_before : Nat → Int32) (x1 : Int32) (x2 : Int32) (x3 : Int32) (Q : Int32 → Int32 → (Nat → Int32) → (Nat → Int32) → (Nat → Int32) → (Nat → Int32) → (Nat → Int32) → (Nat → Int32) → Prop) : Prop := wp_X7_refusesDays T_s x1 x2 x3 (fun r1 => ((r1 = 0 → wp_X7_shortByMore T_s T_serves T_took T_tookMany T_helps T_before x1 x2 x3 (fun r3 T_s4 T_serves5 T_took6 T_tookMany7 T_helps8 T_before9 => Q r3 (nI 0) T_s4 T_serves5 T_took6 T_tookMany7 T_helps8 T_before9)) ∧ (¬ r1 = 0 → Q r1 (nI 0) T_s T_serves T_took T_tookMany T_helps T_before)))
set_option maxRecDepth 100000 in
set_option maxHeartbeats 4000000 in
theorem c_X7_ifLeft (l : Launch) {D : va_G} {cI cC cR : ClassId} (oT oT_s oT_aside oT_states oT_snapshot oT_text oT_serves oT_took oT_tookMany oT_helps oT_before oT_read : Nat) (sz : Nat) (T_thrown : Int32) (T_stateMany : Int32) (T_hasSnapshot : Int32) (T_length : Int32) (T_stopNumber : Int32) (T_stopError : Int32) (T_at : Int32) (T_isWell : Int32) (T_readMany : Int32) (T_s : Nat → Int32) (T_serves : Nat → Int32) (T_took : Nat → Int32) (T_tookMany : Nat → Int32) (T_helps : Nat → Int32) (T_before : Nat → Int32) (x1 : Int32) (x2 : Int32) (x3 : Int32) {Q : Int32 → Int32 → (Nat → Int32) → (Nat → Int32) → (Nat → Int32) → (Nat → Int32) → (Nat → Int32) → (Nat → Int32) → Prop} (hw : wp_X7_ifLeft T_thrown T_s T_serves T_took T_tookMany T_helps T_before x1 x2 x3 Q) : Met l yX7_ifLeft wsX7_ifLeft rm_X7_ifLeft (PcW D cI cC cR [.ref oT, .int x1, .int x2, .int x3] (ww_X7_ifLeft cI cC oT oT_s oT_aside oT_states oT_snapshot oT_text oT_serves oT_took oT_tookMany oT_helps oT_before oT_read T_thrown T_stateMany T_hasSnapshot T_length T_stopNumber T_stopError T_at T_isWell T_readMany T_s T_serves T_took T_tookMany T_helps T_before) sz) (QiW D (fun (r : Int32) (u : Int32 × (Nat → Int32) × (Nat → Int32) × (Nat → Int32) × (Nat → Int32) × (Nat → Int32) × (Nat → Int32)) => Q r u.1 u.2.1 u.2.2.1 u.2.2.2.1 u.2.2.2.2.1 u.2.2.2.2.2.1 u.2.2.2.2.2.2) (fun u => (ww_X7_ifLeft cI cC oT oT_s oT_aside oT_states oT_snapshot oT_text oT_serves oT_took oT_tookMany oT_helps oT_before oT_read (u.1) T_stateMany T_hasSnapshot T_length T_stopNumber T_stopError T_at T_isWell T_readMany (u.2.1) (u.2.2.1) (u.2.2.2.1) (u.2.2.2.2.1) (u.2.2.2.2.2.1) (u.2.2.2.2.2.2))) (ww_X7_ifLeft cI cC oT oT_s oT_aside oT_states oT_snapshot oT_text oT_serves oT_took oT_tookMany oT_helps oT_before oT_read T_thrown T_stateMany T_hasSnapshot T_length T_stopNumber T_stopError T_at T_isWell T_readMany T_s T_serves T_took T_tookMany T_helps T_before) sz) 0 0 (va_A (ww_X7_ifLeft cI cC oT oT_s oT_aside oT_states oT_snapshot oT_text oT_serves oT_took oT_tookMany oT_helps oT_before oT_read T_thrown T_stateMany T_hasSnapshot T_length T_stopNumber T_stopError T_at T_isWell T_readMany T_s T_serves T_took T_tookMany T_helps T_before) sz) := by
  refine Met.ofW (cc := cX7_ifLeft) (maxL := 5) (ret := (some .int)) (by decide) rfl ?_
  intro p e s m args below meth c s₁ B hml hv
  obtain ⟨rfl, hsz, hP, hKw, hD0⟩ := hv
  have hlocks := B.notSynchronized
  subst hsz
  have hD := hD0.self (sz := s.heap.size)
  have CX : cx cX7_ifLeft (some .int) 5 RX7 wsX7_ifLeft p m meth c s ([.ref oT, .int x1, .int x2, .int x3] : List Value).toArray D cI cC cR (va_A (ww_X7_ifLeft cI cC oT oT_s oT_aside oT_states oT_snapshot oT_text oT_serves oT_took oT_tookMany oT_helps oT_before oT_read T_thrown T_stateMany T_hasSnapshot T_length T_stopNumber T_stopError T_at T_isWell T_readMany T_s T_serves T_took T_tookMany T_helps T_before) s.heap.size) := ⟨B.exec, B.bytes, B.returns, hml, atoms_spec (ws := wsX7_ifLeft) B.pre, findClass_of_methodNamed B.named, hlocks, hKw, fun q h => Or.inr h⟩
  obtain ⟨hx, hb, hr, -, hts, hown, -, -, hA⟩ := id CX
  have hwd : wd D (va_A (ww_X7_ifLeft cI cC oT oT_s oT_aside oT_states oT_snapshot oT_text oT_serves oT_took oT_tookMany oT_helps oT_before oT_read T_thrown T_stateMany T_hasSnapshot T_length T_stopNumber T_stopError T_at T_isWell T_readMany T_s T_serves T_took T_tookMany T_helps T_before) s.heap.size) s (ww_X7_ifLeft cI cC oT oT_s oT_aside oT_states oT_snapshot oT_text oT_serves oT_took oT_tookMany oT_helps oT_before oT_read T_thrown T_stateMany T_hasSnapshot T_length T_stopNumber T_stopError T_at T_isWell T_readMany T_s T_serves T_took T_tookMany T_helps T_before) s.heap [] := ⟨hP, hD, va_S.rf⟩
  have hl := lv_entry ([.ref oT, .int x1, .int x2, .int x3]) (n := 5) (Nat.le_of_ble_eq_true rfl)
  rw [lg_entry_eq]
  generalize (lg_sl ([.ref oT, .int x1, .int x2, .int x3]) ++ List.replicate (5 - (lg_sl ([.ref oT, .int x1, .int x2, .int x3])).length) Slot.unset).toArray = ls at hl ⊢
  have hl : lv_has ls 5 [(0, .ref oT), (1, .int x1), (2, .int x2), (3, .int x3)] := hl
  have HR : ∀ (r : Int32) (u0 : Int32) (u1 : Nat → Int32) (u2 : Nat → Int32) (u3 : Nat → Int32) (u4 : Nat → Int32) (u5 : Nat → Int32) (u6 : Nat → Int32) {H : Heap} {locs : List Loc} {ls : Array Slot} {pc : Nat}, Q r u0 u1 u2 u3 u4 u5 u6 → wd D (va_A (ww_X7_ifLeft cI cC oT oT_s oT_aside oT_states oT_snapshot oT_text oT_serves oT_took oT_tookMany oT_helps oT_before oT_read T_thrown T_stateMany T_hasSnapshot T_length T_stopNumber T_stopError T_at T_isWell T_readMany T_s T_serves T_took T_tookMany T_helps T_before) s.heap.size) s (ww_X7_ifLeft cI cC oT oT_s oT_aside oT_states oT_snapshot oT_text oT_serves oT_took oT_tookMany oT_helps oT_before oT_read u0 T_stateMany T_hasSnapshot T_length T_stopNumber T_stopError T_at T_isWell T_readMany u1 u2 u3 u4 u5 u6) H locs → decode cX7_ifLeft pc = .ok (.ireturn, 1) → W p l e (headSpec wsX7_ifLeft rm_X7_ifLeft).room s m ([.ref oT, .int x1, .int x2, .int x3] : List Value).toArray below meth c H locs 0 0 (MQ below (QiW D (fun (r : Int32) (u : Int32 × (Nat → Int32) × (Nat → Int32) × (Nat → Int32) × (Nat → Int32) × (Nat → Int32) × (Nat → Int32)) => Q r u.1 u.2.1 u.2.2.1 u.2.2.2.1 u.2.2.2.2.1 u.2.2.2.2.2.1 u.2.2.2.2.2.2) (fun u => (ww_X7_ifLeft cI cC oT oT_s oT_aside oT_states oT_snapshot oT_text oT_serves oT_took oT_tookMany oT_helps oT_before oT_read (u.1) T_stateMany T_hasSnapshot T_length T_stopNumber T_stopError T_at T_isWell T_readMany (u.2.1) (u.2.2.1) (u.2.2.2.1) (u.2.2.2.2.1) (u.2.2.2.2.2.1) (u.2.2.2.2.2.2))) (ww_X7_ifLeft cI cC oT oT_s oT_aside oT_states oT_snapshot oT_text oT_serves oT_took oT_tookMany oT_helps oT_before oT_read T_thrown T_stateMany T_hasSnapshot T_length T_stopNumber T_stopError T_at T_isWell T_readMany T_s T_serves T_took T_tookMany T_helps T_before) s.heap.size) ([.ref oT, .int x1, .int x2, .int x3] : List Value).toArray s 0 0 (va_A (ww_X7_ifLeft cI cC oT oT_s oT_aside oT_states oT_snapshot oT_text oT_serves oT_took oT_tookMany oT_helps oT_before oT_read T_thrown T_stateMany T_hasSnapshot T_length T_stopNumber T_stopError T_at T_isWell T_readMany T_s T_serves T_took T_tookMany T_helps T_before) s.heap.size)) (F0 m pc ls [.int r]) := by
    intro r u0 u1 u2 u3 u4 u5 u6 H locs ls pc hq hw9 hd9
    exact W.iret (v := r) hx hb hr (fun t ht hW => ⟨⟨r, (u0, u1, u2, u3, u4, u5, u6), rfl, hq, by rw [ht]; exact hw9.1, hw9.2.1⟩, hw9.2.2.F ht⟩) hw9.2.2.2.2 hd9
  unfold wp_X7_ifLeft at hw
  refine lv_aload_n hx hb dX7_ifLeft_0 rfl (lv_at hl 0 rfl) ?_
  refine lv_iconst (v := (nI 0)) hx hb dX7_ifLeft_1 rfl ?_
  refine va_put (D := D) (ci := 7) (v := .int (nI 0)) (ty := .int) (C := RX7) (T := TX7) (N := 20) hx hb hts ic_X7_ifLeft_X7 tyX7 tyX7_ok nmX7 hown hKw.1 hwd.1 hwd.2.1 hwd.2.2 0 rfl rfl 0 (by decide) (hts (.fieldLink RX7 43 "DrillWardensModel" "thrown" "I") (List.mem_of_getElem? (i := 1) rfl)) (fun _ h9 => h9) rfl (tyX7_ok 0 (by decide)) rfl rfl (Nat.le_of_ble_eq_true rfl) dX7_ifLeft_2 (fun H locs h1 h2 h3 => ?_)
  replace hwd : wd D (va_A (ww_X7_ifLeft cI cC oT oT_s oT_aside oT_states oT_snapshot oT_text oT_serves oT_took oT_tookMany oT_helps oT_before oT_read T_thrown T_stateMany T_hasSnapshot T_length T_stopNumber T_stopError T_at T_isWell T_readMany T_s T_serves T_took T_tookMany T_helps T_before) s.heap.size) s (ww_X7_ifLeft cI cC oT oT_s oT_aside oT_states oT_snapshot oT_text oT_serves oT_took oT_tookMany oT_helps oT_before oT_read (nI 0) T_stateMany T_hasSnapshot T_length T_stopNumber T_stopError T_at T_isWell T_readMany T_s T_serves T_took T_tookMany T_helps T_before) H locs := ⟨h1, h2, h3⟩
  clear h1 h2 h3
  refine lv_aload_n hx hb dX7_ifLeft_5 rfl (lv_at hl 0 rfl) ?_
  refine lv_iload_n hx hb dX7_ifLeft_6 rfl (lv_at hl 1 rfl) ?_
  refine lv_iload_n hx hb dX7_ifLeft_7 rfl (lv_at hl 2 rfl) ?_
  refine lv_iload_n hx hb dX7_ifLeft_8 rfl (lv_at hl 3 rfl) ?_
  refine kcVi (W1 := (fun u => (ww_X7_ifLeft cI cC oT oT_s oT_aside oT_states oT_snapshot oT_text oT_serves oT_took oT_tookMany oT_helps oT_before oT_read (nI 0) T_stateMany T_hasSnapshot T_length T_stopNumber T_stopError T_at T_isWell T_readMany T_s T_serves T_took T_tookMany T_helps T_before))) (rest := []) (As := [.int x1, .int x2, .int x3]) ⟨Nat.le_of_ble_eq_true rfl, Nat.le_of_ble_eq_true rfl⟩ ⟨hx, hb, hml, hown, hts⟩ (c_X7_refusesDays l oT oT_s oT_aside oT_states oT_snapshot oT_text oT_serves oT_took oT_tookMany oT_helps oT_before oT_read H.size (nI 0) T_stateMany T_hasSnapshot T_length T_stopNumber T_stopError T_at T_isWell T_readMany T_s x1 x2 x3 hw) (cwV 3 hts gX7_ifLeft_X7_refusesDays rfl rfl rfl ⟨rfl, hd_X7_refusesDays⟩ ⟨Nat.le_of_ble_eq_true rfl, Nat.le_of_ble_eq_true rfl⟩) hKw hA hwd [0, 1] [2, 3, 4, 5, 6] [5, 6, 0, 1, 2, 3, 4] [(oT_serves, .inl (cI, 16, .inl T_serves)), (oT_took, .inl (cI, 30, .inl T_took)), (oT_tookMany, .inl (cI, 10, .inl T_tookMany)), (oT_helps, .inl (cI, 10, .inl T_helps)), (oT_before, .inl (cI, 10, .inl T_before))] rfl rfl rfl rfl (by decide) rfl (fun _ => rfl) 0 7 rfl rfl rfl rfl hl.1 rfl (lv_room (Nat.le_of_ble_eq_true rfl)) dX7_ifLeft_9 (fun r1 u H locs hw hwd => ?_)
  try dsimp only at hw
  replace hwd : wd D (va_A (ww_X7_ifLeft cI cC oT oT_s oT_aside oT_states oT_snapshot oT_text oT_serves oT_took oT_tookMany oT_helps oT_before oT_read T_thrown T_stateMany T_hasSnapshot T_length T_stopNumber T_stopError T_at T_isWell T_readMany T_s T_serves T_took T_tookMany T_helps T_before) s.heap.size) s (ww_X7_ifLeft cI cC oT oT_s oT_aside oT_states oT_snapshot oT_text oT_serves oT_took oT_tookMany oT_helps oT_before oT_read (nI 0) T_stateMany T_hasSnapshot T_length T_stopNumber T_stopError T_at T_isWell T_readMany T_s T_serves T_took T_tookMany T_helps T_before) H locs := hwd
  refine lv_istore (lv' := [(4, .int r1), (0, .ref oT), (1, .int x1), (2, .int x2), (3, .int x3)]) hx hb dX7_ifLeft_12 hl (by decide) rfl (fun ls hl => ?_)
  refine lv_iload hx hb dX7_ifLeft_14 (lv_at hl 0 rfl) ?_
  refine lv_if_eq (tgt := 24) hx hb dX7_ifLeft_16 (by decide) (fun c2 => ?_) (fun c2 => ?_)
  · replace hw := hw.1 c2
    refine lv_aload_n hx hb dX7_ifLeft_24 rfl (lv_at hl 1 rfl) ?_
    refine lv_iload_n hx hb dX7_ifLeft_25 rfl (lv_at hl 2 rfl) ?_
    refine lv_iload_n hx hb dX7_ifLeft_26 rfl (lv_at hl 3 rfl) ?_
    refine lv_iload_n hx hb dX7_ifLeft_27 rfl (lv_at hl 4 rfl) ?_
    refine kcVi (W1 := (fun u => (ww_X7_ifLeft cI cC oT oT_s oT_aside oT_states oT_snapshot oT_text oT_serves oT_took oT_tookMany oT_helps oT_before oT_read (nI 0) T_stateMany T_hasSnapshot T_length T_stopNumber T_stopError T_at T_isWell T_readMany (u.1) (u.2.1) (u.2.2.1) (u.2.2.2.1) (u.2.2.2.2.1) (u.2.2.2.2.2)))) (rest := []) (As := [.int x1, .int x2, .int x3]) ⟨Nat.le_of_ble_eq_true rfl, Nat.le_of_ble_eq_true rfl⟩ ⟨hx, hb, hml, hown, hts⟩ (c_X7_shortByMore l oT oT_s oT_aside oT_states oT_snapshot oT_text oT_serves oT_took oT_tookMany oT_helps oT_before oT_read H.size (nI 0) T_stateMany T_hasSnapshot T_length T_stopNumber T_stopError T_at T_isWell T_readMany T_s T_serves T_took T_tookMany T_helps T_before x1 x2 x3 hw) (cwV 3 hts gX7_ifLeft_X7_shortByMore rfl rfl rfl ⟨rfl, hd_X7_shortByMore⟩ ⟨Nat.le_of_ble_eq_true rfl, Nat.le_of_ble_eq_true rfl⟩) hKw hA hwd [0, 1, 2, 3, 4, 5, 6] [] [0, 1, 2, 3, 4, 5, 6] [] rfl rfl rfl rfl (by decide) rfl (fun _ => rfl) 0 7 rfl rfl rfl rfl hl.1 rfl (lv_room (Nat.le_of_ble_eq_true rfl)) dX7_ifLeft_28 (fun r3 u H locs hw hwd => ?_)
    obtain ⟨T_s4, T_serves5, T_took6, T_tookMany7, T_helps8, T_before9⟩ := u
    try dsimp only at hw
    replace hwd : wd D (va_A (ww_X7_ifLeft cI cC oT oT_s oT_aside oT_states oT_snapshot oT_text oT_serves oT_took oT_tookMany oT_helps oT_before oT_read T_thrown T_stateMany T_hasSnapshot T_length T_stopNumber T_stopError T_at T_isWell T_readMany T_s T_serves T_took T_tookMany T_helps T_before) s.heap.size) s (ww_X7_ifLeft cI cC oT oT_s oT_aside oT_states oT_snapshot oT_text oT_serves oT_took oT_tookMany oT_helps oT_before oT_read (nI 0) T_stateMany T_hasSnapshot T_length T_stopNumber T_stopError T_at T_isWell T_readMany T_s4 T_serves5 T_took6 T_tookMany7 T_helps8 T_before9) H locs := hwd
    exact HR r3 (nI 0) T_s4 T_serves5 T_took6 T_tookMany7 T_helps8 T_before9 hw hwd dX7_ifLeft_31
  · replace hw := hw.2 c2
    refine lv_iload hx hb dX7_ifLeft_19 (lv_at hl 0 rfl) ?_
    refine lv_goto (tgt := 31) hx hb dX7_ifLeft_21 (by decide) ?_
    exact HR r1 (nI 0) T_s T_serves T_took T_tookMany T_helps T_before hw hwd dX7_ifLeft_31
abbrev rm_X7_ones : Room := { frames := 0, cells := 0, slots := 0, locals := 0 }
def wb_X7_ones_4 (x0 : Int32) (K_24 : Int32 → Prop) : Nat → Int32 → Int32 → Prop
  | 0, _, _ => False
  | n + 1, x1, x2 => (((nI 10) ≤ x2 → K_24 x1) ∧ (¬ (nI 10) ≤ x2 → ∀ x1_2, x1_2 = x1 + ((x0 >>> (x2 &&& 31)) &&& (nI 1)) → ∀ x2_3, x2_3 = x2 + (nI 1) → wb_X7_ones_4 x0 K_24 n x1_2 x2_3))
set_option maxRecDepth 100000 in
set_option maxHeartbeats 4000000 in
theorem blk_X7_ones_4 {p : Program} {l : Launch} {e : Env} {s : State} {m : MethodId} {args : Array Value} {below : List Frame} {meth : Method} {c : Code} {D : va_G} {cI cC cR : ClassId} {A : Nat → Prop} {Z : State → Prop} (CX : cx cX7_ones (some .int) 3 RX7 wsX7_ones p m meth c s args D cI cC cR A) (x0 : Int32) {K_24 : Int32 → Prop} {Q : Int32 → Prop} (HR : ∀ (r : Int32) {H : Heap} {locs : List Loc} {ls : Array Slot} {pc : Nat}, Q r → wd D A s [] H locs → decode cX7_ones pc = .ok (.ireturn, 1) → W p l e (headSpec wsX7_ones rm_X7_ones).room s m args below meth c H locs 0 0 Z (F0 m pc ls [.int r])) (HK_24 : ∀ (x1y : Int32), K_24 x1y → ∀ (H : Heap) (locs : List Loc) (ls : Array Slot), wd D A s [] H locs → lv_has ls 3 [(1, .int x1y)] → W p l e (headSpec wsX7_ones rm_X7_ones).room s m args below meth c H locs 0 0 Z (F0 m 24 ls [])) : ∀ (n : Nat) (x1 : Int32) (x2 : Int32), wb_X7_ones_4 x0 K_24 n x1 x2 → ∀ (H : Heap) (locs : List Loc) (ls : Array Slot), wd D A s [] H locs → lv_has ls 3 [(0, .int x0), (1, .int x1), (2, .int x2)] → W p l e (headSpec wsX7_ones rm_X7_ones).room s m args below meth c H locs 0 0 Z (F0 m 4 ls []) := by
  obtain ⟨hx, hb, hr, hml, hts, hown, hlocks, hKw, hA⟩ := id CX
  intro n
  induction n with
  | zero => intro x1 x2 hw; exact False.elim hw
  | succ n ih =>
    intro x1 x2 hw H locs ls hwd hl
    rw [wb_X7_ones_4] at hw
    refine lv_iload_n hx hb dX7_ones_4 rfl (lv_at hl 2 rfl) ?_
    refine lv_bipush (v := (nI 10)) hx hb dX7_ones_5 rfl ?_
    refine lv_icmp_ge (tgt := 24) hx hb dX7_ones_7 (by decide) (fun c1 => ?_) (fun c1 => ?_)
    · replace hw := hw.1 c1
      exact HK_24 x1 hw _ _ _ hwd (lv_sub hl [1] rfl)
    · replace hw := hw.2 c1
      refine lv_iload_n hx hb dX7_ones_10 rfl (lv_at hl 1 rfl) ?_
      refine lv_iload_n hx hb dX7_ones_11 rfl (lv_at hl 0 rfl) ?_
      refine lv_iload_n hx hb dX7_ones_12 rfl (lv_at hl 2 rfl) ?_
      refine lv_ishr hx hb dX7_ones_13 ?_
      refine lv_iconst (v := (nI 1)) hx hb dX7_ones_14 rfl ?_
      refine lv_iand hx hb dX7_ones_15 ?_
      refine lv_iadd hx hb dX7_ones_16 ?_
      refine lv_topi (fun x1_2 e_x1_2 => ?_)
      replace hw := hw x1_2 e_x1_2
      refine lv_istore_n (lv' := [(1, .int x1_2), (0, .int x0), (2, .int x2)]) hx hb dX7_ones_17 rfl hl (by decide) rfl (fun ls hl => ?_)
      obtain ⟨x2_3, e_x2_3⟩ : ∃ y : Int32, y = x2 + (nI 1) := ⟨_, rfl⟩
      replace hw := hw x2_3 e_x2_3
      refine lv_iinc (v := x2_3) (lv' := [(2, .int x2_3), (1, .int x1_2), (0, .int x0)]) hx hb dX7_ones_18 hl (k := 2) rfl (by rw [e_x2_3]; rfl) (by decide) rfl (fun ls hl => ?_)
      refine lv_goto (tgt := 4) hx hb dX7_ones_21 (by decide) ?_
      exact ih x1_2 x2_3 hw _ _ _ hwd (lv_sub hl [2, 1, 0] rfl)
def wp_X7_ones  (x0 : Int32) (Q : Int32 → Prop) : Prop := (∃ n1, wb_X7_ones_4 x0 (fun x1_2 => Q x1_2) n1 (nI 0) (nI 0))
set_option maxRecDepth 100000 in
set_option maxHeartbeats 4000000 in
theorem c_X7_ones (l : Launch) {D : va_G} {cI cC cR : ClassId} (sz : Nat) (x0 : Int32) {Q : Int32 → Prop} (hw : wp_X7_ones x0 Q) : Met l yX7_ones wsX7_ones rm_X7_ones (PcW D cI cC cR [.int x0] [] sz) (QiW D (fun (r : Int32) (u : Unit) => Q r ) (fun _ => []) [] sz) 0 0 (va_A [] sz) := by
  refine Met.ofW (cc := cX7_ones) (maxL := 3) (ret := (some .int)) (by decide) rfl ?_
  intro p e s m args below meth c s₁ B hml hv
  obtain ⟨rfl, hsz, hP, hKw, hD0⟩ := hv
  have hlocks := B.notSynchronized
  subst hsz
  have hD := hD0.self (sz := s.heap.size)
  have CX : cx cX7_ones (some .int) 3 RX7 wsX7_ones p m meth c s ([.int x0] : List Value).toArray D cI cC cR (va_A [] s.heap.size) := ⟨B.exec, B.bytes, B.returns, hml, atoms_spec (ws := wsX7_ones) B.pre, findClass_of_methodNamed B.named, hlocks, hKw, fun q h => Or.inr h⟩
  obtain ⟨hx, hb, hr, -, hts, hown, -, -, hA⟩ := id CX
  have hwd : wd D (va_A [] s.heap.size) s [] s.heap [] := ⟨hP, hD, va_S.rf⟩
  have hl := lv_entry ([.int x0]) (n := 3) (Nat.le_of_ble_eq_true rfl)
  rw [lg_entry_eq]
  generalize (lg_sl ([.int x0]) ++ List.replicate (3 - (lg_sl ([.int x0])).length) Slot.unset).toArray = ls at hl ⊢
  have hl : lv_has ls 3 [(0, .int x0)] := hl
  have HR : ∀ (r : Int32) {H : Heap} {locs : List Loc} {ls : Array Slot} {pc : Nat}, Q r → wd D (va_A [] s.heap.size) s [] H locs → decode cX7_ones pc = .ok (.ireturn, 1) → W p l e (headSpec wsX7_ones rm_X7_ones).room s m ([.int x0] : List Value).toArray below meth c H locs 0 0 (MQ below (QiW D (fun (r : Int32) (u : Unit) => Q r ) (fun _ => []) [] s.heap.size) ([.int x0] : List Value).toArray s 0 0 (va_A [] s.heap.size)) (F0 m pc ls [.int r]) := by
    intro r H locs ls pc hq hw9 hd9
    exact W.iret (v := r) hx hb hr (fun t ht hW => ⟨⟨r, (), rfl, hq, by rw [ht]; exact hw9.1, hw9.2.1⟩, hw9.2.2.F ht⟩) hw9.2.2.2.2 hd9
  unfold wp_X7_ones at hw
  refine lv_iconst (v := (nI 0)) hx hb dX7_ones_0 rfl ?_
  refine lv_istore_n (lv' := [(1, .int (nI 0)), (0, .int x0)]) hx hb dX7_ones_1 rfl hl (by decide) rfl (fun ls hl => ?_)
  refine lv_iconst (v := (nI 0)) hx hb dX7_ones_2 rfl ?_
  refine lv_istore_n (lv' := [(2, .int (nI 0)), (1, .int (nI 0)), (0, .int x0)]) hx hb dX7_ones_3 rfl hl (by decide) rfl (fun ls hl => ?_)
  obtain ⟨n1, hw⟩ := hw
  refine blk_X7_ones_4 (CX := CX) (x0 := x0) (HR := HR) (HK_24 := fun x1_2 hw H locs ls hwd hl => ?_) n1 (nI 0) (nI 0) hw _ _ _ hwd (lv_sub hl [2, 1, 0] rfl)
  try dsimp only at hw
  refine lv_iload_n hx hb dX7_ones_24 rfl (lv_at hl 0 rfl) ?_
  exact HR x1_2 hw hwd dX7_ones_25
abbrev ww_X7_bestDay (cI cC : ClassId) (oT oT_s oT_aside oT_states oT_snapshot oT_text oT_serves oT_took oT_tookMany oT_helps oT_before oT_read : Nat) (T_thrown : Int32) (T_stateMany : Int32) (T_hasSnapshot : Int32) (T_length : Int32) (T_stopNumber : Int32) (T_stopError : Int32) (T_at : Int32) (T_isWell : Int32) (T_readMany : Int32) (T_s : Nat → Int32) (T_serves : Nat → Int32) (T_took : Nat → Int32) (T_tookMany : Nat → Int32) (T_helps : Nat → Int32) : va_W := [(oT, .inr (7, [.int T_thrown, .ref oT_s, .ref oT_aside, .ref oT_states, .int T_stateMany, .ref oT_snapshot, .int T_hasSnapshot, .ref oT_text, .int T_length, .int T_stopNumber, .int T_stopError, .ref oT_serves, .ref oT_took, .ref oT_tookMany, .ref oT_helps, .ref oT_before, .int T_at, .int T_isWell, .ref oT_read, .int T_readMany])), (oT_s, .inl (cI, 474, .inl T_s)), (oT_serves, .inl (cI, 16, .inl T_serves)), (oT_took, .inl (cI, 30, .inl T_took)), (oT_tookMany, .inl (cI, 10, .inl T_tookMany)), (oT_helps, .inl (cI, 10, .inl T_helps))]
abbrev rm_X7_bestDay : Room := { frames := 5, cells := 0, slots := 0, locals := 113 }
theorem ic_X7_bestDay_X7 : ∀ w ∈ u_ws RX7 TX7 20, w ∈ wsX7_bestDay := by
  intro w h
  simp only [wsX7_bestDay, List.mem_cons, List.mem_append]
  simp only [h, or_true, true_or]
def wb_X7_bestDay_58 (T_s : Nat → Int32) (T_tookMany : Nat → Int32) (K_95 : Int32 → Prop) : Nat → Int32 → Int32 → Prop
  | 0, _, _ => False
  | n + 1, x5, x6 => (((nI 10) ≤ x6 → K_95 x5) ∧ (¬ (nI 10) ≤ x6 → wp_X7_shortBy T_s T_tookMany x6 (fun r2 => ((r2 ≤ 0 → ∀ x5_4, x5_4 = x5 &&& (-1) → ∀ x6_5, x6_5 = x6 + (nI 1) → wb_X7_bestDay_58 T_s T_tookMany K_95 n x5_4 x6_5) ∧ (¬ r2 ≤ 0 → ∀ x5_6, x5_6 = x5 &&& (((nI 1) <<< (x6 &&& 31)) ^^^ (-1)) → ∀ x6_7, x6_7 = x6 + (nI 1) → wb_X7_bestDay_58 T_s T_tookMany K_95 n x5_6 x6_7)))))
set_option maxRecDepth 100000 in
set_option maxHeartbeats 4000000 in
theorem blk_X7_bestDay_58 {p : Program} {l : Launch} {e : Env} {s : State} {m : MethodId} {args : Array Value} {below : List Frame} {meth : Method} {c : Code} {D : va_G} {cI cC cR : ClassId} {A : Nat → Prop} {Z : State → Prop} (CX : cx cX7_bestDay (some .int) 7 RX7 wsX7_bestDay p m meth c s args D cI cC cR A) (oT oT_s oT_aside oT_states oT_snapshot oT_text oT_serves oT_took oT_tookMany oT_helps oT_before oT_read : Nat) (T_thrown : Int32) (T_stateMany : Int32) (T_hasSnapshot : Int32) (T_length : Int32) (T_stopNumber : Int32) (T_stopError : Int32) (T_at : Int32) (T_isWell : Int32) (T_readMany : Int32) (T_s : Nat → Int32) (T_serves : Nat → Int32) (T_took : Nat → Int32) (T_tookMany : Nat → Int32) (T_helps : Nat → Int32) (x1 : Int32) (x2 : Int32) (x3 : Int32) (x4 : Int32) {K_95 : Int32 → Prop} {Q : Int32 → Int32 → (Nat → Int32) → (Nat → Int32) → (Nat → Int32) → (Nat → Int32) → Prop} (HR : ∀ (r : Int32) (u0 : Int32) (u1 : Nat → Int32) (u2 : Nat → Int32) (u3 : Nat → Int32) (u4 : Nat → Int32) {H : Heap} {locs : List Loc} {ls : Array Slot} {pc : Nat}, Q r u0 u1 u2 u3 u4 → wd D A s (ww_X7_bestDay cI cC oT oT_s oT_aside oT_states oT_snapshot oT_text oT_serves oT_took oT_tookMany oT_helps oT_before oT_read u0 T_stateMany T_hasSnapshot T_length T_stopNumber T_stopError T_at T_isWell T_readMany T_s u1 u2 u3 u4) H locs → decode cX7_bestDay pc = .ok (.ireturn, 1) → W p l e (headSpec wsX7_bestDay rm_X7_bestDay).room s m args below meth c H locs 0 0 Z (F0 m pc ls [.int r])) (HK_95 : ∀ (x5y : Int32), K_95 x5y → ∀ (H : Heap) (locs : List Loc) (ls : Array Slot), wd D A s (ww_X7_bestDay cI cC oT oT_s oT_aside oT_states oT_snapshot oT_text oT_serves oT_took oT_tookMany oT_helps oT_before oT_read T_thrown T_stateMany T_hasSnapshot T_length T_stopNumber T_stopError T_at T_isWell T_readMany T_s T_serves T_took T_tookMany T_helps) H locs → lv_has ls 7 [(0, .ref oT), (1, .int x1), (2, .int x2), (3, .int x3), (4, .int x4), (5, .int x5y)] → W p l e (headSpec wsX7_bestDay rm_X7_bestDay).room s m args below meth c H locs 0 0 Z (F0 m 95 ls [])) : ∀ (n : Nat) (x5 : Int32) (x6 : Int32), wb_X7_bestDay_58 T_s T_tookMany K_95 n x5 x6 → ∀ (H : Heap) (locs : List Loc) (ls : Array Slot), wd D A s (ww_X7_bestDay cI cC oT oT_s oT_aside oT_states oT_snapshot oT_text oT_serves oT_took oT_tookMany oT_helps oT_before oT_read T_thrown T_stateMany T_hasSnapshot T_length T_stopNumber T_stopError T_at T_isWell T_readMany T_s T_serves T_took T_tookMany T_helps) H locs → lv_has ls 7 [(0, .ref oT), (1, .int x1), (2, .int x2), (3, .int x3), (4, .int x4), (5, .int x5), (6, .int x6)] → W p l e (headSpec wsX7_bestDay rm_X7_bestDay).room s m args below meth c H locs 0 0 Z (F0 m 58 ls []) := by
  obtain ⟨hx, hb, hr, hml, hts, hown, hlocks, hKw, hA⟩ := id CX
  intro n
  induction n with
  | zero => intro x5 x6 hw; exact False.elim hw
  | succ n ih =>
    intro x5 x6 hw H locs ls hwd hl
    rw [wb_X7_bestDay_58] at hw
    refine lv_iload hx hb dX7_bestDay_58 (lv_at hl 6 rfl) ?_
    refine lv_bipush (v := (nI 10)) hx hb dX7_bestDay_60 rfl ?_
    refine lv_icmp_ge (tgt := 95) hx hb dX7_bestDay_62 (by decide) (fun c1 => ?_) (fun c1 => ?_)
    · replace hw := hw.1 c1
      exact HK_95 x5 hw _ _ _ hwd (lv_sub hl [0, 1, 2, 3, 4, 5] rfl)
    · replace hw := hw.2 c1
      refine lv_iload hx hb dX7_bestDay_65 (lv_at hl 5 rfl) ?_
      refine lv_aload_n hx hb dX7_bestDay_67 rfl (lv_at hl 0 rfl) ?_
      refine lv_iload hx hb dX7_bestDay_68 (lv_at hl 6 rfl) ?_
      refine kcVi (W1 := (fun u => (ww_X7_bestDay cI cC oT oT_s oT_aside oT_states oT_snapshot oT_text oT_serves oT_took oT_tookMany oT_helps oT_before oT_read T_thrown T_stateMany T_hasSnapshot T_length T_stopNumber T_stopError T_at T_isWell T_readMany T_s T_serves T_took T_tookMany T_helps))) (rest := [.int x5]) (As := [.int x6]) ⟨Nat.le_of_ble_eq_true rfl, Nat.le_of_ble_eq_true rfl⟩ ⟨hx, hb, hml, hown, hts⟩ (c_X7_shortBy l oT oT_s oT_aside oT_states oT_snapshot oT_text oT_serves oT_took oT_tookMany oT_helps oT_before oT_read H.size T_thrown T_stateMany T_hasSnapshot T_length T_stopNumber T_stopError T_at T_isWell T_readMany T_s T_tookMany x6 hw) (cwV 1 hts gX7_bestDay_X7_shortBy rfl rfl rfl ⟨rfl, hd_X7_shortBy⟩ ⟨Nat.le_of_ble_eq_true rfl, Nat.le_of_ble_eq_true rfl⟩) hKw hA hwd [0, 1, 4] [2, 3, 5] [3, 4, 0, 1, 5, 2] [(oT_serves, .inl (cI, 16, .inl T_serves)), (oT_took, .inl (cI, 30, .inl T_took)), (oT_helps, .inl (cI, 10, .inl T_helps))] rfl rfl rfl rfl (by decide) rfl (fun _ => rfl) 0 7 rfl rfl rfl rfl hl.1 rfl (lv_room (Nat.le_of_ble_eq_true rfl)) dX7_bestDay_70 (fun r2 u H locs hw hwd => ?_)
      try dsimp only at hw
      replace hwd : wd D A s (ww_X7_bestDay cI cC oT oT_s oT_aside oT_states oT_snapshot oT_text oT_serves oT_took oT_tookMany oT_helps oT_before oT_read T_thrown T_stateMany T_hasSnapshot T_length T_stopNumber T_stopError T_at T_isWell T_readMany T_s T_serves T_took T_tookMany T_helps) H locs := hwd
      refine lv_if_le (tgt := 85) hx hb dX7_bestDay_73 (by decide) (fun c3 => ?_) (fun c3 => ?_)
      · replace hw := hw.1 c3
        refine lv_iconst (v := (-1)) hx hb dX7_bestDay_85 rfl ?_
        refine lv_iand hx hb dX7_bestDay_86 ?_
        refine lv_topi (fun x5_4 e_x5_4 => ?_)
        replace hw := hw x5_4 e_x5_4
        refine lv_istore (lv' := [(5, .int x5_4), (0, .ref oT), (1, .int x1), (2, .int x2), (3, .int x3), (4, .int x4), (6, .int x6)]) hx hb dX7_bestDay_87 hl (by decide) rfl (fun ls hl => ?_)
        obtain ⟨x6_5, e_x6_5⟩ : ∃ y : Int32, y = x6 + (nI 1) := ⟨_, rfl⟩
        replace hw := hw x6_5 e_x6_5
        refine lv_iinc (v := x6_5) (lv' := [(6, .int x6_5), (5, .int x5_4), (0, .ref oT), (1, .int x1), (2, .int x2), (3, .int x3), (4, .int x4)]) hx hb dX7_bestDay_89 hl (k := 6) rfl (by rw [e_x6_5]; rfl) (by decide) rfl (fun ls hl => ?_)
        refine lv_goto (tgt := 58) hx hb dX7_bestDay_92 (by decide) ?_
        exact ih x5_4 x6_5 hw _ _ _ hwd (lv_sub hl [2, 3, 4, 5, 6, 1, 0] rfl)
      · replace hw := hw.2 c3
        refine lv_iconst (v := (nI 1)) hx hb dX7_bestDay_76 rfl ?_
        refine lv_iload hx hb dX7_bestDay_77 (lv_at hl 6 rfl) ?_
        refine lv_ishl hx hb dX7_bestDay_79 ?_
        refine lv_iconst (v := (-1)) hx hb dX7_bestDay_80 rfl ?_
        refine lv_ixor hx hb dX7_bestDay_81 ?_
        refine lv_goto (tgt := 86) hx hb dX7_bestDay_82 (by decide) ?_
        refine lv_iand hx hb dX7_bestDay_86 ?_
        refine lv_topi (fun x5_6 e_x5_6 => ?_)
        replace hw := hw x5_6 e_x5_6
        refine lv_istore (lv' := [(5, .int x5_6), (0, .ref oT), (1, .int x1), (2, .int x2), (3, .int x3), (4, .int x4), (6, .int x6)]) hx hb dX7_bestDay_87 hl (by decide) rfl (fun ls hl => ?_)
        obtain ⟨x6_7, e_x6_7⟩ : ∃ y : Int32, y = x6 + (nI 1) := ⟨_, rfl⟩
        replace hw := hw x6_7 e_x6_7
        refine lv_iinc (v := x6_7) (lv' := [(6, .int x6_7), (5, .int x5_6), (0, .ref oT), (1, .int x1), (2, .int x2), (3, .int x3), (4, .int x4)]) hx hb dX7_bestDay_89 hl (k := 6) rfl (by rw [e_x6_7]; rfl) (by decide) rfl (fun ls hl => ?_)
        refine lv_goto (tgt := 58) hx hb dX7_bestDay_92 (by decide) ?_
        exact ih x5_6 x6_7 hw _ _ _ hwd (lv_sub hl [2, 3, 4, 5, 6, 1, 0] rfl)
def wb_X7_bestDay_125 (T_serves : Nat → Int32) (T_took : Nat → Int32) (T_tookMany : Nat → Int32) (T_helps : Nat → Int32) (x3 : Int32) (x4 : Int32) (x5 : Int32) (x6 : Int32) (K_30 : (Nat → Int32) → (Nat → Int32) → (Nat → Int32) → (Nat → Int32) → Int32 → Int32 → Int32 → Prop) (st0 : Int32) : Prop := ((x6 = 0 → ∀ x4_2, x4_2 = x4 + (nI 1) → K_30 T_serves T_took T_tookMany T_helps st0 x3 x4_2) ∧ (¬ x6 = 0 → ∀ x4_3, x4_3 = x4 + (nI 1) → K_30 T_serves T_took T_tookMany T_helps st0 x5 x4_3))
set_option maxRecDepth 100000 in
set_option maxHeartbeats 4000000 in
theorem blk_X7_bestDay_125 {p : Program} {l : Launch} {e : Env} {s : State} {m : MethodId} {args : Array Value} {below : List Frame} {meth : Method} {c : Code} {D : va_G} {cI cC cR : ClassId} {A : Nat → Prop} {Z : State → Prop} (CX : cx cX7_bestDay (some .int) 7 RX7 wsX7_bestDay p m meth c s args D cI cC cR A) (oT oT_s oT_aside oT_states oT_snapshot oT_text oT_serves oT_took oT_tookMany oT_helps oT_before oT_read : Nat) (T_thrown : Int32) (T_stateMany : Int32) (T_hasSnapshot : Int32) (T_length : Int32) (T_stopNumber : Int32) (T_stopError : Int32) (T_at : Int32) (T_isWell : Int32) (T_readMany : Int32) (T_s : Nat → Int32) (T_serves : Nat → Int32) (T_took : Nat → Int32) (T_tookMany : Nat → Int32) (T_helps : Nat → Int32) (x1 : Int32) (x3 : Int32) (x4 : Int32) (x5 : Int32) (x6 : Int32) {K_30 : (Nat → Int32) → (Nat → Int32) → (Nat → Int32) → (Nat → Int32) → Int32 → Int32 → Int32 → Prop} {Q : Int32 → Int32 → (Nat → Int32) → (Nat → Int32) → (Nat → Int32) → (Nat → Int32) → Prop} (HR : ∀ (r : Int32) (u0 : Int32) (u1 : Nat → Int32) (u2 : Nat → Int32) (u3 : Nat → Int32) (u4 : Nat → Int32) {H : Heap} {locs : List Loc} {ls : Array Slot} {pc : Nat}, Q r u0 u1 u2 u3 u4 → wd D A s (ww_X7_bestDay cI cC oT oT_s oT_aside oT_states oT_snapshot oT_text oT_serves oT_took oT_tookMany oT_helps oT_before oT_read u0 T_stateMany T_hasSnapshot T_length T_stopNumber T_stopError T_at T_isWell T_readMany T_s u1 u2 u3 u4) H locs → decode cX7_bestDay pc = .ok (.ireturn, 1) → W p l e (headSpec wsX7_bestDay rm_X7_bestDay).room s m args below meth c H locs 0 0 Z (F0 m pc ls [.int r])) (HK_30 : ∀ (T_servesy : Nat → Int32) (T_tooky : Nat → Int32) (T_tookManyy : Nat → Int32) (T_helpsy : Nat → Int32) (x2y : Int32) (x3y : Int32) (x4y : Int32), K_30 T_servesy T_tooky T_tookManyy T_helpsy x2y x3y x4y → ∀ (H : Heap) (locs : List Loc) (ls : Array Slot), wd D A s (ww_X7_bestDay cI cC oT oT_s oT_aside oT_states oT_snapshot oT_text oT_serves oT_took oT_tookMany oT_helps oT_before oT_read T_thrown T_stateMany T_hasSnapshot T_length T_stopNumber T_stopError T_at T_isWell T_readMany T_s T_servesy T_tooky T_tookManyy T_helpsy) H locs → lv_has ls 7 [(0, .ref oT), (1, .int x1), (2, .int x2y), (3, .int x3y), (4, .int x4y)] → W p l e (headSpec wsX7_bestDay rm_X7_bestDay).room s m args below meth c H locs 0 0 Z (F0 m 30 ls [])) : ∀ (st0 : Int32), wb_X7_bestDay_125 T_serves T_took T_tookMany T_helps x3 x4 x5 x6 K_30 st0 → ∀ (H : Heap) (locs : List Loc) (ls : Array Slot), wd D A s (ww_X7_bestDay cI cC oT oT_s oT_aside oT_states oT_snapshot oT_text oT_serves oT_took oT_tookMany oT_helps oT_before oT_read T_thrown T_stateMany T_hasSnapshot T_length T_stopNumber T_stopError T_at T_isWell T_readMany T_s T_serves T_took T_tookMany T_helps) H locs → lv_has ls 7 [(0, .ref oT), (1, .int x1), (3, .int x3), (4, .int x4), (5, .int x5), (6, .int x6)] → W p l e (headSpec wsX7_bestDay rm_X7_bestDay).room s m args below meth c H locs 0 0 Z (F0 m 125 ls [.int st0]) := by
  obtain ⟨hx, hb, hr, hml, hts, hown, hlocks, hKw, hA⟩ := id CX
  intro st0 hw H locs ls hwd hl
  unfold wb_X7_bestDay_125 at hw
  refine lv_istore_n (lv' := [(2, .int st0), (0, .ref oT), (1, .int x1), (3, .int x3), (4, .int x4), (5, .int x5), (6, .int x6)]) hx hb dX7_bestDay_125 rfl hl (by decide) rfl (fun ls hl => ?_)
  refine lv_iload hx hb dX7_bestDay_126 (lv_at hl 6 rfl) ?_
  refine lv_if_eq (tgt := 136) hx hb dX7_bestDay_128 (by decide) (fun c1 => ?_) (fun c1 => ?_)
  · replace hw := hw.1 c1
    refine lv_iload_n hx hb dX7_bestDay_136 rfl (lv_at hl 3 rfl) ?_
    refine lv_istore_n (lv' := [(3, .int x3), (2, .int st0), (0, .ref oT), (1, .int x1), (4, .int x4), (5, .int x5), (6, .int x6)]) hx hb dX7_bestDay_137 rfl hl (by decide) rfl (fun ls hl => ?_)
    obtain ⟨x4_2, e_x4_2⟩ : ∃ y : Int32, y = x4 + (nI 1) := ⟨_, rfl⟩
    replace hw := hw x4_2 e_x4_2
    refine lv_iinc (v := x4_2) (lv' := [(4, .int x4_2), (3, .int x3), (2, .int st0), (0, .ref oT), (1, .int x1), (5, .int x5), (6, .int x6)]) hx hb dX7_bestDay_138 hl (k := 4) rfl (by rw [e_x4_2]; rfl) (by decide) rfl (fun ls hl => ?_)
    refine lv_goto (tgt := 30) hx hb dX7_bestDay_141 (by decide) ?_
    exact HK_30 T_serves T_took T_tookMany T_helps st0 x3 x4_2 hw _ _ _ hwd (lv_sub hl [3, 4, 2, 1, 0] rfl)
  · replace hw := hw.2 c1
    refine lv_iload hx hb dX7_bestDay_131 (lv_at hl 5 rfl) ?_
    refine lv_goto (tgt := 137) hx hb dX7_bestDay_133 (by decide) ?_
    refine lv_istore_n (lv' := [(3, .int x5), (2, .int st0), (0, .ref oT), (1, .int x1), (4, .int x4), (5, .int x5), (6, .int x6)]) hx hb dX7_bestDay_137 rfl hl (by decide) rfl (fun ls hl => ?_)
    obtain ⟨x4_3, e_x4_3⟩ : ∃ y : Int32, y = x4 + (nI 1) := ⟨_, rfl⟩
    replace hw := hw x4_3 e_x4_3
    refine lv_iinc (v := x4_3) (lv' := [(4, .int x4_3), (3, .int x5), (2, .int st0), (0, .ref oT), (1, .int x1), (5, .int x5), (6, .int x6)]) hx hb dX7_bestDay_138 hl (k := 4) rfl (by rw [e_x4_3]; rfl) (by decide) rfl (fun ls hl => ?_)
    refine lv_goto (tgt := 30) hx hb dX7_bestDay_141 (by decide) ?_
    exact HK_30 T_serves T_took T_tookMany T_helps st0 x5 x4_3 hw _ _ _ hwd (lv_sub hl [3, 4, 2, 1, 0] rfl)
def wb_X7_bestDay_30 (T_s : Nat → Int32) (K_144 : (Nat → Int32) → (Nat → Int32) → (Nat → Int32) → (Nat → Int32) → Int32 → Int32 → Prop) : Nat → (Nat → Int32) → (Nat → Int32) → (Nat → Int32) → (Nat → Int32) → Int32 → Int32 → Int32 → Prop
  | 0, _, _, _, _, _, _, _ => False
  | n + 1, T_serves, T_took, T_tookMany, T_helps, x2, x3, x4 => (((nI 399) < x4 → K_144 T_serves T_took T_tookMany T_helps x2 x3) ∧ (¬ (nI 399) < x4 → wp_X7_plans T_s T_serves T_took T_tookMany T_helps x4 (fun T_serves2 T_took3 T_tookMany4 T_helps5 => wp_X7_dueIn T_s (x4 / (nI 100)) (fun r6 => (∃ n7, wb_X7_bestDay_58 T_s T_tookMany4 (fun x5_8 => wp_X7_ones x5_8 (fun r9 => wp_X7_ones x3 (fun r10 => ((r9 ≤ r10 → (((nI 0) = 0 → wb_X7_bestDay_125 T_serves2 T_took3 T_tookMany4 T_helps5 x3 x4 x5_8 (nI 0) (fun T_servesz T_tookz T_tookManyz T_helpsz x2z x3z x4z => wb_X7_bestDay_30 T_s K_144 n T_servesz T_tookz T_tookManyz T_helpsz x2z x3z x4z) x2) ∧ (¬ (nI 0) = 0 → wb_X7_bestDay_125 T_serves2 T_took3 T_tookMany4 T_helps5 x3 x4 x5_8 (nI 0) (fun T_servesz T_tookz T_tookManyz T_helpsz x2z x3z x4z => wb_X7_bestDay_30 T_s K_144 n T_servesz T_tookz T_tookManyz T_helpsz x2z x3z x4z) x4))) ∧ (¬ r9 ≤ r10 → (((nI 1) = 0 → wb_X7_bestDay_125 T_serves2 T_took3 T_tookMany4 T_helps5 x3 x4 x5_8 (nI 1) (fun T_servesz T_tookz T_tookManyz T_helpsz x2z x3z x4z => wb_X7_bestDay_30 T_s K_144 n T_servesz T_tookz T_tookManyz T_helpsz x2z x3z x4z) x2) ∧ (¬ (nI 1) = 0 → wb_X7_bestDay_125 T_serves2 T_took3 T_tookMany4 T_helps5 x3 x4 x5_8 (nI 1) (fun T_servesz T_tookz T_tookManyz T_helpsz x2z x3z x4z => wb_X7_bestDay_30 T_s K_144 n T_servesz T_tookz T_tookManyz T_helpsz x2z x3z x4z) x4))))))) n7 r6 (nI 0))))))
set_option maxRecDepth 100000 in
set_option maxHeartbeats 4000000 in
theorem blk_X7_bestDay_30 {p : Program} {l : Launch} {e : Env} {s : State} {m : MethodId} {args : Array Value} {below : List Frame} {meth : Method} {c : Code} {D : va_G} {cI cC cR : ClassId} {A : Nat → Prop} {Z : State → Prop} (CX : cx cX7_bestDay (some .int) 7 RX7 wsX7_bestDay p m meth c s args D cI cC cR A) (oT oT_s oT_aside oT_states oT_snapshot oT_text oT_serves oT_took oT_tookMany oT_helps oT_before oT_read : Nat) (T_thrown : Int32) (T_stateMany : Int32) (T_hasSnapshot : Int32) (T_length : Int32) (T_stopNumber : Int32) (T_stopError : Int32) (T_at : Int32) (T_isWell : Int32) (T_readMany : Int32) (T_s : Nat → Int32) (x1 : Int32) {K_144 : (Nat → Int32) → (Nat → Int32) → (Nat → Int32) → (Nat → Int32) → Int32 → Int32 → Prop} {Q : Int32 → Int32 → (Nat → Int32) → (Nat → Int32) → (Nat → Int32) → (Nat → Int32) → Prop} (HR : ∀ (r : Int32) (u0 : Int32) (u1 : Nat → Int32) (u2 : Nat → Int32) (u3 : Nat → Int32) (u4 : Nat → Int32) {H : Heap} {locs : List Loc} {ls : Array Slot} {pc : Nat}, Q r u0 u1 u2 u3 u4 → wd D A s (ww_X7_bestDay cI cC oT oT_s oT_aside oT_states oT_snapshot oT_text oT_serves oT_took oT_tookMany oT_helps oT_before oT_read u0 T_stateMany T_hasSnapshot T_length T_stopNumber T_stopError T_at T_isWell T_readMany T_s u1 u2 u3 u4) H locs → decode cX7_bestDay pc = .ok (.ireturn, 1) → W p l e (headSpec wsX7_bestDay rm_X7_bestDay).room s m args below meth c H locs 0 0 Z (F0 m pc ls [.int r])) (HK_144 : ∀ (T_servesy : Nat → Int32) (T_tooky : Nat → Int32) (T_tookManyy : Nat → Int32) (T_helpsy : Nat → Int32) (x2y : Int32) (x3y : Int32), K_144 T_servesy T_tooky T_tookManyy T_helpsy x2y x3y → ∀ (H : Heap) (locs : List Loc) (ls : Array Slot), wd D A s (ww_X7_bestDay cI cC oT oT_s oT_aside oT_states oT_snapshot oT_text oT_serves oT_took oT_tookMany oT_helps oT_before oT_read T_thrown T_stateMany T_hasSnapshot T_length T_stopNumber T_stopError T_at T_isWell T_readMany T_s T_servesy T_tooky T_tookManyy T_helpsy) H locs → lv_has ls 7 [(1, .int x1), (2, .int x2y), (3, .int x3y)] → W p l e (headSpec wsX7_bestDay rm_X7_bestDay).room s m args below meth c H locs 0 0 Z (F0 m 144 ls [])) : ∀ (n : Nat) (T_serves : Nat → Int32) (T_took : Nat → Int32) (T_tookMany : Nat → Int32) (T_helps : Nat → Int32) (x2 : Int32) (x3 : Int32) (x4 : Int32), wb_X7_bestDay_30 T_s K_144 n T_serves T_took T_tookMany T_helps x2 x3 x4 → ∀ (H : Heap) (locs : List Loc) (ls : Array Slot), wd D A s (ww_X7_bestDay cI cC oT oT_s oT_aside oT_states oT_snapshot oT_text oT_serves oT_took oT_tookMany oT_helps oT_before oT_read T_thrown T_stateMany T_hasSnapshot T_length T_stopNumber T_stopError T_at T_isWell T_readMany T_s T_serves T_took T_tookMany T_helps) H locs → lv_has ls 7 [(0, .ref oT), (1, .int x1), (2, .int x2), (3, .int x3), (4, .int x4)] → W p l e (headSpec wsX7_bestDay rm_X7_bestDay).room s m args below meth c H locs 0 0 Z (F0 m 30 ls []) := by
  obtain ⟨hx, hb, hr, hml, hts, hown, hlocks, hKw, hA⟩ := id CX
  intro n
  induction n with
  | zero => intro T_serves T_took T_tookMany T_helps x2 x3 x4 hw; exact False.elim hw
  | succ n ih =>
    intro T_serves T_took T_tookMany T_helps x2 x3 x4 hw H locs ls hwd hl
    rw [wb_X7_bestDay_30] at hw
    refine lv_iload hx hb dX7_bestDay_30 (lv_at hl 4 rfl) ?_
    refine lv_sipush (v := (nI 399)) hx hb dX7_bestDay_32 rfl ?_
    refine lv_icmp_gt (tgt := 144) hx hb dX7_bestDay_35 (by decide) (fun c1 => ?_) (fun c1 => ?_)
    · replace hw := hw.1 c1
      exact HK_144 T_serves T_took T_tookMany T_helps x2 x3 hw _ _ _ hwd (lv_sub hl [1, 2, 3] rfl)
    · replace hw := hw.2 c1
      refine lv_aload_n hx hb dX7_bestDay_38 rfl (lv_at hl 0 rfl) ?_
      refine lv_iload hx hb dX7_bestDay_39 (lv_at hl 4 rfl) ?_
      refine kcVv (W1 := (fun u => (ww_X7_bestDay cI cC oT oT_s oT_aside oT_states oT_snapshot oT_text oT_serves oT_took oT_tookMany oT_helps oT_before oT_read T_thrown T_stateMany T_hasSnapshot T_length T_stopNumber T_stopError T_at T_isWell T_readMany T_s (u.1) (u.2.1) (u.2.2.1) (u.2.2.2)))) (rest := []) (As := [.int x4]) ⟨Nat.le_of_ble_eq_true rfl, Nat.le_of_ble_eq_true rfl⟩ ⟨hx, hb, hml, hown, hts⟩ (c_X7_plans l oT oT_s oT_aside oT_states oT_snapshot oT_text oT_serves oT_took oT_tookMany oT_helps oT_before oT_read H.size T_thrown T_stateMany T_hasSnapshot T_length T_stopNumber T_stopError T_at T_isWell T_readMany T_s T_serves T_took T_tookMany T_helps x4 hw) (cwV 1 hts gX7_bestDay_X7_plans rfl rfl rfl ⟨rfl, hd_X7_plans⟩ ⟨Nat.le_of_ble_eq_true rfl, Nat.le_of_ble_eq_true rfl⟩) hKw hA hwd [0, 1, 2, 3, 4, 5] [] [0, 1, 2, 3, 4, 5] [] rfl rfl rfl rfl (by decide) rfl (fun _ => rfl) 0 7 rfl rfl rfl rfl hl.1 rfl (lv_room (Nat.le_of_ble_eq_true rfl)) dX7_bestDay_41 (fun u H locs hw hwd => ?_)
      obtain ⟨T_serves2, T_took3, T_tookMany4, T_helps5⟩ := u
      try dsimp only at hw
      replace hwd : wd D A s (ww_X7_bestDay cI cC oT oT_s oT_aside oT_states oT_snapshot oT_text oT_serves oT_took oT_tookMany oT_helps oT_before oT_read T_thrown T_stateMany T_hasSnapshot T_length T_stopNumber T_stopError T_at T_isWell T_readMany T_s T_serves2 T_took3 T_tookMany4 T_helps5) H locs := hwd
      refine lv_aload_n hx hb dX7_bestDay_44 rfl (lv_at hl 0 rfl) ?_
      refine lv_iload hx hb dX7_bestDay_45 (lv_at hl 4 rfl) ?_
      refine lv_bipush (v := (nI 100)) hx hb dX7_bestDay_47 rfl ?_
      refine lv_idiv hx hb dX7_bestDay_49 (by decide) ?_
      refine kcVi (W1 := (fun u => (ww_X7_bestDay cI cC oT oT_s oT_aside oT_states oT_snapshot oT_text oT_serves oT_took oT_tookMany oT_helps oT_before oT_read T_thrown T_stateMany T_hasSnapshot T_length T_stopNumber T_stopError T_at T_isWell T_readMany T_s T_serves2 T_took3 T_tookMany4 T_helps5))) (rest := []) (As := [.int (x4 / (nI 100))]) ⟨Nat.le_of_ble_eq_true rfl, Nat.le_of_ble_eq_true rfl⟩ ⟨hx, hb, hml, hown, hts⟩ (c_X7_dueIn l oT oT_s oT_aside oT_states oT_snapshot oT_text oT_serves oT_took oT_tookMany oT_helps oT_before oT_read H.size T_thrown T_stateMany T_hasSnapshot T_length T_stopNumber T_stopError T_at T_isWell T_readMany T_s (x4 / (nI 100)) hw) (cwV 1 hts gX7_bestDay_X7_dueIn rfl rfl rfl ⟨rfl, hd_X7_dueIn⟩ ⟨Nat.le_of_ble_eq_true rfl, Nat.le_of_ble_eq_true rfl⟩) hKw hA hwd [0, 1] [2, 3, 4, 5] [4, 5, 0, 1, 2, 3] [(oT_serves, .inl (cI, 16, .inl T_serves2)), (oT_took, .inl (cI, 30, .inl T_took3)), (oT_tookMany, .inl (cI, 10, .inl T_tookMany4)), (oT_helps, .inl (cI, 10, .inl T_helps5))] rfl rfl rfl rfl (by decide) rfl (fun _ => rfl) 0 7 rfl rfl rfl rfl hl.1 rfl (lv_room (Nat.le_of_ble_eq_true rfl)) dX7_bestDay_50 (fun r6 u H locs hw hwd => ?_)
      try dsimp only at hw
      replace hwd : wd D A s (ww_X7_bestDay cI cC oT oT_s oT_aside oT_states oT_snapshot oT_text oT_serves oT_took oT_tookMany oT_helps oT_before oT_read T_thrown T_stateMany T_hasSnapshot T_length T_stopNumber T_stopError T_at T_isWell T_readMany T_s T_serves2 T_took3 T_tookMany4 T_helps5) H locs := hwd
      refine lv_istore (lv' := [(5, .int r6), (0, .ref oT), (1, .int x1), (2, .int x2), (3, .int x3), (4, .int x4)]) hx hb dX7_bestDay_53 hl (by decide) rfl (fun ls hl => ?_)
      refine lv_iconst (v := (nI 0)) hx hb dX7_bestDay_55 rfl ?_
      refine lv_istore (lv' := [(6, .int (nI 0)), (5, .int r6), (0, .ref oT), (1, .int x1), (2, .int x2), (3, .int x3), (4, .int x4)]) hx hb dX7_bestDay_56 hl (by decide) rfl (fun ls hl => ?_)
      obtain ⟨n7, hw⟩ := hw
      refine blk_X7_bestDay_58 (CX := CX) (oT := oT) (oT_s := oT_s) (oT_aside := oT_aside) (oT_states := oT_states) (oT_snapshot := oT_snapshot) (oT_text := oT_text) (oT_serves := oT_serves) (oT_took := oT_took) (oT_tookMany := oT_tookMany) (oT_helps := oT_helps) (oT_before := oT_before) (oT_read := oT_read) (T_thrown := T_thrown) (T_stateMany := T_stateMany) (T_hasSnapshot := T_hasSnapshot) (T_length := T_length) (T_stopNumber := T_stopNumber) (T_stopError := T_stopError) (T_at := T_at) (T_isWell := T_isWell) (T_readMany := T_readMany) (T_s := T_s) (T_serves := T_serves2) (T_took := T_took3) (T_tookMany := T_tookMany4) (T_helps := T_helps5) (x1 := x1) (x2 := x2) (x3 := x3) (x4 := x4) (HR := HR) (HK_95 := fun x5_8 hw H locs ls hwd hl => ?_) n7 r6 (nI 0) hw _ _ _ hwd (lv_sub hl [2, 3, 4, 5, 6, 1, 0] rfl)
      try dsimp only at hw
      refine lv_iload hx hb dX7_bestDay_95 (lv_at hl 5 rfl) ?_
      refine kcSi (rest := []) (As := [.int x5_8]) ⟨Nat.le_of_ble_eq_true rfl, Nat.le_of_ble_eq_true rfl⟩ ⟨hx, hb, hml, hown, hts⟩ (c_X7_ones l H.size x5_8 hw) (va_cwS 1 hts gX7_bestDay_X7_ones rfl rfl rfl hd_X7_ones ⟨Nat.le_of_ble_eq_true rfl, Nat.le_of_ble_eq_true rfl⟩) hKw hA hwd rfl hl.1 rfl (lv_room (Nat.le_of_ble_eq_true rfl)) dX7_bestDay_97 (fun r9 H locs hw hwd => ?_)
      try dsimp only at hw
      refine lv_iload_n hx hb dX7_bestDay_100 rfl (lv_at hl 3 rfl) ?_
      refine kcSi (rest := [.int r9]) (As := [.int x3]) ⟨Nat.le_of_ble_eq_true rfl, Nat.le_of_ble_eq_true rfl⟩ ⟨hx, hb, hml, hown, hts⟩ (c_X7_ones l H.size x3 hw) (va_cwS 1 hts gX7_bestDay_X7_ones rfl rfl rfl hd_X7_ones ⟨Nat.le_of_ble_eq_true rfl, Nat.le_of_ble_eq_true rfl⟩) hKw hA hwd rfl hl.1 rfl (lv_room (Nat.le_of_ble_eq_true rfl)) dX7_bestDay_101 (fun r10 H locs hw hwd => ?_)
      try dsimp only at hw
      refine lv_icmp_le (tgt := 111) hx hb dX7_bestDay_104 (by decide) (fun c11 => ?_) (fun c11 => ?_)
      · replace hw := hw.1 c11
        refine lv_iconst (v := (nI 0)) hx hb dX7_bestDay_111 rfl ?_
        refine lv_istore (lv' := [(6, .int (nI 0)), (0, .ref oT), (1, .int x1), (2, .int x2), (3, .int x3), (4, .int x4), (5, .int x5_8)]) hx hb dX7_bestDay_112 hl (by decide) rfl (fun ls hl => ?_)
        refine lv_iload hx hb dX7_bestDay_114 (lv_at hl 0 rfl) ?_
        refine lv_if_eq (tgt := 124) hx hb dX7_bestDay_116 (by decide) (fun c12 => ?_) (fun c12 => ?_)
        · replace hw := hw.1 c12
          refine lv_iload_n hx hb dX7_bestDay_124 rfl (lv_at hl 3 rfl) ?_
          refine blk_X7_bestDay_125 (CX := CX) (oT := oT) (oT_s := oT_s) (oT_aside := oT_aside) (oT_states := oT_states) (oT_snapshot := oT_snapshot) (oT_text := oT_text) (oT_serves := oT_serves) (oT_took := oT_took) (oT_tookMany := oT_tookMany) (oT_helps := oT_helps) (oT_before := oT_before) (oT_read := oT_read) (T_thrown := T_thrown) (T_stateMany := T_stateMany) (T_hasSnapshot := T_hasSnapshot) (T_length := T_length) (T_stopNumber := T_stopNumber) (T_stopError := T_stopError) (T_at := T_at) (T_isWell := T_isWell) (T_readMany := T_readMany) (T_s := T_s) (T_serves := T_serves2) (T_took := T_took3) (T_tookMany := T_tookMany4) (T_helps := T_helps5) (x1 := x1) (x3 := x3) (x4 := x4) (x5 := x5_8) (x6 := (nI 0)) (HR := HR) (HK_30 := fun T_servesz T_tookz T_tookManyz T_helpsz x2z x3z x4z hw H locs ls hwd hl => ih T_servesz T_tookz T_tookManyz T_helpsz x2z x3z x4z hw H locs ls hwd hl) x2 hw _ _ _ hwd (lv_sub hl [1, 2, 4, 5, 6, 0] rfl)
        · replace hw := hw.2 c12
          refine lv_iload hx hb dX7_bestDay_119 (lv_at hl 5 rfl) ?_
          refine lv_goto (tgt := 125) hx hb dX7_bestDay_121 (by decide) ?_
          refine blk_X7_bestDay_125 (CX := CX) (oT := oT) (oT_s := oT_s) (oT_aside := oT_aside) (oT_states := oT_states) (oT_snapshot := oT_snapshot) (oT_text := oT_text) (oT_serves := oT_serves) (oT_took := oT_took) (oT_tookMany := oT_tookMany) (oT_helps := oT_helps) (oT_before := oT_before) (oT_read := oT_read) (T_thrown := T_thrown) (T_stateMany := T_stateMany) (T_hasSnapshot := T_hasSnapshot) (T_length := T_length) (T_stopNumber := T_stopNumber) (T_stopError := T_stopError) (T_at := T_at) (T_isWell := T_isWell) (T_readMany := T_readMany) (T_s := T_s) (T_serves := T_serves2) (T_took := T_took3) (T_tookMany := T_tookMany4) (T_helps := T_helps5) (x1 := x1) (x3 := x3) (x4 := x4) (x5 := x5_8) (x6 := (nI 0)) (HR := HR) (HK_30 := fun T_servesz T_tookz T_tookManyz T_helpsz x2z x3z x4z hw H locs ls hwd hl => ih T_servesz T_tookz T_tookManyz T_helpsz x2z x3z x4z hw H locs ls hwd hl) x4 hw _ _ _ hwd (lv_sub hl [1, 2, 4, 5, 6, 0] rfl)
      · replace hw := hw.2 c11
        refine lv_iconst (v := (nI 1)) hx hb dX7_bestDay_107 rfl ?_
        refine lv_goto (tgt := 112) hx hb dX7_bestDay_108 (by decide) ?_
        refine lv_istore (lv' := [(6, .int (nI 1)), (0, .ref oT), (1, .int x1), (2, .int x2), (3, .int x3), (4, .int x4), (5, .int x5_8)]) hx hb dX7_bestDay_112 hl (by decide) rfl (fun ls hl => ?_)
        refine lv_iload hx hb dX7_bestDay_114 (lv_at hl 0 rfl) ?_
        refine lv_if_eq (tgt := 124) hx hb dX7_bestDay_116 (by decide) (fun c13 => ?_) (fun c13 => ?_)
        · replace hw := hw.1 c13
          refine lv_iload_n hx hb dX7_bestDay_124 rfl (lv_at hl 3 rfl) ?_
          refine blk_X7_bestDay_125 (CX := CX) (oT := oT) (oT_s := oT_s) (oT_aside := oT_aside) (oT_states := oT_states) (oT_snapshot := oT_snapshot) (oT_text := oT_text) (oT_serves := oT_serves) (oT_took := oT_took) (oT_tookMany := oT_tookMany) (oT_helps := oT_helps) (oT_before := oT_before) (oT_read := oT_read) (T_thrown := T_thrown) (T_stateMany := T_stateMany) (T_hasSnapshot := T_hasSnapshot) (T_length := T_length) (T_stopNumber := T_stopNumber) (T_stopError := T_stopError) (T_at := T_at) (T_isWell := T_isWell) (T_readMany := T_readMany) (T_s := T_s) (T_serves := T_serves2) (T_took := T_took3) (T_tookMany := T_tookMany4) (T_helps := T_helps5) (x1 := x1) (x3 := x3) (x4 := x4) (x5 := x5_8) (x6 := (nI 1)) (HR := HR) (HK_30 := fun T_servesz T_tookz T_tookManyz T_helpsz x2z x3z x4z hw H locs ls hwd hl => ih T_servesz T_tookz T_tookManyz T_helpsz x2z x3z x4z hw H locs ls hwd hl) x2 hw _ _ _ hwd (lv_sub hl [1, 2, 4, 5, 6, 0] rfl)
        · replace hw := hw.2 c13
          refine lv_iload hx hb dX7_bestDay_119 (lv_at hl 5 rfl) ?_
          refine lv_goto (tgt := 125) hx hb dX7_bestDay_121 (by decide) ?_
          refine blk_X7_bestDay_125 (CX := CX) (oT := oT) (oT_s := oT_s) (oT_aside := oT_aside) (oT_states := oT_states) (oT_snapshot := oT_snapshot) (oT_text := oT_text) (oT_serves := oT_serves) (oT_took := oT_took) (oT_tookMany := oT_tookMany) (oT_helps := oT_helps) (oT_before := oT_before) (oT_read := oT_read) (T_thrown := T_thrown) (T_stateMany := T_stateMany) (T_hasSnapshot := T_hasSnapshot) (T_length := T_length) (T_stopNumber := T_stopNumber) (T_stopError := T_stopError) (T_at := T_at) (T_isWell := T_isWell) (T_readMany := T_readMany) (T_s := T_s) (T_serves := T_serves2) (T_took := T_took3) (T_tookMany := T_tookMany4) (T_helps := T_helps5) (x1 := x1) (x3 := x3) (x4 := x4) (x5 := x5_8) (x6 := (nI 1)) (HR := HR) (HK_30 := fun T_servesz T_tookz T_tookManyz T_helpsz x2z x3z x4z hw H locs ls hwd hl => ih T_servesz T_tookz T_tookManyz T_helpsz x2z x3z x4z hw H locs ls hwd hl) x4 hw _ _ _ hwd (lv_sub hl [1, 2, 4, 5, 6, 0] rfl)
def wp_X7_bestDay (T_thrown : Int32) (T_s : Nat → Int32) (T_serves : Nat → Int32) (T_took : Nat → Int32) (T_tookMany : Nat → Int32) (T_helps : Nat → Int32) (x1 : Int32) (Q : Int32 → Int32 → (Nat → Int32) → (Nat → Int32) → (Nat → Int32) → (Nat → Int32) → Prop) : Prop := wp_X7_in x1 (nI 0) (nI 1) (fun r1 => ((¬ r1 = 0 → vp_in (nI 3) 474 ∧ ∀ x4_3, x4_3 = T_s (nI 3).toNatClampNeg → (∃ n4, wb_X7_bestDay_30 T_s (fun T_serves5 T_took6 T_tookMany7 T_helps8 x2_9 x3_10 => ((x1 = 0 → Q x2_9 (nI 0) T_serves5 T_took6 T_tookMany7 T_helps8) ∧ (¬ x1 = 0 → ((¬ x2_9 = (-5) → Q x3_10 (nI 0) T_serves5 T_took6 T_tookMany7 T_helps8) ∧ (x2_9 = (-5) → Q x2_9 (nI 0) T_serves5 T_took6 T_tookMany7 T_helps8))))) n4 T_serves T_took T_tookMany T_helps (-5) (nI 0) x4_3)) ∧ (r1 = 0 → Q (-2) (nI 0) T_serves T_took T_tookMany T_helps)))
set_option maxRecDepth 100000 in
set_option maxHeartbeats 4000000 in
theorem c_X7_bestDay (l : Launch) {D : va_G} {cI cC cR : ClassId} (oT oT_s oT_aside oT_states oT_snapshot oT_text oT_serves oT_took oT_tookMany oT_helps oT_before oT_read : Nat) (sz : Nat) (T_thrown : Int32) (T_stateMany : Int32) (T_hasSnapshot : Int32) (T_length : Int32) (T_stopNumber : Int32) (T_stopError : Int32) (T_at : Int32) (T_isWell : Int32) (T_readMany : Int32) (T_s : Nat → Int32) (T_serves : Nat → Int32) (T_took : Nat → Int32) (T_tookMany : Nat → Int32) (T_helps : Nat → Int32) (x1 : Int32) {Q : Int32 → Int32 → (Nat → Int32) → (Nat → Int32) → (Nat → Int32) → (Nat → Int32) → Prop} (hw : wp_X7_bestDay T_thrown T_s T_serves T_took T_tookMany T_helps x1 Q) : Met l yX7_bestDay wsX7_bestDay rm_X7_bestDay (PcW D cI cC cR [.ref oT, .int x1] (ww_X7_bestDay cI cC oT oT_s oT_aside oT_states oT_snapshot oT_text oT_serves oT_took oT_tookMany oT_helps oT_before oT_read T_thrown T_stateMany T_hasSnapshot T_length T_stopNumber T_stopError T_at T_isWell T_readMany T_s T_serves T_took T_tookMany T_helps) sz) (QiW D (fun (r : Int32) (u : Int32 × (Nat → Int32) × (Nat → Int32) × (Nat → Int32) × (Nat → Int32)) => Q r u.1 u.2.1 u.2.2.1 u.2.2.2.1 u.2.2.2.2) (fun u => (ww_X7_bestDay cI cC oT oT_s oT_aside oT_states oT_snapshot oT_text oT_serves oT_took oT_tookMany oT_helps oT_before oT_read (u.1) T_stateMany T_hasSnapshot T_length T_stopNumber T_stopError T_at T_isWell T_readMany T_s (u.2.1) (u.2.2.1) (u.2.2.2.1) (u.2.2.2.2))) (ww_X7_bestDay cI cC oT oT_s oT_aside oT_states oT_snapshot oT_text oT_serves oT_took oT_tookMany oT_helps oT_before oT_read T_thrown T_stateMany T_hasSnapshot T_length T_stopNumber T_stopError T_at T_isWell T_readMany T_s T_serves T_took T_tookMany T_helps) sz) 0 0 (va_A (ww_X7_bestDay cI cC oT oT_s oT_aside oT_states oT_snapshot oT_text oT_serves oT_took oT_tookMany oT_helps oT_before oT_read T_thrown T_stateMany T_hasSnapshot T_length T_stopNumber T_stopError T_at T_isWell T_readMany T_s T_serves T_took T_tookMany T_helps) sz) := by
  refine Met.ofW (cc := cX7_bestDay) (maxL := 7) (ret := (some .int)) (by decide) rfl ?_
  intro p e s m args below meth c s₁ B hml hv
  obtain ⟨rfl, hsz, hP, hKw, hD0⟩ := hv
  have hlocks := B.notSynchronized
  subst hsz
  have hD := hD0.self (sz := s.heap.size)
  have CX : cx cX7_bestDay (some .int) 7 RX7 wsX7_bestDay p m meth c s ([.ref oT, .int x1] : List Value).toArray D cI cC cR (va_A (ww_X7_bestDay cI cC oT oT_s oT_aside oT_states oT_snapshot oT_text oT_serves oT_took oT_tookMany oT_helps oT_before oT_read T_thrown T_stateMany T_hasSnapshot T_length T_stopNumber T_stopError T_at T_isWell T_readMany T_s T_serves T_took T_tookMany T_helps) s.heap.size) := ⟨B.exec, B.bytes, B.returns, hml, atoms_spec (ws := wsX7_bestDay) B.pre, findClass_of_methodNamed B.named, hlocks, hKw, fun q h => Or.inr h⟩
  obtain ⟨hx, hb, hr, -, hts, hown, -, -, hA⟩ := id CX
  have hwd : wd D (va_A (ww_X7_bestDay cI cC oT oT_s oT_aside oT_states oT_snapshot oT_text oT_serves oT_took oT_tookMany oT_helps oT_before oT_read T_thrown T_stateMany T_hasSnapshot T_length T_stopNumber T_stopError T_at T_isWell T_readMany T_s T_serves T_took T_tookMany T_helps) s.heap.size) s (ww_X7_bestDay cI cC oT oT_s oT_aside oT_states oT_snapshot oT_text oT_serves oT_took oT_tookMany oT_helps oT_before oT_read T_thrown T_stateMany T_hasSnapshot T_length T_stopNumber T_stopError T_at T_isWell T_readMany T_s T_serves T_took T_tookMany T_helps) s.heap [] := ⟨hP, hD, va_S.rf⟩
  have hl := lv_entry ([.ref oT, .int x1]) (n := 7) (Nat.le_of_ble_eq_true rfl)
  rw [lg_entry_eq]
  generalize (lg_sl ([.ref oT, .int x1]) ++ List.replicate (7 - (lg_sl ([.ref oT, .int x1])).length) Slot.unset).toArray = ls at hl ⊢
  have hl : lv_has ls 7 [(0, .ref oT), (1, .int x1)] := hl
  have HR : ∀ (r : Int32) (u0 : Int32) (u1 : Nat → Int32) (u2 : Nat → Int32) (u3 : Nat → Int32) (u4 : Nat → Int32) {H : Heap} {locs : List Loc} {ls : Array Slot} {pc : Nat}, Q r u0 u1 u2 u3 u4 → wd D (va_A (ww_X7_bestDay cI cC oT oT_s oT_aside oT_states oT_snapshot oT_text oT_serves oT_took oT_tookMany oT_helps oT_before oT_read T_thrown T_stateMany T_hasSnapshot T_length T_stopNumber T_stopError T_at T_isWell T_readMany T_s T_serves T_took T_tookMany T_helps) s.heap.size) s (ww_X7_bestDay cI cC oT oT_s oT_aside oT_states oT_snapshot oT_text oT_serves oT_took oT_tookMany oT_helps oT_before oT_read u0 T_stateMany T_hasSnapshot T_length T_stopNumber T_stopError T_at T_isWell T_readMany T_s u1 u2 u3 u4) H locs → decode cX7_bestDay pc = .ok (.ireturn, 1) → W p l e (headSpec wsX7_bestDay rm_X7_bestDay).room s m ([.ref oT, .int x1] : List Value).toArray below meth c H locs 0 0 (MQ below (QiW D (fun (r : Int32) (u : Int32 × (Nat → Int32) × (Nat → Int32) × (Nat → Int32) × (Nat → Int32)) => Q r u.1 u.2.1 u.2.2.1 u.2.2.2.1 u.2.2.2.2) (fun u => (ww_X7_bestDay cI cC oT oT_s oT_aside oT_states oT_snapshot oT_text oT_serves oT_took oT_tookMany oT_helps oT_before oT_read (u.1) T_stateMany T_hasSnapshot T_length T_stopNumber T_stopError T_at T_isWell T_readMany T_s (u.2.1) (u.2.2.1) (u.2.2.2.1) (u.2.2.2.2))) (ww_X7_bestDay cI cC oT oT_s oT_aside oT_states oT_snapshot oT_text oT_serves oT_took oT_tookMany oT_helps oT_before oT_read T_thrown T_stateMany T_hasSnapshot T_length T_stopNumber T_stopError T_at T_isWell T_readMany T_s T_serves T_took T_tookMany T_helps) s.heap.size) ([.ref oT, .int x1] : List Value).toArray s 0 0 (va_A (ww_X7_bestDay cI cC oT oT_s oT_aside oT_states oT_snapshot oT_text oT_serves oT_took oT_tookMany oT_helps oT_before oT_read T_thrown T_stateMany T_hasSnapshot T_length T_stopNumber T_stopError T_at T_isWell T_readMany T_s T_serves T_took T_tookMany T_helps) s.heap.size)) (F0 m pc ls [.int r]) := by
    intro r u0 u1 u2 u3 u4 H locs ls pc hq hw9 hd9
    exact W.iret (v := r) hx hb hr (fun t ht hW => ⟨⟨r, (u0, u1, u2, u3, u4), rfl, hq, by rw [ht]; exact hw9.1, hw9.2.1⟩, hw9.2.2.F ht⟩) hw9.2.2.2.2 hd9
  unfold wp_X7_bestDay at hw
  refine lv_aload_n hx hb dX7_bestDay_0 rfl (lv_at hl 0 rfl) ?_
  refine lv_iconst (v := (nI 0)) hx hb dX7_bestDay_1 rfl ?_
  refine va_put (D := D) (ci := 7) (v := .int (nI 0)) (ty := .int) (C := RX7) (T := TX7) (N := 20) hx hb hts ic_X7_bestDay_X7 tyX7 tyX7_ok nmX7 hown hKw.1 hwd.1 hwd.2.1 hwd.2.2 0 rfl rfl 0 (by decide) (hts (.fieldLink RX7 43 "DrillWardensModel" "thrown" "I") (List.mem_of_getElem? (i := 1) rfl)) (fun _ h9 => h9) rfl (tyX7_ok 0 (by decide)) rfl rfl (Nat.le_of_ble_eq_true rfl) dX7_bestDay_2 (fun H locs h1 h2 h3 => ?_)
  replace hwd : wd D (va_A (ww_X7_bestDay cI cC oT oT_s oT_aside oT_states oT_snapshot oT_text oT_serves oT_took oT_tookMany oT_helps oT_before oT_read T_thrown T_stateMany T_hasSnapshot T_length T_stopNumber T_stopError T_at T_isWell T_readMany T_s T_serves T_took T_tookMany T_helps) s.heap.size) s (ww_X7_bestDay cI cC oT oT_s oT_aside oT_states oT_snapshot oT_text oT_serves oT_took oT_tookMany oT_helps oT_before oT_read (nI 0) T_stateMany T_hasSnapshot T_length T_stopNumber T_stopError T_at T_isWell T_readMany T_s T_serves T_took T_tookMany T_helps) H locs := ⟨h1, h2, h3⟩
  clear h1 h2 h3
  refine lv_iload_n hx hb dX7_bestDay_5 rfl (lv_at hl 1 rfl) ?_
  refine lv_iconst (v := (nI 0)) hx hb dX7_bestDay_6 rfl ?_
  refine lv_iconst (v := (nI 1)) hx hb dX7_bestDay_7 rfl ?_
  refine kcSi (rest := []) (As := [.int x1, .int (nI 0), .int (nI 1)]) ⟨Nat.le_of_ble_eq_true rfl, Nat.le_of_ble_eq_true rfl⟩ ⟨hx, hb, hml, hown, hts⟩ (c_X7_in l H.size x1 (nI 0) (nI 1) hw) (va_cwS 3 hts gX7_bestDay_X7_in rfl rfl rfl hd_X7_in ⟨Nat.le_of_ble_eq_true rfl, Nat.le_of_ble_eq_true rfl⟩) hKw hA hwd rfl hl.1 rfl (lv_room (Nat.le_of_ble_eq_true rfl)) dX7_bestDay_8 (fun r1 H locs hw hwd => ?_)
  try dsimp only at hw
  refine lv_if_ne (tgt := 17) hx hb dX7_bestDay_11 (by decide) (fun c2 => ?_) (fun c2 => ?_)
  · replace hw := hw.1 c2
    refine lv_bipush (v := (-5)) hx hb dX7_bestDay_17 rfl ?_
    refine lv_istore_n (lv' := [(2, .int (-5)), (0, .ref oT), (1, .int x1)]) hx hb dX7_bestDay_19 rfl hl (by decide) rfl (fun ls hl => ?_)
    refine lv_iconst (v := (nI 0)) hx hb dX7_bestDay_20 rfl ?_
    refine lv_istore_n (lv' := [(3, .int (nI 0)), (2, .int (-5)), (0, .ref oT), (1, .int x1)]) hx hb dX7_bestDay_21 rfl hl (by decide) rfl (fun ls hl => ?_)
    refine lv_aload_n hx hb dX7_bestDay_22 rfl (lv_at hl 2 rfl) ?_
    refine va_get (D := D) (ci := 7) (v := .ref oT_s) (C := RX7) (T := TX7) (N := 20) hx hb hts ic_X7_bestDay_X7 hown hKw.1 hwd.1 0 rfl rfl 1 (by decide) (hts (.fieldLink RX7 7 "DrillWardensModel" "s" "[I") (List.mem_of_getElem? (i := 2) rfl)) (fun _ h9 => h9) rfl dX7_bestDay_23 ?_
    refine lv_iconst (v := (nI 3)) hx hb dX7_bestDay_26 rfl ?_
    refine va_iald hx hb hKw.1 hwd.1 1 0 rfl rfl hw.1 dX7_bestDay_27 ?_
    replace hw := hw.2
    refine lv_topi (fun x4_3 e_x4_3 => ?_)
    replace hw := hw x4_3 e_x4_3
    refine lv_istore (lv' := [(4, .int x4_3), (3, .int (nI 0)), (2, .int (-5)), (0, .ref oT), (1, .int x1)]) hx hb dX7_bestDay_28 hl (by decide) rfl (fun ls hl => ?_)
    obtain ⟨n4, hw⟩ := hw
    refine blk_X7_bestDay_30 (CX := CX) (oT := oT) (oT_s := oT_s) (oT_aside := oT_aside) (oT_states := oT_states) (oT_snapshot := oT_snapshot) (oT_text := oT_text) (oT_serves := oT_serves) (oT_took := oT_took) (oT_tookMany := oT_tookMany) (oT_helps := oT_helps) (oT_before := oT_before) (oT_read := oT_read) (T_thrown := (nI 0)) (T_stateMany := T_stateMany) (T_hasSnapshot := T_hasSnapshot) (T_length := T_length) (T_stopNumber := T_stopNumber) (T_stopError := T_stopError) (T_at := T_at) (T_isWell := T_isWell) (T_readMany := T_readMany) (T_s := T_s) (x1 := x1) (HR := HR) (HK_144 := fun T_serves5 T_took6 T_tookMany7 T_helps8 x2_9 x3_10 hw H locs ls hwd hl => ?_) n4 T_serves T_took T_tookMany T_helps (-5) (nI 0) x4_3 hw _ _ _ hwd (lv_sub hl [3, 4, 2, 1, 0] rfl)
    try dsimp only at hw
    refine lv_iload_n hx hb dX7_bestDay_144 rfl (lv_at hl 0 rfl) ?_
    refine lv_if_eq (tgt := 154) hx hb dX7_bestDay_145 (by decide) (fun c11 => ?_) (fun c11 => ?_)
    · replace hw := hw.1 c11
      refine lv_iload_n hx hb dX7_bestDay_154 rfl (lv_at hl 1 rfl) ?_
      refine lv_goto (tgt := 159) hx hb dX7_bestDay_155 (by decide) ?_
      exact HR x2_9 (nI 0) T_serves5 T_took6 T_tookMany7 T_helps8 hw hwd dX7_bestDay_159
    · replace hw := hw.2 c11
      refine lv_iload_n hx hb dX7_bestDay_148 rfl (lv_at hl 1 rfl) ?_
      refine lv_bipush (v := (-5)) hx hb dX7_bestDay_149 rfl ?_
      refine lv_icmp_ne (tgt := 158) hx hb dX7_bestDay_151 (by decide) (fun c12 => ?_) (fun c12 => ?_)
      · replace hw := hw.1 c12
        refine lv_iload_n hx hb dX7_bestDay_158 rfl (lv_at hl 2 rfl) ?_
        exact HR x3_10 (nI 0) T_serves5 T_took6 T_tookMany7 T_helps8 hw hwd dX7_bestDay_159
      · replace hw := hw.2 c12
        refine lv_iload_n hx hb dX7_bestDay_154 rfl (lv_at hl 1 rfl) ?_
        refine lv_goto (tgt := 159) hx hb dX7_bestDay_155 (by decide) ?_
        exact HR x2_9 (nI 0) T_serves5 T_took6 T_tookMany7 T_helps8 hw hwd dX7_bestDay_159
  · replace hw := hw.2 c2
    refine lv_bipush (v := (-2)) hx hb dX7_bestDay_14 rfl ?_
    exact HR (-2) (nI 0) T_serves T_took T_tookMany T_helps hw hwd dX7_bestDay_16
abbrev ww_X7_shortInAll (cI cC : ClassId) (oT oT_s oT_aside oT_states oT_snapshot oT_text oT_serves oT_took oT_tookMany oT_helps oT_before oT_read : Nat) (T_thrown : Int32) (T_stateMany : Int32) (T_hasSnapshot : Int32) (T_length : Int32) (T_stopNumber : Int32) (T_stopError : Int32) (T_at : Int32) (T_isWell : Int32) (T_readMany : Int32) (T_s : Nat → Int32) (T_serves : Nat → Int32) (T_took : Nat → Int32) (T_tookMany : Nat → Int32) (T_helps : Nat → Int32) : va_W := [(oT, .inr (7, [.int T_thrown, .ref oT_s, .ref oT_aside, .ref oT_states, .int T_stateMany, .ref oT_snapshot, .int T_hasSnapshot, .ref oT_text, .int T_length, .int T_stopNumber, .int T_stopError, .ref oT_serves, .ref oT_took, .ref oT_tookMany, .ref oT_helps, .ref oT_before, .int T_at, .int T_isWell, .ref oT_read, .int T_readMany])), (oT_s, .inl (cI, 474, .inl T_s)), (oT_serves, .inl (cI, 16, .inl T_serves)), (oT_took, .inl (cI, 30, .inl T_took)), (oT_tookMany, .inl (cI, 10, .inl T_tookMany)), (oT_helps, .inl (cI, 10, .inl T_helps))]
abbrev rm_X7_shortInAll : Room := { frames := 5, cells := 0, slots := 0, locals := 113 }
theorem ic_X7_shortInAll_X7 : ∀ w ∈ u_ws RX7 TX7 20, w ∈ wsX7_shortInAll := by
  intro w h
  simp only [wsX7_shortInAll, List.mem_cons, List.mem_append]
  simp only [h, or_true, true_or]
def wb_X7_shortInAll_14 (T_s : Nat → Int32) (T_tookMany : Nat → Int32) (K_34 : Int32 → Prop) : Nat → Int32 → Int32 → Prop
  | 0, _, _ => False
  | n + 1, x1, x2 => (((nI 10) ≤ x2 → K_34 x1) ∧ (¬ (nI 10) ≤ x2 → wp_X7_shortBy T_s T_tookMany x2 (fun r2 => ∀ x1_3, x1_3 = x1 + r2 → ∀ x2_4, x2_4 = x2 + (nI 1) → wb_X7_shortInAll_14 T_s T_tookMany K_34 n x1_3 x2_4)))
set_option maxRecDepth 100000 in
set_option maxHeartbeats 4000000 in
theorem blk_X7_shortInAll_14 {p : Program} {l : Launch} {e : Env} {s : State} {m : MethodId} {args : Array Value} {below : List Frame} {meth : Method} {c : Code} {D : va_G} {cI cC cR : ClassId} {A : Nat → Prop} {Z : State → Prop} (CX : cx cX7_shortInAll (some .int) 3 RX7 wsX7_shortInAll p m meth c s args D cI cC cR A) (oT oT_s oT_aside oT_states oT_snapshot oT_text oT_serves oT_took oT_tookMany oT_helps oT_before oT_read : Nat) (T_thrown : Int32) (T_stateMany : Int32) (T_hasSnapshot : Int32) (T_length : Int32) (T_stopNumber : Int32) (T_stopError : Int32) (T_at : Int32) (T_isWell : Int32) (T_readMany : Int32) (T_s : Nat → Int32) (T_serves : Nat → Int32) (T_took : Nat → Int32) (T_tookMany : Nat → Int32) (T_helps : Nat → Int32) {K_34 : Int32 → Prop} {Q : Int32 → (Nat → Int32) → (Nat → Int32) → (Nat → Int32) → (Nat → Int32) → Prop} (HR : ∀ (r : Int32) (u0 : Nat → Int32) (u1 : Nat → Int32) (u2 : Nat → Int32) (u3 : Nat → Int32) {H : Heap} {locs : List Loc} {ls : Array Slot} {pc : Nat}, Q r u0 u1 u2 u3 → wd D A s (ww_X7_shortInAll cI cC oT oT_s oT_aside oT_states oT_snapshot oT_text oT_serves oT_took oT_tookMany oT_helps oT_before oT_read T_thrown T_stateMany T_hasSnapshot T_length T_stopNumber T_stopError T_at T_isWell T_readMany T_s u0 u1 u2 u3) H locs → decode cX7_shortInAll pc = .ok (.ireturn, 1) → W p l e (headSpec wsX7_shortInAll rm_X7_shortInAll).room s m args below meth c H locs 0 0 Z (F0 m pc ls [.int r])) (HK_34 : ∀ (x1y : Int32), K_34 x1y → ∀ (H : Heap) (locs : List Loc) (ls : Array Slot), wd D A s (ww_X7_shortInAll cI cC oT oT_s oT_aside oT_states oT_snapshot oT_text oT_serves oT_took oT_tookMany oT_helps oT_before oT_read T_thrown T_stateMany T_hasSnapshot T_length T_stopNumber T_stopError T_at T_isWell T_readMany T_s T_serves T_took T_tookMany T_helps) H locs → lv_has ls 3 [(1, .int x1y)] → W p l e (headSpec wsX7_shortInAll rm_X7_shortInAll).room s m args below meth c H locs 0 0 Z (F0 m 34 ls [])) : ∀ (n : Nat) (x1 : Int32) (x2 : Int32), wb_X7_shortInAll_14 T_s T_tookMany K_34 n x1 x2 → ∀ (H : Heap) (locs : List Loc) (ls : Array Slot), wd D A s (ww_X7_shortInAll cI cC oT oT_s oT_aside oT_states oT_snapshot oT_text oT_serves oT_took oT_tookMany oT_helps oT_before oT_read T_thrown T_stateMany T_hasSnapshot T_length T_stopNumber T_stopError T_at T_isWell T_readMany T_s T_serves T_took T_tookMany T_helps) H locs → lv_has ls 3 [(0, .ref oT), (1, .int x1), (2, .int x2)] → W p l e (headSpec wsX7_shortInAll rm_X7_shortInAll).room s m args below meth c H locs 0 0 Z (F0 m 14 ls []) := by
  obtain ⟨hx, hb, hr, hml, hts, hown, hlocks, hKw, hA⟩ := id CX
  intro n
  induction n with
  | zero => intro x1 x2 hw; exact False.elim hw
  | succ n ih =>
    intro x1 x2 hw H locs ls hwd hl
    rw [wb_X7_shortInAll_14] at hw
    refine lv_iload_n hx hb dX7_shortInAll_14 rfl (lv_at hl 2 rfl) ?_
    refine lv_bipush (v := (nI 10)) hx hb dX7_shortInAll_15 rfl ?_
    refine lv_icmp_ge (tgt := 34) hx hb dX7_shortInAll_17 (by decide) (fun c1 => ?_) (fun c1 => ?_)
    · replace hw := hw.1 c1
      exact HK_34 x1 hw _ _ _ hwd (lv_sub hl [1] rfl)
    · replace hw := hw.2 c1
      refine lv_iload_n hx hb dX7_shortInAll_20 rfl (lv_at hl 1 rfl) ?_
      refine lv_aload_n hx hb dX7_shortInAll_21 rfl (lv_at hl 0 rfl) ?_
      refine lv_iload_n hx hb dX7_shortInAll_22 rfl (lv_at hl 2 rfl) ?_
      refine kcVi (W1 := (fun u => (ww_X7_shortInAll cI cC oT oT_s oT_aside oT_states oT_snapshot oT_text oT_serves oT_took oT_tookMany oT_helps oT_before oT_read T_thrown T_stateMany T_hasSnapshot T_length T_stopNumber T_stopError T_at T_isWell T_readMany T_s T_serves T_took T_tookMany T_helps))) (rest := [.int x1]) (As := [.int x2]) ⟨Nat.le_of_ble_eq_true rfl, Nat.le_of_ble_eq_true rfl⟩ ⟨hx, hb, hml, hown, hts⟩ (c_X7_shortBy l oT oT_s oT_aside oT_states oT_snapshot oT_text oT_serves oT_took oT_tookMany oT_helps oT_before oT_read H.size T_thrown T_stateMany T_hasSnapshot T_length T_stopNumber T_stopError T_at T_isWell T_readMany T_s T_tookMany x2 hw) (cwV 1 hts gX7_shortInAll_X7_shortBy rfl rfl rfl ⟨rfl, hd_X7_shortBy⟩ ⟨Nat.le_of_ble_eq_true rfl, Nat.le_of_ble_eq_true rfl⟩) hKw hA hwd [0, 1, 4] [2, 3, 5] [3, 4, 0, 1, 5, 2] [(oT_serves, .inl (cI, 16, .inl T_serves)), (oT_took, .inl (cI, 30, .inl T_took)), (oT_helps, .inl (cI, 10, .inl T_helps))] rfl rfl rfl rfl (by decide) rfl (fun _ => rfl) 0 7 rfl rfl rfl rfl hl.1 rfl (lv_room (Nat.le_of_ble_eq_true rfl)) dX7_shortInAll_23 (fun r2 u H locs hw hwd => ?_)
      try dsimp only at hw
      replace hwd : wd D A s (ww_X7_shortInAll cI cC oT oT_s oT_aside oT_states oT_snapshot oT_text oT_serves oT_took oT_tookMany oT_helps oT_before oT_read T_thrown T_stateMany T_hasSnapshot T_length T_stopNumber T_stopError T_at T_isWell T_readMany T_s T_serves T_took T_tookMany T_helps) H locs := hwd
      refine lv_iadd hx hb dX7_shortInAll_26 ?_
      refine lv_topi (fun x1_3 e_x1_3 => ?_)
      replace hw := hw x1_3 e_x1_3
      refine lv_istore_n (lv' := [(1, .int x1_3), (0, .ref oT), (2, .int x2)]) hx hb dX7_shortInAll_27 rfl hl (by decide) rfl (fun ls hl => ?_)
      obtain ⟨x2_4, e_x2_4⟩ : ∃ y : Int32, y = x2 + (nI 1) := ⟨_, rfl⟩
      replace hw := hw x2_4 e_x2_4
      refine lv_iinc (v := x2_4) (lv' := [(2, .int x2_4), (1, .int x1_3), (0, .ref oT)]) hx hb dX7_shortInAll_28 hl (k := 2) rfl (by rw [e_x2_4]; rfl) (by decide) rfl (fun ls hl => ?_)
      refine lv_goto (tgt := 14) hx hb dX7_shortInAll_31 (by decide) ?_
      exact ih x1_3 x2_4 hw _ _ _ hwd (lv_sub hl [2, 1, 0] rfl)
def wp_X7_shortInAll (T_s : Nat → Int32) (T_serves : Nat → Int32) (T_took : Nat → Int32) (T_tookMany : Nat → Int32) (T_helps : Nat → Int32) (Q : Int32 → (Nat → Int32) → (Nat → Int32) → (Nat → Int32) → (Nat → Int32) → Prop) : Prop := vp_in (nI 3) 474 ∧ wp_X7_plans T_s T_serves T_took T_tookMany T_helps (T_s (nI 3).toNatClampNeg) (fun T_serves1 T_took2 T_tookMany3 T_helps4 => (∃ n5, wb_X7_shortInAll_14 T_s T_tookMany3 (fun x1_6 => Q x1_6 T_serves1 T_took2 T_tookMany3 T_helps4) n5 (nI 0) (nI 0)))
set_option maxRecDepth 100000 in
set_option maxHeartbeats 4000000 in
theorem c_X7_shortInAll (l : Launch) {D : va_G} {cI cC cR : ClassId} (oT oT_s oT_aside oT_states oT_snapshot oT_text oT_serves oT_took oT_tookMany oT_helps oT_before oT_read : Nat) (sz : Nat) (T_thrown : Int32) (T_stateMany : Int32) (T_hasSnapshot : Int32) (T_length : Int32) (T_stopNumber : Int32) (T_stopError : Int32) (T_at : Int32) (T_isWell : Int32) (T_readMany : Int32) (T_s : Nat → Int32) (T_serves : Nat → Int32) (T_took : Nat → Int32) (T_tookMany : Nat → Int32) (T_helps : Nat → Int32) {Q : Int32 → (Nat → Int32) → (Nat → Int32) → (Nat → Int32) → (Nat → Int32) → Prop} (hw : wp_X7_shortInAll T_s T_serves T_took T_tookMany T_helps Q) : Met l yX7_shortInAll wsX7_shortInAll rm_X7_shortInAll (PcW D cI cC cR [.ref oT] (ww_X7_shortInAll cI cC oT oT_s oT_aside oT_states oT_snapshot oT_text oT_serves oT_took oT_tookMany oT_helps oT_before oT_read T_thrown T_stateMany T_hasSnapshot T_length T_stopNumber T_stopError T_at T_isWell T_readMany T_s T_serves T_took T_tookMany T_helps) sz) (QiW D (fun (r : Int32) (u : (Nat → Int32) × (Nat → Int32) × (Nat → Int32) × (Nat → Int32)) => Q r u.1 u.2.1 u.2.2.1 u.2.2.2) (fun u => (ww_X7_shortInAll cI cC oT oT_s oT_aside oT_states oT_snapshot oT_text oT_serves oT_took oT_tookMany oT_helps oT_before oT_read T_thrown T_stateMany T_hasSnapshot T_length T_stopNumber T_stopError T_at T_isWell T_readMany T_s (u.1) (u.2.1) (u.2.2.1) (u.2.2.2))) (ww_X7_shortInAll cI cC oT oT_s oT_aside oT_states oT_snapshot oT_text oT_serves oT_took oT_tookMany oT_helps oT_before oT_read T_thrown T_stateMany T_hasSnapshot T_length T_stopNumber T_stopError T_at T_isWell T_readMany T_s T_serves T_took T_tookMany T_helps) sz) 0 0 (va_A (ww_X7_shortInAll cI cC oT oT_s oT_aside oT_states oT_snapshot oT_text oT_serves oT_took oT_tookMany oT_helps oT_before oT_read T_thrown T_stateMany T_hasSnapshot T_length T_stopNumber T_stopError T_at T_isWell T_readMany T_s T_serves T_took T_tookMany T_helps) sz) := by
  refine Met.ofW (cc := cX7_shortInAll) (maxL := 3) (ret := (some .int)) (by decide) rfl ?_
  intro p e s m args below meth c s₁ B hml hv
  obtain ⟨rfl, hsz, hP, hKw, hD0⟩ := hv
  have hlocks := B.notSynchronized
  subst hsz
  have hD := hD0.self (sz := s.heap.size)
  have CX : cx cX7_shortInAll (some .int) 3 RX7 wsX7_shortInAll p m meth c s ([.ref oT] : List Value).toArray D cI cC cR (va_A (ww_X7_shortInAll cI cC oT oT_s oT_aside oT_states oT_snapshot oT_text oT_serves oT_took oT_tookMany oT_helps oT_before oT_read T_thrown T_stateMany T_hasSnapshot T_length T_stopNumber T_stopError T_at T_isWell T_readMany T_s T_serves T_took T_tookMany T_helps) s.heap.size) := ⟨B.exec, B.bytes, B.returns, hml, atoms_spec (ws := wsX7_shortInAll) B.pre, findClass_of_methodNamed B.named, hlocks, hKw, fun q h => Or.inr h⟩
  obtain ⟨hx, hb, hr, -, hts, hown, -, -, hA⟩ := id CX
  have hwd : wd D (va_A (ww_X7_shortInAll cI cC oT oT_s oT_aside oT_states oT_snapshot oT_text oT_serves oT_took oT_tookMany oT_helps oT_before oT_read T_thrown T_stateMany T_hasSnapshot T_length T_stopNumber T_stopError T_at T_isWell T_readMany T_s T_serves T_took T_tookMany T_helps) s.heap.size) s (ww_X7_shortInAll cI cC oT oT_s oT_aside oT_states oT_snapshot oT_text oT_serves oT_took oT_tookMany oT_helps oT_before oT_read T_thrown T_stateMany T_hasSnapshot T_length T_stopNumber T_stopError T_at T_isWell T_readMany T_s T_serves T_took T_tookMany T_helps) s.heap [] := ⟨hP, hD, va_S.rf⟩
  have hl := lv_entry ([.ref oT]) (n := 3) (Nat.le_of_ble_eq_true rfl)
  rw [lg_entry_eq]
  generalize (lg_sl ([.ref oT]) ++ List.replicate (3 - (lg_sl ([.ref oT])).length) Slot.unset).toArray = ls at hl ⊢
  have hl : lv_has ls 3 [(0, .ref oT)] := hl
  have HR : ∀ (r : Int32) (u0 : Nat → Int32) (u1 : Nat → Int32) (u2 : Nat → Int32) (u3 : Nat → Int32) {H : Heap} {locs : List Loc} {ls : Array Slot} {pc : Nat}, Q r u0 u1 u2 u3 → wd D (va_A (ww_X7_shortInAll cI cC oT oT_s oT_aside oT_states oT_snapshot oT_text oT_serves oT_took oT_tookMany oT_helps oT_before oT_read T_thrown T_stateMany T_hasSnapshot T_length T_stopNumber T_stopError T_at T_isWell T_readMany T_s T_serves T_took T_tookMany T_helps) s.heap.size) s (ww_X7_shortInAll cI cC oT oT_s oT_aside oT_states oT_snapshot oT_text oT_serves oT_took oT_tookMany oT_helps oT_before oT_read T_thrown T_stateMany T_hasSnapshot T_length T_stopNumber T_stopError T_at T_isWell T_readMany T_s u0 u1 u2 u3) H locs → decode cX7_shortInAll pc = .ok (.ireturn, 1) → W p l e (headSpec wsX7_shortInAll rm_X7_shortInAll).room s m ([.ref oT] : List Value).toArray below meth c H locs 0 0 (MQ below (QiW D (fun (r : Int32) (u : (Nat → Int32) × (Nat → Int32) × (Nat → Int32) × (Nat → Int32)) => Q r u.1 u.2.1 u.2.2.1 u.2.2.2) (fun u => (ww_X7_shortInAll cI cC oT oT_s oT_aside oT_states oT_snapshot oT_text oT_serves oT_took oT_tookMany oT_helps oT_before oT_read T_thrown T_stateMany T_hasSnapshot T_length T_stopNumber T_stopError T_at T_isWell T_readMany T_s (u.1) (u.2.1) (u.2.2.1) (u.2.2.2))) (ww_X7_shortInAll cI cC oT oT_s oT_aside oT_states oT_snapshot oT_text oT_serves oT_took oT_tookMany oT_helps oT_before oT_read T_thrown T_stateMany T_hasSnapshot T_length T_stopNumber T_stopError T_at T_isWell T_readMany T_s T_serves T_took T_tookMany T_helps) s.heap.size) ([.ref oT] : List Value).toArray s 0 0 (va_A (ww_X7_shortInAll cI cC oT oT_s oT_aside oT_states oT_snapshot oT_text oT_serves oT_took oT_tookMany oT_helps oT_before oT_read T_thrown T_stateMany T_hasSnapshot T_length T_stopNumber T_stopError T_at T_isWell T_readMany T_s T_serves T_took T_tookMany T_helps) s.heap.size)) (F0 m pc ls [.int r]) := by
    intro r u0 u1 u2 u3 H locs ls pc hq hw9 hd9
    exact W.iret (v := r) hx hb hr (fun t ht hW => ⟨⟨r, (u0, u1, u2, u3), rfl, hq, by rw [ht]; exact hw9.1, hw9.2.1⟩, hw9.2.2.F ht⟩) hw9.2.2.2.2 hd9
  unfold wp_X7_shortInAll at hw
  refine lv_aload_n hx hb dX7_shortInAll_0 rfl (lv_at hl 0 rfl) ?_
  refine lv_aload_n hx hb dX7_shortInAll_1 rfl (lv_at hl 0 rfl) ?_
  refine va_get (D := D) (ci := 7) (v := .ref oT_s) (C := RX7) (T := TX7) (N := 20) hx hb hts ic_X7_shortInAll_X7 hown hKw.1 hwd.1 0 rfl rfl 1 (by decide) (hts (.fieldLink RX7 7 "DrillWardensModel" "s" "[I") (List.mem_of_getElem? (i := 1) rfl)) (fun _ h9 => h9) rfl dX7_shortInAll_2 ?_
  refine lv_iconst (v := (nI 3)) hx hb dX7_shortInAll_5 rfl ?_
  refine va_iald hx hb hKw.1 hwd.1 1 0 rfl rfl hw.1 dX7_shortInAll_6 ?_
  replace hw := hw.2
  refine kcVv (W1 := (fun u => (ww_X7_shortInAll cI cC oT oT_s oT_aside oT_states oT_snapshot oT_text oT_serves oT_took oT_tookMany oT_helps oT_before oT_read T_thrown T_stateMany T_hasSnapshot T_length T_stopNumber T_stopError T_at T_isWell T_readMany T_s (u.1) (u.2.1) (u.2.2.1) (u.2.2.2)))) (rest := []) (As := [.int (T_s (nI 3).toNatClampNeg)]) ⟨Nat.le_of_ble_eq_true rfl, Nat.le_of_ble_eq_true rfl⟩ ⟨hx, hb, hml, hown, hts⟩ (c_X7_plans l oT oT_s oT_aside oT_states oT_snapshot oT_text oT_serves oT_took oT_tookMany oT_helps oT_before oT_read s.heap.size T_thrown T_stateMany T_hasSnapshot T_length T_stopNumber T_stopError T_at T_isWell T_readMany T_s T_serves T_took T_tookMany T_helps (T_s (nI 3).toNatClampNeg) hw) (cwV 1 hts gX7_shortInAll_X7_plans rfl rfl rfl ⟨rfl, hd_X7_plans⟩ ⟨Nat.le_of_ble_eq_true rfl, Nat.le_of_ble_eq_true rfl⟩) hKw hA hwd [0, 1, 2, 3, 4, 5] [] [0, 1, 2, 3, 4, 5] [] rfl rfl rfl rfl (by decide) rfl (fun _ => rfl) 0 7 rfl rfl rfl rfl hl.1 rfl (lv_room (Nat.le_of_ble_eq_true rfl)) dX7_shortInAll_7 (fun u H locs hw hwd => ?_)
  obtain ⟨T_serves1, T_took2, T_tookMany3, T_helps4⟩ := u
  try dsimp only at hw
  replace hwd : wd D (va_A (ww_X7_shortInAll cI cC oT oT_s oT_aside oT_states oT_snapshot oT_text oT_serves oT_took oT_tookMany oT_helps oT_before oT_read T_thrown T_stateMany T_hasSnapshot T_length T_stopNumber T_stopError T_at T_isWell T_readMany T_s T_serves T_took T_tookMany T_helps) s.heap.size) s (ww_X7_shortInAll cI cC oT oT_s oT_aside oT_states oT_snapshot oT_text oT_serves oT_took oT_tookMany oT_helps oT_before oT_read T_thrown T_stateMany T_hasSnapshot T_length T_stopNumber T_stopError T_at T_isWell T_readMany T_s T_serves1 T_took2 T_tookMany3 T_helps4) H locs := hwd
  refine lv_iconst (v := (nI 0)) hx hb dX7_shortInAll_10 rfl ?_
  refine lv_istore_n (lv' := [(1, .int (nI 0)), (0, .ref oT)]) hx hb dX7_shortInAll_11 rfl hl (by decide) rfl (fun ls hl => ?_)
  refine lv_iconst (v := (nI 0)) hx hb dX7_shortInAll_12 rfl ?_
  refine lv_istore_n (lv' := [(2, .int (nI 0)), (1, .int (nI 0)), (0, .ref oT)]) hx hb dX7_shortInAll_13 rfl hl (by decide) rfl (fun ls hl => ?_)
  obtain ⟨n5, hw⟩ := hw
  refine blk_X7_shortInAll_14 (CX := CX) (oT := oT) (oT_s := oT_s) (oT_aside := oT_aside) (oT_states := oT_states) (oT_snapshot := oT_snapshot) (oT_text := oT_text) (oT_serves := oT_serves) (oT_took := oT_took) (oT_tookMany := oT_tookMany) (oT_helps := oT_helps) (oT_before := oT_before) (oT_read := oT_read) (T_thrown := T_thrown) (T_stateMany := T_stateMany) (T_hasSnapshot := T_hasSnapshot) (T_length := T_length) (T_stopNumber := T_stopNumber) (T_stopError := T_stopError) (T_at := T_at) (T_isWell := T_isWell) (T_readMany := T_readMany) (T_s := T_s) (T_serves := T_serves1) (T_took := T_took2) (T_tookMany := T_tookMany3) (T_helps := T_helps4) (HR := HR) (HK_34 := fun x1_6 hw H locs ls hwd hl => ?_) n5 (nI 0) (nI 0) hw _ _ _ hwd (lv_sub hl [2, 1, 0] rfl)
  try dsimp only at hw
  refine lv_iload_n hx hb dX7_shortInAll_34 rfl (lv_at hl 0 rfl) ?_
  exact HR x1_6 T_serves1 T_took2 T_tookMany3 T_helps4 hw hwd dX7_shortInAll_35
abbrev ww_X7_persons (cI cC : ClassId) (oT oT_s oT_aside oT_states oT_snapshot oT_text oT_serves oT_took oT_tookMany oT_helps oT_before oT_read : Nat) (T_thrown : Int32) (T_stateMany : Int32) (T_hasSnapshot : Int32) (T_length : Int32) (T_stopNumber : Int32) (T_stopError : Int32) (T_at : Int32) (T_isWell : Int32) (T_readMany : Int32) (T_s : Nat → Int32) (T_serves : Nat → Int32) (T_took : Nat → Int32) (T_tookMany : Nat → Int32) (T_helps : Nat → Int32) : va_W := [(oT, .inr (7, [.int T_thrown, .ref oT_s, .ref oT_aside, .ref oT_states, .int T_stateMany, .ref oT_snapshot, .int T_hasSnapshot, .ref oT_text, .int T_length, .int T_stopNumber, .int T_stopError, .ref oT_serves, .ref oT_took, .ref oT_tookMany, .ref oT_helps, .ref oT_before, .int T_at, .int T_isWell, .ref oT_read, .int T_readMany])), (oT_s, .inl (cI, 474, .inl T_s)), (oT_serves, .inl (cI, 16, .inl T_serves)), (oT_took, .inl (cI, 30, .inl T_took)), (oT_tookMany, .inl (cI, 10, .inl T_tookMany)), (oT_helps, .inl (cI, 10, .inl T_helps))]
abbrev rm_X7_persons : Room := { frames := 5, cells := 0, slots := 0, locals := 113 }
theorem ic_X7_persons_X7 : ∀ w ∈ u_ws RX7 TX7 20, w ∈ wsX7_persons := by
  intro w h
  simp only [wsX7_persons, List.mem_cons, List.mem_append]
  simp only [h, or_true, true_or]
def wb_X7_persons_64 (x2 : Int32) (x3 : Int32) (K_14 : Int32 → Int32 → Prop) (st0 : Int32) : Prop := ((st0 = 0 → ∀ x2_2, x2_2 = x2 + (nI 0) → ∀ x3_3, x3_3 = x3 + (nI 1) → K_14 x2_2 x3_3) ∧ (¬ st0 = 0 → ∀ x2_4, x2_4 = x2 + (nI 1) → ∀ x3_5, x3_5 = x3 + (nI 1) → K_14 x2_4 x3_5))
set_option maxRecDepth 100000 in
set_option maxHeartbeats 4000000 in
theorem blk_X7_persons_64 {p : Program} {l : Launch} {e : Env} {s : State} {m : MethodId} {args : Array Value} {below : List Frame} {meth : Method} {c : Code} {D : va_G} {cI cC cR : ClassId} {A : Nat → Prop} {Z : State → Prop} (CX : cx cX7_persons (some .int) 5 RX7 wsX7_persons p m meth c s args D cI cC cR A) (oT oT_s oT_aside oT_states oT_snapshot oT_text oT_serves oT_took oT_tookMany oT_helps oT_before oT_read : Nat) (T_thrown : Int32) (T_stateMany : Int32) (T_hasSnapshot : Int32) (T_length : Int32) (T_stopNumber : Int32) (T_stopError : Int32) (T_at : Int32) (T_isWell : Int32) (T_readMany : Int32) (T_s : Nat → Int32) (T_serves : Nat → Int32) (T_took : Nat → Int32) (T_tookMany : Nat → Int32) (T_helps : Nat → Int32) (x1 : Int32) (x2 : Int32) (x3 : Int32) {K_14 : Int32 → Int32 → Prop} {Q : Int32 → (Nat → Int32) → (Nat → Int32) → (Nat → Int32) → (Nat → Int32) → Prop} (HR : ∀ (r : Int32) (u0 : Nat → Int32) (u1 : Nat → Int32) (u2 : Nat → Int32) (u3 : Nat → Int32) {H : Heap} {locs : List Loc} {ls : Array Slot} {pc : Nat}, Q r u0 u1 u2 u3 → wd D A s (ww_X7_persons cI cC oT oT_s oT_aside oT_states oT_snapshot oT_text oT_serves oT_took oT_tookMany oT_helps oT_before oT_read T_thrown T_stateMany T_hasSnapshot T_length T_stopNumber T_stopError T_at T_isWell T_readMany T_s u0 u1 u2 u3) H locs → decode cX7_persons pc = .ok (.ireturn, 1) → W p l e (headSpec wsX7_persons rm_X7_persons).room s m args below meth c H locs 0 0 Z (F0 m pc ls [.int r])) (HK_14 : ∀ (x2y : Int32) (x3y : Int32), K_14 x2y x3y → ∀ (H : Heap) (locs : List Loc) (ls : Array Slot), wd D A s (ww_X7_persons cI cC oT oT_s oT_aside oT_states oT_snapshot oT_text oT_serves oT_took oT_tookMany oT_helps oT_before oT_read T_thrown T_stateMany T_hasSnapshot T_length T_stopNumber T_stopError T_at T_isWell T_readMany T_s T_serves T_took T_tookMany T_helps) H locs → lv_has ls 5 [(0, .ref oT), (1, .int x1), (2, .int x2y), (3, .int x3y)] → W p l e (headSpec wsX7_persons rm_X7_persons).room s m args below meth c H locs 0 0 Z (F0 m 14 ls [])) : ∀ (st0 : Int32), wb_X7_persons_64 x2 x3 K_14 st0 → ∀ (H : Heap) (locs : List Loc) (ls : Array Slot), wd D A s (ww_X7_persons cI cC oT oT_s oT_aside oT_states oT_snapshot oT_text oT_serves oT_took oT_tookMany oT_helps oT_before oT_read T_thrown T_stateMany T_hasSnapshot T_length T_stopNumber T_stopError T_at T_isWell T_readMany T_s T_serves T_took T_tookMany T_helps) H locs → lv_has ls 5 [(0, .ref oT), (1, .int x1), (2, .int x2), (3, .int x3)] → W p l e (headSpec wsX7_persons rm_X7_persons).room s m args below meth c H locs 0 0 Z (F0 m 64 ls [.int st0]) := by
  obtain ⟨hx, hb, hr, hml, hts, hown, hlocks, hKw, hA⟩ := id CX
  intro st0 hw H locs ls hwd hl
  unfold wb_X7_persons_64 at hw
  refine lv_istore (lv' := [(4, .int st0), (0, .ref oT), (1, .int x1), (2, .int x2), (3, .int x3)]) hx hb dX7_persons_64 hl (by decide) rfl (fun ls hl => ?_)
  refine lv_iload_n hx hb dX7_persons_66 rfl (lv_at hl 3 rfl) ?_
  refine lv_iload hx hb dX7_persons_67 (lv_at hl 0 rfl) ?_
  refine lv_if_eq (tgt := 76) hx hb dX7_persons_69 (by decide) (fun c1 => ?_) (fun c1 => ?_)
  · replace hw := hw.1 c1
    refine lv_iconst (v := (nI 0)) hx hb dX7_persons_76 rfl ?_
    refine lv_iadd hx hb dX7_persons_77 ?_
    refine lv_topi (fun x2_2 e_x2_2 => ?_)
    replace hw := hw x2_2 e_x2_2
    refine lv_istore_n (lv' := [(2, .int x2_2), (4, .int st0), (0, .ref oT), (1, .int x1), (3, .int x3)]) hx hb dX7_persons_78 rfl hl (by decide) rfl (fun ls hl => ?_)
    obtain ⟨x3_3, e_x3_3⟩ : ∃ y : Int32, y = x3 + (nI 1) := ⟨_, rfl⟩
    replace hw := hw x3_3 e_x3_3
    refine lv_iinc (v := x3_3) (lv' := [(3, .int x3_3), (2, .int x2_2), (4, .int st0), (0, .ref oT), (1, .int x1)]) hx hb dX7_persons_79 hl (k := 4) rfl (by rw [e_x3_3]; rfl) (by decide) rfl (fun ls hl => ?_)
    refine lv_goto (tgt := 14) hx hb dX7_persons_82 (by decide) ?_
    exact HK_14 x2_2 x3_3 hw _ _ _ hwd (lv_sub hl [3, 4, 1, 0] rfl)
  · replace hw := hw.2 c1
    refine lv_iconst (v := (nI 1)) hx hb dX7_persons_72 rfl ?_
    refine lv_goto (tgt := 77) hx hb dX7_persons_73 (by decide) ?_
    refine lv_iadd hx hb dX7_persons_77 ?_
    refine lv_topi (fun x2_4 e_x2_4 => ?_)
    replace hw := hw x2_4 e_x2_4
    refine lv_istore_n (lv' := [(2, .int x2_4), (4, .int st0), (0, .ref oT), (1, .int x1), (3, .int x3)]) hx hb dX7_persons_78 rfl hl (by decide) rfl (fun ls hl => ?_)
    obtain ⟨x3_5, e_x3_5⟩ : ∃ y : Int32, y = x3 + (nI 1) := ⟨_, rfl⟩
    replace hw := hw x3_5 e_x3_5
    refine lv_iinc (v := x3_5) (lv' := [(3, .int x3_5), (2, .int x2_4), (4, .int st0), (0, .ref oT), (1, .int x1)]) hx hb dX7_persons_79 hl (k := 4) rfl (by rw [e_x3_5]; rfl) (by decide) rfl (fun ls hl => ?_)
    refine lv_goto (tgt := 14) hx hb dX7_persons_82 (by decide) ?_
    exact HK_14 x2_4 x3_5 hw _ _ _ hwd (lv_sub hl [3, 4, 1, 0] rfl)
def wb_X7_persons_14 (T_s : Nat → Int32) (T_serves : Nat → Int32) (x1 : Int32) (K_85 : Int32 → Prop) : Nat → Int32 → Int32 → Prop
  | 0, _, _ => False
  | n + 1, x2, x3 => (((nI 16) ≤ x3 → K_85 x2) ∧ (¬ (nI 16) ≤ x3 → ((x1 = 0 → vp_in (nI 3) 474 ∧ wp_X7_leaveOn T_s x3 (T_s (nI 3).toNatClampNeg) (fun r3 => ((r3 = (-5) → wb_X7_persons_64 x2 x3 (fun x2z x3z => wb_X7_persons_14 T_s T_serves x1 K_85 n x2z x3z) (nI 0)) ∧ (¬ r3 = (-5) → wb_X7_persons_64 x2 x3 (fun x2z x3z => wb_X7_persons_14 T_s T_serves x1 K_85 n x2z x3z) (nI 1))))) ∧ (¬ x1 = 0 → vp_in x3 16 ∧ (((T_serves x3.toNatClampNeg) = (-5) → wb_X7_persons_64 x2 x3 (fun x2z x3z => wb_X7_persons_14 T_s T_serves x1 K_85 n x2z x3z) (nI 0)) ∧ (¬ (T_serves x3.toNatClampNeg) = (-5) → wb_X7_persons_64 x2 x3 (fun x2z x3z => wb_X7_persons_14 T_s T_serves x1 K_85 n x2z x3z) (nI 1)))))))
set_option maxRecDepth 100000 in
set_option maxHeartbeats 4000000 in
theorem blk_X7_persons_14 {p : Program} {l : Launch} {e : Env} {s : State} {m : MethodId} {args : Array Value} {below : List Frame} {meth : Method} {c : Code} {D : va_G} {cI cC cR : ClassId} {A : Nat → Prop} {Z : State → Prop} (CX : cx cX7_persons (some .int) 5 RX7 wsX7_persons p m meth c s args D cI cC cR A) (oT oT_s oT_aside oT_states oT_snapshot oT_text oT_serves oT_took oT_tookMany oT_helps oT_before oT_read : Nat) (T_thrown : Int32) (T_stateMany : Int32) (T_hasSnapshot : Int32) (T_length : Int32) (T_stopNumber : Int32) (T_stopError : Int32) (T_at : Int32) (T_isWell : Int32) (T_readMany : Int32) (T_s : Nat → Int32) (T_serves : Nat → Int32) (T_took : Nat → Int32) (T_tookMany : Nat → Int32) (T_helps : Nat → Int32) (x1 : Int32) {K_85 : Int32 → Prop} {Q : Int32 → (Nat → Int32) → (Nat → Int32) → (Nat → Int32) → (Nat → Int32) → Prop} (HR : ∀ (r : Int32) (u0 : Nat → Int32) (u1 : Nat → Int32) (u2 : Nat → Int32) (u3 : Nat → Int32) {H : Heap} {locs : List Loc} {ls : Array Slot} {pc : Nat}, Q r u0 u1 u2 u3 → wd D A s (ww_X7_persons cI cC oT oT_s oT_aside oT_states oT_snapshot oT_text oT_serves oT_took oT_tookMany oT_helps oT_before oT_read T_thrown T_stateMany T_hasSnapshot T_length T_stopNumber T_stopError T_at T_isWell T_readMany T_s u0 u1 u2 u3) H locs → decode cX7_persons pc = .ok (.ireturn, 1) → W p l e (headSpec wsX7_persons rm_X7_persons).room s m args below meth c H locs 0 0 Z (F0 m pc ls [.int r])) (HK_85 : ∀ (x2y : Int32), K_85 x2y → ∀ (H : Heap) (locs : List Loc) (ls : Array Slot), wd D A s (ww_X7_persons cI cC oT oT_s oT_aside oT_states oT_snapshot oT_text oT_serves oT_took oT_tookMany oT_helps oT_before oT_read T_thrown T_stateMany T_hasSnapshot T_length T_stopNumber T_stopError T_at T_isWell T_readMany T_s T_serves T_took T_tookMany T_helps) H locs → lv_has ls 5 [(2, .int x2y)] → W p l e (headSpec wsX7_persons rm_X7_persons).room s m args below meth c H locs 0 0 Z (F0 m 85 ls [])) : ∀ (n : Nat) (x2 : Int32) (x3 : Int32), wb_X7_persons_14 T_s T_serves x1 K_85 n x2 x3 → ∀ (H : Heap) (locs : List Loc) (ls : Array Slot), wd D A s (ww_X7_persons cI cC oT oT_s oT_aside oT_states oT_snapshot oT_text oT_serves oT_took oT_tookMany oT_helps oT_before oT_read T_thrown T_stateMany T_hasSnapshot T_length T_stopNumber T_stopError T_at T_isWell T_readMany T_s T_serves T_took T_tookMany T_helps) H locs → lv_has ls 5 [(0, .ref oT), (1, .int x1), (2, .int x2), (3, .int x3)] → W p l e (headSpec wsX7_persons rm_X7_persons).room s m args below meth c H locs 0 0 Z (F0 m 14 ls []) := by
  obtain ⟨hx, hb, hr, hml, hts, hown, hlocks, hKw, hA⟩ := id CX
  intro n
  induction n with
  | zero => intro x2 x3 hw; exact False.elim hw
  | succ n ih =>
    intro x2 x3 hw H locs ls hwd hl
    rw [wb_X7_persons_14] at hw
    refine lv_iload_n hx hb dX7_persons_14 rfl (lv_at hl 3 rfl) ?_
    refine lv_bipush (v := (nI 16)) hx hb dX7_persons_15 rfl ?_
    refine lv_icmp_ge (tgt := 85) hx hb dX7_persons_17 (by decide) (fun c1 => ?_) (fun c1 => ?_)
    · replace hw := hw.1 c1
      exact HK_85 x2 hw _ _ _ hwd (lv_sub hl [2] rfl)
    · replace hw := hw.2 c1
      refine lv_iload_n hx hb dX7_persons_20 rfl (lv_at hl 1 rfl) ?_
      refine lv_if_eq (tgt := 43) hx hb dX7_persons_21 (by decide) (fun c2 => ?_) (fun c2 => ?_)
      · replace hw := hw.1 c2
        refine lv_aload_n hx hb dX7_persons_43 rfl (lv_at hl 0 rfl) ?_
        refine lv_iload_n hx hb dX7_persons_44 rfl (lv_at hl 3 rfl) ?_
        refine lv_aload_n hx hb dX7_persons_45 rfl (lv_at hl 0 rfl) ?_
        refine va_get (D := D) (ci := 7) (v := .ref oT_s) (C := RX7) (T := TX7) (N := 20) hx hb hts ic_X7_persons_X7 hown hKw.1 hwd.1 0 rfl rfl 1 (by decide) (hts (.fieldLink RX7 7 "DrillWardensModel" "s" "[I") (List.mem_of_getElem? (i := 1) rfl)) (fun _ h9 => h9) rfl dX7_persons_46 ?_
        refine lv_iconst (v := (nI 3)) hx hb dX7_persons_49 rfl ?_
        refine va_iald hx hb hKw.1 hwd.1 1 0 rfl rfl hw.1 dX7_persons_50 ?_
        replace hw := hw.2
        refine kcVi (W1 := (fun u => (ww_X7_persons cI cC oT oT_s oT_aside oT_states oT_snapshot oT_text oT_serves oT_took oT_tookMany oT_helps oT_before oT_read T_thrown T_stateMany T_hasSnapshot T_length T_stopNumber T_stopError T_at T_isWell T_readMany T_s T_serves T_took T_tookMany T_helps))) (rest := []) (As := [.int x3, .int (T_s (nI 3).toNatClampNeg)]) ⟨Nat.le_of_ble_eq_true rfl, Nat.le_of_ble_eq_true rfl⟩ ⟨hx, hb, hml, hown, hts⟩ (c_X7_leaveOn l oT oT_s oT_aside oT_states oT_snapshot oT_text oT_serves oT_took oT_tookMany oT_helps oT_before oT_read H.size T_thrown T_stateMany T_hasSnapshot T_length T_stopNumber T_stopError T_at T_isWell T_readMany T_s x3 (T_s (nI 3).toNatClampNeg) hw) (cwV 2 hts gX7_persons_X7_leaveOn rfl rfl rfl ⟨rfl, hd_X7_leaveOn⟩ ⟨Nat.le_of_ble_eq_true rfl, Nat.le_of_ble_eq_true rfl⟩) hKw hA hwd [0, 1] [2, 3, 4, 5] [4, 5, 0, 1, 2, 3] [(oT_serves, .inl (cI, 16, .inl T_serves)), (oT_took, .inl (cI, 30, .inl T_took)), (oT_tookMany, .inl (cI, 10, .inl T_tookMany)), (oT_helps, .inl (cI, 10, .inl T_helps))] rfl rfl rfl rfl (by decide) rfl (fun _ => rfl) 0 7 rfl rfl rfl rfl hl.1 rfl (lv_room (Nat.le_of_ble_eq_true rfl)) dX7_persons_51 (fun r3 u H locs hw hwd => ?_)
        try dsimp only at hw
        replace hwd : wd D A s (ww_X7_persons cI cC oT oT_s oT_aside oT_states oT_snapshot oT_text oT_serves oT_took oT_tookMany oT_helps oT_before oT_read T_thrown T_stateMany T_hasSnapshot T_length T_stopNumber T_stopError T_at T_isWell T_readMany T_s T_serves T_took T_tookMany T_helps) H locs := hwd
        refine lv_bipush (v := (-5)) hx hb dX7_persons_54 rfl ?_
        refine lv_icmp_eq (tgt := 63) hx hb dX7_persons_56 (by decide) (fun c4 => ?_) (fun c4 => ?_)
        · replace hw := hw.1 c4
          refine lv_iconst (v := (nI 0)) hx hb dX7_persons_63 rfl ?_
          refine blk_X7_persons_64 (CX := CX) (oT := oT) (oT_s := oT_s) (oT_aside := oT_aside) (oT_states := oT_states) (oT_snapshot := oT_snapshot) (oT_text := oT_text) (oT_serves := oT_serves) (oT_took := oT_took) (oT_tookMany := oT_tookMany) (oT_helps := oT_helps) (oT_before := oT_before) (oT_read := oT_read) (T_thrown := T_thrown) (T_stateMany := T_stateMany) (T_hasSnapshot := T_hasSnapshot) (T_length := T_length) (T_stopNumber := T_stopNumber) (T_stopError := T_stopError) (T_at := T_at) (T_isWell := T_isWell) (T_readMany := T_readMany) (T_s := T_s) (T_serves := T_serves) (T_took := T_took) (T_tookMany := T_tookMany) (T_helps := T_helps) (x1 := x1) (x2 := x2) (x3 := x3) (HR := HR) (HK_14 := fun x2z x3z hw H locs ls hwd hl => ih x2z x3z hw H locs ls hwd hl) (nI 0) hw _ _ _ hwd hl
        · replace hw := hw.2 c4
          refine lv_iconst (v := (nI 1)) hx hb dX7_persons_59 rfl ?_
          refine lv_goto (tgt := 64) hx hb dX7_persons_60 (by decide) ?_
          refine blk_X7_persons_64 (CX := CX) (oT := oT) (oT_s := oT_s) (oT_aside := oT_aside) (oT_states := oT_states) (oT_snapshot := oT_snapshot) (oT_text := oT_text) (oT_serves := oT_serves) (oT_took := oT_took) (oT_tookMany := oT_tookMany) (oT_helps := oT_helps) (oT_before := oT_before) (oT_read := oT_read) (T_thrown := T_thrown) (T_stateMany := T_stateMany) (T_hasSnapshot := T_hasSnapshot) (T_length := T_length) (T_stopNumber := T_stopNumber) (T_stopError := T_stopError) (T_at := T_at) (T_isWell := T_isWell) (T_readMany := T_readMany) (T_s := T_s) (T_serves := T_serves) (T_took := T_took) (T_tookMany := T_tookMany) (T_helps := T_helps) (x1 := x1) (x2 := x2) (x3 := x3) (HR := HR) (HK_14 := fun x2z x3z hw H locs ls hwd hl => ih x2z x3z hw H locs ls hwd hl) (nI 1) hw _ _ _ hwd hl
      · replace hw := hw.2 c2
        refine lv_aload_n hx hb dX7_persons_24 rfl (lv_at hl 0 rfl) ?_
        refine va_get (D := D) (ci := 7) (v := .ref oT_serves) (C := RX7) (T := TX7) (N := 20) hx hb hts ic_X7_persons_X7 hown hKw.1 hwd.1 0 rfl rfl 11 (by decide) (hts (.fieldLink RX7 25 "DrillWardensModel" "serves" "[I") (List.mem_of_getElem? (i := 2) rfl)) (fun _ h9 => h9) rfl dX7_persons_25 ?_
        refine lv_iload_n hx hb dX7_persons_28 rfl (lv_at hl 3 rfl) ?_
        refine va_iald hx hb hKw.1 hwd.1 2 0 rfl rfl hw.1 dX7_persons_29 ?_
        replace hw := hw.2
        refine lv_bipush (v := (-5)) hx hb dX7_persons_30 rfl ?_
        refine lv_icmp_eq (tgt := 39) hx hb dX7_persons_32 (by decide) (fun c5 => ?_) (fun c5 => ?_)
        · replace hw := hw.1 c5
          refine lv_iconst (v := (nI 0)) hx hb dX7_persons_39 rfl ?_
          refine lv_goto (tgt := 64) hx hb dX7_persons_40 (by decide) ?_
          refine blk_X7_persons_64 (CX := CX) (oT := oT) (oT_s := oT_s) (oT_aside := oT_aside) (oT_states := oT_states) (oT_snapshot := oT_snapshot) (oT_text := oT_text) (oT_serves := oT_serves) (oT_took := oT_took) (oT_tookMany := oT_tookMany) (oT_helps := oT_helps) (oT_before := oT_before) (oT_read := oT_read) (T_thrown := T_thrown) (T_stateMany := T_stateMany) (T_hasSnapshot := T_hasSnapshot) (T_length := T_length) (T_stopNumber := T_stopNumber) (T_stopError := T_stopError) (T_at := T_at) (T_isWell := T_isWell) (T_readMany := T_readMany) (T_s := T_s) (T_serves := T_serves) (T_took := T_took) (T_tookMany := T_tookMany) (T_helps := T_helps) (x1 := x1) (x2 := x2) (x3 := x3) (HR := HR) (HK_14 := fun x2z x3z hw H locs ls hwd hl => ih x2z x3z hw H locs ls hwd hl) (nI 0) hw _ _ _ hwd hl
        · replace hw := hw.2 c5
          refine lv_iconst (v := (nI 1)) hx hb dX7_persons_35 rfl ?_
          refine lv_goto (tgt := 64) hx hb dX7_persons_36 (by decide) ?_
          refine blk_X7_persons_64 (CX := CX) (oT := oT) (oT_s := oT_s) (oT_aside := oT_aside) (oT_states := oT_states) (oT_snapshot := oT_snapshot) (oT_text := oT_text) (oT_serves := oT_serves) (oT_took := oT_took) (oT_tookMany := oT_tookMany) (oT_helps := oT_helps) (oT_before := oT_before) (oT_read := oT_read) (T_thrown := T_thrown) (T_stateMany := T_stateMany) (T_hasSnapshot := T_hasSnapshot) (T_length := T_length) (T_stopNumber := T_stopNumber) (T_stopError := T_stopError) (T_at := T_at) (T_isWell := T_isWell) (T_readMany := T_readMany) (T_s := T_s) (T_serves := T_serves) (T_took := T_took) (T_tookMany := T_tookMany) (T_helps := T_helps) (x1 := x1) (x2 := x2) (x3 := x3) (HR := HR) (HK_14 := fun x2z x3z hw H locs ls hwd hl => ih x2z x3z hw H locs ls hwd hl) (nI 1) hw _ _ _ hwd hl
def wp_X7_persons (T_s : Nat → Int32) (T_serves : Nat → Int32) (T_took : Nat → Int32) (T_tookMany : Nat → Int32) (T_helps : Nat → Int32) (x1 : Int32) (Q : Int32 → (Nat → Int32) → (Nat → Int32) → (Nat → Int32) → (Nat → Int32) → Prop) : Prop := vp_in (nI 3) 474 ∧ wp_X7_plans T_s T_serves T_took T_tookMany T_helps (T_s (nI 3).toNatClampNeg) (fun T_serves1 T_took2 T_tookMany3 T_helps4 => (∃ n5, wb_X7_persons_14 T_s T_serves1 x1 (fun x2_6 => Q x2_6 T_serves1 T_took2 T_tookMany3 T_helps4) n5 (nI 0) (nI 0)))
set_option maxRecDepth 100000 in
set_option maxHeartbeats 4000000 in
theorem c_X7_persons (l : Launch) {D : va_G} {cI cC cR : ClassId} (oT oT_s oT_aside oT_states oT_snapshot oT_text oT_serves oT_took oT_tookMany oT_helps oT_before oT_read : Nat) (sz : Nat) (T_thrown : Int32) (T_stateMany : Int32) (T_hasSnapshot : Int32) (T_length : Int32) (T_stopNumber : Int32) (T_stopError : Int32) (T_at : Int32) (T_isWell : Int32) (T_readMany : Int32) (T_s : Nat → Int32) (T_serves : Nat → Int32) (T_took : Nat → Int32) (T_tookMany : Nat → Int32) (T_helps : Nat → Int32) (x1 : Int32) {Q : Int32 → (Nat → Int32) → (Nat → Int32) → (Nat → Int32) → (Nat → Int32) → Prop} (hw : wp_X7_persons T_s T_serves T_took T_tookMany T_helps x1 Q) : Met l yX7_persons wsX7_persons rm_X7_persons (PcW D cI cC cR [.ref oT, .int x1] (ww_X7_persons cI cC oT oT_s oT_aside oT_states oT_snapshot oT_text oT_serves oT_took oT_tookMany oT_helps oT_before oT_read T_thrown T_stateMany T_hasSnapshot T_length T_stopNumber T_stopError T_at T_isWell T_readMany T_s T_serves T_took T_tookMany T_helps) sz) (QiW D (fun (r : Int32) (u : (Nat → Int32) × (Nat → Int32) × (Nat → Int32) × (Nat → Int32)) => Q r u.1 u.2.1 u.2.2.1 u.2.2.2) (fun u => (ww_X7_persons cI cC oT oT_s oT_aside oT_states oT_snapshot oT_text oT_serves oT_took oT_tookMany oT_helps oT_before oT_read T_thrown T_stateMany T_hasSnapshot T_length T_stopNumber T_stopError T_at T_isWell T_readMany T_s (u.1) (u.2.1) (u.2.2.1) (u.2.2.2))) (ww_X7_persons cI cC oT oT_s oT_aside oT_states oT_snapshot oT_text oT_serves oT_took oT_tookMany oT_helps oT_before oT_read T_thrown T_stateMany T_hasSnapshot T_length T_stopNumber T_stopError T_at T_isWell T_readMany T_s T_serves T_took T_tookMany T_helps) sz) 0 0 (va_A (ww_X7_persons cI cC oT oT_s oT_aside oT_states oT_snapshot oT_text oT_serves oT_took oT_tookMany oT_helps oT_before oT_read T_thrown T_stateMany T_hasSnapshot T_length T_stopNumber T_stopError T_at T_isWell T_readMany T_s T_serves T_took T_tookMany T_helps) sz) := by
  refine Met.ofW (cc := cX7_persons) (maxL := 5) (ret := (some .int)) (by decide) rfl ?_
  intro p e s m args below meth c s₁ B hml hv
  obtain ⟨rfl, hsz, hP, hKw, hD0⟩ := hv
  have hlocks := B.notSynchronized
  subst hsz
  have hD := hD0.self (sz := s.heap.size)
  have CX : cx cX7_persons (some .int) 5 RX7 wsX7_persons p m meth c s ([.ref oT, .int x1] : List Value).toArray D cI cC cR (va_A (ww_X7_persons cI cC oT oT_s oT_aside oT_states oT_snapshot oT_text oT_serves oT_took oT_tookMany oT_helps oT_before oT_read T_thrown T_stateMany T_hasSnapshot T_length T_stopNumber T_stopError T_at T_isWell T_readMany T_s T_serves T_took T_tookMany T_helps) s.heap.size) := ⟨B.exec, B.bytes, B.returns, hml, atoms_spec (ws := wsX7_persons) B.pre, findClass_of_methodNamed B.named, hlocks, hKw, fun q h => Or.inr h⟩
  obtain ⟨hx, hb, hr, -, hts, hown, -, -, hA⟩ := id CX
  have hwd : wd D (va_A (ww_X7_persons cI cC oT oT_s oT_aside oT_states oT_snapshot oT_text oT_serves oT_took oT_tookMany oT_helps oT_before oT_read T_thrown T_stateMany T_hasSnapshot T_length T_stopNumber T_stopError T_at T_isWell T_readMany T_s T_serves T_took T_tookMany T_helps) s.heap.size) s (ww_X7_persons cI cC oT oT_s oT_aside oT_states oT_snapshot oT_text oT_serves oT_took oT_tookMany oT_helps oT_before oT_read T_thrown T_stateMany T_hasSnapshot T_length T_stopNumber T_stopError T_at T_isWell T_readMany T_s T_serves T_took T_tookMany T_helps) s.heap [] := ⟨hP, hD, va_S.rf⟩
  have hl := lv_entry ([.ref oT, .int x1]) (n := 5) (Nat.le_of_ble_eq_true rfl)
  rw [lg_entry_eq]
  generalize (lg_sl ([.ref oT, .int x1]) ++ List.replicate (5 - (lg_sl ([.ref oT, .int x1])).length) Slot.unset).toArray = ls at hl ⊢
  have hl : lv_has ls 5 [(0, .ref oT), (1, .int x1)] := hl
  have HR : ∀ (r : Int32) (u0 : Nat → Int32) (u1 : Nat → Int32) (u2 : Nat → Int32) (u3 : Nat → Int32) {H : Heap} {locs : List Loc} {ls : Array Slot} {pc : Nat}, Q r u0 u1 u2 u3 → wd D (va_A (ww_X7_persons cI cC oT oT_s oT_aside oT_states oT_snapshot oT_text oT_serves oT_took oT_tookMany oT_helps oT_before oT_read T_thrown T_stateMany T_hasSnapshot T_length T_stopNumber T_stopError T_at T_isWell T_readMany T_s T_serves T_took T_tookMany T_helps) s.heap.size) s (ww_X7_persons cI cC oT oT_s oT_aside oT_states oT_snapshot oT_text oT_serves oT_took oT_tookMany oT_helps oT_before oT_read T_thrown T_stateMany T_hasSnapshot T_length T_stopNumber T_stopError T_at T_isWell T_readMany T_s u0 u1 u2 u3) H locs → decode cX7_persons pc = .ok (.ireturn, 1) → W p l e (headSpec wsX7_persons rm_X7_persons).room s m ([.ref oT, .int x1] : List Value).toArray below meth c H locs 0 0 (MQ below (QiW D (fun (r : Int32) (u : (Nat → Int32) × (Nat → Int32) × (Nat → Int32) × (Nat → Int32)) => Q r u.1 u.2.1 u.2.2.1 u.2.2.2) (fun u => (ww_X7_persons cI cC oT oT_s oT_aside oT_states oT_snapshot oT_text oT_serves oT_took oT_tookMany oT_helps oT_before oT_read T_thrown T_stateMany T_hasSnapshot T_length T_stopNumber T_stopError T_at T_isWell T_readMany T_s (u.1) (u.2.1) (u.2.2.1) (u.2.2.2))) (ww_X7_persons cI cC oT oT_s oT_aside oT_states oT_snapshot oT_text oT_serves oT_took oT_tookMany oT_helps oT_before oT_read T_thrown T_stateMany T_hasSnapshot T_length T_stopNumber T_stopError T_at T_isWell T_readMany T_s T_serves T_took T_tookMany T_helps) s.heap.size) ([.ref oT, .int x1] : List Value).toArray s 0 0 (va_A (ww_X7_persons cI cC oT oT_s oT_aside oT_states oT_snapshot oT_text oT_serves oT_took oT_tookMany oT_helps oT_before oT_read T_thrown T_stateMany T_hasSnapshot T_length T_stopNumber T_stopError T_at T_isWell T_readMany T_s T_serves T_took T_tookMany T_helps) s.heap.size)) (F0 m pc ls [.int r]) := by
    intro r u0 u1 u2 u3 H locs ls pc hq hw9 hd9
    exact W.iret (v := r) hx hb hr (fun t ht hW => ⟨⟨r, (u0, u1, u2, u3), rfl, hq, by rw [ht]; exact hw9.1, hw9.2.1⟩, hw9.2.2.F ht⟩) hw9.2.2.2.2 hd9
  unfold wp_X7_persons at hw
  refine lv_aload_n hx hb dX7_persons_0 rfl (lv_at hl 0 rfl) ?_
  refine lv_aload_n hx hb dX7_persons_1 rfl (lv_at hl 0 rfl) ?_
  refine va_get (D := D) (ci := 7) (v := .ref oT_s) (C := RX7) (T := TX7) (N := 20) hx hb hts ic_X7_persons_X7 hown hKw.1 hwd.1 0 rfl rfl 1 (by decide) (hts (.fieldLink RX7 7 "DrillWardensModel" "s" "[I") (List.mem_of_getElem? (i := 1) rfl)) (fun _ h9 => h9) rfl dX7_persons_2 ?_
  refine lv_iconst (v := (nI 3)) hx hb dX7_persons_5 rfl ?_
  refine va_iald hx hb hKw.1 hwd.1 1 0 rfl rfl hw.1 dX7_persons_6 ?_
  replace hw := hw.2
  refine kcVv (W1 := (fun u => (ww_X7_persons cI cC oT oT_s oT_aside oT_states oT_snapshot oT_text oT_serves oT_took oT_tookMany oT_helps oT_before oT_read T_thrown T_stateMany T_hasSnapshot T_length T_stopNumber T_stopError T_at T_isWell T_readMany T_s (u.1) (u.2.1) (u.2.2.1) (u.2.2.2)))) (rest := []) (As := [.int (T_s (nI 3).toNatClampNeg)]) ⟨Nat.le_of_ble_eq_true rfl, Nat.le_of_ble_eq_true rfl⟩ ⟨hx, hb, hml, hown, hts⟩ (c_X7_plans l oT oT_s oT_aside oT_states oT_snapshot oT_text oT_serves oT_took oT_tookMany oT_helps oT_before oT_read s.heap.size T_thrown T_stateMany T_hasSnapshot T_length T_stopNumber T_stopError T_at T_isWell T_readMany T_s T_serves T_took T_tookMany T_helps (T_s (nI 3).toNatClampNeg) hw) (cwV 1 hts gX7_persons_X7_plans rfl rfl rfl ⟨rfl, hd_X7_plans⟩ ⟨Nat.le_of_ble_eq_true rfl, Nat.le_of_ble_eq_true rfl⟩) hKw hA hwd [0, 1, 2, 3, 4, 5] [] [0, 1, 2, 3, 4, 5] [] rfl rfl rfl rfl (by decide) rfl (fun _ => rfl) 0 7 rfl rfl rfl rfl hl.1 rfl (lv_room (Nat.le_of_ble_eq_true rfl)) dX7_persons_7 (fun u H locs hw hwd => ?_)
  obtain ⟨T_serves1, T_took2, T_tookMany3, T_helps4⟩ := u
  try dsimp only at hw
  replace hwd : wd D (va_A (ww_X7_persons cI cC oT oT_s oT_aside oT_states oT_snapshot oT_text oT_serves oT_took oT_tookMany oT_helps oT_before oT_read T_thrown T_stateMany T_hasSnapshot T_length T_stopNumber T_stopError T_at T_isWell T_readMany T_s T_serves T_took T_tookMany T_helps) s.heap.size) s (ww_X7_persons cI cC oT oT_s oT_aside oT_states oT_snapshot oT_text oT_serves oT_took oT_tookMany oT_helps oT_before oT_read T_thrown T_stateMany T_hasSnapshot T_length T_stopNumber T_stopError T_at T_isWell T_readMany T_s T_serves1 T_took2 T_tookMany3 T_helps4) H locs := hwd
  refine lv_iconst (v := (nI 0)) hx hb dX7_persons_10 rfl ?_
  refine lv_istore_n (lv' := [(2, .int (nI 0)), (0, .ref oT), (1, .int x1)]) hx hb dX7_persons_11 rfl hl (by decide) rfl (fun ls hl => ?_)
  refine lv_iconst (v := (nI 0)) hx hb dX7_persons_12 rfl ?_
  refine lv_istore_n (lv' := [(3, .int (nI 0)), (2, .int (nI 0)), (0, .ref oT), (1, .int x1)]) hx hb dX7_persons_13 rfl hl (by decide) rfl (fun ls hl => ?_)
  obtain ⟨n5, hw⟩ := hw
  refine blk_X7_persons_14 (CX := CX) (oT := oT) (oT_s := oT_s) (oT_aside := oT_aside) (oT_states := oT_states) (oT_snapshot := oT_snapshot) (oT_text := oT_text) (oT_serves := oT_serves) (oT_took := oT_took) (oT_tookMany := oT_tookMany) (oT_helps := oT_helps) (oT_before := oT_before) (oT_read := oT_read) (T_thrown := T_thrown) (T_stateMany := T_stateMany) (T_hasSnapshot := T_hasSnapshot) (T_length := T_length) (T_stopNumber := T_stopNumber) (T_stopError := T_stopError) (T_at := T_at) (T_isWell := T_isWell) (T_readMany := T_readMany) (T_s := T_s) (T_serves := T_serves1) (T_took := T_took2) (T_tookMany := T_tookMany3) (T_helps := T_helps4) (x1 := x1) (HR := HR) (HK_85 := fun x2_6 hw H locs ls hwd hl => ?_) n5 (nI 0) (nI 0) hw _ _ _ hwd (lv_sub hl [2, 3, 1, 0] rfl)
  try dsimp only at hw
  refine lv_iload_n hx hb dX7_persons_85 rfl (lv_at hl 0 rfl) ?_
  exact HR x2_6 T_serves1 T_took2 T_tookMany3 T_helps4 hw hwd dX7_persons_86
abbrev ww_X7_count (cI cC : ClassId) (oT oT_s oT_aside oT_states oT_snapshot oT_text oT_serves oT_took oT_tookMany oT_helps oT_before oT_read : Nat) (T_thrown : Int32) (T_stateMany : Int32) (T_hasSnapshot : Int32) (T_length : Int32) (T_stopNumber : Int32) (T_stopError : Int32) (T_at : Int32) (T_isWell : Int32) (T_readMany : Int32) (T_s : Nat → Int32) (T_serves : Nat → Int32) (T_took : Nat → Int32) (T_tookMany : Nat → Int32) (T_helps : Nat → Int32) : va_W := [(oT, .inr (7, [.int T_thrown, .ref oT_s, .ref oT_aside, .ref oT_states, .int T_stateMany, .ref oT_snapshot, .int T_hasSnapshot, .ref oT_text, .int T_length, .int T_stopNumber, .int T_stopError, .ref oT_serves, .ref oT_took, .ref oT_tookMany, .ref oT_helps, .ref oT_before, .int T_at, .int T_isWell, .ref oT_read, .int T_readMany])), (oT_s, .inl (cI, 474, .inl T_s)), (oT_serves, .inl (cI, 16, .inl T_serves)), (oT_took, .inl (cI, 30, .inl T_took)), (oT_tookMany, .inl (cI, 10, .inl T_tookMany)), (oT_helps, .inl (cI, 10, .inl T_helps))]
abbrev rm_X7_count : Room := { frames := 6, cells := 0, slots := 0, locals := 137 }
theorem ic_X7_count_X7 : ∀ w ∈ u_ws RX7 TX7 20, w ∈ wsX7_count := by
  intro w h
  simp only [wsX7_count, List.mem_cons, List.mem_append]
  simp only [h, or_true, true_or]
def wb_X7_count_109 (T_thrown : Int32) (T_s : Nat → Int32) (T_serves : Nat → Int32) (T_took : Nat → Int32) (T_tookMany : Nat → Int32) (T_helps : Nat → Int32) (x1 : Int32) (Q : Int32 → Int32 → (Nat → Int32) → (Nat → Int32) → (Nat → Int32) → (Nat → Int32) → Prop) : Prop := ((¬ x1 = (nI 4) → wp_X7_persons T_s T_serves T_took T_tookMany T_helps (nI 0) (fun r2 T_serves3 T_took4 T_tookMany5 T_helps6 => Q r2 T_thrown T_serves3 T_took4 T_tookMany5 T_helps6)) ∧ (x1 = (nI 4) → wp_X7_persons T_s T_serves T_took T_tookMany T_helps (nI 1) (fun r7 T_serves8 T_took9 T_tookMany10 T_helps11 => Q r7 T_thrown T_serves8 T_took9 T_tookMany10 T_helps11)))
set_option maxRecDepth 100000 in
set_option maxHeartbeats 4000000 in
theorem blk_X7_count_109 {p : Program} {l : Launch} {e : Env} {s : State} {m : MethodId} {args : Array Value} {below : List Frame} {meth : Method} {c : Code} {D : va_G} {cI cC cR : ClassId} {A : Nat → Prop} {Z : State → Prop} (CX : cx cX7_count (some .int) 2 RX7 wsX7_count p m meth c s args D cI cC cR A) (oT oT_s oT_aside oT_states oT_snapshot oT_text oT_serves oT_took oT_tookMany oT_helps oT_before oT_read : Nat) (T_thrown : Int32) (T_stateMany : Int32) (T_hasSnapshot : Int32) (T_length : Int32) (T_stopNumber : Int32) (T_stopError : Int32) (T_at : Int32) (T_isWell : Int32) (T_readMany : Int32) (T_s : Nat → Int32) (T_serves : Nat → Int32) (T_took : Nat → Int32) (T_tookMany : Nat → Int32) (T_helps : Nat → Int32) (x1 : Int32) {Q : Int32 → Int32 → (Nat → Int32) → (Nat → Int32) → (Nat → Int32) → (Nat → Int32) → Prop} (HR : ∀ (r : Int32) (u0 : Int32) (u1 : Nat → Int32) (u2 : Nat → Int32) (u3 : Nat → Int32) (u4 : Nat → Int32) {H : Heap} {locs : List Loc} {ls : Array Slot} {pc : Nat}, Q r u0 u1 u2 u3 u4 → wd D A s (ww_X7_count cI cC oT oT_s oT_aside oT_states oT_snapshot oT_text oT_serves oT_took oT_tookMany oT_helps oT_before oT_read u0 T_stateMany T_hasSnapshot T_length T_stopNumber T_stopError T_at T_isWell T_readMany T_s u1 u2 u3 u4) H locs → decode cX7_count pc = .ok (.ireturn, 1) → W p l e (headSpec wsX7_count rm_X7_count).room s m args below meth c H locs 0 0 Z (F0 m pc ls [.int r])) : wb_X7_count_109 T_thrown T_s T_serves T_took T_tookMany T_helps x1 Q → ∀ (H : Heap) (locs : List Loc) (ls : Array Slot), wd D A s (ww_X7_count cI cC oT oT_s oT_aside oT_states oT_snapshot oT_text oT_serves oT_took oT_tookMany oT_helps oT_before oT_read T_thrown T_stateMany T_hasSnapshot T_length T_stopNumber T_stopError T_at T_isWell T_readMany T_s T_serves T_took T_tookMany T_helps) H locs → lv_has ls 2 [(0, .ref oT), (1, .int x1)] → W p l e (headSpec wsX7_count rm_X7_count).room s m args below meth c H locs 0 0 Z (F0 m 109 ls []) := by
  obtain ⟨hx, hb, hr, hml, hts, hown, hlocks, hKw, hA⟩ := id CX
  intro  hw H locs ls hwd hl
  unfold wb_X7_count_109 at hw
  refine lv_aload_n hx hb dX7_count_109 rfl (lv_at hl 0 rfl) ?_
  refine lv_iload_n hx hb dX7_count_110 rfl (lv_at hl 1 rfl) ?_
  refine lv_iconst (v := (nI 4)) hx hb dX7_count_111 rfl ?_
  refine lv_icmp_ne (tgt := 119) hx hb dX7_count_112 (by decide) (fun c1 => ?_) (fun c1 => ?_)
  · replace hw := hw.1 c1
    refine lv_iconst (v := (nI 0)) hx hb dX7_count_119 rfl ?_
    refine kcVi (W1 := (fun u => (ww_X7_count cI cC oT oT_s oT_aside oT_states oT_snapshot oT_text oT_serves oT_took oT_tookMany oT_helps oT_before oT_read T_thrown T_stateMany T_hasSnapshot T_length T_stopNumber T_stopError T_at T_isWell T_readMany T_s (u.1) (u.2.1) (u.2.2.1) (u.2.2.2)))) (rest := []) (As := [.int (nI 0)]) ⟨Nat.le_of_ble_eq_true rfl, Nat.le_of_ble_eq_true rfl⟩ ⟨hx, hb, hml, hown, hts⟩ (c_X7_persons l oT oT_s oT_aside oT_states oT_snapshot oT_text oT_serves oT_took oT_tookMany oT_helps oT_before oT_read H.size T_thrown T_stateMany T_hasSnapshot T_length T_stopNumber T_stopError T_at T_isWell T_readMany T_s T_serves T_took T_tookMany T_helps (nI 0) hw) (cwV 1 hts gX7_count_X7_persons rfl rfl rfl ⟨rfl, hd_X7_persons⟩ ⟨Nat.le_of_ble_eq_true rfl, Nat.le_of_ble_eq_true rfl⟩) hKw hA hwd [0, 1, 2, 3, 4, 5] [] [0, 1, 2, 3, 4, 5] [] rfl rfl rfl rfl (by decide) rfl (fun _ => rfl) 0 7 rfl rfl rfl rfl hl.1 rfl (lv_room (Nat.le_of_ble_eq_true rfl)) dX7_count_120 (fun r2 u H locs hw hwd => ?_)
    obtain ⟨T_serves3, T_took4, T_tookMany5, T_helps6⟩ := u
    try dsimp only at hw
    replace hwd : wd D A s (ww_X7_count cI cC oT oT_s oT_aside oT_states oT_snapshot oT_text oT_serves oT_took oT_tookMany oT_helps oT_before oT_read T_thrown T_stateMany T_hasSnapshot T_length T_stopNumber T_stopError T_at T_isWell T_readMany T_s T_serves3 T_took4 T_tookMany5 T_helps6) H locs := hwd
    exact HR r2 T_thrown T_serves3 T_took4 T_tookMany5 T_helps6 hw hwd dX7_count_123
  · replace hw := hw.2 c1
    refine lv_iconst (v := (nI 1)) hx hb dX7_count_115 rfl ?_
    refine lv_goto (tgt := 120) hx hb dX7_count_116 (by decide) ?_
    refine kcVi (W1 := (fun u => (ww_X7_count cI cC oT oT_s oT_aside oT_states oT_snapshot oT_text oT_serves oT_took oT_tookMany oT_helps oT_before oT_read T_thrown T_stateMany T_hasSnapshot T_length T_stopNumber T_stopError T_at T_isWell T_readMany T_s (u.1) (u.2.1) (u.2.2.1) (u.2.2.2)))) (rest := []) (As := [.int (nI 1)]) ⟨Nat.le_of_ble_eq_true rfl, Nat.le_of_ble_eq_true rfl⟩ ⟨hx, hb, hml, hown, hts⟩ (c_X7_persons l oT oT_s oT_aside oT_states oT_snapshot oT_text oT_serves oT_took oT_tookMany oT_helps oT_before oT_read H.size T_thrown T_stateMany T_hasSnapshot T_length T_stopNumber T_stopError T_at T_isWell T_readMany T_s T_serves T_took T_tookMany T_helps (nI 1) hw) (cwV 1 hts gX7_count_X7_persons rfl rfl rfl ⟨rfl, hd_X7_persons⟩ ⟨Nat.le_of_ble_eq_true rfl, Nat.le_of_ble_eq_true rfl⟩) hKw hA hwd [0, 1, 2, 3, 4, 5] [] [0, 1, 2, 3, 4, 5] [] rfl rfl rfl rfl (by decide) rfl (fun _ => rfl) 0 7 rfl rfl rfl rfl hl.1 rfl (lv_room (Nat.le_of_ble_eq_true rfl)) dX7_count_120 (fun r7 u H locs hw hwd => ?_)
    obtain ⟨T_serves8, T_took9, T_tookMany10, T_helps11⟩ := u
    try dsimp only at hw
    replace hwd : wd D A s (ww_X7_count cI cC oT oT_s oT_aside oT_states oT_snapshot oT_text oT_serves oT_took oT_tookMany oT_helps oT_before oT_read T_thrown T_stateMany T_hasSnapshot T_length T_stopNumber T_stopError T_at T_isWell T_readMany T_s T_serves8 T_took9 T_tookMany10 T_helps11) H locs := hwd
    exact HR r7 T_thrown T_serves8 T_took9 T_tookMany10 T_helps11 hw hwd dX7_count_123
def wb_X7_count_132 (T_thrown : Int32) (T_s : Nat → Int32) (T_serves : Nat → Int32) (T_took : Nat → Int32) (T_tookMany : Nat → Int32) (T_helps : Nat → Int32) (x1 : Int32) (Q : Int32 → Int32 → (Nat → Int32) → (Nat → Int32) → (Nat → Int32) → (Nat → Int32) → Prop) : Prop := vp_in (((nI 4) + x1) - (nI 7)) 474 ∧ Q (T_s (((nI 4) + x1) - (nI 7)).toNatClampNeg) T_thrown T_serves T_took T_tookMany T_helps
set_option maxRecDepth 100000 in
set_option maxHeartbeats 4000000 in
theorem blk_X7_count_132 {p : Program} {l : Launch} {e : Env} {s : State} {m : MethodId} {args : Array Value} {below : List Frame} {meth : Method} {c : Code} {D : va_G} {cI cC cR : ClassId} {A : Nat → Prop} {Z : State → Prop} (CX : cx cX7_count (some .int) 2 RX7 wsX7_count p m meth c s args D cI cC cR A) (oT oT_s oT_aside oT_states oT_snapshot oT_text oT_serves oT_took oT_tookMany oT_helps oT_before oT_read : Nat) (T_thrown : Int32) (T_stateMany : Int32) (T_hasSnapshot : Int32) (T_length : Int32) (T_stopNumber : Int32) (T_stopError : Int32) (T_at : Int32) (T_isWell : Int32) (T_readMany : Int32) (T_s : Nat → Int32) (T_serves : Nat → Int32) (T_took : Nat → Int32) (T_tookMany : Nat → Int32) (T_helps : Nat → Int32) (x1 : Int32) {Q : Int32 → Int32 → (Nat → Int32) → (Nat → Int32) → (Nat → Int32) → (Nat → Int32) → Prop} (HR : ∀ (r : Int32) (u0 : Int32) (u1 : Nat → Int32) (u2 : Nat → Int32) (u3 : Nat → Int32) (u4 : Nat → Int32) {H : Heap} {locs : List Loc} {ls : Array Slot} {pc : Nat}, Q r u0 u1 u2 u3 u4 → wd D A s (ww_X7_count cI cC oT oT_s oT_aside oT_states oT_snapshot oT_text oT_serves oT_took oT_tookMany oT_helps oT_before oT_read u0 T_stateMany T_hasSnapshot T_length T_stopNumber T_stopError T_at T_isWell T_readMany T_s u1 u2 u3 u4) H locs → decode cX7_count pc = .ok (.ireturn, 1) → W p l e (headSpec wsX7_count rm_X7_count).room s m args below meth c H locs 0 0 Z (F0 m pc ls [.int r])) : wb_X7_count_132 T_thrown T_s T_serves T_took T_tookMany T_helps x1 Q → ∀ (H : Heap) (locs : List Loc) (ls : Array Slot), wd D A s (ww_X7_count cI cC oT oT_s oT_aside oT_states oT_snapshot oT_text oT_serves oT_took oT_tookMany oT_helps oT_before oT_read T_thrown T_stateMany T_hasSnapshot T_length T_stopNumber T_stopError T_at T_isWell T_readMany T_s T_serves T_took T_tookMany T_helps) H locs → lv_has ls 2 [(0, .ref oT), (1, .int x1)] → W p l e (headSpec wsX7_count rm_X7_count).room s m args below meth c H locs 0 0 Z (F0 m 132 ls []) := by
  obtain ⟨hx, hb, hr, hml, hts, hown, hlocks, hKw, hA⟩ := id CX
  intro  hw H locs ls hwd hl
  unfold wb_X7_count_132 at hw
  refine lv_aload_n hx hb dX7_count_132 rfl (lv_at hl 0 rfl) ?_
  refine va_get (D := D) (ci := 7) (v := .ref oT_s) (C := RX7) (T := TX7) (N := 20) hx hb hts ic_X7_count_X7 hown hKw.1 hwd.1 0 rfl rfl 1 (by decide) (hts (.fieldLink RX7 7 "DrillWardensModel" "s" "[I") (List.mem_of_getElem? (i := 2) rfl)) (fun _ h9 => h9) rfl dX7_count_133 ?_
  refine lv_iconst (v := (nI 4)) hx hb dX7_count_136 rfl ?_
  refine lv_iload_n hx hb dX7_count_137 rfl (lv_at hl 1 rfl) ?_
  refine lv_iadd hx hb dX7_count_138 ?_
  refine lv_bipush (v := (nI 7)) hx hb dX7_count_139 rfl ?_
  refine lv_isub hx hb dX7_count_141 ?_
  refine va_iald hx hb hKw.1 hwd.1 1 0 rfl rfl hw.1 dX7_count_142 ?_
  replace hw := hw.2
  exact HR (T_s (((nI 4) + x1) - (nI 7)).toNatClampNeg) T_thrown T_serves T_took T_tookMany T_helps hw hwd dX7_count_143
def wp_X7_count (T_thrown : Int32) (T_stateMany : Int32) (T_length : Int32) (T_s : Nat → Int32) (T_serves : Nat → Int32) (T_took : Nat → Int32) (T_tookMany : Nat → Int32) (T_helps : Nat → Int32) (x1 : Int32) (Q : Int32 → Int32 → (Nat → Int32) → (Nat → Int32) → (Nat → Int32) → (Nat → Int32) → Prop) : Prop := ((x1 = (nI 0) → vp_in (nI 3) 474 ∧ Q (T_s (nI 3).toNatClampNeg) (nI 0) T_serves T_took T_tookMany T_helps) ∧ (¬ x1 = (nI 0) → (x1 = (nI 1) → vp_in (nI 3) 474 ∧ Q ((T_s (nI 3).toNatClampNeg) / (nI 100)) (nI 0) T_serves T_took T_tookMany T_helps) ∧ (¬ x1 = (nI 1) → (x1 = (nI 2) → vp_in (nI 3) 474 ∧ wp_X7_shortFloors T_s T_serves T_took T_tookMany T_helps (T_s (nI 3).toNatClampNeg) (fun r4 T_serves5 T_took6 T_tookMany7 T_helps8 => Q r4 (nI 0) T_serves5 T_took6 T_tookMany7 T_helps8)) ∧ (¬ x1 = (nI 2) → (x1 = (nI 3) → wp_X7_shortInAll T_s T_serves T_took T_tookMany T_helps (fun r10 T_serves11 T_took12 T_tookMany13 T_helps14 => Q r10 (nI 0) T_serves11 T_took12 T_tookMany13 T_helps14)) ∧ (¬ x1 = (nI 3) → (x1 = (nI 4) → wb_X7_count_109 (nI 0) T_s T_serves T_took T_tookMany T_helps x1 Q) ∧ (¬ x1 = (nI 4) → (x1 = (nI 5) → wb_X7_count_109 (nI 0) T_s T_serves T_took T_tookMany T_helps x1 Q) ∧ (¬ x1 = (nI 5) → (x1 = (nI 6) → vp_in (nI 6) 474 ∧ Q (T_s (nI 6).toNatClampNeg) (nI 0) T_serves T_took T_tookMany T_helps) ∧ (¬ x1 = (nI 6) → (x1 = (nI 7) → wb_X7_count_132 (nI 0) T_s T_serves T_took T_tookMany T_helps x1 Q) ∧ (¬ x1 = (nI 7) → (x1 = (nI 8) → wb_X7_count_132 (nI 0) T_s T_serves T_took T_tookMany T_helps x1 Q) ∧ (¬ x1 = (nI 8) → (x1 = (nI 9) → vp_in (x1 - (nI 9)) 474 ∧ Q (T_s (x1 - (nI 9)).toNatClampNeg) (nI 0) T_serves T_took T_tookMany T_helps) ∧ (¬ x1 = (nI 9) → (x1 = (nI 10) → vp_in (x1 - (nI 9)) 474 ∧ Q (T_s (x1 - (nI 9)).toNatClampNeg) (nI 0) T_serves T_took T_tookMany T_helps) ∧ (¬ x1 = (nI 10) → (x1 = (nI 11) → vp_in (x1 - (nI 9)) 474 ∧ Q (T_s (x1 - (nI 9)).toNatClampNeg) (nI 0) T_serves T_took T_tookMany T_helps) ∧ (¬ x1 = (nI 11) → (x1 = (nI 12) → Q T_stateMany (nI 0) T_serves T_took T_tookMany T_helps) ∧ (¬ x1 = (nI 12) → (x1 = (nI 13) → Q T_length (nI 0) T_serves T_took T_tookMany T_helps) ∧ (¬ x1 = (nI 13) → Q (-2) (nI 0) T_serves T_took T_tookMany T_helps)))))))))))))))
set_option maxRecDepth 100000 in
set_option maxHeartbeats 4000000 in
theorem c_X7_count (l : Launch) {D : va_G} {cI cC cR : ClassId} (oT oT_s oT_aside oT_states oT_snapshot oT_text oT_serves oT_took oT_tookMany oT_helps oT_before oT_read : Nat) (sz : Nat) (T_thrown : Int32) (T_stateMany : Int32) (T_hasSnapshot : Int32) (T_length : Int32) (T_stopNumber : Int32) (T_stopError : Int32) (T_at : Int32) (T_isWell : Int32) (T_readMany : Int32) (T_s : Nat → Int32) (T_serves : Nat → Int32) (T_took : Nat → Int32) (T_tookMany : Nat → Int32) (T_helps : Nat → Int32) (x1 : Int32) {Q : Int32 → Int32 → (Nat → Int32) → (Nat → Int32) → (Nat → Int32) → (Nat → Int32) → Prop} (hw : wp_X7_count T_thrown T_stateMany T_length T_s T_serves T_took T_tookMany T_helps x1 Q) : Met l yX7_count wsX7_count rm_X7_count (PcW D cI cC cR [.ref oT, .int x1] (ww_X7_count cI cC oT oT_s oT_aside oT_states oT_snapshot oT_text oT_serves oT_took oT_tookMany oT_helps oT_before oT_read T_thrown T_stateMany T_hasSnapshot T_length T_stopNumber T_stopError T_at T_isWell T_readMany T_s T_serves T_took T_tookMany T_helps) sz) (QiW D (fun (r : Int32) (u : Int32 × (Nat → Int32) × (Nat → Int32) × (Nat → Int32) × (Nat → Int32)) => Q r u.1 u.2.1 u.2.2.1 u.2.2.2.1 u.2.2.2.2) (fun u => (ww_X7_count cI cC oT oT_s oT_aside oT_states oT_snapshot oT_text oT_serves oT_took oT_tookMany oT_helps oT_before oT_read (u.1) T_stateMany T_hasSnapshot T_length T_stopNumber T_stopError T_at T_isWell T_readMany T_s (u.2.1) (u.2.2.1) (u.2.2.2.1) (u.2.2.2.2))) (ww_X7_count cI cC oT oT_s oT_aside oT_states oT_snapshot oT_text oT_serves oT_took oT_tookMany oT_helps oT_before oT_read T_thrown T_stateMany T_hasSnapshot T_length T_stopNumber T_stopError T_at T_isWell T_readMany T_s T_serves T_took T_tookMany T_helps) sz) 0 0 (va_A (ww_X7_count cI cC oT oT_s oT_aside oT_states oT_snapshot oT_text oT_serves oT_took oT_tookMany oT_helps oT_before oT_read T_thrown T_stateMany T_hasSnapshot T_length T_stopNumber T_stopError T_at T_isWell T_readMany T_s T_serves T_took T_tookMany T_helps) sz) := by
  refine Met.ofW (cc := cX7_count) (maxL := 2) (ret := (some .int)) (by decide) rfl ?_
  intro p e s m args below meth c s₁ B hml hv
  obtain ⟨rfl, hsz, hP, hKw, hD0⟩ := hv
  have hlocks := B.notSynchronized
  subst hsz
  have hD := hD0.self (sz := s.heap.size)
  have CX : cx cX7_count (some .int) 2 RX7 wsX7_count p m meth c s ([.ref oT, .int x1] : List Value).toArray D cI cC cR (va_A (ww_X7_count cI cC oT oT_s oT_aside oT_states oT_snapshot oT_text oT_serves oT_took oT_tookMany oT_helps oT_before oT_read T_thrown T_stateMany T_hasSnapshot T_length T_stopNumber T_stopError T_at T_isWell T_readMany T_s T_serves T_took T_tookMany T_helps) s.heap.size) := ⟨B.exec, B.bytes, B.returns, hml, atoms_spec (ws := wsX7_count) B.pre, findClass_of_methodNamed B.named, hlocks, hKw, fun q h => Or.inr h⟩
  obtain ⟨hx, hb, hr, -, hts, hown, -, -, hA⟩ := id CX
  have hwd : wd D (va_A (ww_X7_count cI cC oT oT_s oT_aside oT_states oT_snapshot oT_text oT_serves oT_took oT_tookMany oT_helps oT_before oT_read T_thrown T_stateMany T_hasSnapshot T_length T_stopNumber T_stopError T_at T_isWell T_readMany T_s T_serves T_took T_tookMany T_helps) s.heap.size) s (ww_X7_count cI cC oT oT_s oT_aside oT_states oT_snapshot oT_text oT_serves oT_took oT_tookMany oT_helps oT_before oT_read T_thrown T_stateMany T_hasSnapshot T_length T_stopNumber T_stopError T_at T_isWell T_readMany T_s T_serves T_took T_tookMany T_helps) s.heap [] := ⟨hP, hD, va_S.rf⟩
  have hl := lv_entry ([.ref oT, .int x1]) (n := 2) (Nat.le_of_ble_eq_true rfl)
  rw [lg_entry_eq]
  generalize (lg_sl ([.ref oT, .int x1]) ++ List.replicate (2 - (lg_sl ([.ref oT, .int x1])).length) Slot.unset).toArray = ls at hl ⊢
  have hl : lv_has ls 2 [(0, .ref oT), (1, .int x1)] := hl
  have HR : ∀ (r : Int32) (u0 : Int32) (u1 : Nat → Int32) (u2 : Nat → Int32) (u3 : Nat → Int32) (u4 : Nat → Int32) {H : Heap} {locs : List Loc} {ls : Array Slot} {pc : Nat}, Q r u0 u1 u2 u3 u4 → wd D (va_A (ww_X7_count cI cC oT oT_s oT_aside oT_states oT_snapshot oT_text oT_serves oT_took oT_tookMany oT_helps oT_before oT_read T_thrown T_stateMany T_hasSnapshot T_length T_stopNumber T_stopError T_at T_isWell T_readMany T_s T_serves T_took T_tookMany T_helps) s.heap.size) s (ww_X7_count cI cC oT oT_s oT_aside oT_states oT_snapshot oT_text oT_serves oT_took oT_tookMany oT_helps oT_before oT_read u0 T_stateMany T_hasSnapshot T_length T_stopNumber T_stopError T_at T_isWell T_readMany T_s u1 u2 u3 u4) H locs → decode cX7_count pc = .ok (.ireturn, 1) → W p l e (headSpec wsX7_count rm_X7_count).room s m ([.ref oT, .int x1] : List Value).toArray below meth c H locs 0 0 (MQ below (QiW D (fun (r : Int32) (u : Int32 × (Nat → Int32) × (Nat → Int32) × (Nat → Int32) × (Nat → Int32)) => Q r u.1 u.2.1 u.2.2.1 u.2.2.2.1 u.2.2.2.2) (fun u => (ww_X7_count cI cC oT oT_s oT_aside oT_states oT_snapshot oT_text oT_serves oT_took oT_tookMany oT_helps oT_before oT_read (u.1) T_stateMany T_hasSnapshot T_length T_stopNumber T_stopError T_at T_isWell T_readMany T_s (u.2.1) (u.2.2.1) (u.2.2.2.1) (u.2.2.2.2))) (ww_X7_count cI cC oT oT_s oT_aside oT_states oT_snapshot oT_text oT_serves oT_took oT_tookMany oT_helps oT_before oT_read T_thrown T_stateMany T_hasSnapshot T_length T_stopNumber T_stopError T_at T_isWell T_readMany T_s T_serves T_took T_tookMany T_helps) s.heap.size) ([.ref oT, .int x1] : List Value).toArray s 0 0 (va_A (ww_X7_count cI cC oT oT_s oT_aside oT_states oT_snapshot oT_text oT_serves oT_took oT_tookMany oT_helps oT_before oT_read T_thrown T_stateMany T_hasSnapshot T_length T_stopNumber T_stopError T_at T_isWell T_readMany T_s T_serves T_took T_tookMany T_helps) s.heap.size)) (F0 m pc ls [.int r]) := by
    intro r u0 u1 u2 u3 u4 H locs ls pc hq hw9 hd9
    exact W.iret (v := r) hx hb hr (fun t ht hW => ⟨⟨r, (u0, u1, u2, u3, u4), rfl, hq, by rw [ht]; exact hw9.1, hw9.2.1⟩, hw9.2.2.F ht⟩) hw9.2.2.2.2 hd9
  unfold wp_X7_count at hw
  refine lv_aload_n hx hb dX7_count_0 rfl (lv_at hl 0 rfl) ?_
  refine lv_iconst (v := (nI 0)) hx hb dX7_count_1 rfl ?_
  refine va_put (D := D) (ci := 7) (v := .int (nI 0)) (ty := .int) (C := RX7) (T := TX7) (N := 20) hx hb hts ic_X7_count_X7 tyX7 tyX7_ok nmX7 hown hKw.1 hwd.1 hwd.2.1 hwd.2.2 0 rfl rfl 0 (by decide) (hts (.fieldLink RX7 43 "DrillWardensModel" "thrown" "I") (List.mem_of_getElem? (i := 1) rfl)) (fun _ h9 => h9) rfl (tyX7_ok 0 (by decide)) rfl rfl (Nat.le_of_ble_eq_true rfl) dX7_count_2 (fun H locs h1 h2 h3 => ?_)
  replace hwd : wd D (va_A (ww_X7_count cI cC oT oT_s oT_aside oT_states oT_snapshot oT_text oT_serves oT_took oT_tookMany oT_helps oT_before oT_read T_thrown T_stateMany T_hasSnapshot T_length T_stopNumber T_stopError T_at T_isWell T_readMany T_s T_serves T_took T_tookMany T_helps) s.heap.size) s (ww_X7_count cI cC oT oT_s oT_aside oT_states oT_snapshot oT_text oT_serves oT_took oT_tookMany oT_helps oT_before oT_read (nI 0) T_stateMany T_hasSnapshot T_length T_stopNumber T_stopError T_at T_isWell T_readMany T_s T_serves T_took T_tookMany T_helps) H locs := ⟨h1, h2, h3⟩
  clear h1 h2 h3
  refine lv_iload_n hx hb dX7_count_5 rfl (lv_at hl 1 rfl) ?_
  rcases Classical.em (x1 = (nI 0)) with c1 | c1
  · replace hw := hw.1 c1
    refine lv_tableIn (off := 70) (tgt := 76) hx hb dX7_count_6 (by rw [c1]; decide) (by rw [c1]; decide) (by rw [c1]; rfl) (by decide) ?_
    refine lv_aload_n hx hb dX7_count_76 rfl (lv_at hl 0 rfl) ?_
    refine va_get (D := D) (ci := 7) (v := .ref oT_s) (C := RX7) (T := TX7) (N := 20) hx hb hts ic_X7_count_X7 hown hKw.1 hwd.1 0 rfl rfl 1 (by decide) (hts (.fieldLink RX7 7 "DrillWardensModel" "s" "[I") (List.mem_of_getElem? (i := 2) rfl)) (fun _ h9 => h9) rfl dX7_count_77 ?_
    refine lv_iconst (v := (nI 3)) hx hb dX7_count_80 rfl ?_
    refine va_iald hx hb hKw.1 hwd.1 1 0 rfl rfl hw.1 dX7_count_81 ?_
    replace hw := hw.2
    exact HR (T_s (nI 3).toNatClampNeg) (nI 0) T_serves T_took T_tookMany T_helps hw hwd dX7_count_82
  · replace hw := hw.2 c1
    rcases Classical.em (x1 = (nI 1)) with c2 | c2
    · replace hw := hw.1 c2
      refine lv_tableIn (off := 77) (tgt := 83) hx hb dX7_count_6 (by rw [c2]; decide) (by rw [c2]; decide) (by rw [c2]; rfl) (by decide) ?_
      refine lv_aload_n hx hb dX7_count_83 rfl (lv_at hl 0 rfl) ?_
      refine va_get (D := D) (ci := 7) (v := .ref oT_s) (C := RX7) (T := TX7) (N := 20) hx hb hts ic_X7_count_X7 hown hKw.1 hwd.1 0 rfl rfl 1 (by decide) (hts (.fieldLink RX7 7 "DrillWardensModel" "s" "[I") (List.mem_of_getElem? (i := 2) rfl)) (fun _ h9 => h9) rfl dX7_count_84 ?_
      refine lv_iconst (v := (nI 3)) hx hb dX7_count_87 rfl ?_
      refine va_iald hx hb hKw.1 hwd.1 1 0 rfl rfl hw.1 dX7_count_88 ?_
      replace hw := hw.2
      refine lv_bipush (v := (nI 100)) hx hb dX7_count_89 rfl ?_
      refine lv_idiv hx hb dX7_count_91 (by decide) ?_
      exact HR ((T_s (nI 3).toNatClampNeg) / (nI 100)) (nI 0) T_serves T_took T_tookMany T_helps hw hwd dX7_count_92
    · replace hw := hw.2 c2
      rcases Classical.em (x1 = (nI 2)) with c3 | c3
      · replace hw := hw.1 c3
        refine lv_tableIn (off := 87) (tgt := 93) hx hb dX7_count_6 (by rw [c3]; decide) (by rw [c3]; decide) (by rw [c3]; rfl) (by decide) ?_
        refine lv_aload_n hx hb dX7_count_93 rfl (lv_at hl 0 rfl) ?_
        refine lv_aload_n hx hb dX7_count_94 rfl (lv_at hl 0 rfl) ?_
        refine va_get (D := D) (ci := 7) (v := .ref oT_s) (C := RX7) (T := TX7) (N := 20) hx hb hts ic_X7_count_X7 hown hKw.1 hwd.1 0 rfl rfl 1 (by decide) (hts (.fieldLink RX7 7 "DrillWardensModel" "s" "[I") (List.mem_of_getElem? (i := 2) rfl)) (fun _ h9 => h9) rfl dX7_count_95 ?_
        refine lv_iconst (v := (nI 3)) hx hb dX7_count_98 rfl ?_
        refine va_iald hx hb hKw.1 hwd.1 1 0 rfl rfl hw.1 dX7_count_99 ?_
        replace hw := hw.2
        refine kcVi (W1 := (fun u => (ww_X7_count cI cC oT oT_s oT_aside oT_states oT_snapshot oT_text oT_serves oT_took oT_tookMany oT_helps oT_before oT_read (nI 0) T_stateMany T_hasSnapshot T_length T_stopNumber T_stopError T_at T_isWell T_readMany T_s (u.1) (u.2.1) (u.2.2.1) (u.2.2.2)))) (rest := []) (As := [.int (T_s (nI 3).toNatClampNeg)]) ⟨Nat.le_of_ble_eq_true rfl, Nat.le_of_ble_eq_true rfl⟩ ⟨hx, hb, hml, hown, hts⟩ (c_X7_shortFloors l oT oT_s oT_aside oT_states oT_snapshot oT_text oT_serves oT_took oT_tookMany oT_helps oT_before oT_read H.size (nI 0) T_stateMany T_hasSnapshot T_length T_stopNumber T_stopError T_at T_isWell T_readMany T_s T_serves T_took T_tookMany T_helps (T_s (nI 3).toNatClampNeg) hw) (cwV 1 hts gX7_count_X7_shortFloors rfl rfl rfl ⟨rfl, hd_X7_shortFloors⟩ ⟨Nat.le_of_ble_eq_true rfl, Nat.le_of_ble_eq_true rfl⟩) hKw hA hwd [0, 1, 2, 3, 4, 5] [] [0, 1, 2, 3, 4, 5] [] rfl rfl rfl rfl (by decide) rfl (fun _ => rfl) 0 7 rfl rfl rfl rfl hl.1 rfl (lv_room (Nat.le_of_ble_eq_true rfl)) dX7_count_100 (fun r4 u H locs hw hwd => ?_)
        obtain ⟨T_serves5, T_took6, T_tookMany7, T_helps8⟩ := u
        try dsimp only at hw
        replace hwd : wd D (va_A (ww_X7_count cI cC oT oT_s oT_aside oT_states oT_snapshot oT_text oT_serves oT_took oT_tookMany oT_helps oT_before oT_read T_thrown T_stateMany T_hasSnapshot T_length T_stopNumber T_stopError T_at T_isWell T_readMany T_s T_serves T_took T_tookMany T_helps) s.heap.size) s (ww_X7_count cI cC oT oT_s oT_aside oT_states oT_snapshot oT_text oT_serves oT_took oT_tookMany oT_helps oT_before oT_read (nI 0) T_stateMany T_hasSnapshot T_length T_stopNumber T_stopError T_at T_isWell T_readMany T_s T_serves5 T_took6 T_tookMany7 T_helps8) H locs := hwd
        exact HR r4 (nI 0) T_serves5 T_took6 T_tookMany7 T_helps8 hw hwd dX7_count_103
      · replace hw := hw.2 c3
        rcases Classical.em (x1 = (nI 3)) with c9 | c9
        · replace hw := hw.1 c9
          refine lv_tableIn (off := 98) (tgt := 104) hx hb dX7_count_6 (by rw [c9]; decide) (by rw [c9]; decide) (by rw [c9]; rfl) (by decide) ?_
          refine lv_aload_n hx hb dX7_count_104 rfl (lv_at hl 0 rfl) ?_
          refine kcVi (W1 := (fun u => (ww_X7_count cI cC oT oT_s oT_aside oT_states oT_snapshot oT_text oT_serves oT_took oT_tookMany oT_helps oT_before oT_read (nI 0) T_stateMany T_hasSnapshot T_length T_stopNumber T_stopError T_at T_isWell T_readMany T_s (u.1) (u.2.1) (u.2.2.1) (u.2.2.2)))) (rest := []) (As := []) ⟨Nat.le_of_ble_eq_true rfl, Nat.le_of_ble_eq_true rfl⟩ ⟨hx, hb, hml, hown, hts⟩ (c_X7_shortInAll l oT oT_s oT_aside oT_states oT_snapshot oT_text oT_serves oT_took oT_tookMany oT_helps oT_before oT_read H.size (nI 0) T_stateMany T_hasSnapshot T_length T_stopNumber T_stopError T_at T_isWell T_readMany T_s T_serves T_took T_tookMany T_helps hw) (cwV 0 hts gX7_count_X7_shortInAll rfl rfl rfl ⟨rfl, hd_X7_shortInAll⟩ ⟨Nat.le_of_ble_eq_true rfl, Nat.le_of_ble_eq_true rfl⟩) hKw hA hwd [0, 1, 2, 3, 4, 5] [] [0, 1, 2, 3, 4, 5] [] rfl rfl rfl rfl (by decide) rfl (fun _ => rfl) 0 7 rfl rfl rfl rfl hl.1 rfl (lv_room (Nat.le_of_ble_eq_true rfl)) dX7_count_105 (fun r10 u H locs hw hwd => ?_)
          obtain ⟨T_serves11, T_took12, T_tookMany13, T_helps14⟩ := u
          try dsimp only at hw
          replace hwd : wd D (va_A (ww_X7_count cI cC oT oT_s oT_aside oT_states oT_snapshot oT_text oT_serves oT_took oT_tookMany oT_helps oT_before oT_read T_thrown T_stateMany T_hasSnapshot T_length T_stopNumber T_stopError T_at T_isWell T_readMany T_s T_serves T_took T_tookMany T_helps) s.heap.size) s (ww_X7_count cI cC oT oT_s oT_aside oT_states oT_snapshot oT_text oT_serves oT_took oT_tookMany oT_helps oT_before oT_read (nI 0) T_stateMany T_hasSnapshot T_length T_stopNumber T_stopError T_at T_isWell T_readMany T_s T_serves11 T_took12 T_tookMany13 T_helps14) H locs := hwd
          exact HR r10 (nI 0) T_serves11 T_took12 T_tookMany13 T_helps14 hw hwd dX7_count_108
        · replace hw := hw.2 c9
          rcases Classical.em (x1 = (nI 4)) with c15 | c15
          · replace hw := hw.1 c15
            refine lv_tableIn (off := 103) (tgt := 109) hx hb dX7_count_6 (by rw [c15]; decide) (by rw [c15]; decide) (by rw [c15]; rfl) (by decide) ?_
            refine blk_X7_count_109 (CX := CX) (oT := oT) (oT_s := oT_s) (oT_aside := oT_aside) (oT_states := oT_states) (oT_snapshot := oT_snapshot) (oT_text := oT_text) (oT_serves := oT_serves) (oT_took := oT_took) (oT_tookMany := oT_tookMany) (oT_helps := oT_helps) (oT_before := oT_before) (oT_read := oT_read) (T_thrown := (nI 0)) (T_stateMany := T_stateMany) (T_hasSnapshot := T_hasSnapshot) (T_length := T_length) (T_stopNumber := T_stopNumber) (T_stopError := T_stopError) (T_at := T_at) (T_isWell := T_isWell) (T_readMany := T_readMany) (T_s := T_s) (T_serves := T_serves) (T_took := T_took) (T_tookMany := T_tookMany) (T_helps := T_helps) (x1 := x1) (HR := HR) hw _ _ _ hwd hl
          · replace hw := hw.2 c15
            rcases Classical.em (x1 = (nI 5)) with c16 | c16
            · replace hw := hw.1 c16
              refine lv_tableIn (off := 103) (tgt := 109) hx hb dX7_count_6 (by rw [c16]; decide) (by rw [c16]; decide) (by rw [c16]; rfl) (by decide) ?_
              refine blk_X7_count_109 (CX := CX) (oT := oT) (oT_s := oT_s) (oT_aside := oT_aside) (oT_states := oT_states) (oT_snapshot := oT_snapshot) (oT_text := oT_text) (oT_serves := oT_serves) (oT_took := oT_took) (oT_tookMany := oT_tookMany) (oT_helps := oT_helps) (oT_before := oT_before) (oT_read := oT_read) (T_thrown := (nI 0)) (T_stateMany := T_stateMany) (T_hasSnapshot := T_hasSnapshot) (T_length := T_length) (T_stopNumber := T_stopNumber) (T_stopError := T_stopError) (T_at := T_at) (T_isWell := T_isWell) (T_readMany := T_readMany) (T_s := T_s) (T_serves := T_serves) (T_took := T_took) (T_tookMany := T_tookMany) (T_helps := T_helps) (x1 := x1) (HR := HR) hw _ _ _ hwd hl
            · replace hw := hw.2 c16
              rcases Classical.em (x1 = (nI 6)) with c17 | c17
              · replace hw := hw.1 c17
                refine lv_tableIn (off := 118) (tgt := 124) hx hb dX7_count_6 (by rw [c17]; decide) (by rw [c17]; decide) (by rw [c17]; rfl) (by decide) ?_
                refine lv_aload_n hx hb dX7_count_124 rfl (lv_at hl 0 rfl) ?_
                refine va_get (D := D) (ci := 7) (v := .ref oT_s) (C := RX7) (T := TX7) (N := 20) hx hb hts ic_X7_count_X7 hown hKw.1 hwd.1 0 rfl rfl 1 (by decide) (hts (.fieldLink RX7 7 "DrillWardensModel" "s" "[I") (List.mem_of_getElem? (i := 2) rfl)) (fun _ h9 => h9) rfl dX7_count_125 ?_
                refine lv_bipush (v := (nI 6)) hx hb dX7_count_128 rfl ?_
                refine va_iald hx hb hKw.1 hwd.1 1 0 rfl rfl hw.1 dX7_count_130 ?_
                replace hw := hw.2
                exact HR (T_s (nI 6).toNatClampNeg) (nI 0) T_serves T_took T_tookMany T_helps hw hwd dX7_count_131
              · replace hw := hw.2 c17
                rcases Classical.em (x1 = (nI 7)) with c18 | c18
                · replace hw := hw.1 c18
                  refine lv_tableIn (off := 126) (tgt := 132) hx hb dX7_count_6 (by rw [c18]; decide) (by rw [c18]; decide) (by rw [c18]; rfl) (by decide) ?_
                  refine blk_X7_count_132 (CX := CX) (oT := oT) (oT_s := oT_s) (oT_aside := oT_aside) (oT_states := oT_states) (oT_snapshot := oT_snapshot) (oT_text := oT_text) (oT_serves := oT_serves) (oT_took := oT_took) (oT_tookMany := oT_tookMany) (oT_helps := oT_helps) (oT_before := oT_before) (oT_read := oT_read) (T_thrown := (nI 0)) (T_stateMany := T_stateMany) (T_hasSnapshot := T_hasSnapshot) (T_length := T_length) (T_stopNumber := T_stopNumber) (T_stopError := T_stopError) (T_at := T_at) (T_isWell := T_isWell) (T_readMany := T_readMany) (T_s := T_s) (T_serves := T_serves) (T_took := T_took) (T_tookMany := T_tookMany) (T_helps := T_helps) (x1 := x1) (HR := HR) hw _ _ _ hwd hl
                · replace hw := hw.2 c18
                  rcases Classical.em (x1 = (nI 8)) with c19 | c19
                  · replace hw := hw.1 c19
                    refine lv_tableIn (off := 126) (tgt := 132) hx hb dX7_count_6 (by rw [c19]; decide) (by rw [c19]; decide) (by rw [c19]; rfl) (by decide) ?_
                    refine blk_X7_count_132 (CX := CX) (oT := oT) (oT_s := oT_s) (oT_aside := oT_aside) (oT_states := oT_states) (oT_snapshot := oT_snapshot) (oT_text := oT_text) (oT_serves := oT_serves) (oT_took := oT_took) (oT_tookMany := oT_tookMany) (oT_helps := oT_helps) (oT_before := oT_before) (oT_read := oT_read) (T_thrown := (nI 0)) (T_stateMany := T_stateMany) (T_hasSnapshot := T_hasSnapshot) (T_length := T_length) (T_stopNumber := T_stopNumber) (T_stopError := T_stopError) (T_at := T_at) (T_isWell := T_isWell) (T_readMany := T_readMany) (T_s := T_s) (T_serves := T_serves) (T_took := T_took) (T_tookMany := T_tookMany) (T_helps := T_helps) (x1 := x1) (HR := HR) hw _ _ _ hwd hl
                  · replace hw := hw.2 c19
                    rcases Classical.em (x1 = (nI 9)) with c20 | c20
                    · replace hw := hw.1 c20
                      refine lv_tableIn (off := 138) (tgt := 144) hx hb dX7_count_6 (by rw [c20]; decide) (by rw [c20]; decide) (by rw [c20]; rfl) (by decide) ?_
                      refine lv_aload_n hx hb dX7_count_144 rfl (lv_at hl 0 rfl) ?_
                      refine va_get (D := D) (ci := 7) (v := .ref oT_s) (C := RX7) (T := TX7) (N := 20) hx hb hts ic_X7_count_X7 hown hKw.1 hwd.1 0 rfl rfl 1 (by decide) (hts (.fieldLink RX7 7 "DrillWardensModel" "s" "[I") (List.mem_of_getElem? (i := 2) rfl)) (fun _ h9 => h9) rfl dX7_count_145 ?_
                      refine lv_iload_n hx hb dX7_count_148 rfl (lv_at hl 1 rfl) ?_
                      refine lv_bipush (v := (nI 9)) hx hb dX7_count_149 rfl ?_
                      refine lv_isub hx hb dX7_count_151 ?_
                      refine va_iald hx hb hKw.1 hwd.1 1 0 rfl rfl hw.1 dX7_count_152 ?_
                      replace hw := hw.2
                      exact HR (T_s (x1 - (nI 9)).toNatClampNeg) (nI 0) T_serves T_took T_tookMany T_helps hw hwd dX7_count_153
                    · replace hw := hw.2 c20
                      rcases Classical.em (x1 = (nI 10)) with c21 | c21
                      · replace hw := hw.1 c21
                        refine lv_tableIn (off := 138) (tgt := 144) hx hb dX7_count_6 (by rw [c21]; decide) (by rw [c21]; decide) (by rw [c21]; rfl) (by decide) ?_
                        refine lv_aload_n hx hb dX7_count_144 rfl (lv_at hl 0 rfl) ?_
                        refine va_get (D := D) (ci := 7) (v := .ref oT_s) (C := RX7) (T := TX7) (N := 20) hx hb hts ic_X7_count_X7 hown hKw.1 hwd.1 0 rfl rfl 1 (by decide) (hts (.fieldLink RX7 7 "DrillWardensModel" "s" "[I") (List.mem_of_getElem? (i := 2) rfl)) (fun _ h9 => h9) rfl dX7_count_145 ?_
                        refine lv_iload_n hx hb dX7_count_148 rfl (lv_at hl 1 rfl) ?_
                        refine lv_bipush (v := (nI 9)) hx hb dX7_count_149 rfl ?_
                        refine lv_isub hx hb dX7_count_151 ?_
                        refine va_iald hx hb hKw.1 hwd.1 1 0 rfl rfl hw.1 dX7_count_152 ?_
                        replace hw := hw.2
                        exact HR (T_s (x1 - (nI 9)).toNatClampNeg) (nI 0) T_serves T_took T_tookMany T_helps hw hwd dX7_count_153
                      · replace hw := hw.2 c21
                        rcases Classical.em (x1 = (nI 11)) with c22 | c22
                        · replace hw := hw.1 c22
                          refine lv_tableIn (off := 138) (tgt := 144) hx hb dX7_count_6 (by rw [c22]; decide) (by rw [c22]; decide) (by rw [c22]; rfl) (by decide) ?_
                          refine lv_aload_n hx hb dX7_count_144 rfl (lv_at hl 0 rfl) ?_
                          refine va_get (D := D) (ci := 7) (v := .ref oT_s) (C := RX7) (T := TX7) (N := 20) hx hb hts ic_X7_count_X7 hown hKw.1 hwd.1 0 rfl rfl 1 (by decide) (hts (.fieldLink RX7 7 "DrillWardensModel" "s" "[I") (List.mem_of_getElem? (i := 2) rfl)) (fun _ h9 => h9) rfl dX7_count_145 ?_
                          refine lv_iload_n hx hb dX7_count_148 rfl (lv_at hl 1 rfl) ?_
                          refine lv_bipush (v := (nI 9)) hx hb dX7_count_149 rfl ?_
                          refine lv_isub hx hb dX7_count_151 ?_
                          refine va_iald hx hb hKw.1 hwd.1 1 0 rfl rfl hw.1 dX7_count_152 ?_
                          replace hw := hw.2
                          exact HR (T_s (x1 - (nI 9)).toNatClampNeg) (nI 0) T_serves T_took T_tookMany T_helps hw hwd dX7_count_153
                        · replace hw := hw.2 c22
                          rcases Classical.em (x1 = (nI 12)) with c23 | c23
                          · replace hw := hw.1 c23
                            refine lv_tableIn (off := 148) (tgt := 154) hx hb dX7_count_6 (by rw [c23]; decide) (by rw [c23]; decide) (by rw [c23]; rfl) (by decide) ?_
                            refine lv_aload_n hx hb dX7_count_154 rfl (lv_at hl 0 rfl) ?_
                            refine va_get (D := D) (ci := 7) (v := .int T_stateMany) (C := RX7) (T := TX7) (N := 20) hx hb hts ic_X7_count_X7 hown hKw.1 hwd.1 0 rfl rfl 4 (by decide) (hts (.fieldLink RX7 58 "DrillWardensModel" "stateMany" "I") (List.mem_of_getElem? (i := 3) rfl)) (fun _ h9 => h9) rfl dX7_count_155 ?_
                            exact HR T_stateMany (nI 0) T_serves T_took T_tookMany T_helps hw hwd dX7_count_158
                          · replace hw := hw.2 c23
                            rcases Classical.em (x1 = (nI 13)) with c24 | c24
                            · replace hw := hw.1 c24
                              refine lv_tableIn (off := 153) (tgt := 159) hx hb dX7_count_6 (by rw [c24]; decide) (by rw [c24]; decide) (by rw [c24]; rfl) (by decide) ?_
                              refine lv_aload_n hx hb dX7_count_159 rfl (lv_at hl 0 rfl) ?_
                              refine va_get (D := D) (ci := 7) (v := .int T_length) (C := RX7) (T := TX7) (N := 20) hx hb hts ic_X7_count_X7 hown hKw.1 hwd.1 0 rfl rfl 8 (by decide) (hts (.fieldLink RX7 152 "DrillWardensModel" "length" "I") (List.mem_of_getElem? (i := 4) rfl)) (fun _ h9 => h9) rfl dX7_count_160 ?_
                              exact HR T_length (nI 0) T_serves T_took T_tookMany T_helps hw hwd dX7_count_163
                            · replace hw := hw.2 c24
                              refine lv_tableOut (tgt := 164) hx hb dX7_count_6 (sw_out (fun j h1 h2 => by rcases (show j = 0 ∨ j = 1 ∨ j = 2 ∨ j = 3 ∨ j = 4 ∨ j = 5 ∨ j = 6 ∨ j = 7 ∨ j = 8 ∨ j = 9 ∨ j = 10 ∨ j = 11 ∨ j = 12 ∨ j = 13 by omega) with rfl | rfl | rfl | rfl | rfl | rfl | rfl | rfl | rfl | rfl | rfl | rfl | rfl | rfl <;> first | exact c1 | exact c2 | exact c3 | exact c9 | exact c15 | exact c16 | exact c17 | exact c18 | exact c19 | exact c20 | exact c21 | exact c22 | exact c23 | exact c24)) (by decide) ?_
                              refine lv_bipush (v := (-2)) hx hb dX7_count_164 rfl ?_
                              exact HR (-2) (nI 0) T_serves T_took T_tookMany T_helps hw hwd dX7_count_166
