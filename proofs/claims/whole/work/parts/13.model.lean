abbrev ww_X7_drillsIf (cI cC : ClassId) (oT oT_s oT_aside oT_states oT_snapshot oT_text oT_serves oT_took oT_tookMany oT_helps oT_before oT_read : Nat) (T_thrown : Int32) (T_stateMany : Int32) (T_hasSnapshot : Int32) (T_length : Int32) (T_stopNumber : Int32) (T_stopError : Int32) (T_at : Int32) (T_isWell : Int32) (T_readMany : Int32) (T_s : Nat → Int32) (T_serves : Nat → Int32) (T_took : Nat → Int32) (T_tookMany : Nat → Int32) (T_helps : Nat → Int32) : va_W := [(oT, .inr (7, [.int T_thrown, .ref oT_s, .ref oT_aside, .ref oT_states, .int T_stateMany, .ref oT_snapshot, .int T_hasSnapshot, .ref oT_text, .int T_length, .int T_stopNumber, .int T_stopError, .ref oT_serves, .ref oT_took, .ref oT_tookMany, .ref oT_helps, .ref oT_before, .int T_at, .int T_isWell, .ref oT_read, .int T_readMany])), (oT_s, .inl (cI, 474, .inl T_s)), (oT_serves, .inl (cI, 16, .inl T_serves)), (oT_took, .inl (cI, 30, .inl T_took)), (oT_tookMany, .inl (cI, 10, .inl T_tookMany)), (oT_helps, .inl (cI, 10, .inl T_helps))]
abbrev rm_X7_drillsIf : Room := { frames := 6, cells := 0, slots := 0, locals := 135 }
def wp_X7_drillsIf (T_s : Nat → Int32) (T_serves : Nat → Int32) (T_took : Nat → Int32) (T_tookMany : Nat → Int32) (T_helps : Nat → Int32) (x1 : Int32) (x2 : Int32) (Q : Int32 → (Nat → Int32) → (Nat → Int32) → (Nat → Int32) → (Nat → Int32) → (Nat → Int32) → Prop) : Prop := wp_X7_refusesDrill T_s T_serves T_took T_tookMany T_helps x1 x2 (fun r1 T_serves2 T_took3 T_tookMany4 T_helps5 => ((¬ r1 = 0 → Q r1 T_s T_serves2 T_took3 T_tookMany4 T_helps5) ∧ (r1 = 0 → wp_X7_drills T_s T_took3 x1 x2 (fun r7 T_s8 => Q r1 T_s8 T_serves2 T_took3 T_tookMany4 T_helps5))))
set_option maxRecDepth 100000 in
set_option maxHeartbeats 4000000 in
theorem c_X7_drillsIf (l : Launch) {D : va_G} {cI cC cR : ClassId} (oT oT_s oT_aside oT_states oT_snapshot oT_text oT_serves oT_took oT_tookMany oT_helps oT_before oT_read : Nat) (sz : Nat) (T_thrown : Int32) (T_stateMany : Int32) (T_hasSnapshot : Int32) (T_length : Int32) (T_stopNumber : Int32) (T_stopError : Int32) (T_at : Int32) (T_isWell : Int32) (T_readMany : Int32) (T_s : Nat → Int32) (T_serves : Nat → Int32) (T_took : Nat → Int32) (T_tookMany : Nat → Int32) (T_helps : Nat → Int32) (x1 : Int32) (x2 : Int32) {Q : Int32 → (Nat → Int32) → (Nat → Int32) → (Nat → Int32) → (Nat → Int32) → (Nat → Int32) → Prop} (hw : wp_X7_drillsIf T_s T_serves T_took T_tookMany T_helps x1 x2 Q) : Met l yX7_drillsIf wsX7_drillsIf rm_X7_drillsIf (PcW D cI cC cR [.ref oT, .int x1, .int x2] (ww_X7_drillsIf cI cC oT oT_s oT_aside oT_states oT_snapshot oT_text oT_serves oT_took oT_tookMany oT_helps oT_before oT_read T_thrown T_stateMany T_hasSnapshot T_length T_stopNumber T_stopError T_at T_isWell T_readMany T_s T_serves T_took T_tookMany T_helps) sz) (QiW D (fun (r : Int32) (u : (Nat → Int32) × (Nat → Int32) × (Nat → Int32) × (Nat → Int32) × (Nat → Int32)) => Q r u.1 u.2.1 u.2.2.1 u.2.2.2.1 u.2.2.2.2) (fun u => (ww_X7_drillsIf cI cC oT oT_s oT_aside oT_states oT_snapshot oT_text oT_serves oT_took oT_tookMany oT_helps oT_before oT_read T_thrown T_stateMany T_hasSnapshot T_length T_stopNumber T_stopError T_at T_isWell T_readMany (u.1) (u.2.1) (u.2.2.1) (u.2.2.2.1) (u.2.2.2.2))) (ww_X7_drillsIf cI cC oT oT_s oT_aside oT_states oT_snapshot oT_text oT_serves oT_took oT_tookMany oT_helps oT_before oT_read T_thrown T_stateMany T_hasSnapshot T_length T_stopNumber T_stopError T_at T_isWell T_readMany T_s T_serves T_took T_tookMany T_helps) sz) 0 0 (va_A (ww_X7_drillsIf cI cC oT oT_s oT_aside oT_states oT_snapshot oT_text oT_serves oT_took oT_tookMany oT_helps oT_before oT_read T_thrown T_stateMany T_hasSnapshot T_length T_stopNumber T_stopError T_at T_isWell T_readMany T_s T_serves T_took T_tookMany T_helps) sz) := by
  refine Met.ofW (cc := cX7_drillsIf) (maxL := 4) (ret := (some .int)) (by decide) rfl ?_
  intro p e s m args below meth c s₁ B hml hv
  obtain ⟨rfl, hsz, hP, hKw, hD0⟩ := hv
  have hlocks := B.notSynchronized
  subst hsz
  have hD := hD0.self (sz := s.heap.size)
  have CX : cx cX7_drillsIf (some .int) 4 RX7 wsX7_drillsIf p m meth c s ([.ref oT, .int x1, .int x2] : List Value).toArray D cI cC cR (va_A (ww_X7_drillsIf cI cC oT oT_s oT_aside oT_states oT_snapshot oT_text oT_serves oT_took oT_tookMany oT_helps oT_before oT_read T_thrown T_stateMany T_hasSnapshot T_length T_stopNumber T_stopError T_at T_isWell T_readMany T_s T_serves T_took T_tookMany T_helps) s.heap.size) := ⟨B.exec, B.bytes, B.returns, hml, atoms_spec (ws := wsX7_drillsIf) B.pre, findClass_of_methodNamed B.named, hlocks, hKw, fun q h => Or.inr h⟩
  obtain ⟨hx, hb, hr, -, hts, hown, -, -, hA⟩ := id CX
  have hwd : wd D (va_A (ww_X7_drillsIf cI cC oT oT_s oT_aside oT_states oT_snapshot oT_text oT_serves oT_took oT_tookMany oT_helps oT_before oT_read T_thrown T_stateMany T_hasSnapshot T_length T_stopNumber T_stopError T_at T_isWell T_readMany T_s T_serves T_took T_tookMany T_helps) s.heap.size) s (ww_X7_drillsIf cI cC oT oT_s oT_aside oT_states oT_snapshot oT_text oT_serves oT_took oT_tookMany oT_helps oT_before oT_read T_thrown T_stateMany T_hasSnapshot T_length T_stopNumber T_stopError T_at T_isWell T_readMany T_s T_serves T_took T_tookMany T_helps) s.heap [] := ⟨hP, hD, va_S.rf⟩
  have hl := lv_entry ([.ref oT, .int x1, .int x2]) (n := 4) (Nat.le_of_ble_eq_true rfl)
  rw [lg_entry_eq]
  generalize (lg_sl ([.ref oT, .int x1, .int x2]) ++ List.replicate (4 - (lg_sl ([.ref oT, .int x1, .int x2])).length) Slot.unset).toArray = ls at hl ⊢
  have hl : lv_has ls 4 [(0, .ref oT), (1, .int x1), (2, .int x2)] := hl
  have HR : ∀ (r : Int32) (u0 : Nat → Int32) (u1 : Nat → Int32) (u2 : Nat → Int32) (u3 : Nat → Int32) (u4 : Nat → Int32) {H : Heap} {locs : List Loc} {ls : Array Slot} {pc : Nat}, Q r u0 u1 u2 u3 u4 → wd D (va_A (ww_X7_drillsIf cI cC oT oT_s oT_aside oT_states oT_snapshot oT_text oT_serves oT_took oT_tookMany oT_helps oT_before oT_read T_thrown T_stateMany T_hasSnapshot T_length T_stopNumber T_stopError T_at T_isWell T_readMany T_s T_serves T_took T_tookMany T_helps) s.heap.size) s (ww_X7_drillsIf cI cC oT oT_s oT_aside oT_states oT_snapshot oT_text oT_serves oT_took oT_tookMany oT_helps oT_before oT_read T_thrown T_stateMany T_hasSnapshot T_length T_stopNumber T_stopError T_at T_isWell T_readMany u0 u1 u2 u3 u4) H locs → decode cX7_drillsIf pc = .ok (.ireturn, 1) → W p l e (headSpec wsX7_drillsIf rm_X7_drillsIf).room s m ([.ref oT, .int x1, .int x2] : List Value).toArray below meth c H locs 0 0 (MQ below (QiW D (fun (r : Int32) (u : (Nat → Int32) × (Nat → Int32) × (Nat → Int32) × (Nat → Int32) × (Nat → Int32)) => Q r u.1 u.2.1 u.2.2.1 u.2.2.2.1 u.2.2.2.2) (fun u => (ww_X7_drillsIf cI cC oT oT_s oT_aside oT_states oT_snapshot oT_text oT_serves oT_took oT_tookMany oT_helps oT_before oT_read T_thrown T_stateMany T_hasSnapshot T_length T_stopNumber T_stopError T_at T_isWell T_readMany (u.1) (u.2.1) (u.2.2.1) (u.2.2.2.1) (u.2.2.2.2))) (ww_X7_drillsIf cI cC oT oT_s oT_aside oT_states oT_snapshot oT_text oT_serves oT_took oT_tookMany oT_helps oT_before oT_read T_thrown T_stateMany T_hasSnapshot T_length T_stopNumber T_stopError T_at T_isWell T_readMany T_s T_serves T_took T_tookMany T_helps) s.heap.size) ([.ref oT, .int x1, .int x2] : List Value).toArray s 0 0 (va_A (ww_X7_drillsIf cI cC oT oT_s oT_aside oT_states oT_snapshot oT_text oT_serves oT_took oT_tookMany oT_helps oT_before oT_read T_thrown T_stateMany T_hasSnapshot T_length T_stopNumber T_stopError T_at T_isWell T_readMany T_s T_serves T_took T_tookMany T_helps) s.heap.size)) (F0 m pc ls [.int r]) := by
    intro r u0 u1 u2 u3 u4 H locs ls pc hq hw9 hd9
    exact W.iret (v := r) hx hb hr (fun t ht hW => ⟨⟨r, (u0, u1, u2, u3, u4), rfl, hq, by rw [ht]; exact hw9.1, hw9.2.1⟩, hw9.2.2.F ht⟩) hw9.2.2.2.2 hd9
  unfold wp_X7_drillsIf at hw
  refine lv_aload_n hx hb dX7_drillsIf_0 rfl (lv_at hl 0 rfl) ?_
  refine lv_iload_n hx hb dX7_drillsIf_1 rfl (lv_at hl 1 rfl) ?_
  refine lv_iload_n hx hb dX7_drillsIf_2 rfl (lv_at hl 2 rfl) ?_
  refine kcVi (W1 := (fun u => (ww_X7_drillsIf cI cC oT oT_s oT_aside oT_states oT_snapshot oT_text oT_serves oT_took oT_tookMany oT_helps oT_before oT_read T_thrown T_stateMany T_hasSnapshot T_length T_stopNumber T_stopError T_at T_isWell T_readMany T_s (u.1) (u.2.1) (u.2.2.1) (u.2.2.2)))) (rest := []) (As := [.int x1, .int x2]) ⟨Nat.le_of_ble_eq_true rfl, Nat.le_of_ble_eq_true rfl⟩ ⟨hx, hb, hml, hown, hts⟩ (c_X7_refusesDrill l oT oT_s oT_aside oT_states oT_snapshot oT_text oT_serves oT_took oT_tookMany oT_helps oT_before oT_read s.heap.size T_thrown T_stateMany T_hasSnapshot T_length T_stopNumber T_stopError T_at T_isWell T_readMany T_s T_serves T_took T_tookMany T_helps x1 x2 hw) (cwV 2 hts gX7_drillsIf_X7_refusesDrill rfl rfl rfl ⟨rfl, hd_X7_refusesDrill⟩ ⟨Nat.le_of_ble_eq_true rfl, Nat.le_of_ble_eq_true rfl⟩) hKw hA hwd [0, 1, 2, 3, 4, 5] [] [0, 1, 2, 3, 4, 5] [] rfl rfl rfl rfl (by decide) rfl (fun _ => rfl) 0 7 rfl rfl rfl rfl hl.1 rfl (lv_room (Nat.le_of_ble_eq_true rfl)) dX7_drillsIf_3 (fun r1 u H locs hw hwd => ?_)
  obtain ⟨T_serves2, T_took3, T_tookMany4, T_helps5⟩ := u
  try dsimp only at hw
  replace hwd : wd D (va_A (ww_X7_drillsIf cI cC oT oT_s oT_aside oT_states oT_snapshot oT_text oT_serves oT_took oT_tookMany oT_helps oT_before oT_read T_thrown T_stateMany T_hasSnapshot T_length T_stopNumber T_stopError T_at T_isWell T_readMany T_s T_serves T_took T_tookMany T_helps) s.heap.size) s (ww_X7_drillsIf cI cC oT oT_s oT_aside oT_states oT_snapshot oT_text oT_serves oT_took oT_tookMany oT_helps oT_before oT_read T_thrown T_stateMany T_hasSnapshot T_length T_stopNumber T_stopError T_at T_isWell T_readMany T_s T_serves2 T_took3 T_tookMany4 T_helps5) H locs := hwd
  refine lv_istore_n (lv' := [(3, .int r1), (0, .ref oT), (1, .int x1), (2, .int x2)]) hx hb dX7_drillsIf_6 rfl hl (by decide) rfl (fun ls hl => ?_)
  refine lv_iload_n hx hb dX7_drillsIf_7 rfl (lv_at hl 0 rfl) ?_
  refine lv_if_ne (tgt := 18) hx hb dX7_drillsIf_8 (by decide) (fun c6 => ?_) (fun c6 => ?_)
  · replace hw := hw.1 c6
    refine lv_iload_n hx hb dX7_drillsIf_18 rfl (lv_at hl 0 rfl) ?_
    exact HR r1 T_s T_serves2 T_took3 T_tookMany4 T_helps5 hw hwd dX7_drillsIf_19
  · replace hw := hw.2 c6
    refine lv_aload_n hx hb dX7_drillsIf_11 rfl (lv_at hl 1 rfl) ?_
    refine lv_iload_n hx hb dX7_drillsIf_12 rfl (lv_at hl 2 rfl) ?_
    refine lv_iload_n hx hb dX7_drillsIf_13 rfl (lv_at hl 3 rfl) ?_
    refine kcVi (W1 := (fun u => (ww_X7_drillsIf cI cC oT oT_s oT_aside oT_states oT_snapshot oT_text oT_serves oT_took oT_tookMany oT_helps oT_before oT_read T_thrown T_stateMany T_hasSnapshot T_length T_stopNumber T_stopError T_at T_isWell T_readMany u T_serves2 T_took3 T_tookMany4 T_helps5))) (rest := []) (As := [.int x1, .int x2]) ⟨Nat.le_of_ble_eq_true rfl, Nat.le_of_ble_eq_true rfl⟩ ⟨hx, hb, hml, hown, hts⟩ (c_X7_drills l oT oT_s oT_aside oT_states oT_snapshot oT_text oT_serves oT_took oT_tookMany oT_helps oT_before oT_read H.size T_thrown T_stateMany T_hasSnapshot T_length T_stopNumber T_stopError T_at T_isWell T_readMany T_s T_took3 x1 x2 hw) (cwV 2 hts gX7_drillsIf_X7_drills rfl rfl rfl ⟨rfl, hd_X7_drills⟩ ⟨Nat.le_of_ble_eq_true rfl, Nat.le_of_ble_eq_true rfl⟩) hKw hA hwd [0, 1, 3] [2, 4, 5] [3, 4, 0, 5, 1, 2] [(oT_serves, .inl (cI, 16, .inl T_serves2)), (oT_tookMany, .inl (cI, 10, .inl T_tookMany4)), (oT_helps, .inl (cI, 10, .inl T_helps5))] rfl rfl rfl rfl (by decide) rfl (fun _ => rfl) 0 7 rfl rfl rfl rfl hl.1 rfl (lv_room (Nat.le_of_ble_eq_true rfl)) dX7_drillsIf_14 (fun r7 u H locs hw hwd => ?_)
    obtain ⟨T_s8, rfl⟩ : ∃ z, z = u := ⟨_, rfl⟩
    try dsimp only at hw
    replace hwd : wd D (va_A (ww_X7_drillsIf cI cC oT oT_s oT_aside oT_states oT_snapshot oT_text oT_serves oT_took oT_tookMany oT_helps oT_before oT_read T_thrown T_stateMany T_hasSnapshot T_length T_stopNumber T_stopError T_at T_isWell T_readMany T_s T_serves T_took T_tookMany T_helps) s.heap.size) s (ww_X7_drillsIf cI cC oT oT_s oT_aside oT_states oT_snapshot oT_text oT_serves oT_took oT_tookMany oT_helps oT_before oT_read T_thrown T_stateMany T_hasSnapshot T_length T_stopNumber T_stopError T_at T_isWell T_readMany T_s8 T_serves2 T_took3 T_tookMany4 T_helps5) H locs := hwd
    refine lv_pop hx hb dX7_drillsIf_17 rfl ?_
    refine lv_iload_n hx hb dX7_drillsIf_18 rfl (lv_at hl 0 rfl) ?_
    exact HR r1 T_s8 T_serves2 T_took3 T_tookMany4 T_helps5 hw hwd dX7_drillsIf_19
abbrev ww_X7_does (cI cC : ClassId) (oT oT_s oT_aside oT_states oT_snapshot oT_text oT_serves oT_took oT_tookMany oT_helps oT_before oT_read : Nat) (T_thrown : Int32) (T_stateMany : Int32) (T_hasSnapshot : Int32) (T_length : Int32) (T_stopNumber : Int32) (T_stopError : Int32) (T_at : Int32) (T_isWell : Int32) (T_readMany : Int32) (T_s : Nat → Int32) (T_serves : Nat → Int32) (T_took : Nat → Int32) (T_tookMany : Nat → Int32) (T_helps : Nat → Int32) (T_before : Nat → Int32) (T_read : Nat → Int32) : va_W := [(oT, .inr (7, [.int T_thrown, .ref oT_s, .ref oT_aside, .ref oT_states, .int T_stateMany, .ref oT_snapshot, .int T_hasSnapshot, .ref oT_text, .int T_length, .int T_stopNumber, .int T_stopError, .ref oT_serves, .ref oT_took, .ref oT_tookMany, .ref oT_helps, .ref oT_before, .int T_at, .int T_isWell, .ref oT_read, .int T_readMany])), (oT_s, .inl (cI, 474, .inl T_s)), (oT_serves, .inl (cI, 16, .inl T_serves)), (oT_took, .inl (cI, 30, .inl T_took)), (oT_tookMany, .inl (cI, 10, .inl T_tookMany)), (oT_helps, .inl (cI, 10, .inl T_helps)), (oT_before, .inl (cI, 10, .inl T_before)), (oT_read, .inl (cI, 64, .inl T_read))]
abbrev rm_X7_does : Room := { frames := 8, cells := 0, slots := 0, locals := 187 }
theorem ic_X7_does_X7 : ∀ w ∈ u_ws RX7 TX7 20, w ∈ wsX7_does := by
  intro w h
  simp only [wsX7_does, List.mem_cons, List.mem_append]
  simp only [h, or_true, true_or]
def wp_X7_does (T_s : Nat → Int32) (T_serves : Nat → Int32) (T_took : Nat → Int32) (T_tookMany : Nat → Int32) (T_helps : Nat → Int32) (T_before : Nat → Int32) (T_read : Nat → Int32) (x1 : Int32) (Q : Int32 → (Nat → Int32) → (Nat → Int32) → (Nat → Int32) → (Nat → Int32) → (Nat → Int32) → (Nat → Int32) → Prop) : Prop := vp_in (x1 + (nI 1)) 64 ∧ ∀ x2_1, x2_1 = T_read (x1 + (nI 1)).toNatClampNeg → vp_in (x1 + (nI 2)) 64 ∧ ∀ x3_2, x3_2 = T_read (x1 + (nI 2)).toNatClampNeg → vp_in x1 64 ∧ (((T_read x1.toNatClampNeg) = (nI 100) → wp_X7_drillsIf T_s T_serves T_took T_tookMany T_helps x2_1 x3_2 (fun r4 T_s5 T_serves6 T_took7 T_tookMany8 T_helps9 => Q r4 T_s5 T_serves6 T_took7 T_tookMany8 T_helps9 T_before)) ∧ (¬ (T_read x1.toNatClampNeg) = (nI 100) → ((T_read x1.toNatClampNeg) = (nI 108) → vp_in (x1 + (nI 3)) 64 ∧ wp_X7_leavesIf T_s T_serves T_took T_tookMany T_helps T_before x2_1 x3_2 (T_read (x1 + (nI 3)).toNatClampNeg) (fun r11 T_s12 T_serves13 T_took14 T_tookMany15 T_helps16 T_before17 => Q r11 T_s12 T_serves13 T_took14 T_tookMany15 T_helps16 T_before17)) ∧ (¬ (T_read x1.toNatClampNeg) = (nI 108) → ((T_read x1.toNatClampNeg) = (nI 111) → wp_X7_placeIn T_s x2_1 x3_2 (fun r19 => ((r19 = (-5) → Q (nI 0) T_s T_serves T_took T_tookMany T_helps T_before) ∧ (¬ r19 = (-5) → wp_X7_strikes T_s x2_1 x3_2 (fun r21 T_s22 => Q (nI 0) T_s22 T_serves T_took T_tookMany T_helps T_before))))) ∧ (¬ (T_read x1.toNatClampNeg) = (nI 111) → ((T_read x1.toNatClampNeg) = (nI 114) → wp_X7_enlistsIf T_s x2_1 x3_2 (fun r24 T_s25 => Q r24 T_s25 T_serves T_took T_tookMany T_helps T_before)) ∧ (¬ (T_read x1.toNatClampNeg) = (nI 114) → wp_X7_refusesPass T_s x2_1 (fun r26 => vp_in (nI 3) 474 ∧ ((¬ r26 = 0 → vp_in (nI 3) 474 ∧ ∀ T_s28, T_s28 = upd T_s (nI 3).toNatClampNeg ((T_s (nI 3).toNatClampNeg) + (nI 0)) → Q r26 T_s28 T_serves T_took T_tookMany T_helps T_before) ∧ (r26 = 0 → vp_in (nI 3) 474 ∧ ∀ T_s29, T_s29 = upd T_s (nI 3).toNatClampNeg ((T_s (nI 3).toNatClampNeg) + x2_1) → Q r26 T_s29 T_serves T_took T_tookMany T_helps T_before))))))))
set_option maxRecDepth 100000 in
set_option maxHeartbeats 4000000 in
theorem c_X7_does (l : Launch) {D : va_G} {cI cC cR : ClassId} (oT oT_s oT_aside oT_states oT_snapshot oT_text oT_serves oT_took oT_tookMany oT_helps oT_before oT_read : Nat) (sz : Nat) (T_thrown : Int32) (T_stateMany : Int32) (T_hasSnapshot : Int32) (T_length : Int32) (T_stopNumber : Int32) (T_stopError : Int32) (T_at : Int32) (T_isWell : Int32) (T_readMany : Int32) (T_s : Nat → Int32) (T_serves : Nat → Int32) (T_took : Nat → Int32) (T_tookMany : Nat → Int32) (T_helps : Nat → Int32) (T_before : Nat → Int32) (T_read : Nat → Int32) (x1 : Int32) {Q : Int32 → (Nat → Int32) → (Nat → Int32) → (Nat → Int32) → (Nat → Int32) → (Nat → Int32) → (Nat → Int32) → Prop} (hw : wp_X7_does T_s T_serves T_took T_tookMany T_helps T_before T_read x1 Q) : Met l yX7_does wsX7_does rm_X7_does (PcW D cI cC cR [.ref oT, .int x1] (ww_X7_does cI cC oT oT_s oT_aside oT_states oT_snapshot oT_text oT_serves oT_took oT_tookMany oT_helps oT_before oT_read T_thrown T_stateMany T_hasSnapshot T_length T_stopNumber T_stopError T_at T_isWell T_readMany T_s T_serves T_took T_tookMany T_helps T_before T_read) sz) (QiW D (fun (r : Int32) (u : (Nat → Int32) × (Nat → Int32) × (Nat → Int32) × (Nat → Int32) × (Nat → Int32) × (Nat → Int32)) => Q r u.1 u.2.1 u.2.2.1 u.2.2.2.1 u.2.2.2.2.1 u.2.2.2.2.2) (fun u => (ww_X7_does cI cC oT oT_s oT_aside oT_states oT_snapshot oT_text oT_serves oT_took oT_tookMany oT_helps oT_before oT_read T_thrown T_stateMany T_hasSnapshot T_length T_stopNumber T_stopError T_at T_isWell T_readMany (u.1) (u.2.1) (u.2.2.1) (u.2.2.2.1) (u.2.2.2.2.1) (u.2.2.2.2.2) T_read)) (ww_X7_does cI cC oT oT_s oT_aside oT_states oT_snapshot oT_text oT_serves oT_took oT_tookMany oT_helps oT_before oT_read T_thrown T_stateMany T_hasSnapshot T_length T_stopNumber T_stopError T_at T_isWell T_readMany T_s T_serves T_took T_tookMany T_helps T_before T_read) sz) 0 0 (va_A (ww_X7_does cI cC oT oT_s oT_aside oT_states oT_snapshot oT_text oT_serves oT_took oT_tookMany oT_helps oT_before oT_read T_thrown T_stateMany T_hasSnapshot T_length T_stopNumber T_stopError T_at T_isWell T_readMany T_s T_serves T_took T_tookMany T_helps T_before T_read) sz) := by
  refine Met.ofW (cc := cX7_does) (maxL := 5) (ret := (some .int)) (by decide) rfl ?_
  intro p e s m args below meth c s₁ B hml hv
  obtain ⟨rfl, hsz, hP, hKw, hD0⟩ := hv
  have hlocks := B.notSynchronized
  subst hsz
  have hD := hD0.self (sz := s.heap.size)
  have CX : cx cX7_does (some .int) 5 RX7 wsX7_does p m meth c s ([.ref oT, .int x1] : List Value).toArray D cI cC cR (va_A (ww_X7_does cI cC oT oT_s oT_aside oT_states oT_snapshot oT_text oT_serves oT_took oT_tookMany oT_helps oT_before oT_read T_thrown T_stateMany T_hasSnapshot T_length T_stopNumber T_stopError T_at T_isWell T_readMany T_s T_serves T_took T_tookMany T_helps T_before T_read) s.heap.size) := ⟨B.exec, B.bytes, B.returns, hml, atoms_spec (ws := wsX7_does) B.pre, findClass_of_methodNamed B.named, hlocks, hKw, fun q h => Or.inr h⟩
  obtain ⟨hx, hb, hr, -, hts, hown, -, -, hA⟩ := id CX
  have hwd : wd D (va_A (ww_X7_does cI cC oT oT_s oT_aside oT_states oT_snapshot oT_text oT_serves oT_took oT_tookMany oT_helps oT_before oT_read T_thrown T_stateMany T_hasSnapshot T_length T_stopNumber T_stopError T_at T_isWell T_readMany T_s T_serves T_took T_tookMany T_helps T_before T_read) s.heap.size) s (ww_X7_does cI cC oT oT_s oT_aside oT_states oT_snapshot oT_text oT_serves oT_took oT_tookMany oT_helps oT_before oT_read T_thrown T_stateMany T_hasSnapshot T_length T_stopNumber T_stopError T_at T_isWell T_readMany T_s T_serves T_took T_tookMany T_helps T_before T_read) s.heap [] := ⟨hP, hD, va_S.rf⟩
  have hl := lv_entry ([.ref oT, .int x1]) (n := 5) (Nat.le_of_ble_eq_true rfl)
  rw [lg_entry_eq]
  generalize (lg_sl ([.ref oT, .int x1]) ++ List.replicate (5 - (lg_sl ([.ref oT, .int x1])).length) Slot.unset).toArray = ls at hl ⊢
  have hl : lv_has ls 5 [(0, .ref oT), (1, .int x1)] := hl
  have HR : ∀ (r : Int32) (u0 : Nat → Int32) (u1 : Nat → Int32) (u2 : Nat → Int32) (u3 : Nat → Int32) (u4 : Nat → Int32) (u5 : Nat → Int32) {H : Heap} {locs : List Loc} {ls : Array Slot} {pc : Nat}, Q r u0 u1 u2 u3 u4 u5 → wd D (va_A (ww_X7_does cI cC oT oT_s oT_aside oT_states oT_snapshot oT_text oT_serves oT_took oT_tookMany oT_helps oT_before oT_read T_thrown T_stateMany T_hasSnapshot T_length T_stopNumber T_stopError T_at T_isWell T_readMany T_s T_serves T_took T_tookMany T_helps T_before T_read) s.heap.size) s (ww_X7_does cI cC oT oT_s oT_aside oT_states oT_snapshot oT_text oT_serves oT_took oT_tookMany oT_helps oT_before oT_read T_thrown T_stateMany T_hasSnapshot T_length T_stopNumber T_stopError T_at T_isWell T_readMany u0 u1 u2 u3 u4 u5 T_read) H locs → decode cX7_does pc = .ok (.ireturn, 1) → W p l e (headSpec wsX7_does rm_X7_does).room s m ([.ref oT, .int x1] : List Value).toArray below meth c H locs 0 0 (MQ below (QiW D (fun (r : Int32) (u : (Nat → Int32) × (Nat → Int32) × (Nat → Int32) × (Nat → Int32) × (Nat → Int32) × (Nat → Int32)) => Q r u.1 u.2.1 u.2.2.1 u.2.2.2.1 u.2.2.2.2.1 u.2.2.2.2.2) (fun u => (ww_X7_does cI cC oT oT_s oT_aside oT_states oT_snapshot oT_text oT_serves oT_took oT_tookMany oT_helps oT_before oT_read T_thrown T_stateMany T_hasSnapshot T_length T_stopNumber T_stopError T_at T_isWell T_readMany (u.1) (u.2.1) (u.2.2.1) (u.2.2.2.1) (u.2.2.2.2.1) (u.2.2.2.2.2) T_read)) (ww_X7_does cI cC oT oT_s oT_aside oT_states oT_snapshot oT_text oT_serves oT_took oT_tookMany oT_helps oT_before oT_read T_thrown T_stateMany T_hasSnapshot T_length T_stopNumber T_stopError T_at T_isWell T_readMany T_s T_serves T_took T_tookMany T_helps T_before T_read) s.heap.size) ([.ref oT, .int x1] : List Value).toArray s 0 0 (va_A (ww_X7_does cI cC oT oT_s oT_aside oT_states oT_snapshot oT_text oT_serves oT_took oT_tookMany oT_helps oT_before oT_read T_thrown T_stateMany T_hasSnapshot T_length T_stopNumber T_stopError T_at T_isWell T_readMany T_s T_serves T_took T_tookMany T_helps T_before T_read) s.heap.size)) (F0 m pc ls [.int r]) := by
    intro r u0 u1 u2 u3 u4 u5 H locs ls pc hq hw9 hd9
    exact W.iret (v := r) hx hb hr (fun t ht hW => ⟨⟨r, (u0, u1, u2, u3, u4, u5), rfl, hq, by rw [ht]; exact hw9.1, hw9.2.1⟩, hw9.2.2.F ht⟩) hw9.2.2.2.2 hd9
  unfold wp_X7_does at hw
  refine lv_aload_n hx hb dX7_does_0 rfl (lv_at hl 0 rfl) ?_
  refine va_get (D := D) (ci := 7) (v := .ref oT_read) (C := RX7) (T := TX7) (N := 20) hx hb hts ic_X7_does_X7 hown hKw.1 hwd.1 0 rfl rfl 18 (by decide) (hts (.fieldLink RX7 40 "DrillWardensModel" "read" "[I") (List.mem_of_getElem? (i := 1) rfl)) (fun _ h9 => h9) rfl dX7_does_1 ?_
  refine lv_iload_n hx hb dX7_does_4 rfl (lv_at hl 1 rfl) ?_
  refine lv_iconst (v := (nI 1)) hx hb dX7_does_5 rfl ?_
  refine lv_iadd hx hb dX7_does_6 ?_
  refine va_iald hx hb hKw.1 hwd.1 7 0 rfl rfl hw.1 dX7_does_7 ?_
  replace hw := hw.2
  refine lv_topi (fun x2_1 e_x2_1 => ?_)
  replace hw := hw x2_1 e_x2_1
  refine lv_istore_n (lv' := [(2, .int x2_1), (0, .ref oT), (1, .int x1)]) hx hb dX7_does_8 rfl hl (by decide) rfl (fun ls hl => ?_)
  refine lv_aload_n hx hb dX7_does_9 rfl (lv_at hl 1 rfl) ?_
  refine va_get (D := D) (ci := 7) (v := .ref oT_read) (C := RX7) (T := TX7) (N := 20) hx hb hts ic_X7_does_X7 hown hKw.1 hwd.1 0 rfl rfl 18 (by decide) (hts (.fieldLink RX7 40 "DrillWardensModel" "read" "[I") (List.mem_of_getElem? (i := 1) rfl)) (fun _ h9 => h9) rfl dX7_does_10 ?_
  refine lv_iload_n hx hb dX7_does_13 rfl (lv_at hl 2 rfl) ?_
  refine lv_iconst (v := (nI 2)) hx hb dX7_does_14 rfl ?_
  refine lv_iadd hx hb dX7_does_15 ?_
  refine va_iald hx hb hKw.1 hwd.1 7 0 rfl rfl hw.1 dX7_does_16 ?_
  replace hw := hw.2
  refine lv_topi (fun x3_2 e_x3_2 => ?_)
  replace hw := hw x3_2 e_x3_2
  refine lv_istore_n (lv' := [(3, .int x3_2), (2, .int x2_1), (0, .ref oT), (1, .int x1)]) hx hb dX7_does_17 rfl hl (by decide) rfl (fun ls hl => ?_)
  refine lv_aload_n hx hb dX7_does_18 rfl (lv_at hl 2 rfl) ?_
  refine va_get (D := D) (ci := 7) (v := .ref oT_read) (C := RX7) (T := TX7) (N := 20) hx hb hts ic_X7_does_X7 hown hKw.1 hwd.1 0 rfl rfl 18 (by decide) (hts (.fieldLink RX7 40 "DrillWardensModel" "read" "[I") (List.mem_of_getElem? (i := 1) rfl)) (fun _ h9 => h9) rfl dX7_does_19 ?_
  refine lv_iload_n hx hb dX7_does_22 rfl (lv_at hl 3 rfl) ?_
  refine va_iald hx hb hKw.1 hwd.1 7 0 rfl rfl hw.1 dX7_does_23 ?_
  replace hw := hw.2
  rcases Classical.em ((T_read x1.toNatClampNeg) = (nI 100)) with c3 | c3
  · replace hw := hw.1 c3
    refine lv_lookup (off := 86) (tgt := 110) hx hb dX7_does_24 rfl (by rw [c3]; rfl) (by decide) ?_
    refine lv_aload_n hx hb dX7_does_110 rfl (lv_at hl 2 rfl) ?_
    refine lv_iload_n hx hb dX7_does_111 rfl (lv_at hl 1 rfl) ?_
    refine lv_iload_n hx hb dX7_does_112 rfl (lv_at hl 0 rfl) ?_
    refine kcVi (W1 := (fun u => (ww_X7_does cI cC oT oT_s oT_aside oT_states oT_snapshot oT_text oT_serves oT_took oT_tookMany oT_helps oT_before oT_read T_thrown T_stateMany T_hasSnapshot T_length T_stopNumber T_stopError T_at T_isWell T_readMany (u.1) (u.2.1) (u.2.2.1) (u.2.2.2.1) (u.2.2.2.2) T_before T_read))) (rest := []) (As := [.int x2_1, .int x3_2]) ⟨Nat.le_of_ble_eq_true rfl, Nat.le_of_ble_eq_true rfl⟩ ⟨hx, hb, hml, hown, hts⟩ (c_X7_drillsIf l oT oT_s oT_aside oT_states oT_snapshot oT_text oT_serves oT_took oT_tookMany oT_helps oT_before oT_read s.heap.size T_thrown T_stateMany T_hasSnapshot T_length T_stopNumber T_stopError T_at T_isWell T_readMany T_s T_serves T_took T_tookMany T_helps x2_1 x3_2 hw) (cwV 2 hts gX7_does_X7_drillsIf rfl rfl rfl ⟨rfl, hd_X7_drillsIf⟩ ⟨Nat.le_of_ble_eq_true rfl, Nat.le_of_ble_eq_true rfl⟩) hKw hA hwd [0, 1, 2, 3, 4, 5] [6, 7] [2, 3, 4, 5, 6, 7, 0, 1] [(oT_before, .inl (cI, 10, .inl T_before)), (oT_read, .inl (cI, 64, .inl T_read))] rfl rfl rfl rfl (by decide) rfl (fun _ => rfl) 0 7 rfl rfl rfl rfl hl.1 rfl (lv_room (Nat.le_of_ble_eq_true rfl)) dX7_does_113 (fun r4 u H locs hw hwd => ?_)
    obtain ⟨T_s5, T_serves6, T_took7, T_tookMany8, T_helps9⟩ := u
    try dsimp only at hw
    replace hwd : wd D (va_A (ww_X7_does cI cC oT oT_s oT_aside oT_states oT_snapshot oT_text oT_serves oT_took oT_tookMany oT_helps oT_before oT_read T_thrown T_stateMany T_hasSnapshot T_length T_stopNumber T_stopError T_at T_isWell T_readMany T_s T_serves T_took T_tookMany T_helps T_before T_read) s.heap.size) s (ww_X7_does cI cC oT oT_s oT_aside oT_states oT_snapshot oT_text oT_serves oT_took oT_tookMany oT_helps oT_before oT_read T_thrown T_stateMany T_hasSnapshot T_length T_stopNumber T_stopError T_at T_isWell T_readMany T_s5 T_serves6 T_took7 T_tookMany8 T_helps9 T_before T_read) H locs := hwd
    exact HR r4 T_s5 T_serves6 T_took7 T_tookMany8 T_helps9 T_before hw hwd dX7_does_116
  · replace hw := hw.2 c3
    rcases Classical.em ((T_read x1.toNatClampNeg) = (nI 108)) with c10 | c10
    · replace hw := hw.1 c10
      refine lv_lookup (off := 71) (tgt := 95) hx hb dX7_does_24 rfl (by rw [c10]; rfl) (by decide) ?_
      refine lv_aload_n hx hb dX7_does_95 rfl (lv_at hl 2 rfl) ?_
      refine lv_iload_n hx hb dX7_does_96 rfl (lv_at hl 1 rfl) ?_
      refine lv_iload_n hx hb dX7_does_97 rfl (lv_at hl 0 rfl) ?_
      refine lv_aload_n hx hb dX7_does_98 rfl (lv_at hl 2 rfl) ?_
      refine va_get (D := D) (ci := 7) (v := .ref oT_read) (C := RX7) (T := TX7) (N := 20) hx hb hts ic_X7_does_X7 hown hKw.1 hwd.1 0 rfl rfl 18 (by decide) (hts (.fieldLink RX7 40 "DrillWardensModel" "read" "[I") (List.mem_of_getElem? (i := 1) rfl)) (fun _ h9 => h9) rfl dX7_does_99 ?_
      refine lv_iload_n hx hb dX7_does_102 rfl (lv_at hl 3 rfl) ?_
      refine lv_iconst (v := (nI 3)) hx hb dX7_does_103 rfl ?_
      refine lv_iadd hx hb dX7_does_104 ?_
      refine va_iald hx hb hKw.1 hwd.1 7 0 rfl rfl hw.1 dX7_does_105 ?_
      replace hw := hw.2
      refine kcVi (W1 := (fun u => (ww_X7_does cI cC oT oT_s oT_aside oT_states oT_snapshot oT_text oT_serves oT_took oT_tookMany oT_helps oT_before oT_read T_thrown T_stateMany T_hasSnapshot T_length T_stopNumber T_stopError T_at T_isWell T_readMany (u.1) (u.2.1) (u.2.2.1) (u.2.2.2.1) (u.2.2.2.2.1) (u.2.2.2.2.2) T_read))) (rest := []) (As := [.int x2_1, .int x3_2, .int (T_read (x1 + (nI 3)).toNatClampNeg)]) ⟨Nat.le_of_ble_eq_true rfl, Nat.le_of_ble_eq_true rfl⟩ ⟨hx, hb, hml, hown, hts⟩ (c_X7_leavesIf l oT oT_s oT_aside oT_states oT_snapshot oT_text oT_serves oT_took oT_tookMany oT_helps oT_before oT_read s.heap.size T_thrown T_stateMany T_hasSnapshot T_length T_stopNumber T_stopError T_at T_isWell T_readMany T_s T_serves T_took T_tookMany T_helps T_before x2_1 x3_2 (T_read (x1 + (nI 3)).toNatClampNeg) hw) (cwV 3 hts gX7_does_X7_leavesIf rfl rfl rfl ⟨rfl, hd_X7_leavesIf⟩ ⟨Nat.le_of_ble_eq_true rfl, Nat.le_of_ble_eq_true rfl⟩) hKw hA hwd [0, 1, 2, 3, 4, 5, 6] [7] [1, 2, 3, 4, 5, 6, 7, 0] [(oT_read, .inl (cI, 64, .inl T_read))] rfl rfl rfl rfl (by decide) rfl (fun _ => rfl) 0 7 rfl rfl rfl rfl hl.1 rfl (lv_room (Nat.le_of_ble_eq_true rfl)) dX7_does_106 (fun r11 u H locs hw hwd => ?_)
      obtain ⟨T_s12, T_serves13, T_took14, T_tookMany15, T_helps16, T_before17⟩ := u
      try dsimp only at hw
      replace hwd : wd D (va_A (ww_X7_does cI cC oT oT_s oT_aside oT_states oT_snapshot oT_text oT_serves oT_took oT_tookMany oT_helps oT_before oT_read T_thrown T_stateMany T_hasSnapshot T_length T_stopNumber T_stopError T_at T_isWell T_readMany T_s T_serves T_took T_tookMany T_helps T_before T_read) s.heap.size) s (ww_X7_does cI cC oT oT_s oT_aside oT_states oT_snapshot oT_text oT_serves oT_took oT_tookMany oT_helps oT_before oT_read T_thrown T_stateMany T_hasSnapshot T_length T_stopNumber T_stopError T_at T_isWell T_readMany T_s12 T_serves13 T_took14 T_tookMany15 T_helps16 T_before17 T_read) H locs := hwd
      exact HR r11 T_s12 T_serves13 T_took14 T_tookMany15 T_helps16 T_before17 hw hwd dX7_does_109
    · replace hw := hw.2 c10
      rcases Classical.em ((T_read x1.toNatClampNeg) = (nI 111)) with c18 | c18
      · replace hw := hw.1 c18
        refine lv_lookup (off := 51) (tgt := 75) hx hb dX7_does_24 rfl (by rw [c18]; rfl) (by decide) ?_
        refine lv_aload_n hx hb dX7_does_75 rfl (lv_at hl 2 rfl) ?_
        refine lv_iload_n hx hb dX7_does_76 rfl (lv_at hl 1 rfl) ?_
        refine lv_iload_n hx hb dX7_does_77 rfl (lv_at hl 0 rfl) ?_
        refine kcVi (W1 := (fun u => (ww_X7_does cI cC oT oT_s oT_aside oT_states oT_snapshot oT_text oT_serves oT_took oT_tookMany oT_helps oT_before oT_read T_thrown T_stateMany T_hasSnapshot T_length T_stopNumber T_stopError T_at T_isWell T_readMany T_s T_serves T_took T_tookMany T_helps T_before T_read))) (rest := []) (As := [.int x2_1, .int x3_2]) ⟨Nat.le_of_ble_eq_true rfl, Nat.le_of_ble_eq_true rfl⟩ ⟨hx, hb, hml, hown, hts⟩ (c_X7_placeIn l oT oT_s oT_aside oT_states oT_snapshot oT_text oT_serves oT_took oT_tookMany oT_helps oT_before oT_read s.heap.size T_thrown T_stateMany T_hasSnapshot T_length T_stopNumber T_stopError T_at T_isWell T_readMany T_s x2_1 x3_2 hw) (cwV 2 hts gX7_does_X7_placeIn rfl rfl rfl ⟨rfl, hd_X7_placeIn⟩ ⟨Nat.le_of_ble_eq_true rfl, Nat.le_of_ble_eq_true rfl⟩) hKw hA hwd [0, 1] [2, 3, 4, 5, 6, 7] [6, 7, 0, 1, 2, 3, 4, 5] [(oT_serves, .inl (cI, 16, .inl T_serves)), (oT_took, .inl (cI, 30, .inl T_took)), (oT_tookMany, .inl (cI, 10, .inl T_tookMany)), (oT_helps, .inl (cI, 10, .inl T_helps)), (oT_before, .inl (cI, 10, .inl T_before)), (oT_read, .inl (cI, 64, .inl T_read))] rfl rfl rfl rfl (by decide) rfl (fun _ => rfl) 0 7 rfl rfl rfl rfl hl.1 rfl (lv_room (Nat.le_of_ble_eq_true rfl)) dX7_does_78 (fun r19 u H locs hw hwd => ?_)
        try dsimp only at hw
        replace hwd : wd D (va_A (ww_X7_does cI cC oT oT_s oT_aside oT_states oT_snapshot oT_text oT_serves oT_took oT_tookMany oT_helps oT_before oT_read T_thrown T_stateMany T_hasSnapshot T_length T_stopNumber T_stopError T_at T_isWell T_readMany T_s T_serves T_took T_tookMany T_helps T_before T_read) s.heap.size) s (ww_X7_does cI cC oT oT_s oT_aside oT_states oT_snapshot oT_text oT_serves oT_took oT_tookMany oT_helps oT_before oT_read T_thrown T_stateMany T_hasSnapshot T_length T_stopNumber T_stopError T_at T_isWell T_readMany T_s T_serves T_took T_tookMany T_helps T_before T_read) H locs := hwd
        refine lv_bipush (v := (-5)) hx hb dX7_does_81 rfl ?_
        refine lv_icmp_eq (tgt := 93) hx hb dX7_does_83 (by decide) (fun c20 => ?_) (fun c20 => ?_)
        · replace hw := hw.1 c20
          refine lv_iconst (v := (nI 0)) hx hb dX7_does_93 rfl ?_
          exact HR (nI 0) T_s T_serves T_took T_tookMany T_helps T_before hw hwd dX7_does_94
        · replace hw := hw.2 c20
          refine lv_aload_n hx hb dX7_does_86 rfl (lv_at hl 2 rfl) ?_
          refine lv_iload_n hx hb dX7_does_87 rfl (lv_at hl 1 rfl) ?_
          refine lv_iload_n hx hb dX7_does_88 rfl (lv_at hl 0 rfl) ?_
          refine kcVi (W1 := (fun u => (ww_X7_does cI cC oT oT_s oT_aside oT_states oT_snapshot oT_text oT_serves oT_took oT_tookMany oT_helps oT_before oT_read T_thrown T_stateMany T_hasSnapshot T_length T_stopNumber T_stopError T_at T_isWell T_readMany u T_serves T_took T_tookMany T_helps T_before T_read))) (rest := []) (As := [.int x2_1, .int x3_2]) ⟨Nat.le_of_ble_eq_true rfl, Nat.le_of_ble_eq_true rfl⟩ ⟨hx, hb, hml, hown, hts⟩ (c_X7_strikes l oT oT_s oT_aside oT_states oT_snapshot oT_text oT_serves oT_took oT_tookMany oT_helps oT_before oT_read H.size T_thrown T_stateMany T_hasSnapshot T_length T_stopNumber T_stopError T_at T_isWell T_readMany T_s x2_1 x3_2 hw) (cwV 2 hts gX7_does_X7_strikes rfl rfl rfl ⟨rfl, hd_X7_strikes⟩ ⟨Nat.le_of_ble_eq_true rfl, Nat.le_of_ble_eq_true rfl⟩) hKw hA hwd [0, 1] [2, 3, 4, 5, 6, 7] [6, 7, 0, 1, 2, 3, 4, 5] [(oT_serves, .inl (cI, 16, .inl T_serves)), (oT_took, .inl (cI, 30, .inl T_took)), (oT_tookMany, .inl (cI, 10, .inl T_tookMany)), (oT_helps, .inl (cI, 10, .inl T_helps)), (oT_before, .inl (cI, 10, .inl T_before)), (oT_read, .inl (cI, 64, .inl T_read))] rfl rfl rfl rfl (by decide) rfl (fun _ => rfl) 0 7 rfl rfl rfl rfl hl.1 rfl (lv_room (Nat.le_of_ble_eq_true rfl)) dX7_does_89 (fun r21 u H locs hw hwd => ?_)
          obtain ⟨T_s22, rfl⟩ : ∃ z, z = u := ⟨_, rfl⟩
          try dsimp only at hw
          replace hwd : wd D (va_A (ww_X7_does cI cC oT oT_s oT_aside oT_states oT_snapshot oT_text oT_serves oT_took oT_tookMany oT_helps oT_before oT_read T_thrown T_stateMany T_hasSnapshot T_length T_stopNumber T_stopError T_at T_isWell T_readMany T_s T_serves T_took T_tookMany T_helps T_before T_read) s.heap.size) s (ww_X7_does cI cC oT oT_s oT_aside oT_states oT_snapshot oT_text oT_serves oT_took oT_tookMany oT_helps oT_before oT_read T_thrown T_stateMany T_hasSnapshot T_length T_stopNumber T_stopError T_at T_isWell T_readMany T_s22 T_serves T_took T_tookMany T_helps T_before T_read) H locs := hwd
          refine lv_pop hx hb dX7_does_92 rfl ?_
          refine lv_iconst (v := (nI 0)) hx hb dX7_does_93 rfl ?_
          exact HR (nI 0) T_s22 T_serves T_took T_tookMany T_helps T_before hw hwd dX7_does_94
      · replace hw := hw.2 c18
        rcases Classical.em ((T_read x1.toNatClampNeg) = (nI 114)) with c23 | c23
        · replace hw := hw.1 c23
          refine lv_lookup (off := 44) (tgt := 68) hx hb dX7_does_24 rfl (by rw [c23]; rfl) (by decide) ?_
          refine lv_aload_n hx hb dX7_does_68 rfl (lv_at hl 2 rfl) ?_
          refine lv_iload_n hx hb dX7_does_69 rfl (lv_at hl 1 rfl) ?_
          refine lv_iload_n hx hb dX7_does_70 rfl (lv_at hl 0 rfl) ?_
          refine kcVi (W1 := (fun u => (ww_X7_does cI cC oT oT_s oT_aside oT_states oT_snapshot oT_text oT_serves oT_took oT_tookMany oT_helps oT_before oT_read T_thrown T_stateMany T_hasSnapshot T_length T_stopNumber T_stopError T_at T_isWell T_readMany u T_serves T_took T_tookMany T_helps T_before T_read))) (rest := []) (As := [.int x2_1, .int x3_2]) ⟨Nat.le_of_ble_eq_true rfl, Nat.le_of_ble_eq_true rfl⟩ ⟨hx, hb, hml, hown, hts⟩ (c_X7_enlistsIf l oT oT_s oT_aside oT_states oT_snapshot oT_text oT_serves oT_took oT_tookMany oT_helps oT_before oT_read s.heap.size T_thrown T_stateMany T_hasSnapshot T_length T_stopNumber T_stopError T_at T_isWell T_readMany T_s x2_1 x3_2 hw) (cwV 2 hts gX7_does_X7_enlistsIf rfl rfl rfl ⟨rfl, hd_X7_enlistsIf⟩ ⟨Nat.le_of_ble_eq_true rfl, Nat.le_of_ble_eq_true rfl⟩) hKw hA hwd [0, 1] [2, 3, 4, 5, 6, 7] [6, 7, 0, 1, 2, 3, 4, 5] [(oT_serves, .inl (cI, 16, .inl T_serves)), (oT_took, .inl (cI, 30, .inl T_took)), (oT_tookMany, .inl (cI, 10, .inl T_tookMany)), (oT_helps, .inl (cI, 10, .inl T_helps)), (oT_before, .inl (cI, 10, .inl T_before)), (oT_read, .inl (cI, 64, .inl T_read))] rfl rfl rfl rfl (by decide) rfl (fun _ => rfl) 0 7 rfl rfl rfl rfl hl.1 rfl (lv_room (Nat.le_of_ble_eq_true rfl)) dX7_does_71 (fun r24 u H locs hw hwd => ?_)
          obtain ⟨T_s25, rfl⟩ : ∃ z, z = u := ⟨_, rfl⟩
          try dsimp only at hw
          replace hwd : wd D (va_A (ww_X7_does cI cC oT oT_s oT_aside oT_states oT_snapshot oT_text oT_serves oT_took oT_tookMany oT_helps oT_before oT_read T_thrown T_stateMany T_hasSnapshot T_length T_stopNumber T_stopError T_at T_isWell T_readMany T_s T_serves T_took T_tookMany T_helps T_before T_read) s.heap.size) s (ww_X7_does cI cC oT oT_s oT_aside oT_states oT_snapshot oT_text oT_serves oT_took oT_tookMany oT_helps oT_before oT_read T_thrown T_stateMany T_hasSnapshot T_length T_stopNumber T_stopError T_at T_isWell T_readMany T_s25 T_serves T_took T_tookMany T_helps T_before T_read) H locs := hwd
          exact HR r24 T_s25 T_serves T_took T_tookMany T_helps T_before hw hwd dX7_does_74
        · replace hw := hw.2 c23
          refine lv_lookup (off := 93) (tgt := 117) hx hb dX7_does_24 rfl (by have e0 : ¬ (100 : Int) = (T_read x1.toNatClampNeg).toInt := lk_ne c3; have e1 : ¬ (108 : Int) = (T_read x1.toNatClampNeg).toInt := lk_ne c10; have e2 : ¬ (111 : Int) = (T_read x1.toNatClampNeg).toInt := lk_ne c18; have e3 : ¬ (114 : Int) = (T_read x1.toNatClampNeg).toInt := lk_ne c23; show (if (100 : Int) = (T_read x1.toNatClampNeg).toInt then (86 : Int) else if (108 : Int) = (T_read x1.toNatClampNeg).toInt then (71 : Int) else if (111 : Int) = (T_read x1.toNatClampNeg).toInt then (51 : Int) else if (114 : Int) = (T_read x1.toNatClampNeg).toInt then (44 : Int) else (93 : Int)) = (93 : Int); rw [if_neg e0, if_neg e1, if_neg e2, if_neg e3]) (by decide) ?_
          refine lv_aload_n hx hb dX7_does_117 rfl (lv_at hl 2 rfl) ?_
          refine lv_iload_n hx hb dX7_does_118 rfl (lv_at hl 1 rfl) ?_
          refine kcVi (W1 := (fun u => (ww_X7_does cI cC oT oT_s oT_aside oT_states oT_snapshot oT_text oT_serves oT_took oT_tookMany oT_helps oT_before oT_read T_thrown T_stateMany T_hasSnapshot T_length T_stopNumber T_stopError T_at T_isWell T_readMany T_s T_serves T_took T_tookMany T_helps T_before T_read))) (rest := []) (As := [.int x2_1]) ⟨Nat.le_of_ble_eq_true rfl, Nat.le_of_ble_eq_true rfl⟩ ⟨hx, hb, hml, hown, hts⟩ (c_X7_refusesPass l oT oT_s oT_aside oT_states oT_snapshot oT_text oT_serves oT_took oT_tookMany oT_helps oT_before oT_read s.heap.size T_thrown T_stateMany T_hasSnapshot T_length T_stopNumber T_stopError T_at T_isWell T_readMany T_s x2_1 hw) (cwV 1 hts gX7_does_X7_refusesPass rfl rfl rfl ⟨rfl, hd_X7_refusesPass⟩ ⟨Nat.le_of_ble_eq_true rfl, Nat.le_of_ble_eq_true rfl⟩) hKw hA hwd [0, 1] [2, 3, 4, 5, 6, 7] [6, 7, 0, 1, 2, 3, 4, 5] [(oT_serves, .inl (cI, 16, .inl T_serves)), (oT_took, .inl (cI, 30, .inl T_took)), (oT_tookMany, .inl (cI, 10, .inl T_tookMany)), (oT_helps, .inl (cI, 10, .inl T_helps)), (oT_before, .inl (cI, 10, .inl T_before)), (oT_read, .inl (cI, 64, .inl T_read))] rfl rfl rfl rfl (by decide) rfl (fun _ => rfl) 0 7 rfl rfl rfl rfl hl.1 rfl (lv_room (Nat.le_of_ble_eq_true rfl)) dX7_does_119 (fun r26 u H locs hw hwd => ?_)
          try dsimp only at hw
          replace hwd : wd D (va_A (ww_X7_does cI cC oT oT_s oT_aside oT_states oT_snapshot oT_text oT_serves oT_took oT_tookMany oT_helps oT_before oT_read T_thrown T_stateMany T_hasSnapshot T_length T_stopNumber T_stopError T_at T_isWell T_readMany T_s T_serves T_took T_tookMany T_helps T_before T_read) s.heap.size) s (ww_X7_does cI cC oT oT_s oT_aside oT_states oT_snapshot oT_text oT_serves oT_took oT_tookMany oT_helps oT_before oT_read T_thrown T_stateMany T_hasSnapshot T_length T_stopNumber T_stopError T_at T_isWell T_readMany T_s T_serves T_took T_tookMany T_helps T_before T_read) H locs := hwd
          refine lv_istore (lv' := [(4, .int r26), (3, .int x3_2), (2, .int x2_1), (0, .ref oT), (1, .int x1)]) hx hb dX7_does_122 hl (by decide) rfl (fun ls hl => ?_)
          refine lv_aload_n hx hb dX7_does_124 rfl (lv_at hl 3 rfl) ?_
          refine va_get (D := D) (ci := 7) (v := .ref oT_s) (C := RX7) (T := TX7) (N := 20) hx hb hts ic_X7_does_X7 hown hKw.1 hwd.1 0 rfl rfl 1 (by decide) (hts (.fieldLink RX7 7 "DrillWardensModel" "s" "[I") (List.mem_of_getElem? (i := 2) rfl)) (fun _ h9 => h9) rfl dX7_does_125 ?_
          refine lv_iconst (v := (nI 3)) hx hb dX7_does_128 rfl ?_
          refine lv_dup2_11 hx hb dX7_does_129 rfl rfl ?_
          refine va_iald hx hb hKw.1 hwd.1 1 0 rfl rfl hw.1 dX7_does_130 ?_
          replace hw := hw.2
          refine lv_iload hx hb dX7_does_131 (lv_at hl 0 rfl) ?_
          refine lv_if_ne (tgt := 140) hx hb dX7_does_133 (by decide) (fun c27 => ?_) (fun c27 => ?_)
          · replace hw := hw.1 c27
            refine lv_iconst (v := (nI 0)) hx hb dX7_does_140 rfl ?_
            refine lv_iadd hx hb dX7_does_141 ?_
            obtain ⟨T_s28, e_T_s28⟩ : ∃ y : Nat → Int32, y = upd T_s (nI 3).toNatClampNeg ((T_s (nI 3).toNatClampNeg) + (nI 0)) := ⟨_, rfl⟩
            refine va_iast hx hb hKw.1 hwd.1 hwd.2.1 hwd.2.2 1 0 rfl rfl hw.1 dX7_does_142 (fun H locs h1 h2 h3 => ?_)
            replace hw := hw.2 T_s28 e_T_s28
            rw [← e_T_s28] at h1 h2
            replace hwd : wd D (va_A (ww_X7_does cI cC oT oT_s oT_aside oT_states oT_snapshot oT_text oT_serves oT_took oT_tookMany oT_helps oT_before oT_read T_thrown T_stateMany T_hasSnapshot T_length T_stopNumber T_stopError T_at T_isWell T_readMany T_s T_serves T_took T_tookMany T_helps T_before T_read) s.heap.size) s (ww_X7_does cI cC oT oT_s oT_aside oT_states oT_snapshot oT_text oT_serves oT_took oT_tookMany oT_helps oT_before oT_read T_thrown T_stateMany T_hasSnapshot T_length T_stopNumber T_stopError T_at T_isWell T_readMany T_s28 T_serves T_took T_tookMany T_helps T_before T_read) H locs := ⟨h1, h2, h3⟩
            clear h1 h2 h3
            refine lv_iload hx hb dX7_does_143 (lv_at hl 0 rfl) ?_
            exact HR r26 T_s28 T_serves T_took T_tookMany T_helps T_before hw hwd dX7_does_145
          · replace hw := hw.2 c27
            refine lv_iload_n hx hb dX7_does_136 rfl (lv_at hl 2 rfl) ?_
            refine lv_goto (tgt := 141) hx hb dX7_does_137 (by decide) ?_
            refine lv_iadd hx hb dX7_does_141 ?_
            obtain ⟨T_s29, e_T_s29⟩ : ∃ y : Nat → Int32, y = upd T_s (nI 3).toNatClampNeg ((T_s (nI 3).toNatClampNeg) + x2_1) := ⟨_, rfl⟩
            refine va_iast hx hb hKw.1 hwd.1 hwd.2.1 hwd.2.2 1 0 rfl rfl hw.1 dX7_does_142 (fun H locs h1 h2 h3 => ?_)
            replace hw := hw.2 T_s29 e_T_s29
            rw [← e_T_s29] at h1 h2
            replace hwd : wd D (va_A (ww_X7_does cI cC oT oT_s oT_aside oT_states oT_snapshot oT_text oT_serves oT_took oT_tookMany oT_helps oT_before oT_read T_thrown T_stateMany T_hasSnapshot T_length T_stopNumber T_stopError T_at T_isWell T_readMany T_s T_serves T_took T_tookMany T_helps T_before T_read) s.heap.size) s (ww_X7_does cI cC oT oT_s oT_aside oT_states oT_snapshot oT_text oT_serves oT_took oT_tookMany oT_helps oT_before oT_read T_thrown T_stateMany T_hasSnapshot T_length T_stopNumber T_stopError T_at T_isWell T_readMany T_s29 T_serves T_took T_tookMany T_helps T_before T_read) H locs := ⟨h1, h2, h3⟩
            clear h1 h2 h3
            refine lv_iload hx hb dX7_does_143 (lv_at hl 0 rfl) ?_
            exact HR r26 T_s29 T_serves T_took T_tookMany T_helps T_before hw hwd dX7_does_145
abbrev ww_X7_perform (cI cC : ClassId) (oT oT_s oT_aside oT_states oT_snapshot oT_text oT_serves oT_took oT_tookMany oT_helps oT_before oT_read : Nat) (T_thrown : Int32) (T_stateMany : Int32) (T_hasSnapshot : Int32) (T_length : Int32) (T_stopNumber : Int32) (T_stopError : Int32) (T_at : Int32) (T_isWell : Int32) (T_readMany : Int32) (T_s : Nat → Int32) (T_aside : Nat → Int32) (T_states : Nat → Int32) (T_text : Nat → Int32) (T_serves : Nat → Int32) (T_took : Nat → Int32) (T_tookMany : Nat → Int32) (T_helps : Nat → Int32) (T_before : Nat → Int32) (T_read : Nat → Int32) : va_W := [(oT, .inr (7, [.int T_thrown, .ref oT_s, .ref oT_aside, .ref oT_states, .int T_stateMany, .ref oT_snapshot, .int T_hasSnapshot, .ref oT_text, .int T_length, .int T_stopNumber, .int T_stopError, .ref oT_serves, .ref oT_took, .ref oT_tookMany, .ref oT_helps, .ref oT_before, .int T_at, .int T_isWell, .ref oT_read, .int T_readMany])), (oT_s, .inl (cI, 474, .inl T_s)), (oT_aside, .inl (cI, 474, .inl T_aside)), (oT_states, .inl (cI, 1896, .inl T_states)), (oT_text, .inl (cI, 80, .inl T_text)), (oT_serves, .inl (cI, 16, .inl T_serves)), (oT_took, .inl (cI, 30, .inl T_took)), (oT_tookMany, .inl (cI, 10, .inl T_tookMany)), (oT_helps, .inl (cI, 10, .inl T_helps)), (oT_before, .inl (cI, 10, .inl T_before)), (oT_read, .inl (cI, 64, .inl T_read))]
abbrev rm_X7_perform : Room := { frames := 9, cells := 0, slots := 0, locals := 211 }
theorem ic_X7_perform_X7 : ∀ w ∈ u_ws RX7 TX7 20, w ∈ wsX7_perform := by
  intro w h
  simp only [wsX7_perform, List.mem_cons, List.mem_append]
  simp only [h, or_true, true_or]
def wb_X7_perform_23 (T_s : Nat → Int32) (K_48 : (Nat → Int32) → Prop) : Nat → (Nat → Int32) → Int32 → Prop
  | 0, _, _ => False
  | n + 1, T_aside, x2 => (((nI 474) ≤ x2 → K_48 T_aside) ∧ (¬ (nI 474) ≤ x2 → vp_in x2 474 ∧ vp_in x2 474 ∧ ∀ T_aside2, T_aside2 = upd T_aside x2.toNatClampNeg (T_s x2.toNatClampNeg) → ∀ x2_3, x2_3 = x2 + (nI 1) → wb_X7_perform_23 T_s K_48 n T_aside2 x2_3))
set_option maxRecDepth 100000 in
set_option maxHeartbeats 4000000 in
theorem blk_X7_perform_23 {p : Program} {l : Launch} {e : Env} {s : State} {m : MethodId} {args : Array Value} {below : List Frame} {meth : Method} {c : Code} {D : va_G} {cI cC cR : ClassId} {A : Nat → Prop} {Z : State → Prop} (CX : cx cX7_perform (some .int) 5 RX7 wsX7_perform p m meth c s args D cI cC cR A) (oT oT_s oT_aside oT_states oT_snapshot oT_text oT_serves oT_took oT_tookMany oT_helps oT_before oT_read : Nat) (T_thrown : Int32) (T_stateMany : Int32) (T_hasSnapshot : Int32) (T_length : Int32) (T_stopNumber : Int32) (T_stopError : Int32) (T_at : Int32) (T_isWell : Int32) (T_readMany : Int32) (T_s : Nat → Int32) (T_states : Nat → Int32) (T_text : Nat → Int32) (T_serves : Nat → Int32) (T_took : Nat → Int32) (T_tookMany : Nat → Int32) (T_helps : Nat → Int32) (T_before : Nat → Int32) (T_read : Nat → Int32) {K_48 : (Nat → Int32) → Prop} {Q : Int32 → Int32 → Int32 → Int32 → Int32 → Int32 → Int32 → Int32 → (Nat → Int32) → (Nat → Int32) → (Nat → Int32) → (Nat → Int32) → (Nat → Int32) → (Nat → Int32) → (Nat → Int32) → (Nat → Int32) → (Nat → Int32) → Prop} (HR : ∀ (r : Int32) (u0 : Int32) (u1 : Int32) (u2 : Int32) (u3 : Int32) (u4 : Int32) (u5 : Int32) (u6 : Int32) (u7 : Nat → Int32) (u8 : Nat → Int32) (u9 : Nat → Int32) (u10 : Nat → Int32) (u11 : Nat → Int32) (u12 : Nat → Int32) (u13 : Nat → Int32) (u14 : Nat → Int32) (u15 : Nat → Int32) {H : Heap} {locs : List Loc} {ls : Array Slot} {pc : Nat}, Q r u0 u1 u2 u3 u4 u5 u6 u7 u8 u9 u10 u11 u12 u13 u14 u15 → wd D A s (ww_X7_perform cI cC oT oT_s oT_aside oT_states oT_snapshot oT_text oT_serves oT_took oT_tookMany oT_helps oT_before oT_read u0 u1 T_hasSnapshot T_length u2 u3 u4 u5 u6 u7 u8 u9 T_text u10 u11 u12 u13 u14 u15) H locs → decode cX7_perform pc = .ok (.ireturn, 1) → W p l e (headSpec wsX7_perform rm_X7_perform).room s m args below meth c H locs 0 0 Z (F0 m pc ls [.int r])) (HK_48 : ∀ (T_asidey : Nat → Int32), K_48 T_asidey → ∀ (H : Heap) (locs : List Loc) (ls : Array Slot), wd D A s (ww_X7_perform cI cC oT oT_s oT_aside oT_states oT_snapshot oT_text oT_serves oT_took oT_tookMany oT_helps oT_before oT_read T_thrown T_stateMany T_hasSnapshot T_length T_stopNumber T_stopError T_at T_isWell T_readMany T_s T_asidey T_states T_text T_serves T_took T_tookMany T_helps T_before T_read) H locs → lv_has ls 5 [(0, .ref oT)] → W p l e (headSpec wsX7_perform rm_X7_perform).room s m args below meth c H locs 0 0 Z (F0 m 48 ls [])) : ∀ (n : Nat) (T_aside : Nat → Int32) (x2 : Int32), wb_X7_perform_23 T_s K_48 n T_aside x2 → ∀ (H : Heap) (locs : List Loc) (ls : Array Slot), wd D A s (ww_X7_perform cI cC oT oT_s oT_aside oT_states oT_snapshot oT_text oT_serves oT_took oT_tookMany oT_helps oT_before oT_read T_thrown T_stateMany T_hasSnapshot T_length T_stopNumber T_stopError T_at T_isWell T_readMany T_s T_aside T_states T_text T_serves T_took T_tookMany T_helps T_before T_read) H locs → lv_has ls 5 [(0, .ref oT), (2, .int x2)] → W p l e (headSpec wsX7_perform rm_X7_perform).room s m args below meth c H locs 0 0 Z (F0 m 23 ls []) := by
  obtain ⟨hx, hb, hr, hml, hts, hown, hlocks, hKw, hA⟩ := id CX
  intro n
  induction n with
  | zero => intro T_aside x2 hw; exact False.elim hw
  | succ n ih =>
    intro T_aside x2 hw H locs ls hwd hl
    rw [wb_X7_perform_23] at hw
    refine lv_iload_n hx hb dX7_perform_23 rfl (lv_at hl 1 rfl) ?_
    refine lv_sipush (v := (nI 474)) hx hb dX7_perform_24 rfl ?_
    refine lv_icmp_ge (tgt := 48) hx hb dX7_perform_27 (by decide) (fun c1 => ?_) (fun c1 => ?_)
    · replace hw := hw.1 c1
      exact HK_48 T_aside hw _ _ _ hwd (lv_sub hl [0] rfl)
    · replace hw := hw.2 c1
      refine lv_aload_n hx hb dX7_perform_30 rfl (lv_at hl 0 rfl) ?_
      refine va_get (D := D) (ci := 7) (v := .ref oT_aside) (C := RX7) (T := TX7) (N := 20) hx hb hts ic_X7_perform_X7 hown hKw.1 hwd.1 0 rfl rfl 2 (by decide) (hts (.fieldLink RX7 13 "DrillWardensModel" "aside" "[I") (List.mem_of_getElem? (i := 2) rfl)) (fun _ h9 => h9) rfl dX7_perform_31 ?_
      refine lv_iload_n hx hb dX7_perform_34 rfl (lv_at hl 1 rfl) ?_
      refine lv_aload_n hx hb dX7_perform_35 rfl (lv_at hl 0 rfl) ?_
      refine va_get (D := D) (ci := 7) (v := .ref oT_s) (C := RX7) (T := TX7) (N := 20) hx hb hts ic_X7_perform_X7 hown hKw.1 hwd.1 0 rfl rfl 1 (by decide) (hts (.fieldLink RX7 7 "DrillWardensModel" "s" "[I") (List.mem_of_getElem? (i := 3) rfl)) (fun _ h9 => h9) rfl dX7_perform_36 ?_
      refine lv_iload_n hx hb dX7_perform_39 rfl (lv_at hl 1 rfl) ?_
      refine va_iald hx hb hKw.1 hwd.1 1 0 rfl rfl hw.1 dX7_perform_40 ?_
      replace hw := hw.2
      obtain ⟨T_aside2, e_T_aside2⟩ : ∃ y : Nat → Int32, y = upd T_aside x2.toNatClampNeg (T_s x2.toNatClampNeg) := ⟨_, rfl⟩
      refine va_iast hx hb hKw.1 hwd.1 hwd.2.1 hwd.2.2 2 0 rfl rfl hw.1 dX7_perform_41 (fun H locs h1 h2 h3 => ?_)
      replace hw := hw.2 T_aside2 e_T_aside2
      rw [← e_T_aside2] at h1 h2
      replace hwd : wd D A s (ww_X7_perform cI cC oT oT_s oT_aside oT_states oT_snapshot oT_text oT_serves oT_took oT_tookMany oT_helps oT_before oT_read T_thrown T_stateMany T_hasSnapshot T_length T_stopNumber T_stopError T_at T_isWell T_readMany T_s T_aside2 T_states T_text T_serves T_took T_tookMany T_helps T_before T_read) H locs := ⟨h1, h2, h3⟩
      clear h1 h2 h3
      obtain ⟨x2_3, e_x2_3⟩ : ∃ y : Int32, y = x2 + (nI 1) := ⟨_, rfl⟩
      replace hw := hw x2_3 e_x2_3
      refine lv_iinc (v := x2_3) (lv' := [(2, .int x2_3), (0, .ref oT)]) hx hb dX7_perform_42 hl (k := 1) rfl (by rw [e_x2_3]; rfl) (by decide) rfl (fun ls hl => ?_)
      refine lv_goto (tgt := 23) hx hb dX7_perform_45 (by decide) ?_
      exact ih T_aside2 x2_3 hw _ _ _ hwd (lv_sub hl [1, 0] rfl)
def wb_X7_perform_52 (T_readMany : Int32) (T_read : Nat → Int32) (K_78 : (Nat → Int32) → (Nat → Int32) → (Nat → Int32) → (Nat → Int32) → (Nat → Int32) → (Nat → Int32) → Int32 → Int32 → Prop) : Nat → (Nat → Int32) → (Nat → Int32) → (Nat → Int32) → (Nat → Int32) → (Nat → Int32) → (Nat → Int32) → Int32 → Int32 → Prop
  | 0, _, _, _, _, _, _, _, _ => False
  | n + 1, T_s, T_serves, T_took, T_tookMany, T_helps, T_before, x2, x3 => ((T_readMany ≤ x3 → K_78 T_s T_serves T_took T_tookMany T_helps T_before x2 x3) ∧ (¬ T_readMany ≤ x3 → ((¬ x2 = 0 → K_78 T_s T_serves T_took T_tookMany T_helps T_before x2 x3) ∧ (x2 = 0 → wp_X7_does T_s T_serves T_took T_tookMany T_helps T_before T_read ((nI 4) * x3) (fun r3 T_s4 T_serves5 T_took6 T_tookMany7 T_helps8 T_before9 => ∀ x3_10, x3_10 = x3 + (nI 1) → wb_X7_perform_52 T_readMany T_read K_78 n T_s4 T_serves5 T_took6 T_tookMany7 T_helps8 T_before9 r3 x3_10)))))
set_option maxRecDepth 100000 in
set_option maxHeartbeats 4000000 in
theorem blk_X7_perform_52 {p : Program} {l : Launch} {e : Env} {s : State} {m : MethodId} {args : Array Value} {below : List Frame} {meth : Method} {c : Code} {D : va_G} {cI cC cR : ClassId} {A : Nat → Prop} {Z : State → Prop} (CX : cx cX7_perform (some .int) 5 RX7 wsX7_perform p m meth c s args D cI cC cR A) (oT oT_s oT_aside oT_states oT_snapshot oT_text oT_serves oT_took oT_tookMany oT_helps oT_before oT_read : Nat) (T_thrown : Int32) (T_stateMany : Int32) (T_hasSnapshot : Int32) (T_length : Int32) (T_stopNumber : Int32) (T_stopError : Int32) (T_at : Int32) (T_isWell : Int32) (T_readMany : Int32) (T_aside : Nat → Int32) (T_states : Nat → Int32) (T_text : Nat → Int32) (T_read : Nat → Int32) {K_78 : (Nat → Int32) → (Nat → Int32) → (Nat → Int32) → (Nat → Int32) → (Nat → Int32) → (Nat → Int32) → Int32 → Int32 → Prop} {Q : Int32 → Int32 → Int32 → Int32 → Int32 → Int32 → Int32 → Int32 → (Nat → Int32) → (Nat → Int32) → (Nat → Int32) → (Nat → Int32) → (Nat → Int32) → (Nat → Int32) → (Nat → Int32) → (Nat → Int32) → (Nat → Int32) → Prop} (HR : ∀ (r : Int32) (u0 : Int32) (u1 : Int32) (u2 : Int32) (u3 : Int32) (u4 : Int32) (u5 : Int32) (u6 : Int32) (u7 : Nat → Int32) (u8 : Nat → Int32) (u9 : Nat → Int32) (u10 : Nat → Int32) (u11 : Nat → Int32) (u12 : Nat → Int32) (u13 : Nat → Int32) (u14 : Nat → Int32) (u15 : Nat → Int32) {H : Heap} {locs : List Loc} {ls : Array Slot} {pc : Nat}, Q r u0 u1 u2 u3 u4 u5 u6 u7 u8 u9 u10 u11 u12 u13 u14 u15 → wd D A s (ww_X7_perform cI cC oT oT_s oT_aside oT_states oT_snapshot oT_text oT_serves oT_took oT_tookMany oT_helps oT_before oT_read u0 u1 T_hasSnapshot T_length u2 u3 u4 u5 u6 u7 u8 u9 T_text u10 u11 u12 u13 u14 u15) H locs → decode cX7_perform pc = .ok (.ireturn, 1) → W p l e (headSpec wsX7_perform rm_X7_perform).room s m args below meth c H locs 0 0 Z (F0 m pc ls [.int r])) (HK_78 : ∀ (T_sy : Nat → Int32) (T_servesy : Nat → Int32) (T_tooky : Nat → Int32) (T_tookManyy : Nat → Int32) (T_helpsy : Nat → Int32) (T_beforey : Nat → Int32) (x2y : Int32) (x3y : Int32), K_78 T_sy T_servesy T_tooky T_tookManyy T_helpsy T_beforey x2y x3y → ∀ (H : Heap) (locs : List Loc) (ls : Array Slot), wd D A s (ww_X7_perform cI cC oT oT_s oT_aside oT_states oT_snapshot oT_text oT_serves oT_took oT_tookMany oT_helps oT_before oT_read T_thrown T_stateMany T_hasSnapshot T_length T_stopNumber T_stopError T_at T_isWell T_readMany T_sy T_aside T_states T_text T_servesy T_tooky T_tookManyy T_helpsy T_beforey T_read) H locs → lv_has ls 5 [(0, .ref oT), (2, .int x2y), (3, .int x3y)] → W p l e (headSpec wsX7_perform rm_X7_perform).room s m args below meth c H locs 0 0 Z (F0 m 78 ls [])) : ∀ (n : Nat) (T_s : Nat → Int32) (T_serves : Nat → Int32) (T_took : Nat → Int32) (T_tookMany : Nat → Int32) (T_helps : Nat → Int32) (T_before : Nat → Int32) (x2 : Int32) (x3 : Int32), wb_X7_perform_52 T_readMany T_read K_78 n T_s T_serves T_took T_tookMany T_helps T_before x2 x3 → ∀ (H : Heap) (locs : List Loc) (ls : Array Slot), wd D A s (ww_X7_perform cI cC oT oT_s oT_aside oT_states oT_snapshot oT_text oT_serves oT_took oT_tookMany oT_helps oT_before oT_read T_thrown T_stateMany T_hasSnapshot T_length T_stopNumber T_stopError T_at T_isWell T_readMany T_s T_aside T_states T_text T_serves T_took T_tookMany T_helps T_before T_read) H locs → lv_has ls 5 [(0, .ref oT), (2, .int x2), (3, .int x3)] → W p l e (headSpec wsX7_perform rm_X7_perform).room s m args below meth c H locs 0 0 Z (F0 m 52 ls []) := by
  obtain ⟨hx, hb, hr, hml, hts, hown, hlocks, hKw, hA⟩ := id CX
  intro n
  induction n with
  | zero => intro T_s T_serves T_took T_tookMany T_helps T_before x2 x3 hw; exact False.elim hw
  | succ n ih =>
    intro T_s T_serves T_took T_tookMany T_helps T_before x2 x3 hw H locs ls hwd hl
    rw [wb_X7_perform_52] at hw
    refine lv_iload_n hx hb dX7_perform_52 rfl (lv_at hl 2 rfl) ?_
    refine lv_aload_n hx hb dX7_perform_53 rfl (lv_at hl 0 rfl) ?_
    refine va_get (D := D) (ci := 7) (v := .int T_readMany) (C := RX7) (T := TX7) (N := 20) hx hb hts ic_X7_perform_X7 hown hKw.1 hwd.1 0 rfl rfl 19 (by decide) (hts (.fieldLink RX7 173 "DrillWardensModel" "readMany" "I") (List.mem_of_getElem? (i := 4) rfl)) (fun _ h9 => h9) rfl dX7_perform_54 ?_
    refine lv_icmp_ge (tgt := 78) hx hb dX7_perform_57 (by decide) (fun c1 => ?_) (fun c1 => ?_)
    · replace hw := hw.1 c1
      exact HK_78 T_s T_serves T_took T_tookMany T_helps T_before x2 x3 hw _ _ _ hwd hl
    · replace hw := hw.2 c1
      refine lv_iload_n hx hb dX7_perform_60 rfl (lv_at hl 1 rfl) ?_
      refine lv_if_ne (tgt := 78) hx hb dX7_perform_61 (by decide) (fun c2 => ?_) (fun c2 => ?_)
      · replace hw := hw.1 c2
        exact HK_78 T_s T_serves T_took T_tookMany T_helps T_before x2 x3 hw _ _ _ hwd hl
      · replace hw := hw.2 c2
        refine lv_aload_n hx hb dX7_perform_64 rfl (lv_at hl 0 rfl) ?_
        refine lv_iconst (v := (nI 4)) hx hb dX7_perform_65 rfl ?_
        refine lv_iload_n hx hb dX7_perform_66 rfl (lv_at hl 2 rfl) ?_
        refine lv_imul hx hb dX7_perform_67 ?_
        refine kcVi (W1 := (fun u => (ww_X7_perform cI cC oT oT_s oT_aside oT_states oT_snapshot oT_text oT_serves oT_took oT_tookMany oT_helps oT_before oT_read T_thrown T_stateMany T_hasSnapshot T_length T_stopNumber T_stopError T_at T_isWell T_readMany (u.1) T_aside T_states T_text (u.2.1) (u.2.2.1) (u.2.2.2.1) (u.2.2.2.2.1) (u.2.2.2.2.2) T_read))) (rest := []) (As := [.int ((nI 4) * x3)]) ⟨Nat.le_of_ble_eq_true rfl, Nat.le_of_ble_eq_true rfl⟩ ⟨hx, hb, hml, hown, hts⟩ (c_X7_does l oT oT_s oT_aside oT_states oT_snapshot oT_text oT_serves oT_took oT_tookMany oT_helps oT_before oT_read H.size T_thrown T_stateMany T_hasSnapshot T_length T_stopNumber T_stopError T_at T_isWell T_readMany T_s T_serves T_took T_tookMany T_helps T_before T_read ((nI 4) * x3) hw) (cwV 1 hts gX7_perform_X7_does rfl rfl rfl ⟨rfl, hd_X7_does⟩ ⟨Nat.le_of_ble_eq_true rfl, Nat.le_of_ble_eq_true rfl⟩) hKw hA hwd [0, 1, 5, 6, 7, 8, 9, 10] [2, 3, 4] [3, 4, 0, 1, 2, 5, 6, 7, 8, 9, 10] [(oT_aside, .inl (cI, 474, .inl T_aside)), (oT_states, .inl (cI, 1896, .inl T_states)), (oT_text, .inl (cI, 80, .inl T_text))] rfl rfl rfl rfl (by decide) rfl (fun _ => rfl) 0 7 rfl rfl rfl rfl hl.1 rfl (lv_room (Nat.le_of_ble_eq_true rfl)) dX7_perform_68 (fun r3 u H locs hw hwd => ?_)
        obtain ⟨T_s4, T_serves5, T_took6, T_tookMany7, T_helps8, T_before9⟩ := u
        try dsimp only at hw
        replace hwd : wd D A s (ww_X7_perform cI cC oT oT_s oT_aside oT_states oT_snapshot oT_text oT_serves oT_took oT_tookMany oT_helps oT_before oT_read T_thrown T_stateMany T_hasSnapshot T_length T_stopNumber T_stopError T_at T_isWell T_readMany T_s4 T_aside T_states T_text T_serves5 T_took6 T_tookMany7 T_helps8 T_before9 T_read) H locs := hwd
        refine lv_istore_n (lv' := [(2, .int r3), (0, .ref oT), (3, .int x3)]) hx hb dX7_perform_71 rfl hl (by decide) rfl (fun ls hl => ?_)
        obtain ⟨x3_10, e_x3_10⟩ : ∃ y : Int32, y = x3 + (nI 1) := ⟨_, rfl⟩
        replace hw := hw x3_10 e_x3_10
        refine lv_iinc (v := x3_10) (lv' := [(3, .int x3_10), (2, .int r3), (0, .ref oT)]) hx hb dX7_perform_72 hl (k := 2) rfl (by rw [e_x3_10]; rfl) (by decide) rfl (fun ls hl => ?_)
        refine lv_goto (tgt := 52) hx hb dX7_perform_75 (by decide) ?_
        exact ih T_s4 T_serves5 T_took6 T_tookMany7 T_helps8 T_before9 r3 x3_10 hw _ _ _ hwd (lv_sub hl [2, 1, 0] rfl)
def wb_X7_perform_135 (T_stateMany : Int32) (T_aside : Nat → Int32) (K_174 : (Nat → Int32) → Prop) : Nat → (Nat → Int32) → Int32 → Prop
  | 0, _, _ => False
  | n + 1, T_states, x4 => (((nI 474) ≤ x4 → K_174 T_states) ∧ (¬ (nI 474) ≤ x4 → vp_in x4 474 ∧ vp_in (((nI 474) * (T_stateMany - (nI 1))) + x4) 1896 ∧ ∀ T_states2, T_states2 = upd T_states (((nI 474) * (T_stateMany - (nI 1))) + x4).toNatClampNeg (T_aside x4.toNatClampNeg) → ∀ x4_3, x4_3 = x4 + (nI 1) → wb_X7_perform_135 T_stateMany T_aside K_174 n T_states2 x4_3))
set_option maxRecDepth 100000 in
set_option maxHeartbeats 4000000 in
theorem blk_X7_perform_135 {p : Program} {l : Launch} {e : Env} {s : State} {m : MethodId} {args : Array Value} {below : List Frame} {meth : Method} {c : Code} {D : va_G} {cI cC cR : ClassId} {A : Nat → Prop} {Z : State → Prop} (CX : cx cX7_perform (some .int) 5 RX7 wsX7_perform p m meth c s args D cI cC cR A) (oT oT_s oT_aside oT_states oT_snapshot oT_text oT_serves oT_took oT_tookMany oT_helps oT_before oT_read : Nat) (T_thrown : Int32) (T_stateMany : Int32) (T_hasSnapshot : Int32) (T_length : Int32) (T_stopNumber : Int32) (T_stopError : Int32) (T_at : Int32) (T_isWell : Int32) (T_readMany : Int32) (T_s : Nat → Int32) (T_aside : Nat → Int32) (T_text : Nat → Int32) (T_serves : Nat → Int32) (T_took : Nat → Int32) (T_tookMany : Nat → Int32) (T_helps : Nat → Int32) (T_before : Nat → Int32) (T_read : Nat → Int32) {K_174 : (Nat → Int32) → Prop} {Q : Int32 → Int32 → Int32 → Int32 → Int32 → Int32 → Int32 → Int32 → (Nat → Int32) → (Nat → Int32) → (Nat → Int32) → (Nat → Int32) → (Nat → Int32) → (Nat → Int32) → (Nat → Int32) → (Nat → Int32) → (Nat → Int32) → Prop} (HR : ∀ (r : Int32) (u0 : Int32) (u1 : Int32) (u2 : Int32) (u3 : Int32) (u4 : Int32) (u5 : Int32) (u6 : Int32) (u7 : Nat → Int32) (u8 : Nat → Int32) (u9 : Nat → Int32) (u10 : Nat → Int32) (u11 : Nat → Int32) (u12 : Nat → Int32) (u13 : Nat → Int32) (u14 : Nat → Int32) (u15 : Nat → Int32) {H : Heap} {locs : List Loc} {ls : Array Slot} {pc : Nat}, Q r u0 u1 u2 u3 u4 u5 u6 u7 u8 u9 u10 u11 u12 u13 u14 u15 → wd D A s (ww_X7_perform cI cC oT oT_s oT_aside oT_states oT_snapshot oT_text oT_serves oT_took oT_tookMany oT_helps oT_before oT_read u0 u1 T_hasSnapshot T_length u2 u3 u4 u5 u6 u7 u8 u9 T_text u10 u11 u12 u13 u14 u15) H locs → decode cX7_perform pc = .ok (.ireturn, 1) → W p l e (headSpec wsX7_perform rm_X7_perform).room s m args below meth c H locs 0 0 Z (F0 m pc ls [.int r])) (HK_174 : ∀ (T_statesy : Nat → Int32), K_174 T_statesy → ∀ (H : Heap) (locs : List Loc) (ls : Array Slot), wd D A s (ww_X7_perform cI cC oT oT_s oT_aside oT_states oT_snapshot oT_text oT_serves oT_took oT_tookMany oT_helps oT_before oT_read T_thrown T_stateMany T_hasSnapshot T_length T_stopNumber T_stopError T_at T_isWell T_readMany T_s T_aside T_statesy T_text T_serves T_took T_tookMany T_helps T_before T_read) H locs → lv_has ls 5 [(0, .ref oT)] → W p l e (headSpec wsX7_perform rm_X7_perform).room s m args below meth c H locs 0 0 Z (F0 m 174 ls [])) : ∀ (n : Nat) (T_states : Nat → Int32) (x4 : Int32), wb_X7_perform_135 T_stateMany T_aside K_174 n T_states x4 → ∀ (H : Heap) (locs : List Loc) (ls : Array Slot), wd D A s (ww_X7_perform cI cC oT oT_s oT_aside oT_states oT_snapshot oT_text oT_serves oT_took oT_tookMany oT_helps oT_before oT_read T_thrown T_stateMany T_hasSnapshot T_length T_stopNumber T_stopError T_at T_isWell T_readMany T_s T_aside T_states T_text T_serves T_took T_tookMany T_helps T_before T_read) H locs → lv_has ls 5 [(0, .ref oT), (4, .int x4)] → W p l e (headSpec wsX7_perform rm_X7_perform).room s m args below meth c H locs 0 0 Z (F0 m 135 ls []) := by
  obtain ⟨hx, hb, hr, hml, hts, hown, hlocks, hKw, hA⟩ := id CX
  intro n
  induction n with
  | zero => intro T_states x4 hw; exact False.elim hw
  | succ n ih =>
    intro T_states x4 hw H locs ls hwd hl
    rw [wb_X7_perform_135] at hw
    refine lv_iload hx hb dX7_perform_135 (lv_at hl 1 rfl) ?_
    refine lv_sipush (v := (nI 474)) hx hb dX7_perform_137 rfl ?_
    refine lv_icmp_ge (tgt := 174) hx hb dX7_perform_140 (by decide) (fun c1 => ?_) (fun c1 => ?_)
    · replace hw := hw.1 c1
      exact HK_174 T_states hw _ _ _ hwd (lv_sub hl [0] rfl)
    · replace hw := hw.2 c1
      refine lv_aload_n hx hb dX7_perform_143 rfl (lv_at hl 0 rfl) ?_
      refine va_get (D := D) (ci := 7) (v := .ref oT_states) (C := RX7) (T := TX7) (N := 20) hx hb hts ic_X7_perform_X7 hown hKw.1 hwd.1 0 rfl rfl 3 (by decide) (hts (.fieldLink RX7 16 "DrillWardensModel" "states" "[I") (List.mem_of_getElem? (i := 7) rfl)) (fun _ h9 => h9) rfl dX7_perform_144 ?_
      refine lv_sipush (v := (nI 474)) hx hb dX7_perform_147 rfl ?_
      refine lv_aload_n hx hb dX7_perform_150 rfl (lv_at hl 0 rfl) ?_
      refine va_get (D := D) (ci := 7) (v := .int T_stateMany) (C := RX7) (T := TX7) (N := 20) hx hb hts ic_X7_perform_X7 hown hKw.1 hwd.1 0 rfl rfl 4 (by decide) (hts (.fieldLink RX7 58 "DrillWardensModel" "stateMany" "I") (List.mem_of_getElem? (i := 8) rfl)) (fun _ h9 => h9) rfl dX7_perform_151 ?_
      refine lv_iconst (v := (nI 1)) hx hb dX7_perform_154 rfl ?_
      refine lv_isub hx hb dX7_perform_155 ?_
      refine lv_imul hx hb dX7_perform_156 ?_
      refine lv_iload hx hb dX7_perform_157 (lv_at hl 1 rfl) ?_
      refine lv_iadd hx hb dX7_perform_159 ?_
      refine lv_aload_n hx hb dX7_perform_160 rfl (lv_at hl 0 rfl) ?_
      refine va_get (D := D) (ci := 7) (v := .ref oT_aside) (C := RX7) (T := TX7) (N := 20) hx hb hts ic_X7_perform_X7 hown hKw.1 hwd.1 0 rfl rfl 2 (by decide) (hts (.fieldLink RX7 13 "DrillWardensModel" "aside" "[I") (List.mem_of_getElem? (i := 2) rfl)) (fun _ h9 => h9) rfl dX7_perform_161 ?_
      refine lv_iload hx hb dX7_perform_164 (lv_at hl 1 rfl) ?_
      refine va_iald hx hb hKw.1 hwd.1 2 0 rfl rfl hw.1 dX7_perform_166 ?_
      replace hw := hw.2
      obtain ⟨T_states2, e_T_states2⟩ : ∃ y : Nat → Int32, y = upd T_states (((nI 474) * (T_stateMany - (nI 1))) + x4).toNatClampNeg (T_aside x4.toNatClampNeg) := ⟨_, rfl⟩
      refine va_iast hx hb hKw.1 hwd.1 hwd.2.1 hwd.2.2 3 0 rfl rfl hw.1 dX7_perform_167 (fun H locs h1 h2 h3 => ?_)
      replace hw := hw.2 T_states2 e_T_states2
      rw [← e_T_states2] at h1 h2
      replace hwd : wd D A s (ww_X7_perform cI cC oT oT_s oT_aside oT_states oT_snapshot oT_text oT_serves oT_took oT_tookMany oT_helps oT_before oT_read T_thrown T_stateMany T_hasSnapshot T_length T_stopNumber T_stopError T_at T_isWell T_readMany T_s T_aside T_states2 T_text T_serves T_took T_tookMany T_helps T_before T_read) H locs := ⟨h1, h2, h3⟩
      clear h1 h2 h3
      obtain ⟨x4_3, e_x4_3⟩ : ∃ y : Int32, y = x4 + (nI 1) := ⟨_, rfl⟩
      replace hw := hw x4_3 e_x4_3
      refine lv_iinc (v := x4_3) (lv' := [(4, .int x4_3), (0, .ref oT)]) hx hb dX7_perform_168 hl (k := 1) rfl (by rw [e_x4_3]; rfl) (by decide) rfl (fun ls hl => ?_)
      refine lv_goto (tgt := 135) hx hb dX7_perform_171 (by decide) ?_
      exact ih T_states2 x4_3 hw _ _ _ hwd (lv_sub hl [1, 0] rfl)
def wb_X7_perform_85 (T_aside : Nat → Int32) (K_113 : (Nat → Int32) → Prop) : Nat → (Nat → Int32) → Int32 → Prop
  | 0, _, _ => False
  | n + 1, T_s, x4 => (((nI 474) ≤ x4 → K_113 T_s) ∧ (¬ (nI 474) ≤ x4 → vp_in x4 474 ∧ vp_in x4 474 ∧ ∀ T_s2, T_s2 = upd T_s x4.toNatClampNeg (T_aside x4.toNatClampNeg) → ∀ x4_3, x4_3 = x4 + (nI 1) → wb_X7_perform_85 T_aside K_113 n T_s2 x4_3))
set_option maxRecDepth 100000 in
set_option maxHeartbeats 4000000 in
theorem blk_X7_perform_85 {p : Program} {l : Launch} {e : Env} {s : State} {m : MethodId} {args : Array Value} {below : List Frame} {meth : Method} {c : Code} {D : va_G} {cI cC cR : ClassId} {A : Nat → Prop} {Z : State → Prop} (CX : cx cX7_perform (some .int) 5 RX7 wsX7_perform p m meth c s args D cI cC cR A) (oT oT_s oT_aside oT_states oT_snapshot oT_text oT_serves oT_took oT_tookMany oT_helps oT_before oT_read : Nat) (T_thrown : Int32) (T_stateMany : Int32) (T_hasSnapshot : Int32) (T_length : Int32) (T_stopNumber : Int32) (T_stopError : Int32) (T_at : Int32) (T_isWell : Int32) (T_readMany : Int32) (T_aside : Nat → Int32) (T_states : Nat → Int32) (T_text : Nat → Int32) (T_serves : Nat → Int32) (T_took : Nat → Int32) (T_tookMany : Nat → Int32) (T_helps : Nat → Int32) (T_before : Nat → Int32) (T_read : Nat → Int32) (x2 : Int32) (x3 : Int32) {K_113 : (Nat → Int32) → Prop} {Q : Int32 → Int32 → Int32 → Int32 → Int32 → Int32 → Int32 → Int32 → (Nat → Int32) → (Nat → Int32) → (Nat → Int32) → (Nat → Int32) → (Nat → Int32) → (Nat → Int32) → (Nat → Int32) → (Nat → Int32) → (Nat → Int32) → Prop} (HR : ∀ (r : Int32) (u0 : Int32) (u1 : Int32) (u2 : Int32) (u3 : Int32) (u4 : Int32) (u5 : Int32) (u6 : Int32) (u7 : Nat → Int32) (u8 : Nat → Int32) (u9 : Nat → Int32) (u10 : Nat → Int32) (u11 : Nat → Int32) (u12 : Nat → Int32) (u13 : Nat → Int32) (u14 : Nat → Int32) (u15 : Nat → Int32) {H : Heap} {locs : List Loc} {ls : Array Slot} {pc : Nat}, Q r u0 u1 u2 u3 u4 u5 u6 u7 u8 u9 u10 u11 u12 u13 u14 u15 → wd D A s (ww_X7_perform cI cC oT oT_s oT_aside oT_states oT_snapshot oT_text oT_serves oT_took oT_tookMany oT_helps oT_before oT_read u0 u1 T_hasSnapshot T_length u2 u3 u4 u5 u6 u7 u8 u9 T_text u10 u11 u12 u13 u14 u15) H locs → decode cX7_perform pc = .ok (.ireturn, 1) → W p l e (headSpec wsX7_perform rm_X7_perform).room s m args below meth c H locs 0 0 Z (F0 m pc ls [.int r])) (HK_113 : ∀ (T_sy : Nat → Int32), K_113 T_sy → ∀ (H : Heap) (locs : List Loc) (ls : Array Slot), wd D A s (ww_X7_perform cI cC oT oT_s oT_aside oT_states oT_snapshot oT_text oT_serves oT_took oT_tookMany oT_helps oT_before oT_read T_thrown T_stateMany T_hasSnapshot T_length T_stopNumber T_stopError T_at T_isWell T_readMany T_sy T_aside T_states T_text T_serves T_took T_tookMany T_helps T_before T_read) H locs → lv_has ls 5 [(0, .ref oT), (2, .int x2), (3, .int x3)] → W p l e (headSpec wsX7_perform rm_X7_perform).room s m args below meth c H locs 0 0 Z (F0 m 113 ls [])) : ∀ (n : Nat) (T_s : Nat → Int32) (x4 : Int32), wb_X7_perform_85 T_aside K_113 n T_s x4 → ∀ (H : Heap) (locs : List Loc) (ls : Array Slot), wd D A s (ww_X7_perform cI cC oT oT_s oT_aside oT_states oT_snapshot oT_text oT_serves oT_took oT_tookMany oT_helps oT_before oT_read T_thrown T_stateMany T_hasSnapshot T_length T_stopNumber T_stopError T_at T_isWell T_readMany T_s T_aside T_states T_text T_serves T_took T_tookMany T_helps T_before T_read) H locs → lv_has ls 5 [(0, .ref oT), (2, .int x2), (3, .int x3), (4, .int x4)] → W p l e (headSpec wsX7_perform rm_X7_perform).room s m args below meth c H locs 0 0 Z (F0 m 85 ls []) := by
  obtain ⟨hx, hb, hr, hml, hts, hown, hlocks, hKw, hA⟩ := id CX
  intro n
  induction n with
  | zero => intro T_s x4 hw; exact False.elim hw
  | succ n ih =>
    intro T_s x4 hw H locs ls hwd hl
    rw [wb_X7_perform_85] at hw
    refine lv_iload hx hb dX7_perform_85 (lv_at hl 3 rfl) ?_
    refine lv_sipush (v := (nI 474)) hx hb dX7_perform_87 rfl ?_
    refine lv_icmp_ge (tgt := 113) hx hb dX7_perform_90 (by decide) (fun c1 => ?_) (fun c1 => ?_)
    · replace hw := hw.1 c1
      exact HK_113 T_s hw _ _ _ hwd (lv_sub hl [0, 1, 2] rfl)
    · replace hw := hw.2 c1
      refine lv_aload_n hx hb dX7_perform_93 rfl (lv_at hl 0 rfl) ?_
      refine va_get (D := D) (ci := 7) (v := .ref oT_s) (C := RX7) (T := TX7) (N := 20) hx hb hts ic_X7_perform_X7 hown hKw.1 hwd.1 0 rfl rfl 1 (by decide) (hts (.fieldLink RX7 7 "DrillWardensModel" "s" "[I") (List.mem_of_getElem? (i := 3) rfl)) (fun _ h9 => h9) rfl dX7_perform_94 ?_
      refine lv_iload hx hb dX7_perform_97 (lv_at hl 3 rfl) ?_
      refine lv_aload_n hx hb dX7_perform_99 rfl (lv_at hl 0 rfl) ?_
      refine va_get (D := D) (ci := 7) (v := .ref oT_aside) (C := RX7) (T := TX7) (N := 20) hx hb hts ic_X7_perform_X7 hown hKw.1 hwd.1 0 rfl rfl 2 (by decide) (hts (.fieldLink RX7 13 "DrillWardensModel" "aside" "[I") (List.mem_of_getElem? (i := 2) rfl)) (fun _ h9 => h9) rfl dX7_perform_100 ?_
      refine lv_iload hx hb dX7_perform_103 (lv_at hl 3 rfl) ?_
      refine va_iald hx hb hKw.1 hwd.1 2 0 rfl rfl hw.1 dX7_perform_105 ?_
      replace hw := hw.2
      obtain ⟨T_s2, e_T_s2⟩ : ∃ y : Nat → Int32, y = upd T_s x4.toNatClampNeg (T_aside x4.toNatClampNeg) := ⟨_, rfl⟩
      refine va_iast hx hb hKw.1 hwd.1 hwd.2.1 hwd.2.2 1 0 rfl rfl hw.1 dX7_perform_106 (fun H locs h1 h2 h3 => ?_)
      replace hw := hw.2 T_s2 e_T_s2
      rw [← e_T_s2] at h1 h2
      replace hwd : wd D A s (ww_X7_perform cI cC oT oT_s oT_aside oT_states oT_snapshot oT_text oT_serves oT_took oT_tookMany oT_helps oT_before oT_read T_thrown T_stateMany T_hasSnapshot T_length T_stopNumber T_stopError T_at T_isWell T_readMany T_s2 T_aside T_states T_text T_serves T_took T_tookMany T_helps T_before T_read) H locs := ⟨h1, h2, h3⟩
      clear h1 h2 h3
      obtain ⟨x4_3, e_x4_3⟩ : ∃ y : Int32, y = x4 + (nI 1) := ⟨_, rfl⟩
      replace hw := hw x4_3 e_x4_3
      refine lv_iinc (v := x4_3) (lv' := [(4, .int x4_3), (0, .ref oT), (2, .int x2), (3, .int x3)]) hx hb dX7_perform_107 hl (k := 3) rfl (by rw [e_x4_3]; rfl) (by decide) rfl (fun ls hl => ?_)
      refine lv_goto (tgt := 85) hx hb dX7_perform_110 (by decide) ?_
      exact ih T_s2 x4_3 hw _ _ _ hwd (lv_sub hl [1, 2, 3, 0] rfl)
def wp_X7_perform (T_thrown : Int32) (T_stateMany : Int32) (T_length : Int32) (T_stopNumber : Int32) (T_stopError : Int32) (T_at : Int32) (T_isWell : Int32) (T_readMany : Int32) (T_s : Nat → Int32) (T_aside : Nat → Int32) (T_states : Nat → Int32) (T_text : Nat → Int32) (T_serves : Nat → Int32) (T_took : Nat → Int32) (T_tookMany : Nat → Int32) (T_helps : Nat → Int32) (T_before : Nat → Int32) (T_read : Nat → Int32) (Q : Int32 → Int32 → Int32 → Int32 → Int32 → Int32 → Int32 → Int32 → (Nat → Int32) → (Nat → Int32) → (Nat → Int32) → (Nat → Int32) → (Nat → Int32) → (Nat → Int32) → (Nat → Int32) → (Nat → Int32) → (Nat → Int32) → Prop) : Prop := wp_X7_reads T_length T_at T_isWell T_readMany T_text T_read (fun r1 T_at2 T_isWell3 T_readMany4 T_read5 => ((r1 = (-5) → (∃ n7, wb_X7_perform_23 T_s (fun T_aside8 => (∃ n9, wb_X7_perform_52 T_readMany4 T_read5 (fun T_s10 T_serves11 T_took12 T_tookMany13 T_helps14 T_before15 x2_16 x3_17 => ((x2_16 = 0 → wp_X7_records T_stateMany T_s10 T_states (fun T_stateMany19 T_states20 => (∃ n21, wb_X7_perform_135 T_stateMany19 T_aside8 (fun T_states22 => Q T_readMany4 (nI 0) T_stateMany19 T_stopNumber T_stopError T_at2 T_isWell3 T_readMany4 T_s10 T_aside8 T_states22 T_serves11 T_took12 T_tookMany13 T_helps14 T_before15 T_read5) n21 T_states20 (nI 0)))) ∧ (¬ x2_16 = 0 → (∃ n23, wb_X7_perform_85 T_aside8 (fun T_s24 => ∀ T_stopNumber25, T_stopNumber25 = x3_17 - (nI 1) → Q (-4) (nI 0) T_stateMany T_stopNumber25 x2_16 T_at2 T_isWell3 T_readMany4 T_s24 T_aside8 T_states T_serves11 T_took12 T_tookMany13 T_helps14 T_before15 T_read5) n23 T_s10 (nI 0))))) n9 T_s T_serves T_took T_tookMany T_helps T_before (nI 0) (nI 0))) n7 T_aside (nI 0))) ∧ (¬ r1 = (-5) → Q ((-100) - r1) (nI 0) T_stateMany T_stopNumber T_stopError T_at2 T_isWell3 T_readMany4 T_s T_aside T_states T_serves T_took T_tookMany T_helps T_before T_read5)))
set_option maxRecDepth 100000 in
set_option maxHeartbeats 4000000 in
theorem c_X7_perform (l : Launch) {D : va_G} {cI cC cR : ClassId} (oT oT_s oT_aside oT_states oT_snapshot oT_text oT_serves oT_took oT_tookMany oT_helps oT_before oT_read : Nat) (sz : Nat) (T_thrown : Int32) (T_stateMany : Int32) (T_hasSnapshot : Int32) (T_length : Int32) (T_stopNumber : Int32) (T_stopError : Int32) (T_at : Int32) (T_isWell : Int32) (T_readMany : Int32) (T_s : Nat → Int32) (T_aside : Nat → Int32) (T_states : Nat → Int32) (T_text : Nat → Int32) (T_serves : Nat → Int32) (T_took : Nat → Int32) (T_tookMany : Nat → Int32) (T_helps : Nat → Int32) (T_before : Nat → Int32) (T_read : Nat → Int32) {Q : Int32 → Int32 → Int32 → Int32 → Int32 → Int32 → Int32 → Int32 → (Nat → Int32) → (Nat → Int32) → (Nat → Int32) → (Nat → Int32) → (Nat → Int32) → (Nat → Int32) → (Nat → Int32) → (Nat → Int32) → (Nat → Int32) → Prop} (hw : wp_X7_perform T_thrown T_stateMany T_length T_stopNumber T_stopError T_at T_isWell T_readMany T_s T_aside T_states T_text T_serves T_took T_tookMany T_helps T_before T_read Q) : Met l yX7_perform wsX7_perform rm_X7_perform (PcW D cI cC cR [.ref oT] (ww_X7_perform cI cC oT oT_s oT_aside oT_states oT_snapshot oT_text oT_serves oT_took oT_tookMany oT_helps oT_before oT_read T_thrown T_stateMany T_hasSnapshot T_length T_stopNumber T_stopError T_at T_isWell T_readMany T_s T_aside T_states T_text T_serves T_took T_tookMany T_helps T_before T_read) sz) (QiW D (fun (r : Int32) (u : Int32 × Int32 × Int32 × Int32 × Int32 × Int32 × Int32 × (Nat → Int32) × (Nat → Int32) × (Nat → Int32) × (Nat → Int32) × (Nat → Int32) × (Nat → Int32) × (Nat → Int32) × (Nat → Int32) × (Nat → Int32)) => Q r u.1 u.2.1 u.2.2.1 u.2.2.2.1 u.2.2.2.2.1 u.2.2.2.2.2.1 u.2.2.2.2.2.2.1 u.2.2.2.2.2.2.2.1 u.2.2.2.2.2.2.2.2.1 u.2.2.2.2.2.2.2.2.2.1 u.2.2.2.2.2.2.2.2.2.2.1 u.2.2.2.2.2.2.2.2.2.2.2.1 u.2.2.2.2.2.2.2.2.2.2.2.2.1 u.2.2.2.2.2.2.2.2.2.2.2.2.2.1 u.2.2.2.2.2.2.2.2.2.2.2.2.2.2.1 u.2.2.2.2.2.2.2.2.2.2.2.2.2.2.2) (fun u => (ww_X7_perform cI cC oT oT_s oT_aside oT_states oT_snapshot oT_text oT_serves oT_took oT_tookMany oT_helps oT_before oT_read (u.1) (u.2.1) T_hasSnapshot T_length (u.2.2.1) (u.2.2.2.1) (u.2.2.2.2.1) (u.2.2.2.2.2.1) (u.2.2.2.2.2.2.1) (u.2.2.2.2.2.2.2.1) (u.2.2.2.2.2.2.2.2.1) (u.2.2.2.2.2.2.2.2.2.1) T_text (u.2.2.2.2.2.2.2.2.2.2.1) (u.2.2.2.2.2.2.2.2.2.2.2.1) (u.2.2.2.2.2.2.2.2.2.2.2.2.1) (u.2.2.2.2.2.2.2.2.2.2.2.2.2.1) (u.2.2.2.2.2.2.2.2.2.2.2.2.2.2.1) (u.2.2.2.2.2.2.2.2.2.2.2.2.2.2.2))) (ww_X7_perform cI cC oT oT_s oT_aside oT_states oT_snapshot oT_text oT_serves oT_took oT_tookMany oT_helps oT_before oT_read T_thrown T_stateMany T_hasSnapshot T_length T_stopNumber T_stopError T_at T_isWell T_readMany T_s T_aside T_states T_text T_serves T_took T_tookMany T_helps T_before T_read) sz) 0 0 (va_A (ww_X7_perform cI cC oT oT_s oT_aside oT_states oT_snapshot oT_text oT_serves oT_took oT_tookMany oT_helps oT_before oT_read T_thrown T_stateMany T_hasSnapshot T_length T_stopNumber T_stopError T_at T_isWell T_readMany T_s T_aside T_states T_text T_serves T_took T_tookMany T_helps T_before T_read) sz) := by
  refine Met.ofW (cc := cX7_perform) (maxL := 5) (ret := (some .int)) (by decide) rfl ?_
  intro p e s m args below meth c s₁ B hml hv
  obtain ⟨rfl, hsz, hP, hKw, hD0⟩ := hv
  have hlocks := B.notSynchronized
  subst hsz
  have hD := hD0.self (sz := s.heap.size)
  have CX : cx cX7_perform (some .int) 5 RX7 wsX7_perform p m meth c s ([.ref oT] : List Value).toArray D cI cC cR (va_A (ww_X7_perform cI cC oT oT_s oT_aside oT_states oT_snapshot oT_text oT_serves oT_took oT_tookMany oT_helps oT_before oT_read T_thrown T_stateMany T_hasSnapshot T_length T_stopNumber T_stopError T_at T_isWell T_readMany T_s T_aside T_states T_text T_serves T_took T_tookMany T_helps T_before T_read) s.heap.size) := ⟨B.exec, B.bytes, B.returns, hml, atoms_spec (ws := wsX7_perform) B.pre, findClass_of_methodNamed B.named, hlocks, hKw, fun q h => Or.inr h⟩
  obtain ⟨hx, hb, hr, -, hts, hown, -, -, hA⟩ := id CX
  have hwd : wd D (va_A (ww_X7_perform cI cC oT oT_s oT_aside oT_states oT_snapshot oT_text oT_serves oT_took oT_tookMany oT_helps oT_before oT_read T_thrown T_stateMany T_hasSnapshot T_length T_stopNumber T_stopError T_at T_isWell T_readMany T_s T_aside T_states T_text T_serves T_took T_tookMany T_helps T_before T_read) s.heap.size) s (ww_X7_perform cI cC oT oT_s oT_aside oT_states oT_snapshot oT_text oT_serves oT_took oT_tookMany oT_helps oT_before oT_read T_thrown T_stateMany T_hasSnapshot T_length T_stopNumber T_stopError T_at T_isWell T_readMany T_s T_aside T_states T_text T_serves T_took T_tookMany T_helps T_before T_read) s.heap [] := ⟨hP, hD, va_S.rf⟩
  have hl := lv_entry ([.ref oT]) (n := 5) (Nat.le_of_ble_eq_true rfl)
  rw [lg_entry_eq]
  generalize (lg_sl ([.ref oT]) ++ List.replicate (5 - (lg_sl ([.ref oT])).length) Slot.unset).toArray = ls at hl ⊢
  have hl : lv_has ls 5 [(0, .ref oT)] := hl
  have HR : ∀ (r : Int32) (u0 : Int32) (u1 : Int32) (u2 : Int32) (u3 : Int32) (u4 : Int32) (u5 : Int32) (u6 : Int32) (u7 : Nat → Int32) (u8 : Nat → Int32) (u9 : Nat → Int32) (u10 : Nat → Int32) (u11 : Nat → Int32) (u12 : Nat → Int32) (u13 : Nat → Int32) (u14 : Nat → Int32) (u15 : Nat → Int32) {H : Heap} {locs : List Loc} {ls : Array Slot} {pc : Nat}, Q r u0 u1 u2 u3 u4 u5 u6 u7 u8 u9 u10 u11 u12 u13 u14 u15 → wd D (va_A (ww_X7_perform cI cC oT oT_s oT_aside oT_states oT_snapshot oT_text oT_serves oT_took oT_tookMany oT_helps oT_before oT_read T_thrown T_stateMany T_hasSnapshot T_length T_stopNumber T_stopError T_at T_isWell T_readMany T_s T_aside T_states T_text T_serves T_took T_tookMany T_helps T_before T_read) s.heap.size) s (ww_X7_perform cI cC oT oT_s oT_aside oT_states oT_snapshot oT_text oT_serves oT_took oT_tookMany oT_helps oT_before oT_read u0 u1 T_hasSnapshot T_length u2 u3 u4 u5 u6 u7 u8 u9 T_text u10 u11 u12 u13 u14 u15) H locs → decode cX7_perform pc = .ok (.ireturn, 1) → W p l e (headSpec wsX7_perform rm_X7_perform).room s m ([.ref oT] : List Value).toArray below meth c H locs 0 0 (MQ below (QiW D (fun (r : Int32) (u : Int32 × Int32 × Int32 × Int32 × Int32 × Int32 × Int32 × (Nat → Int32) × (Nat → Int32) × (Nat → Int32) × (Nat → Int32) × (Nat → Int32) × (Nat → Int32) × (Nat → Int32) × (Nat → Int32) × (Nat → Int32)) => Q r u.1 u.2.1 u.2.2.1 u.2.2.2.1 u.2.2.2.2.1 u.2.2.2.2.2.1 u.2.2.2.2.2.2.1 u.2.2.2.2.2.2.2.1 u.2.2.2.2.2.2.2.2.1 u.2.2.2.2.2.2.2.2.2.1 u.2.2.2.2.2.2.2.2.2.2.1 u.2.2.2.2.2.2.2.2.2.2.2.1 u.2.2.2.2.2.2.2.2.2.2.2.2.1 u.2.2.2.2.2.2.2.2.2.2.2.2.2.1 u.2.2.2.2.2.2.2.2.2.2.2.2.2.2.1 u.2.2.2.2.2.2.2.2.2.2.2.2.2.2.2) (fun u => (ww_X7_perform cI cC oT oT_s oT_aside oT_states oT_snapshot oT_text oT_serves oT_took oT_tookMany oT_helps oT_before oT_read (u.1) (u.2.1) T_hasSnapshot T_length (u.2.2.1) (u.2.2.2.1) (u.2.2.2.2.1) (u.2.2.2.2.2.1) (u.2.2.2.2.2.2.1) (u.2.2.2.2.2.2.2.1) (u.2.2.2.2.2.2.2.2.1) (u.2.2.2.2.2.2.2.2.2.1) T_text (u.2.2.2.2.2.2.2.2.2.2.1) (u.2.2.2.2.2.2.2.2.2.2.2.1) (u.2.2.2.2.2.2.2.2.2.2.2.2.1) (u.2.2.2.2.2.2.2.2.2.2.2.2.2.1) (u.2.2.2.2.2.2.2.2.2.2.2.2.2.2.1) (u.2.2.2.2.2.2.2.2.2.2.2.2.2.2.2))) (ww_X7_perform cI cC oT oT_s oT_aside oT_states oT_snapshot oT_text oT_serves oT_took oT_tookMany oT_helps oT_before oT_read T_thrown T_stateMany T_hasSnapshot T_length T_stopNumber T_stopError T_at T_isWell T_readMany T_s T_aside T_states T_text T_serves T_took T_tookMany T_helps T_before T_read) s.heap.size) ([.ref oT] : List Value).toArray s 0 0 (va_A (ww_X7_perform cI cC oT oT_s oT_aside oT_states oT_snapshot oT_text oT_serves oT_took oT_tookMany oT_helps oT_before oT_read T_thrown T_stateMany T_hasSnapshot T_length T_stopNumber T_stopError T_at T_isWell T_readMany T_s T_aside T_states T_text T_serves T_took T_tookMany T_helps T_before T_read) s.heap.size)) (F0 m pc ls [.int r]) := by
    intro r u0 u1 u2 u3 u4 u5 u6 u7 u8 u9 u10 u11 u12 u13 u14 u15 H locs ls pc hq hw9 hd9
    exact W.iret (v := r) hx hb hr (fun t ht hW => ⟨⟨r, (u0, u1, u2, u3, u4, u5, u6, u7, u8, u9, u10, u11, u12, u13, u14, u15), rfl, hq, by rw [ht]; exact hw9.1, hw9.2.1⟩, hw9.2.2.F ht⟩) hw9.2.2.2.2 hd9
  unfold wp_X7_perform at hw
  refine lv_aload_n hx hb dX7_perform_0 rfl (lv_at hl 0 rfl) ?_
  refine lv_iconst (v := (nI 0)) hx hb dX7_perform_1 rfl ?_
  refine va_put (D := D) (ci := 7) (v := .int (nI 0)) (ty := .int) (C := RX7) (T := TX7) (N := 20) hx hb hts ic_X7_perform_X7 tyX7 tyX7_ok nmX7 hown hKw.1 hwd.1 hwd.2.1 hwd.2.2 0 rfl rfl 0 (by decide) (hts (.fieldLink RX7 43 "DrillWardensModel" "thrown" "I") (List.mem_of_getElem? (i := 1) rfl)) (fun _ h9 => h9) rfl (tyX7_ok 0 (by decide)) rfl rfl (Nat.le_of_ble_eq_true rfl) dX7_perform_2 (fun H locs h1 h2 h3 => ?_)
  replace hwd : wd D (va_A (ww_X7_perform cI cC oT oT_s oT_aside oT_states oT_snapshot oT_text oT_serves oT_took oT_tookMany oT_helps oT_before oT_read T_thrown T_stateMany T_hasSnapshot T_length T_stopNumber T_stopError T_at T_isWell T_readMany T_s T_aside T_states T_text T_serves T_took T_tookMany T_helps T_before T_read) s.heap.size) s (ww_X7_perform cI cC oT oT_s oT_aside oT_states oT_snapshot oT_text oT_serves oT_took oT_tookMany oT_helps oT_before oT_read (nI 0) T_stateMany T_hasSnapshot T_length T_stopNumber T_stopError T_at T_isWell T_readMany T_s T_aside T_states T_text T_serves T_took T_tookMany T_helps T_before T_read) H locs := ⟨h1, h2, h3⟩
  clear h1 h2 h3
  refine lv_aload_n hx hb dX7_perform_5 rfl (lv_at hl 0 rfl) ?_
  refine kcVi (W1 := (fun u => (ww_X7_perform cI cC oT oT_s oT_aside oT_states oT_snapshot oT_text oT_serves oT_took oT_tookMany oT_helps oT_before oT_read (nI 0) T_stateMany T_hasSnapshot T_length T_stopNumber T_stopError (u.1) (u.2.1) (u.2.2.1) T_s T_aside T_states T_text T_serves T_took T_tookMany T_helps T_before (u.2.2.2)))) (rest := []) (As := []) ⟨Nat.le_of_ble_eq_true rfl, Nat.le_of_ble_eq_true rfl⟩ ⟨hx, hb, hml, hown, hts⟩ (c_X7_reads l oT oT_s oT_aside oT_states oT_snapshot oT_text oT_serves oT_took oT_tookMany oT_helps oT_before oT_read H.size (nI 0) T_stateMany T_hasSnapshot T_length T_stopNumber T_stopError T_at T_isWell T_readMany T_text T_read hw) (cwV 0 hts gX7_perform_X7_reads rfl rfl rfl ⟨rfl, hd_X7_reads⟩ ⟨Nat.le_of_ble_eq_true rfl, Nat.le_of_ble_eq_true rfl⟩) hKw hA hwd [0, 4, 10] [1, 2, 3, 5, 6, 7, 8, 9] [8, 0, 1, 2, 9, 3, 4, 5, 6, 7, 10] [(oT_s, .inl (cI, 474, .inl T_s)), (oT_aside, .inl (cI, 474, .inl T_aside)), (oT_states, .inl (cI, 1896, .inl T_states)), (oT_serves, .inl (cI, 16, .inl T_serves)), (oT_took, .inl (cI, 30, .inl T_took)), (oT_tookMany, .inl (cI, 10, .inl T_tookMany)), (oT_helps, .inl (cI, 10, .inl T_helps)), (oT_before, .inl (cI, 10, .inl T_before))] rfl rfl rfl rfl (by decide) rfl (fun _ => rfl) 0 7 rfl rfl rfl rfl hl.1 rfl (lv_room (Nat.le_of_ble_eq_true rfl)) dX7_perform_6 (fun r1 u H locs hw hwd => ?_)
  obtain ⟨T_at2, T_isWell3, T_readMany4, T_read5⟩ := u
  try dsimp only at hw
  replace hwd : wd D (va_A (ww_X7_perform cI cC oT oT_s oT_aside oT_states oT_snapshot oT_text oT_serves oT_took oT_tookMany oT_helps oT_before oT_read T_thrown T_stateMany T_hasSnapshot T_length T_stopNumber T_stopError T_at T_isWell T_readMany T_s T_aside T_states T_text T_serves T_took T_tookMany T_helps T_before T_read) s.heap.size) s (ww_X7_perform cI cC oT oT_s oT_aside oT_states oT_snapshot oT_text oT_serves oT_took oT_tookMany oT_helps oT_before oT_read (nI 0) T_stateMany T_hasSnapshot T_length T_stopNumber T_stopError T_at2 T_isWell3 T_readMany4 T_s T_aside T_states T_text T_serves T_took T_tookMany T_helps T_before T_read5) H locs := hwd
  refine lv_istore_n (lv' := [(1, .int r1), (0, .ref oT)]) hx hb dX7_perform_9 rfl hl (by decide) rfl (fun ls hl => ?_)
  refine lv_iload_n hx hb dX7_perform_10 rfl (lv_at hl 0 rfl) ?_
  refine lv_bipush (v := (-5)) hx hb dX7_perform_11 rfl ?_
  refine lv_icmp_eq (tgt := 21) hx hb dX7_perform_13 (by decide) (fun c6 => ?_) (fun c6 => ?_)
  · replace hw := hw.1 c6
    refine lv_iconst (v := (nI 0)) hx hb dX7_perform_21 rfl ?_
    refine lv_istore_n (lv' := [(2, .int (nI 0)), (1, .int r1), (0, .ref oT)]) hx hb dX7_perform_22 rfl hl (by decide) rfl (fun ls hl => ?_)
    obtain ⟨n7, hw⟩ := hw
    refine blk_X7_perform_23 (CX := CX) (oT := oT) (oT_s := oT_s) (oT_aside := oT_aside) (oT_states := oT_states) (oT_snapshot := oT_snapshot) (oT_text := oT_text) (oT_serves := oT_serves) (oT_took := oT_took) (oT_tookMany := oT_tookMany) (oT_helps := oT_helps) (oT_before := oT_before) (oT_read := oT_read) (T_thrown := (nI 0)) (T_stateMany := T_stateMany) (T_hasSnapshot := T_hasSnapshot) (T_length := T_length) (T_stopNumber := T_stopNumber) (T_stopError := T_stopError) (T_at := T_at2) (T_isWell := T_isWell3) (T_readMany := T_readMany4) (T_s := T_s) (T_states := T_states) (T_text := T_text) (T_serves := T_serves) (T_took := T_took) (T_tookMany := T_tookMany) (T_helps := T_helps) (T_before := T_before) (T_read := T_read5) (HR := HR) (HK_48 := fun T_aside8 hw H locs ls hwd hl => ?_) n7 T_aside (nI 0) hw _ _ _ hwd (lv_sub hl [2, 0] rfl)
    try dsimp only at hw
    refine lv_iconst (v := (nI 0)) hx hb dX7_perform_48 rfl ?_
    refine lv_istore_n (lv' := [(2, .int (nI 0)), (0, .ref oT)]) hx hb dX7_perform_49 rfl hl (by decide) rfl (fun ls hl => ?_)
    refine lv_iconst (v := (nI 0)) hx hb dX7_perform_50 rfl ?_
    refine lv_istore_n (lv' := [(3, .int (nI 0)), (2, .int (nI 0)), (0, .ref oT)]) hx hb dX7_perform_51 rfl hl (by decide) rfl (fun ls hl => ?_)
    obtain ⟨n9, hw⟩ := hw
    refine blk_X7_perform_52 (CX := CX) (oT := oT) (oT_s := oT_s) (oT_aside := oT_aside) (oT_states := oT_states) (oT_snapshot := oT_snapshot) (oT_text := oT_text) (oT_serves := oT_serves) (oT_took := oT_took) (oT_tookMany := oT_tookMany) (oT_helps := oT_helps) (oT_before := oT_before) (oT_read := oT_read) (T_thrown := (nI 0)) (T_stateMany := T_stateMany) (T_hasSnapshot := T_hasSnapshot) (T_length := T_length) (T_stopNumber := T_stopNumber) (T_stopError := T_stopError) (T_at := T_at2) (T_isWell := T_isWell3) (T_readMany := T_readMany4) (T_aside := T_aside8) (T_states := T_states) (T_text := T_text) (T_read := T_read5) (HR := HR) (HK_78 := fun T_s10 T_serves11 T_took12 T_tookMany13 T_helps14 T_before15 x2_16 x3_17 hw H locs ls hwd hl => ?_) n9 T_s T_serves T_took T_tookMany T_helps T_before (nI 0) (nI 0) hw _ _ _ hwd (lv_sub hl [2, 1, 0] rfl)
    try dsimp only at hw
    refine lv_iload_n hx hb dX7_perform_78 rfl (lv_at hl 1 rfl) ?_
    refine lv_if_eq (tgt := 128) hx hb dX7_perform_79 (by decide) (fun c18 => ?_) (fun c18 => ?_)
    · replace hw := hw.1 c18
      refine lv_aload_n hx hb dX7_perform_128 rfl (lv_at hl 0 rfl) ?_
      refine kcVv (W1 := (fun u => (ww_X7_perform cI cC oT oT_s oT_aside oT_states oT_snapshot oT_text oT_serves oT_took oT_tookMany oT_helps oT_before oT_read (nI 0) (u.1) T_hasSnapshot T_length T_stopNumber T_stopError T_at2 T_isWell3 T_readMany4 T_s10 T_aside8 (u.2) T_text T_serves11 T_took12 T_tookMany13 T_helps14 T_before15 T_read5))) (rest := []) (As := []) ⟨Nat.le_of_ble_eq_true rfl, Nat.le_of_ble_eq_true rfl⟩ ⟨hx, hb, hml, hown, hts⟩ (c_X7_records l oT oT_s oT_aside oT_states oT_snapshot oT_text oT_serves oT_took oT_tookMany oT_helps oT_before oT_read H.size (nI 0) T_stateMany T_hasSnapshot T_length T_stopNumber T_stopError T_at2 T_isWell3 T_readMany4 T_s10 T_states hw) (cwV 0 hts gX7_perform_X7_records rfl rfl rfl ⟨rfl, hd_X7_records⟩ ⟨Nat.le_of_ble_eq_true rfl, Nat.le_of_ble_eq_true rfl⟩) hKw hA hwd [0, 1, 3] [2, 4, 5, 6, 7, 8, 9, 10] [8, 9, 0, 10, 1, 2, 3, 4, 5, 6, 7] [(oT_aside, .inl (cI, 474, .inl T_aside8)), (oT_text, .inl (cI, 80, .inl T_text)), (oT_serves, .inl (cI, 16, .inl T_serves11)), (oT_took, .inl (cI, 30, .inl T_took12)), (oT_tookMany, .inl (cI, 10, .inl T_tookMany13)), (oT_helps, .inl (cI, 10, .inl T_helps14)), (oT_before, .inl (cI, 10, .inl T_before15)), (oT_read, .inl (cI, 64, .inl T_read5))] rfl rfl rfl rfl (by decide) rfl (fun _ => rfl) 0 7 rfl rfl rfl rfl hl.1 rfl (lv_room (Nat.le_of_ble_eq_true rfl)) dX7_perform_129 (fun u H locs hw hwd => ?_)
      obtain ⟨T_stateMany19, T_states20⟩ := u
      try dsimp only at hw
      replace hwd : wd D (va_A (ww_X7_perform cI cC oT oT_s oT_aside oT_states oT_snapshot oT_text oT_serves oT_took oT_tookMany oT_helps oT_before oT_read T_thrown T_stateMany T_hasSnapshot T_length T_stopNumber T_stopError T_at T_isWell T_readMany T_s T_aside T_states T_text T_serves T_took T_tookMany T_helps T_before T_read) s.heap.size) s (ww_X7_perform cI cC oT oT_s oT_aside oT_states oT_snapshot oT_text oT_serves oT_took oT_tookMany oT_helps oT_before oT_read (nI 0) T_stateMany19 T_hasSnapshot T_length T_stopNumber T_stopError T_at2 T_isWell3 T_readMany4 T_s10 T_aside8 T_states20 T_text T_serves11 T_took12 T_tookMany13 T_helps14 T_before15 T_read5) H locs := hwd
      refine lv_iconst (v := (nI 0)) hx hb dX7_perform_132 rfl ?_
      refine lv_istore (lv' := [(4, .int (nI 0)), (0, .ref oT), (2, .int x2_16), (3, .int x3_17)]) hx hb dX7_perform_133 hl (by decide) rfl (fun ls hl => ?_)
      obtain ⟨n21, hw⟩ := hw
      refine blk_X7_perform_135 (CX := CX) (oT := oT) (oT_s := oT_s) (oT_aside := oT_aside) (oT_states := oT_states) (oT_snapshot := oT_snapshot) (oT_text := oT_text) (oT_serves := oT_serves) (oT_took := oT_took) (oT_tookMany := oT_tookMany) (oT_helps := oT_helps) (oT_before := oT_before) (oT_read := oT_read) (T_thrown := (nI 0)) (T_stateMany := T_stateMany19) (T_hasSnapshot := T_hasSnapshot) (T_length := T_length) (T_stopNumber := T_stopNumber) (T_stopError := T_stopError) (T_at := T_at2) (T_isWell := T_isWell3) (T_readMany := T_readMany4) (T_s := T_s10) (T_aside := T_aside8) (T_text := T_text) (T_serves := T_serves11) (T_took := T_took12) (T_tookMany := T_tookMany13) (T_helps := T_helps14) (T_before := T_before15) (T_read := T_read5) (HR := HR) (HK_174 := fun T_states22 hw H locs ls hwd hl => ?_) n21 T_states20 (nI 0) hw _ _ _ hwd (lv_sub hl [1, 0] rfl)
      try dsimp only at hw
      refine lv_aload_n hx hb dX7_perform_174 rfl (lv_at hl 0 rfl) ?_
      refine va_get (D := D) (ci := 7) (v := .int T_readMany4) (C := RX7) (T := TX7) (N := 20) hx hb hts ic_X7_perform_X7 hown hKw.1 hwd.1 0 rfl rfl 19 (by decide) (hts (.fieldLink RX7 173 "DrillWardensModel" "readMany" "I") (List.mem_of_getElem? (i := 4) rfl)) (fun _ h9 => h9) rfl dX7_perform_175 ?_
      exact HR T_readMany4 (nI 0) T_stateMany19 T_stopNumber T_stopError T_at2 T_isWell3 T_readMany4 T_s10 T_aside8 T_states22 T_serves11 T_took12 T_tookMany13 T_helps14 T_before15 T_read5 hw hwd dX7_perform_178
    · replace hw := hw.2 c18
      refine lv_iconst (v := (nI 0)) hx hb dX7_perform_82 rfl ?_
      refine lv_istore (lv' := [(4, .int (nI 0)), (0, .ref oT), (2, .int x2_16), (3, .int x3_17)]) hx hb dX7_perform_83 hl (by decide) rfl (fun ls hl => ?_)
      obtain ⟨n23, hw⟩ := hw
      refine blk_X7_perform_85 (CX := CX) (oT := oT) (oT_s := oT_s) (oT_aside := oT_aside) (oT_states := oT_states) (oT_snapshot := oT_snapshot) (oT_text := oT_text) (oT_serves := oT_serves) (oT_took := oT_took) (oT_tookMany := oT_tookMany) (oT_helps := oT_helps) (oT_before := oT_before) (oT_read := oT_read) (T_thrown := (nI 0)) (T_stateMany := T_stateMany) (T_hasSnapshot := T_hasSnapshot) (T_length := T_length) (T_stopNumber := T_stopNumber) (T_stopError := T_stopError) (T_at := T_at2) (T_isWell := T_isWell3) (T_readMany := T_readMany4) (T_aside := T_aside8) (T_states := T_states) (T_text := T_text) (T_serves := T_serves11) (T_took := T_took12) (T_tookMany := T_tookMany13) (T_helps := T_helps14) (T_before := T_before15) (T_read := T_read5) (x2 := x2_16) (x3 := x3_17) (HR := HR) (HK_113 := fun T_s24 hw H locs ls hwd hl => ?_) n23 T_s10 (nI 0) hw _ _ _ hwd (lv_sub hl [1, 2, 3, 0] rfl)
      try dsimp only at hw
      refine lv_aload_n hx hb dX7_perform_113 rfl (lv_at hl 0 rfl) ?_
      refine lv_iload_n hx hb dX7_perform_114 rfl (lv_at hl 2 rfl) ?_
      refine lv_iconst (v := (nI 1)) hx hb dX7_perform_115 rfl ?_
      refine lv_isub hx hb dX7_perform_116 ?_
      refine lv_topi (fun T_stopNumber25 e_T_stopNumber25 => ?_)
      replace hw := hw T_stopNumber25 e_T_stopNumber25
      refine va_put (D := D) (ci := 7) (v := .int T_stopNumber25) (ty := .int) (C := RX7) (T := TX7) (N := 20) hx hb hts ic_X7_perform_X7 tyX7 tyX7_ok nmX7 hown hKw.1 hwd.1 hwd.2.1 hwd.2.2 0 rfl rfl 9 (by decide) (hts (.fieldLink RX7 47 "DrillWardensModel" "stopNumber" "I") (List.mem_of_getElem? (i := 5) rfl)) (fun _ h9 => h9) rfl (tyX7_ok 9 (by decide)) rfl rfl (Nat.le_of_ble_eq_true rfl) dX7_perform_117 (fun H locs h1 h2 h3 => ?_)
      replace hwd : wd D (va_A (ww_X7_perform cI cC oT oT_s oT_aside oT_states oT_snapshot oT_text oT_serves oT_took oT_tookMany oT_helps oT_before oT_read T_thrown T_stateMany T_hasSnapshot T_length T_stopNumber T_stopError T_at T_isWell T_readMany T_s T_aside T_states T_text T_serves T_took T_tookMany T_helps T_before T_read) s.heap.size) s (ww_X7_perform cI cC oT oT_s oT_aside oT_states oT_snapshot oT_text oT_serves oT_took oT_tookMany oT_helps oT_before oT_read (nI 0) T_stateMany T_hasSnapshot T_length T_stopNumber25 T_stopError T_at2 T_isWell3 T_readMany4 T_s24 T_aside8 T_states T_text T_serves11 T_took12 T_tookMany13 T_helps14 T_before15 T_read5) H locs := ⟨h1, h2, h3⟩
      clear h1 h2 h3
      refine lv_aload_n hx hb dX7_perform_120 rfl (lv_at hl 0 rfl) ?_
      refine lv_iload_n hx hb dX7_perform_121 rfl (lv_at hl 1 rfl) ?_
      refine va_put (D := D) (ci := 7) (v := .int x2_16) (ty := .int) (C := RX7) (T := TX7) (N := 20) hx hb hts ic_X7_perform_X7 tyX7 tyX7_ok nmX7 hown hKw.1 hwd.1 hwd.2.1 hwd.2.2 0 rfl rfl 10 (by decide) (hts (.fieldLink RX7 200 "DrillWardensModel" "stopError" "I") (List.mem_of_getElem? (i := 6) rfl)) (fun _ h9 => h9) rfl (tyX7_ok 10 (by decide)) rfl rfl (Nat.le_of_ble_eq_true rfl) dX7_perform_122 (fun H locs h1 h2 h3 => ?_)
      replace hwd : wd D (va_A (ww_X7_perform cI cC oT oT_s oT_aside oT_states oT_snapshot oT_text oT_serves oT_took oT_tookMany oT_helps oT_before oT_read T_thrown T_stateMany T_hasSnapshot T_length T_stopNumber T_stopError T_at T_isWell T_readMany T_s T_aside T_states T_text T_serves T_took T_tookMany T_helps T_before T_read) s.heap.size) s (ww_X7_perform cI cC oT oT_s oT_aside oT_states oT_snapshot oT_text oT_serves oT_took oT_tookMany oT_helps oT_before oT_read (nI 0) T_stateMany T_hasSnapshot T_length T_stopNumber25 x2_16 T_at2 T_isWell3 T_readMany4 T_s24 T_aside8 T_states T_text T_serves11 T_took12 T_tookMany13 T_helps14 T_before15 T_read5) H locs := ⟨h1, h2, h3⟩
      clear h1 h2 h3
      refine lv_bipush (v := (-4)) hx hb dX7_perform_125 rfl ?_
      exact HR (-4) (nI 0) T_stateMany T_stopNumber25 x2_16 T_at2 T_isWell3 T_readMany4 T_s24 T_aside8 T_states T_serves11 T_took12 T_tookMany13 T_helps14 T_before15 T_read5 hw hwd dX7_perform_127
  · replace hw := hw.2 c6
    refine lv_bipush (v := (-100)) hx hb dX7_perform_16 rfl ?_
    refine lv_iload_n hx hb dX7_perform_18 rfl (lv_at hl 0 rfl) ?_
    refine lv_isub hx hb dX7_perform_19 ?_
    exact HR ((-100) - r1) (nI 0) T_stateMany T_stopNumber T_stopError T_at2 T_isWell3 T_readMany4 T_s T_aside T_states T_serves T_took T_tookMany T_helps T_before T_read5 hw hwd dX7_perform_20
abbrev ww_X7_stopped (cI cC : ClassId) (oT oT_s oT_aside oT_states oT_snapshot oT_text oT_serves oT_took oT_tookMany oT_helps oT_before oT_read : Nat) (T_thrown : Int32) (T_stateMany : Int32) (T_hasSnapshot : Int32) (T_length : Int32) (T_stopNumber : Int32) (T_stopError : Int32) (T_at : Int32) (T_isWell : Int32) (T_readMany : Int32) : va_W := [(oT, .inr (7, [.int T_thrown, .ref oT_s, .ref oT_aside, .ref oT_states, .int T_stateMany, .ref oT_snapshot, .int T_hasSnapshot, .ref oT_text, .int T_length, .int T_stopNumber, .int T_stopError, .ref oT_serves, .ref oT_took, .ref oT_tookMany, .ref oT_helps, .ref oT_before, .int T_at, .int T_isWell, .ref oT_read, .int T_readMany]))]
abbrev rm_X7_stopped : Room := { frames := 1, cells := 0, slots := 0, locals := 22 }
theorem ic_X7_stopped_X7 : ∀ w ∈ u_ws RX7 TX7 20, w ∈ wsX7_stopped := by
  intro w h
  simp only [wsX7_stopped, List.mem_cons, List.mem_append]
  simp only [h, or_true, true_or]
def wp_X7_stopped (T_thrown : Int32) (T_stopNumber : Int32) (T_stopError : Int32) (x1 : Int32) (Q : Int32 → Int32 → Prop) : Prop := wp_X7_in x1 (nI 0) (nI 1) (fun r1 => ((¬ r1 = 0 → ((T_stopNumber = (-5) → Q T_stopNumber (nI 0)) ∧ (¬ T_stopNumber = (-5) → ((¬ x1 = 0 → Q T_stopError (nI 0)) ∧ (x1 = 0 → Q T_stopNumber (nI 0)))))) ∧ (r1 = 0 → Q (-2) (nI 0))))
set_option maxRecDepth 100000 in
set_option maxHeartbeats 4000000 in
theorem c_X7_stopped (l : Launch) {D : va_G} {cI cC cR : ClassId} (oT oT_s oT_aside oT_states oT_snapshot oT_text oT_serves oT_took oT_tookMany oT_helps oT_before oT_read : Nat) (sz : Nat) (T_thrown : Int32) (T_stateMany : Int32) (T_hasSnapshot : Int32) (T_length : Int32) (T_stopNumber : Int32) (T_stopError : Int32) (T_at : Int32) (T_isWell : Int32) (T_readMany : Int32) (x1 : Int32) {Q : Int32 → Int32 → Prop} (hw : wp_X7_stopped T_thrown T_stopNumber T_stopError x1 Q) : Met l yX7_stopped wsX7_stopped rm_X7_stopped (PcW D cI cC cR [.ref oT, .int x1] (ww_X7_stopped cI cC oT oT_s oT_aside oT_states oT_snapshot oT_text oT_serves oT_took oT_tookMany oT_helps oT_before oT_read T_thrown T_stateMany T_hasSnapshot T_length T_stopNumber T_stopError T_at T_isWell T_readMany) sz) (QiW D (fun (r : Int32) (u : Int32) => Q r u) (fun u => (ww_X7_stopped cI cC oT oT_s oT_aside oT_states oT_snapshot oT_text oT_serves oT_took oT_tookMany oT_helps oT_before oT_read u T_stateMany T_hasSnapshot T_length T_stopNumber T_stopError T_at T_isWell T_readMany)) (ww_X7_stopped cI cC oT oT_s oT_aside oT_states oT_snapshot oT_text oT_serves oT_took oT_tookMany oT_helps oT_before oT_read T_thrown T_stateMany T_hasSnapshot T_length T_stopNumber T_stopError T_at T_isWell T_readMany) sz) 0 0 (va_A (ww_X7_stopped cI cC oT oT_s oT_aside oT_states oT_snapshot oT_text oT_serves oT_took oT_tookMany oT_helps oT_before oT_read T_thrown T_stateMany T_hasSnapshot T_length T_stopNumber T_stopError T_at T_isWell T_readMany) sz) := by
  refine Met.ofW (cc := cX7_stopped) (maxL := 2) (ret := (some .int)) (by decide) rfl ?_
  intro p e s m args below meth c s₁ B hml hv
  obtain ⟨rfl, hsz, hP, hKw, hD0⟩ := hv
  have hlocks := B.notSynchronized
  subst hsz
  have hD := hD0.self (sz := s.heap.size)
  have CX : cx cX7_stopped (some .int) 2 RX7 wsX7_stopped p m meth c s ([.ref oT, .int x1] : List Value).toArray D cI cC cR (va_A (ww_X7_stopped cI cC oT oT_s oT_aside oT_states oT_snapshot oT_text oT_serves oT_took oT_tookMany oT_helps oT_before oT_read T_thrown T_stateMany T_hasSnapshot T_length T_stopNumber T_stopError T_at T_isWell T_readMany) s.heap.size) := ⟨B.exec, B.bytes, B.returns, hml, atoms_spec (ws := wsX7_stopped) B.pre, findClass_of_methodNamed B.named, hlocks, hKw, fun q h => Or.inr h⟩
  obtain ⟨hx, hb, hr, -, hts, hown, -, -, hA⟩ := id CX
  have hwd : wd D (va_A (ww_X7_stopped cI cC oT oT_s oT_aside oT_states oT_snapshot oT_text oT_serves oT_took oT_tookMany oT_helps oT_before oT_read T_thrown T_stateMany T_hasSnapshot T_length T_stopNumber T_stopError T_at T_isWell T_readMany) s.heap.size) s (ww_X7_stopped cI cC oT oT_s oT_aside oT_states oT_snapshot oT_text oT_serves oT_took oT_tookMany oT_helps oT_before oT_read T_thrown T_stateMany T_hasSnapshot T_length T_stopNumber T_stopError T_at T_isWell T_readMany) s.heap [] := ⟨hP, hD, va_S.rf⟩
  have hl := lv_entry ([.ref oT, .int x1]) (n := 2) (Nat.le_of_ble_eq_true rfl)
  rw [lg_entry_eq]
  generalize (lg_sl ([.ref oT, .int x1]) ++ List.replicate (2 - (lg_sl ([.ref oT, .int x1])).length) Slot.unset).toArray = ls at hl ⊢
  have hl : lv_has ls 2 [(0, .ref oT), (1, .int x1)] := hl
  have HR : ∀ (r : Int32) (u0 : Int32) {H : Heap} {locs : List Loc} {ls : Array Slot} {pc : Nat}, Q r u0 → wd D (va_A (ww_X7_stopped cI cC oT oT_s oT_aside oT_states oT_snapshot oT_text oT_serves oT_took oT_tookMany oT_helps oT_before oT_read T_thrown T_stateMany T_hasSnapshot T_length T_stopNumber T_stopError T_at T_isWell T_readMany) s.heap.size) s (ww_X7_stopped cI cC oT oT_s oT_aside oT_states oT_snapshot oT_text oT_serves oT_took oT_tookMany oT_helps oT_before oT_read u0 T_stateMany T_hasSnapshot T_length T_stopNumber T_stopError T_at T_isWell T_readMany) H locs → decode cX7_stopped pc = .ok (.ireturn, 1) → W p l e (headSpec wsX7_stopped rm_X7_stopped).room s m ([.ref oT, .int x1] : List Value).toArray below meth c H locs 0 0 (MQ below (QiW D (fun (r : Int32) (u : Int32) => Q r u) (fun u => (ww_X7_stopped cI cC oT oT_s oT_aside oT_states oT_snapshot oT_text oT_serves oT_took oT_tookMany oT_helps oT_before oT_read u T_stateMany T_hasSnapshot T_length T_stopNumber T_stopError T_at T_isWell T_readMany)) (ww_X7_stopped cI cC oT oT_s oT_aside oT_states oT_snapshot oT_text oT_serves oT_took oT_tookMany oT_helps oT_before oT_read T_thrown T_stateMany T_hasSnapshot T_length T_stopNumber T_stopError T_at T_isWell T_readMany) s.heap.size) ([.ref oT, .int x1] : List Value).toArray s 0 0 (va_A (ww_X7_stopped cI cC oT oT_s oT_aside oT_states oT_snapshot oT_text oT_serves oT_took oT_tookMany oT_helps oT_before oT_read T_thrown T_stateMany T_hasSnapshot T_length T_stopNumber T_stopError T_at T_isWell T_readMany) s.heap.size)) (F0 m pc ls [.int r]) := by
    intro r u0 H locs ls pc hq hw9 hd9
    exact W.iret (v := r) hx hb hr (fun t ht hW => ⟨⟨r, u0, rfl, hq, by rw [ht]; exact hw9.1, hw9.2.1⟩, hw9.2.2.F ht⟩) hw9.2.2.2.2 hd9
  unfold wp_X7_stopped at hw
  refine lv_aload_n hx hb dX7_stopped_0 rfl (lv_at hl 0 rfl) ?_
  refine lv_iconst (v := (nI 0)) hx hb dX7_stopped_1 rfl ?_
  refine va_put (D := D) (ci := 7) (v := .int (nI 0)) (ty := .int) (C := RX7) (T := TX7) (N := 20) hx hb hts ic_X7_stopped_X7 tyX7 tyX7_ok nmX7 hown hKw.1 hwd.1 hwd.2.1 hwd.2.2 0 rfl rfl 0 (by decide) (hts (.fieldLink RX7 43 "DrillWardensModel" "thrown" "I") (List.mem_of_getElem? (i := 1) rfl)) (fun _ h9 => h9) rfl (tyX7_ok 0 (by decide)) rfl rfl (Nat.le_of_ble_eq_true rfl) dX7_stopped_2 (fun H locs h1 h2 h3 => ?_)
  replace hwd : wd D (va_A (ww_X7_stopped cI cC oT oT_s oT_aside oT_states oT_snapshot oT_text oT_serves oT_took oT_tookMany oT_helps oT_before oT_read T_thrown T_stateMany T_hasSnapshot T_length T_stopNumber T_stopError T_at T_isWell T_readMany) s.heap.size) s (ww_X7_stopped cI cC oT oT_s oT_aside oT_states oT_snapshot oT_text oT_serves oT_took oT_tookMany oT_helps oT_before oT_read (nI 0) T_stateMany T_hasSnapshot T_length T_stopNumber T_stopError T_at T_isWell T_readMany) H locs := ⟨h1, h2, h3⟩
  clear h1 h2 h3
  refine lv_iload_n hx hb dX7_stopped_5 rfl (lv_at hl 1 rfl) ?_
  refine lv_iconst (v := (nI 0)) hx hb dX7_stopped_6 rfl ?_
  refine lv_iconst (v := (nI 1)) hx hb dX7_stopped_7 rfl ?_
  refine kcSi (rest := []) (As := [.int x1, .int (nI 0), .int (nI 1)]) ⟨Nat.le_of_ble_eq_true rfl, Nat.le_of_ble_eq_true rfl⟩ ⟨hx, hb, hml, hown, hts⟩ (c_X7_in l H.size x1 (nI 0) (nI 1) hw) (va_cwS 3 hts gX7_stopped_X7_in rfl rfl rfl hd_X7_in ⟨Nat.le_of_ble_eq_true rfl, Nat.le_of_ble_eq_true rfl⟩) hKw hA hwd rfl hl.1 rfl (lv_room (Nat.le_of_ble_eq_true rfl)) dX7_stopped_8 (fun r1 H locs hw hwd => ?_)
  try dsimp only at hw
  refine lv_if_ne (tgt := 17) hx hb dX7_stopped_11 (by decide) (fun c2 => ?_) (fun c2 => ?_)
  · replace hw := hw.1 c2
    refine lv_aload_n hx hb dX7_stopped_17 rfl (lv_at hl 0 rfl) ?_
    refine va_get (D := D) (ci := 7) (v := .int T_stopNumber) (C := RX7) (T := TX7) (N := 20) hx hb hts ic_X7_stopped_X7 hown hKw.1 hwd.1 0 rfl rfl 9 (by decide) (hts (.fieldLink RX7 47 "DrillWardensModel" "stopNumber" "I") (List.mem_of_getElem? (i := 2) rfl)) (fun _ h9 => h9) rfl dX7_stopped_18 ?_
    refine lv_bipush (v := (-5)) hx hb dX7_stopped_21 rfl ?_
    refine lv_icmp_eq (tgt := 30) hx hb dX7_stopped_23 (by decide) (fun c3 => ?_) (fun c3 => ?_)
    · replace hw := hw.1 c3
      refine lv_aload_n hx hb dX7_stopped_30 rfl (lv_at hl 0 rfl) ?_
      refine va_get (D := D) (ci := 7) (v := .int T_stopNumber) (C := RX7) (T := TX7) (N := 20) hx hb hts ic_X7_stopped_X7 hown hKw.1 hwd.1 0 rfl rfl 9 (by decide) (hts (.fieldLink RX7 47 "DrillWardensModel" "stopNumber" "I") (List.mem_of_getElem? (i := 2) rfl)) (fun _ h9 => h9) rfl dX7_stopped_31 ?_
      refine lv_goto (tgt := 41) hx hb dX7_stopped_34 (by decide) ?_
      exact HR T_stopNumber (nI 0) hw hwd dX7_stopped_41
    · replace hw := hw.2 c3
      refine lv_iload_n hx hb dX7_stopped_26 rfl (lv_at hl 1 rfl) ?_
      refine lv_if_ne (tgt := 37) hx hb dX7_stopped_27 (by decide) (fun c4 => ?_) (fun c4 => ?_)
      · replace hw := hw.1 c4
        refine lv_aload_n hx hb dX7_stopped_37 rfl (lv_at hl 0 rfl) ?_
        refine va_get (D := D) (ci := 7) (v := .int T_stopError) (C := RX7) (T := TX7) (N := 20) hx hb hts ic_X7_stopped_X7 hown hKw.1 hwd.1 0 rfl rfl 10 (by decide) (hts (.fieldLink RX7 200 "DrillWardensModel" "stopError" "I") (List.mem_of_getElem? (i := 3) rfl)) (fun _ h9 => h9) rfl dX7_stopped_38 ?_
        exact HR T_stopError (nI 0) hw hwd dX7_stopped_41
      · replace hw := hw.2 c4
        refine lv_aload_n hx hb dX7_stopped_30 rfl (lv_at hl 0 rfl) ?_
        refine va_get (D := D) (ci := 7) (v := .int T_stopNumber) (C := RX7) (T := TX7) (N := 20) hx hb hts ic_X7_stopped_X7 hown hKw.1 hwd.1 0 rfl rfl 9 (by decide) (hts (.fieldLink RX7 47 "DrillWardensModel" "stopNumber" "I") (List.mem_of_getElem? (i := 2) rfl)) (fun _ h9 => h9) rfl dX7_stopped_31 ?_
        refine lv_goto (tgt := 41) hx hb dX7_stopped_34 (by decide) ?_
        exact HR T_stopNumber (nI 0) hw hwd dX7_stopped_41
  · replace hw := hw.2 c2
    refine lv_bipush (v := (-2)) hx hb dX7_stopped_14 rfl ?_
    exact HR (-2) (nI 0) hw hwd dX7_stopped_16
abbrev ww_X7_undo (cI cC : ClassId) (oT oT_s oT_aside oT_states oT_snapshot oT_text oT_serves oT_took oT_tookMany oT_helps oT_before oT_read : Nat) (T_thrown : Int32) (T_stateMany : Int32) (T_hasSnapshot : Int32) (T_length : Int32) (T_stopNumber : Int32) (T_stopError : Int32) (T_at : Int32) (T_isWell : Int32) (T_readMany : Int32) (T_s : Nat → Int32) (T_states : Nat → Int32) : va_W := [(oT, .inr (7, [.int T_thrown, .ref oT_s, .ref oT_aside, .ref oT_states, .int T_stateMany, .ref oT_snapshot, .int T_hasSnapshot, .ref oT_text, .int T_length, .int T_stopNumber, .int T_stopError, .ref oT_serves, .ref oT_took, .ref oT_tookMany, .ref oT_helps, .ref oT_before, .int T_at, .int T_isWell, .ref oT_read, .int T_readMany])), (oT_s, .inl (cI, 474, .inl T_s)), (oT_states, .inl (cI, 1896, .inl T_states))]
abbrev rm_X7_undo : Room := { frames := 0, cells := 0, slots := 0, locals := 0 }
theorem ic_X7_undo_X7 : ∀ w ∈ u_ws RX7 TX7 20, w ∈ wsX7_undo := by
  intro w h
  simp only [wsX7_undo, List.mem_cons, List.mem_append]
  simp only [h, or_true, true_or]
def wb_X7_undo_27 (T_stateMany : Int32) (T_states : Nat → Int32) (K_61 : (Nat → Int32) → Prop) : Nat → (Nat → Int32) → Int32 → Prop
  | 0, _, _ => False
  | n + 1, T_s, x1 => (((nI 474) ≤ x1 → K_61 T_s) ∧ (¬ (nI 474) ≤ x1 → vp_in (((nI 474) * T_stateMany) + x1) 1896 ∧ vp_in x1 474 ∧ ∀ T_s2, T_s2 = upd T_s x1.toNatClampNeg (T_states (((nI 474) * T_stateMany) + x1).toNatClampNeg) → ∀ x1_3, x1_3 = x1 + (nI 1) → wb_X7_undo_27 T_stateMany T_states K_61 n T_s2 x1_3))
set_option maxRecDepth 100000 in
set_option maxHeartbeats 4000000 in
theorem blk_X7_undo_27 {p : Program} {l : Launch} {e : Env} {s : State} {m : MethodId} {args : Array Value} {below : List Frame} {meth : Method} {c : Code} {D : va_G} {cI cC cR : ClassId} {A : Nat → Prop} {Z : State → Prop} (CX : cx cX7_undo (some .int) 2 RX7 wsX7_undo p m meth c s args D cI cC cR A) (oT oT_s oT_aside oT_states oT_snapshot oT_text oT_serves oT_took oT_tookMany oT_helps oT_before oT_read : Nat) (T_thrown : Int32) (T_stateMany : Int32) (T_hasSnapshot : Int32) (T_length : Int32) (T_stopNumber : Int32) (T_stopError : Int32) (T_at : Int32) (T_isWell : Int32) (T_readMany : Int32) (T_states : Nat → Int32) {K_61 : (Nat → Int32) → Prop} {Q : Int32 → Int32 → Int32 → (Nat → Int32) → Prop} (HR : ∀ (r : Int32) (u0 : Int32) (u1 : Int32) (u2 : Nat → Int32) {H : Heap} {locs : List Loc} {ls : Array Slot} {pc : Nat}, Q r u0 u1 u2 → wd D A s (ww_X7_undo cI cC oT oT_s oT_aside oT_states oT_snapshot oT_text oT_serves oT_took oT_tookMany oT_helps oT_before oT_read u0 u1 T_hasSnapshot T_length T_stopNumber T_stopError T_at T_isWell T_readMany u2 T_states) H locs → decode cX7_undo pc = .ok (.ireturn, 1) → W p l e (headSpec wsX7_undo rm_X7_undo).room s m args below meth c H locs 0 0 Z (F0 m pc ls [.int r])) (HK_61 : ∀ (T_sy : Nat → Int32), K_61 T_sy → ∀ (H : Heap) (locs : List Loc) (ls : Array Slot), wd D A s (ww_X7_undo cI cC oT oT_s oT_aside oT_states oT_snapshot oT_text oT_serves oT_took oT_tookMany oT_helps oT_before oT_read T_thrown T_stateMany T_hasSnapshot T_length T_stopNumber T_stopError T_at T_isWell T_readMany T_sy T_states) H locs → lv_has ls 2 [(0, .ref oT)] → W p l e (headSpec wsX7_undo rm_X7_undo).room s m args below meth c H locs 0 0 Z (F0 m 61 ls [])) : ∀ (n : Nat) (T_s : Nat → Int32) (x1 : Int32), wb_X7_undo_27 T_stateMany T_states K_61 n T_s x1 → ∀ (H : Heap) (locs : List Loc) (ls : Array Slot), wd D A s (ww_X7_undo cI cC oT oT_s oT_aside oT_states oT_snapshot oT_text oT_serves oT_took oT_tookMany oT_helps oT_before oT_read T_thrown T_stateMany T_hasSnapshot T_length T_stopNumber T_stopError T_at T_isWell T_readMany T_s T_states) H locs → lv_has ls 2 [(0, .ref oT), (1, .int x1)] → W p l e (headSpec wsX7_undo rm_X7_undo).room s m args below meth c H locs 0 0 Z (F0 m 27 ls []) := by
  obtain ⟨hx, hb, hr, hml, hts, hown, hlocks, hKw, hA⟩ := id CX
  intro n
  induction n with
  | zero => intro T_s x1 hw; exact False.elim hw
  | succ n ih =>
    intro T_s x1 hw H locs ls hwd hl
    rw [wb_X7_undo_27] at hw
    refine lv_iload_n hx hb dX7_undo_27 rfl (lv_at hl 1 rfl) ?_
    refine lv_sipush (v := (nI 474)) hx hb dX7_undo_28 rfl ?_
    refine lv_icmp_ge (tgt := 61) hx hb dX7_undo_31 (by decide) (fun c1 => ?_) (fun c1 => ?_)
    · replace hw := hw.1 c1
      exact HK_61 T_s hw _ _ _ hwd (lv_sub hl [0] rfl)
    · replace hw := hw.2 c1
      refine lv_aload_n hx hb dX7_undo_34 rfl (lv_at hl 0 rfl) ?_
      refine va_get (D := D) (ci := 7) (v := .ref oT_s) (C := RX7) (T := TX7) (N := 20) hx hb hts ic_X7_undo_X7 hown hKw.1 hwd.1 0 rfl rfl 1 (by decide) (hts (.fieldLink RX7 7 "DrillWardensModel" "s" "[I") (List.mem_of_getElem? (i := 3) rfl)) (fun _ h9 => h9) rfl dX7_undo_35 ?_
      refine lv_iload_n hx hb dX7_undo_38 rfl (lv_at hl 1 rfl) ?_
      refine lv_aload_n hx hb dX7_undo_39 rfl (lv_at hl 0 rfl) ?_
      refine va_get (D := D) (ci := 7) (v := .ref oT_states) (C := RX7) (T := TX7) (N := 20) hx hb hts ic_X7_undo_X7 hown hKw.1 hwd.1 0 rfl rfl 3 (by decide) (hts (.fieldLink RX7 16 "DrillWardensModel" "states" "[I") (List.mem_of_getElem? (i := 4) rfl)) (fun _ h9 => h9) rfl dX7_undo_40 ?_
      refine lv_sipush (v := (nI 474)) hx hb dX7_undo_43 rfl ?_
      refine lv_aload_n hx hb dX7_undo_46 rfl (lv_at hl 0 rfl) ?_
      refine va_get (D := D) (ci := 7) (v := .int T_stateMany) (C := RX7) (T := TX7) (N := 20) hx hb hts ic_X7_undo_X7 hown hKw.1 hwd.1 0 rfl rfl 4 (by decide) (hts (.fieldLink RX7 58 "DrillWardensModel" "stateMany" "I") (List.mem_of_getElem? (i := 2) rfl)) (fun _ h9 => h9) rfl dX7_undo_47 ?_
      refine lv_imul hx hb dX7_undo_50 ?_
      refine lv_iload_n hx hb dX7_undo_51 rfl (lv_at hl 1 rfl) ?_
      refine lv_iadd hx hb dX7_undo_52 ?_
      refine va_iald hx hb hKw.1 hwd.1 2 0 rfl rfl hw.1 dX7_undo_53 ?_
      replace hw := hw.2
      obtain ⟨T_s2, e_T_s2⟩ : ∃ y : Nat → Int32, y = upd T_s x1.toNatClampNeg (T_states (((nI 474) * T_stateMany) + x1).toNatClampNeg) := ⟨_, rfl⟩
      refine va_iast hx hb hKw.1 hwd.1 hwd.2.1 hwd.2.2 1 0 rfl rfl hw.1 dX7_undo_54 (fun H locs h1 h2 h3 => ?_)
      replace hw := hw.2 T_s2 e_T_s2
      rw [← e_T_s2] at h1 h2
      replace hwd : wd D A s (ww_X7_undo cI cC oT oT_s oT_aside oT_states oT_snapshot oT_text oT_serves oT_took oT_tookMany oT_helps oT_before oT_read T_thrown T_stateMany T_hasSnapshot T_length T_stopNumber T_stopError T_at T_isWell T_readMany T_s2 T_states) H locs := ⟨h1, h2, h3⟩
      clear h1 h2 h3
      obtain ⟨x1_3, e_x1_3⟩ : ∃ y : Int32, y = x1 + (nI 1) := ⟨_, rfl⟩
      replace hw := hw x1_3 e_x1_3
      refine lv_iinc (v := x1_3) (lv' := [(1, .int x1_3), (0, .ref oT)]) hx hb dX7_undo_55 hl (k := 1) rfl (by rw [e_x1_3]; rfl) (by decide) rfl (fun ls hl => ?_)
      refine lv_goto (tgt := 27) hx hb dX7_undo_58 (by decide) ?_
      exact ih T_s2 x1_3 hw _ _ _ hwd (lv_sub hl [1, 0] rfl)
def wp_X7_undo (T_thrown : Int32) (T_stateMany : Int32) (T_s : Nat → Int32) (T_states : Nat → Int32) (Q : Int32 → Int32 → Int32 → (Nat → Int32) → Prop) : Prop := ((¬ T_stateMany = 0 → ∀ T_stateMany2, T_stateMany2 = T_stateMany - (nI 1) → (∃ n3, wb_X7_undo_27 T_stateMany2 T_states (fun T_s4 => Q T_stateMany2 (nI 0) T_stateMany2 T_s4) n3 T_s (nI 0))) ∧ (T_stateMany = 0 → Q (-5) (nI 0) T_stateMany T_s))
set_option maxRecDepth 100000 in
set_option maxHeartbeats 4000000 in
theorem c_X7_undo (l : Launch) {D : va_G} {cI cC cR : ClassId} (oT oT_s oT_aside oT_states oT_snapshot oT_text oT_serves oT_took oT_tookMany oT_helps oT_before oT_read : Nat) (sz : Nat) (T_thrown : Int32) (T_stateMany : Int32) (T_hasSnapshot : Int32) (T_length : Int32) (T_stopNumber : Int32) (T_stopError : Int32) (T_at : Int32) (T_isWell : Int32) (T_readMany : Int32) (T_s : Nat → Int32) (T_states : Nat → Int32) {Q : Int32 → Int32 → Int32 → (Nat → Int32) → Prop} (hw : wp_X7_undo T_thrown T_stateMany T_s T_states Q) : Met l yX7_undo wsX7_undo rm_X7_undo (PcW D cI cC cR [.ref oT] (ww_X7_undo cI cC oT oT_s oT_aside oT_states oT_snapshot oT_text oT_serves oT_took oT_tookMany oT_helps oT_before oT_read T_thrown T_stateMany T_hasSnapshot T_length T_stopNumber T_stopError T_at T_isWell T_readMany T_s T_states) sz) (QiW D (fun (r : Int32) (u : Int32 × Int32 × (Nat → Int32)) => Q r u.1 u.2.1 u.2.2) (fun u => (ww_X7_undo cI cC oT oT_s oT_aside oT_states oT_snapshot oT_text oT_serves oT_took oT_tookMany oT_helps oT_before oT_read (u.1) (u.2.1) T_hasSnapshot T_length T_stopNumber T_stopError T_at T_isWell T_readMany (u.2.2) T_states)) (ww_X7_undo cI cC oT oT_s oT_aside oT_states oT_snapshot oT_text oT_serves oT_took oT_tookMany oT_helps oT_before oT_read T_thrown T_stateMany T_hasSnapshot T_length T_stopNumber T_stopError T_at T_isWell T_readMany T_s T_states) sz) 0 0 (va_A (ww_X7_undo cI cC oT oT_s oT_aside oT_states oT_snapshot oT_text oT_serves oT_took oT_tookMany oT_helps oT_before oT_read T_thrown T_stateMany T_hasSnapshot T_length T_stopNumber T_stopError T_at T_isWell T_readMany T_s T_states) sz) := by
  refine Met.ofW (cc := cX7_undo) (maxL := 2) (ret := (some .int)) (by decide) rfl ?_
  intro p e s m args below meth c s₁ B hml hv
  obtain ⟨rfl, hsz, hP, hKw, hD0⟩ := hv
  have hlocks := B.notSynchronized
  subst hsz
  have hD := hD0.self (sz := s.heap.size)
  have CX : cx cX7_undo (some .int) 2 RX7 wsX7_undo p m meth c s ([.ref oT] : List Value).toArray D cI cC cR (va_A (ww_X7_undo cI cC oT oT_s oT_aside oT_states oT_snapshot oT_text oT_serves oT_took oT_tookMany oT_helps oT_before oT_read T_thrown T_stateMany T_hasSnapshot T_length T_stopNumber T_stopError T_at T_isWell T_readMany T_s T_states) s.heap.size) := ⟨B.exec, B.bytes, B.returns, hml, atoms_spec (ws := wsX7_undo) B.pre, findClass_of_methodNamed B.named, hlocks, hKw, fun q h => Or.inr h⟩
  obtain ⟨hx, hb, hr, -, hts, hown, -, -, hA⟩ := id CX
  have hwd : wd D (va_A (ww_X7_undo cI cC oT oT_s oT_aside oT_states oT_snapshot oT_text oT_serves oT_took oT_tookMany oT_helps oT_before oT_read T_thrown T_stateMany T_hasSnapshot T_length T_stopNumber T_stopError T_at T_isWell T_readMany T_s T_states) s.heap.size) s (ww_X7_undo cI cC oT oT_s oT_aside oT_states oT_snapshot oT_text oT_serves oT_took oT_tookMany oT_helps oT_before oT_read T_thrown T_stateMany T_hasSnapshot T_length T_stopNumber T_stopError T_at T_isWell T_readMany T_s T_states) s.heap [] := ⟨hP, hD, va_S.rf⟩
  have hl := lv_entry ([.ref oT]) (n := 2) (Nat.le_of_ble_eq_true rfl)
  rw [lg_entry_eq]
  generalize (lg_sl ([.ref oT]) ++ List.replicate (2 - (lg_sl ([.ref oT])).length) Slot.unset).toArray = ls at hl ⊢
  have hl : lv_has ls 2 [(0, .ref oT)] := hl
  have HR : ∀ (r : Int32) (u0 : Int32) (u1 : Int32) (u2 : Nat → Int32) {H : Heap} {locs : List Loc} {ls : Array Slot} {pc : Nat}, Q r u0 u1 u2 → wd D (va_A (ww_X7_undo cI cC oT oT_s oT_aside oT_states oT_snapshot oT_text oT_serves oT_took oT_tookMany oT_helps oT_before oT_read T_thrown T_stateMany T_hasSnapshot T_length T_stopNumber T_stopError T_at T_isWell T_readMany T_s T_states) s.heap.size) s (ww_X7_undo cI cC oT oT_s oT_aside oT_states oT_snapshot oT_text oT_serves oT_took oT_tookMany oT_helps oT_before oT_read u0 u1 T_hasSnapshot T_length T_stopNumber T_stopError T_at T_isWell T_readMany u2 T_states) H locs → decode cX7_undo pc = .ok (.ireturn, 1) → W p l e (headSpec wsX7_undo rm_X7_undo).room s m ([.ref oT] : List Value).toArray below meth c H locs 0 0 (MQ below (QiW D (fun (r : Int32) (u : Int32 × Int32 × (Nat → Int32)) => Q r u.1 u.2.1 u.2.2) (fun u => (ww_X7_undo cI cC oT oT_s oT_aside oT_states oT_snapshot oT_text oT_serves oT_took oT_tookMany oT_helps oT_before oT_read (u.1) (u.2.1) T_hasSnapshot T_length T_stopNumber T_stopError T_at T_isWell T_readMany (u.2.2) T_states)) (ww_X7_undo cI cC oT oT_s oT_aside oT_states oT_snapshot oT_text oT_serves oT_took oT_tookMany oT_helps oT_before oT_read T_thrown T_stateMany T_hasSnapshot T_length T_stopNumber T_stopError T_at T_isWell T_readMany T_s T_states) s.heap.size) ([.ref oT] : List Value).toArray s 0 0 (va_A (ww_X7_undo cI cC oT oT_s oT_aside oT_states oT_snapshot oT_text oT_serves oT_took oT_tookMany oT_helps oT_before oT_read T_thrown T_stateMany T_hasSnapshot T_length T_stopNumber T_stopError T_at T_isWell T_readMany T_s T_states) s.heap.size)) (F0 m pc ls [.int r]) := by
    intro r u0 u1 u2 H locs ls pc hq hw9 hd9
    exact W.iret (v := r) hx hb hr (fun t ht hW => ⟨⟨r, (u0, u1, u2), rfl, hq, by rw [ht]; exact hw9.1, hw9.2.1⟩, hw9.2.2.F ht⟩) hw9.2.2.2.2 hd9
  unfold wp_X7_undo at hw
  refine lv_aload_n hx hb dX7_undo_0 rfl (lv_at hl 0 rfl) ?_
  refine lv_iconst (v := (nI 0)) hx hb dX7_undo_1 rfl ?_
  refine va_put (D := D) (ci := 7) (v := .int (nI 0)) (ty := .int) (C := RX7) (T := TX7) (N := 20) hx hb hts ic_X7_undo_X7 tyX7 tyX7_ok nmX7 hown hKw.1 hwd.1 hwd.2.1 hwd.2.2 0 rfl rfl 0 (by decide) (hts (.fieldLink RX7 43 "DrillWardensModel" "thrown" "I") (List.mem_of_getElem? (i := 1) rfl)) (fun _ h9 => h9) rfl (tyX7_ok 0 (by decide)) rfl rfl (Nat.le_of_ble_eq_true rfl) dX7_undo_2 (fun H locs h1 h2 h3 => ?_)
  replace hwd : wd D (va_A (ww_X7_undo cI cC oT oT_s oT_aside oT_states oT_snapshot oT_text oT_serves oT_took oT_tookMany oT_helps oT_before oT_read T_thrown T_stateMany T_hasSnapshot T_length T_stopNumber T_stopError T_at T_isWell T_readMany T_s T_states) s.heap.size) s (ww_X7_undo cI cC oT oT_s oT_aside oT_states oT_snapshot oT_text oT_serves oT_took oT_tookMany oT_helps oT_before oT_read (nI 0) T_stateMany T_hasSnapshot T_length T_stopNumber T_stopError T_at T_isWell T_readMany T_s T_states) H locs := ⟨h1, h2, h3⟩
  clear h1 h2 h3
  refine lv_aload_n hx hb dX7_undo_5 rfl (lv_at hl 0 rfl) ?_
  refine va_get (D := D) (ci := 7) (v := .int T_stateMany) (C := RX7) (T := TX7) (N := 20) hx hb hts ic_X7_undo_X7 hown hKw.1 hwd.1 0 rfl rfl 4 (by decide) (hts (.fieldLink RX7 58 "DrillWardensModel" "stateMany" "I") (List.mem_of_getElem? (i := 2) rfl)) (fun _ h9 => h9) rfl dX7_undo_6 ?_
  refine lv_if_ne (tgt := 15) hx hb dX7_undo_9 (by decide) (fun c1 => ?_) (fun c1 => ?_)
  · replace hw := hw.1 c1
    refine lv_aload_n hx hb dX7_undo_15 rfl (lv_at hl 0 rfl) ?_
    refine lv_dup hx hb dX7_undo_16 rfl ?_
    refine va_get (D := D) (ci := 7) (v := .int T_stateMany) (C := RX7) (T := TX7) (N := 20) hx hb hts ic_X7_undo_X7 hown hKw.1 hwd.1 0 rfl rfl 4 (by decide) (hts (.fieldLink RX7 58 "DrillWardensModel" "stateMany" "I") (List.mem_of_getElem? (i := 2) rfl)) (fun _ h9 => h9) rfl dX7_undo_17 ?_
    refine lv_iconst (v := (nI 1)) hx hb dX7_undo_20 rfl ?_
    refine lv_isub hx hb dX7_undo_21 ?_
    refine lv_topi (fun T_stateMany2 e_T_stateMany2 => ?_)
    replace hw := hw T_stateMany2 e_T_stateMany2
    refine va_put (D := D) (ci := 7) (v := .int T_stateMany2) (ty := .int) (C := RX7) (T := TX7) (N := 20) hx hb hts ic_X7_undo_X7 tyX7 tyX7_ok nmX7 hown hKw.1 hwd.1 hwd.2.1 hwd.2.2 0 rfl rfl 4 (by decide) (hts (.fieldLink RX7 58 "DrillWardensModel" "stateMany" "I") (List.mem_of_getElem? (i := 2) rfl)) (fun _ h9 => h9) rfl (tyX7_ok 4 (by decide)) rfl rfl (Nat.le_of_ble_eq_true rfl) dX7_undo_22 (fun H locs h1 h2 h3 => ?_)
    replace hwd : wd D (va_A (ww_X7_undo cI cC oT oT_s oT_aside oT_states oT_snapshot oT_text oT_serves oT_took oT_tookMany oT_helps oT_before oT_read T_thrown T_stateMany T_hasSnapshot T_length T_stopNumber T_stopError T_at T_isWell T_readMany T_s T_states) s.heap.size) s (ww_X7_undo cI cC oT oT_s oT_aside oT_states oT_snapshot oT_text oT_serves oT_took oT_tookMany oT_helps oT_before oT_read (nI 0) T_stateMany2 T_hasSnapshot T_length T_stopNumber T_stopError T_at T_isWell T_readMany T_s T_states) H locs := ⟨h1, h2, h3⟩
    clear h1 h2 h3
    refine lv_iconst (v := (nI 0)) hx hb dX7_undo_25 rfl ?_
    refine lv_istore_n (lv' := [(1, .int (nI 0)), (0, .ref oT)]) hx hb dX7_undo_26 rfl hl (by decide) rfl (fun ls hl => ?_)
    obtain ⟨n3, hw⟩ := hw
    refine blk_X7_undo_27 (CX := CX) (oT := oT) (oT_s := oT_s) (oT_aside := oT_aside) (oT_states := oT_states) (oT_snapshot := oT_snapshot) (oT_text := oT_text) (oT_serves := oT_serves) (oT_took := oT_took) (oT_tookMany := oT_tookMany) (oT_helps := oT_helps) (oT_before := oT_before) (oT_read := oT_read) (T_thrown := (nI 0)) (T_stateMany := T_stateMany2) (T_hasSnapshot := T_hasSnapshot) (T_length := T_length) (T_stopNumber := T_stopNumber) (T_stopError := T_stopError) (T_at := T_at) (T_isWell := T_isWell) (T_readMany := T_readMany) (T_states := T_states) (HR := HR) (HK_61 := fun T_s4 hw H locs ls hwd hl => ?_) n3 T_s (nI 0) hw _ _ _ hwd (lv_sub hl [1, 0] rfl)
    try dsimp only at hw
    refine lv_aload_n hx hb dX7_undo_61 rfl (lv_at hl 0 rfl) ?_
    refine va_get (D := D) (ci := 7) (v := .int T_stateMany2) (C := RX7) (T := TX7) (N := 20) hx hb hts ic_X7_undo_X7 hown hKw.1 hwd.1 0 rfl rfl 4 (by decide) (hts (.fieldLink RX7 58 "DrillWardensModel" "stateMany" "I") (List.mem_of_getElem? (i := 2) rfl)) (fun _ h9 => h9) rfl dX7_undo_62 ?_
    exact HR T_stateMany2 (nI 0) T_stateMany2 T_s4 hw hwd dX7_undo_65
  · replace hw := hw.2 c1
    refine lv_bipush (v := (-5)) hx hb dX7_undo_12 rfl ?_
    exact HR (-5) (nI 0) T_stateMany T_s hw hwd dX7_undo_14
abbrev ww_X7_keep (cI cC : ClassId) (oT oT_s oT_aside oT_states oT_snapshot oT_text oT_serves oT_took oT_tookMany oT_helps oT_before oT_read : Nat) (T_thrown : Int32) (T_stateMany : Int32) (T_hasSnapshot : Int32) (T_length : Int32) (T_stopNumber : Int32) (T_stopError : Int32) (T_at : Int32) (T_isWell : Int32) (T_readMany : Int32) (T_s : Nat → Int32) (T_snapshot : Nat → Int32) : va_W := [(oT, .inr (7, [.int T_thrown, .ref oT_s, .ref oT_aside, .ref oT_states, .int T_stateMany, .ref oT_snapshot, .int T_hasSnapshot, .ref oT_text, .int T_length, .int T_stopNumber, .int T_stopError, .ref oT_serves, .ref oT_took, .ref oT_tookMany, .ref oT_helps, .ref oT_before, .int T_at, .int T_isWell, .ref oT_read, .int T_readMany])), (oT_s, .inl (cI, 474, .inl T_s)), (oT_snapshot, .inl (cI, 474, .inl T_snapshot))]
abbrev rm_X7_keep : Room := { frames := 0, cells := 0, slots := 0, locals := 0 }
theorem ic_X7_keep_X7 : ∀ w ∈ u_ws RX7 TX7 20, w ∈ wsX7_keep := by
  intro w h
  simp only [wsX7_keep, List.mem_cons, List.mem_append]
  simp only [h, or_true, true_or]
def wb_X7_keep_7 (T_s : Nat → Int32) (K_32 : (Nat → Int32) → Prop) : Nat → (Nat → Int32) → Int32 → Prop
  | 0, _, _ => False
  | n + 1, T_snapshot, x1 => (((nI 474) ≤ x1 → K_32 T_snapshot) ∧ (¬ (nI 474) ≤ x1 → vp_in x1 474 ∧ vp_in x1 474 ∧ ∀ T_snapshot2, T_snapshot2 = upd T_snapshot x1.toNatClampNeg (T_s x1.toNatClampNeg) → ∀ x1_3, x1_3 = x1 + (nI 1) → wb_X7_keep_7 T_s K_32 n T_snapshot2 x1_3))
set_option maxRecDepth 100000 in
set_option maxHeartbeats 4000000 in
theorem blk_X7_keep_7 {p : Program} {l : Launch} {e : Env} {s : State} {m : MethodId} {args : Array Value} {below : List Frame} {meth : Method} {c : Code} {D : va_G} {cI cC cR : ClassId} {A : Nat → Prop} {Z : State → Prop} (CX : cx cX7_keep (some .int) 2 RX7 wsX7_keep p m meth c s args D cI cC cR A) (oT oT_s oT_aside oT_states oT_snapshot oT_text oT_serves oT_took oT_tookMany oT_helps oT_before oT_read : Nat) (T_thrown : Int32) (T_stateMany : Int32) (T_hasSnapshot : Int32) (T_length : Int32) (T_stopNumber : Int32) (T_stopError : Int32) (T_at : Int32) (T_isWell : Int32) (T_readMany : Int32) (T_s : Nat → Int32) {K_32 : (Nat → Int32) → Prop} {Q : Int32 → Int32 → Int32 → (Nat → Int32) → Prop} (HR : ∀ (r : Int32) (u0 : Int32) (u1 : Int32) (u2 : Nat → Int32) {H : Heap} {locs : List Loc} {ls : Array Slot} {pc : Nat}, Q r u0 u1 u2 → wd D A s (ww_X7_keep cI cC oT oT_s oT_aside oT_states oT_snapshot oT_text oT_serves oT_took oT_tookMany oT_helps oT_before oT_read u0 T_stateMany u1 T_length T_stopNumber T_stopError T_at T_isWell T_readMany T_s u2) H locs → decode cX7_keep pc = .ok (.ireturn, 1) → W p l e (headSpec wsX7_keep rm_X7_keep).room s m args below meth c H locs 0 0 Z (F0 m pc ls [.int r])) (HK_32 : ∀ (T_snapshoty : Nat → Int32), K_32 T_snapshoty → ∀ (H : Heap) (locs : List Loc) (ls : Array Slot), wd D A s (ww_X7_keep cI cC oT oT_s oT_aside oT_states oT_snapshot oT_text oT_serves oT_took oT_tookMany oT_helps oT_before oT_read T_thrown T_stateMany T_hasSnapshot T_length T_stopNumber T_stopError T_at T_isWell T_readMany T_s T_snapshoty) H locs → lv_has ls 2 [(0, .ref oT)] → W p l e (headSpec wsX7_keep rm_X7_keep).room s m args below meth c H locs 0 0 Z (F0 m 32 ls [])) : ∀ (n : Nat) (T_snapshot : Nat → Int32) (x1 : Int32), wb_X7_keep_7 T_s K_32 n T_snapshot x1 → ∀ (H : Heap) (locs : List Loc) (ls : Array Slot), wd D A s (ww_X7_keep cI cC oT oT_s oT_aside oT_states oT_snapshot oT_text oT_serves oT_took oT_tookMany oT_helps oT_before oT_read T_thrown T_stateMany T_hasSnapshot T_length T_stopNumber T_stopError T_at T_isWell T_readMany T_s T_snapshot) H locs → lv_has ls 2 [(0, .ref oT), (1, .int x1)] → W p l e (headSpec wsX7_keep rm_X7_keep).room s m args below meth c H locs 0 0 Z (F0 m 7 ls []) := by
  obtain ⟨hx, hb, hr, hml, hts, hown, hlocks, hKw, hA⟩ := id CX
  intro n
  induction n with
  | zero => intro T_snapshot x1 hw; exact False.elim hw
  | succ n ih =>
    intro T_snapshot x1 hw H locs ls hwd hl
    rw [wb_X7_keep_7] at hw
    refine lv_iload_n hx hb dX7_keep_7 rfl (lv_at hl 1 rfl) ?_
    refine lv_sipush (v := (nI 474)) hx hb dX7_keep_8 rfl ?_
    refine lv_icmp_ge (tgt := 32) hx hb dX7_keep_11 (by decide) (fun c1 => ?_) (fun c1 => ?_)
    · replace hw := hw.1 c1
      exact HK_32 T_snapshot hw _ _ _ hwd (lv_sub hl [0] rfl)
    · replace hw := hw.2 c1
      refine lv_aload_n hx hb dX7_keep_14 rfl (lv_at hl 0 rfl) ?_
      refine va_get (D := D) (ci := 7) (v := .ref oT_snapshot) (C := RX7) (T := TX7) (N := 20) hx hb hts ic_X7_keep_X7 hown hKw.1 hwd.1 0 rfl rfl 5 (by decide) (hts (.fieldLink RX7 19 "DrillWardensModel" "snapshot" "[I") (List.mem_of_getElem? (i := 2) rfl)) (fun _ h9 => h9) rfl dX7_keep_15 ?_
      refine lv_iload_n hx hb dX7_keep_18 rfl (lv_at hl 1 rfl) ?_
      refine lv_aload_n hx hb dX7_keep_19 rfl (lv_at hl 0 rfl) ?_
      refine va_get (D := D) (ci := 7) (v := .ref oT_s) (C := RX7) (T := TX7) (N := 20) hx hb hts ic_X7_keep_X7 hown hKw.1 hwd.1 0 rfl rfl 1 (by decide) (hts (.fieldLink RX7 7 "DrillWardensModel" "s" "[I") (List.mem_of_getElem? (i := 3) rfl)) (fun _ h9 => h9) rfl dX7_keep_20 ?_
      refine lv_iload_n hx hb dX7_keep_23 rfl (lv_at hl 1 rfl) ?_
      refine va_iald hx hb hKw.1 hwd.1 1 0 rfl rfl hw.1 dX7_keep_24 ?_
      replace hw := hw.2
      obtain ⟨T_snapshot2, e_T_snapshot2⟩ : ∃ y : Nat → Int32, y = upd T_snapshot x1.toNatClampNeg (T_s x1.toNatClampNeg) := ⟨_, rfl⟩
      refine va_iast hx hb hKw.1 hwd.1 hwd.2.1 hwd.2.2 2 0 rfl rfl hw.1 dX7_keep_25 (fun H locs h1 h2 h3 => ?_)
      replace hw := hw.2 T_snapshot2 e_T_snapshot2
      rw [← e_T_snapshot2] at h1 h2
      replace hwd : wd D A s (ww_X7_keep cI cC oT oT_s oT_aside oT_states oT_snapshot oT_text oT_serves oT_took oT_tookMany oT_helps oT_before oT_read T_thrown T_stateMany T_hasSnapshot T_length T_stopNumber T_stopError T_at T_isWell T_readMany T_s T_snapshot2) H locs := ⟨h1, h2, h3⟩
      clear h1 h2 h3
      obtain ⟨x1_3, e_x1_3⟩ : ∃ y : Int32, y = x1 + (nI 1) := ⟨_, rfl⟩
      replace hw := hw x1_3 e_x1_3
      refine lv_iinc (v := x1_3) (lv' := [(1, .int x1_3), (0, .ref oT)]) hx hb dX7_keep_26 hl (k := 1) rfl (by rw [e_x1_3]; rfl) (by decide) rfl (fun ls hl => ?_)
      refine lv_goto (tgt := 7) hx hb dX7_keep_29 (by decide) ?_
      exact ih T_snapshot2 x1_3 hw _ _ _ hwd (lv_sub hl [1, 0] rfl)
def wp_X7_keep (T_thrown : Int32) (T_hasSnapshot : Int32) (T_s : Nat → Int32) (T_snapshot : Nat → Int32) (Q : Int32 → Int32 → Int32 → (Nat → Int32) → Prop) : Prop := (∃ n1, wb_X7_keep_7 T_s (fun T_snapshot2 => vp_in (nI 3) 474 ∧ Q (T_s (nI 3).toNatClampNeg) (nI 0) (nI 1) T_snapshot2) n1 T_snapshot (nI 0))
set_option maxRecDepth 100000 in
set_option maxHeartbeats 4000000 in
theorem c_X7_keep (l : Launch) {D : va_G} {cI cC cR : ClassId} (oT oT_s oT_aside oT_states oT_snapshot oT_text oT_serves oT_took oT_tookMany oT_helps oT_before oT_read : Nat) (sz : Nat) (T_thrown : Int32) (T_stateMany : Int32) (T_hasSnapshot : Int32) (T_length : Int32) (T_stopNumber : Int32) (T_stopError : Int32) (T_at : Int32) (T_isWell : Int32) (T_readMany : Int32) (T_s : Nat → Int32) (T_snapshot : Nat → Int32) {Q : Int32 → Int32 → Int32 → (Nat → Int32) → Prop} (hw : wp_X7_keep T_thrown T_hasSnapshot T_s T_snapshot Q) : Met l yX7_keep wsX7_keep rm_X7_keep (PcW D cI cC cR [.ref oT] (ww_X7_keep cI cC oT oT_s oT_aside oT_states oT_snapshot oT_text oT_serves oT_took oT_tookMany oT_helps oT_before oT_read T_thrown T_stateMany T_hasSnapshot T_length T_stopNumber T_stopError T_at T_isWell T_readMany T_s T_snapshot) sz) (QiW D (fun (r : Int32) (u : Int32 × Int32 × (Nat → Int32)) => Q r u.1 u.2.1 u.2.2) (fun u => (ww_X7_keep cI cC oT oT_s oT_aside oT_states oT_snapshot oT_text oT_serves oT_took oT_tookMany oT_helps oT_before oT_read (u.1) T_stateMany (u.2.1) T_length T_stopNumber T_stopError T_at T_isWell T_readMany T_s (u.2.2))) (ww_X7_keep cI cC oT oT_s oT_aside oT_states oT_snapshot oT_text oT_serves oT_took oT_tookMany oT_helps oT_before oT_read T_thrown T_stateMany T_hasSnapshot T_length T_stopNumber T_stopError T_at T_isWell T_readMany T_s T_snapshot) sz) 0 0 (va_A (ww_X7_keep cI cC oT oT_s oT_aside oT_states oT_snapshot oT_text oT_serves oT_took oT_tookMany oT_helps oT_before oT_read T_thrown T_stateMany T_hasSnapshot T_length T_stopNumber T_stopError T_at T_isWell T_readMany T_s T_snapshot) sz) := by
  refine Met.ofW (cc := cX7_keep) (maxL := 2) (ret := (some .int)) (by decide) rfl ?_
  intro p e s m args below meth c s₁ B hml hv
  obtain ⟨rfl, hsz, hP, hKw, hD0⟩ := hv
  have hlocks := B.notSynchronized
  subst hsz
  have hD := hD0.self (sz := s.heap.size)
  have CX : cx cX7_keep (some .int) 2 RX7 wsX7_keep p m meth c s ([.ref oT] : List Value).toArray D cI cC cR (va_A (ww_X7_keep cI cC oT oT_s oT_aside oT_states oT_snapshot oT_text oT_serves oT_took oT_tookMany oT_helps oT_before oT_read T_thrown T_stateMany T_hasSnapshot T_length T_stopNumber T_stopError T_at T_isWell T_readMany T_s T_snapshot) s.heap.size) := ⟨B.exec, B.bytes, B.returns, hml, atoms_spec (ws := wsX7_keep) B.pre, findClass_of_methodNamed B.named, hlocks, hKw, fun q h => Or.inr h⟩
  obtain ⟨hx, hb, hr, -, hts, hown, -, -, hA⟩ := id CX
  have hwd : wd D (va_A (ww_X7_keep cI cC oT oT_s oT_aside oT_states oT_snapshot oT_text oT_serves oT_took oT_tookMany oT_helps oT_before oT_read T_thrown T_stateMany T_hasSnapshot T_length T_stopNumber T_stopError T_at T_isWell T_readMany T_s T_snapshot) s.heap.size) s (ww_X7_keep cI cC oT oT_s oT_aside oT_states oT_snapshot oT_text oT_serves oT_took oT_tookMany oT_helps oT_before oT_read T_thrown T_stateMany T_hasSnapshot T_length T_stopNumber T_stopError T_at T_isWell T_readMany T_s T_snapshot) s.heap [] := ⟨hP, hD, va_S.rf⟩
  have hl := lv_entry ([.ref oT]) (n := 2) (Nat.le_of_ble_eq_true rfl)
  rw [lg_entry_eq]
  generalize (lg_sl ([.ref oT]) ++ List.replicate (2 - (lg_sl ([.ref oT])).length) Slot.unset).toArray = ls at hl ⊢
  have hl : lv_has ls 2 [(0, .ref oT)] := hl
  have HR : ∀ (r : Int32) (u0 : Int32) (u1 : Int32) (u2 : Nat → Int32) {H : Heap} {locs : List Loc} {ls : Array Slot} {pc : Nat}, Q r u0 u1 u2 → wd D (va_A (ww_X7_keep cI cC oT oT_s oT_aside oT_states oT_snapshot oT_text oT_serves oT_took oT_tookMany oT_helps oT_before oT_read T_thrown T_stateMany T_hasSnapshot T_length T_stopNumber T_stopError T_at T_isWell T_readMany T_s T_snapshot) s.heap.size) s (ww_X7_keep cI cC oT oT_s oT_aside oT_states oT_snapshot oT_text oT_serves oT_took oT_tookMany oT_helps oT_before oT_read u0 T_stateMany u1 T_length T_stopNumber T_stopError T_at T_isWell T_readMany T_s u2) H locs → decode cX7_keep pc = .ok (.ireturn, 1) → W p l e (headSpec wsX7_keep rm_X7_keep).room s m ([.ref oT] : List Value).toArray below meth c H locs 0 0 (MQ below (QiW D (fun (r : Int32) (u : Int32 × Int32 × (Nat → Int32)) => Q r u.1 u.2.1 u.2.2) (fun u => (ww_X7_keep cI cC oT oT_s oT_aside oT_states oT_snapshot oT_text oT_serves oT_took oT_tookMany oT_helps oT_before oT_read (u.1) T_stateMany (u.2.1) T_length T_stopNumber T_stopError T_at T_isWell T_readMany T_s (u.2.2))) (ww_X7_keep cI cC oT oT_s oT_aside oT_states oT_snapshot oT_text oT_serves oT_took oT_tookMany oT_helps oT_before oT_read T_thrown T_stateMany T_hasSnapshot T_length T_stopNumber T_stopError T_at T_isWell T_readMany T_s T_snapshot) s.heap.size) ([.ref oT] : List Value).toArray s 0 0 (va_A (ww_X7_keep cI cC oT oT_s oT_aside oT_states oT_snapshot oT_text oT_serves oT_took oT_tookMany oT_helps oT_before oT_read T_thrown T_stateMany T_hasSnapshot T_length T_stopNumber T_stopError T_at T_isWell T_readMany T_s T_snapshot) s.heap.size)) (F0 m pc ls [.int r]) := by
    intro r u0 u1 u2 H locs ls pc hq hw9 hd9
    exact W.iret (v := r) hx hb hr (fun t ht hW => ⟨⟨r, (u0, u1, u2), rfl, hq, by rw [ht]; exact hw9.1, hw9.2.1⟩, hw9.2.2.F ht⟩) hw9.2.2.2.2 hd9
  unfold wp_X7_keep at hw
  refine lv_aload_n hx hb dX7_keep_0 rfl (lv_at hl 0 rfl) ?_
  refine lv_iconst (v := (nI 0)) hx hb dX7_keep_1 rfl ?_
  refine va_put (D := D) (ci := 7) (v := .int (nI 0)) (ty := .int) (C := RX7) (T := TX7) (N := 20) hx hb hts ic_X7_keep_X7 tyX7 tyX7_ok nmX7 hown hKw.1 hwd.1 hwd.2.1 hwd.2.2 0 rfl rfl 0 (by decide) (hts (.fieldLink RX7 43 "DrillWardensModel" "thrown" "I") (List.mem_of_getElem? (i := 1) rfl)) (fun _ h9 => h9) rfl (tyX7_ok 0 (by decide)) rfl rfl (Nat.le_of_ble_eq_true rfl) dX7_keep_2 (fun H locs h1 h2 h3 => ?_)
  replace hwd : wd D (va_A (ww_X7_keep cI cC oT oT_s oT_aside oT_states oT_snapshot oT_text oT_serves oT_took oT_tookMany oT_helps oT_before oT_read T_thrown T_stateMany T_hasSnapshot T_length T_stopNumber T_stopError T_at T_isWell T_readMany T_s T_snapshot) s.heap.size) s (ww_X7_keep cI cC oT oT_s oT_aside oT_states oT_snapshot oT_text oT_serves oT_took oT_tookMany oT_helps oT_before oT_read (nI 0) T_stateMany T_hasSnapshot T_length T_stopNumber T_stopError T_at T_isWell T_readMany T_s T_snapshot) H locs := ⟨h1, h2, h3⟩
  clear h1 h2 h3
  refine lv_iconst (v := (nI 0)) hx hb dX7_keep_5 rfl ?_
  refine lv_istore_n (lv' := [(1, .int (nI 0)), (0, .ref oT)]) hx hb dX7_keep_6 rfl hl (by decide) rfl (fun ls hl => ?_)
  obtain ⟨n1, hw⟩ := hw
  refine blk_X7_keep_7 (CX := CX) (oT := oT) (oT_s := oT_s) (oT_aside := oT_aside) (oT_states := oT_states) (oT_snapshot := oT_snapshot) (oT_text := oT_text) (oT_serves := oT_serves) (oT_took := oT_took) (oT_tookMany := oT_tookMany) (oT_helps := oT_helps) (oT_before := oT_before) (oT_read := oT_read) (T_thrown := (nI 0)) (T_stateMany := T_stateMany) (T_hasSnapshot := T_hasSnapshot) (T_length := T_length) (T_stopNumber := T_stopNumber) (T_stopError := T_stopError) (T_at := T_at) (T_isWell := T_isWell) (T_readMany := T_readMany) (T_s := T_s) (HR := HR) (HK_32 := fun T_snapshot2 hw H locs ls hwd hl => ?_) n1 T_snapshot (nI 0) hw _ _ _ hwd (lv_sub hl [1, 0] rfl)
  try dsimp only at hw
  refine lv_aload_n hx hb dX7_keep_32 rfl (lv_at hl 0 rfl) ?_
  refine lv_iconst (v := (nI 1)) hx hb dX7_keep_33 rfl ?_
  refine va_put (D := D) (ci := 7) (v := .int (nI 1)) (ty := .boolean) (C := RX7) (T := TX7) (N := 20) hx hb hts ic_X7_keep_X7 tyX7 tyX7_ok nmX7 hown hKw.1 hwd.1 hwd.2.1 hwd.2.2 0 rfl rfl 6 (by decide) (hts (.fieldLink RX7 203 "DrillWardensModel" "hasSnapshot" "Z") (List.mem_of_getElem? (i := 4) rfl)) (fun _ h9 => h9) rfl (tyX7_ok 6 (by decide)) rfl rfl (Nat.le_of_ble_eq_true rfl) dX7_keep_34 (fun H locs h1 h2 h3 => ?_)
  replace hwd : wd D (va_A (ww_X7_keep cI cC oT oT_s oT_aside oT_states oT_snapshot oT_text oT_serves oT_took oT_tookMany oT_helps oT_before oT_read T_thrown T_stateMany T_hasSnapshot T_length T_stopNumber T_stopError T_at T_isWell T_readMany T_s T_snapshot) s.heap.size) s (ww_X7_keep cI cC oT oT_s oT_aside oT_states oT_snapshot oT_text oT_serves oT_took oT_tookMany oT_helps oT_before oT_read (nI 0) T_stateMany (nI 1) T_length T_stopNumber T_stopError T_at T_isWell T_readMany T_s T_snapshot2) H locs := ⟨h1, h2, h3⟩
  clear h1 h2 h3
  refine lv_aload_n hx hb dX7_keep_37 rfl (lv_at hl 0 rfl) ?_
  refine va_get (D := D) (ci := 7) (v := .ref oT_s) (C := RX7) (T := TX7) (N := 20) hx hb hts ic_X7_keep_X7 hown hKw.1 hwd.1 0 rfl rfl 1 (by decide) (hts (.fieldLink RX7 7 "DrillWardensModel" "s" "[I") (List.mem_of_getElem? (i := 3) rfl)) (fun _ h9 => h9) rfl dX7_keep_38 ?_
  refine lv_iconst (v := (nI 3)) hx hb dX7_keep_41 rfl ?_
  refine va_iald hx hb hKw.1 hwd.1 1 0 rfl rfl hw.1 dX7_keep_42 ?_
  replace hw := hw.2
  exact HR (T_s (nI 3).toNatClampNeg) (nI 0) (nI 1) T_snapshot2 hw hwd dX7_keep_43
abbrev ww_X7_restore (cI cC : ClassId) (oT oT_s oT_aside oT_states oT_snapshot oT_text oT_serves oT_took oT_tookMany oT_helps oT_before oT_read : Nat) (T_thrown : Int32) (T_stateMany : Int32) (T_hasSnapshot : Int32) (T_length : Int32) (T_stopNumber : Int32) (T_stopError : Int32) (T_at : Int32) (T_isWell : Int32) (T_readMany : Int32) (T_s : Nat → Int32) (T_states : Nat → Int32) (T_snapshot : Nat → Int32) : va_W := [(oT, .inr (7, [.int T_thrown, .ref oT_s, .ref oT_aside, .ref oT_states, .int T_stateMany, .ref oT_snapshot, .int T_hasSnapshot, .ref oT_text, .int T_length, .int T_stopNumber, .int T_stopError, .ref oT_serves, .ref oT_took, .ref oT_tookMany, .ref oT_helps, .ref oT_before, .int T_at, .int T_isWell, .ref oT_read, .int T_readMany])), (oT_s, .inl (cI, 474, .inl T_s)), (oT_states, .inl (cI, 1896, .inl T_states)), (oT_snapshot, .inl (cI, 474, .inl T_snapshot))]
abbrev rm_X7_restore : Room := { frames := 1, cells := 0, slots := 0, locals := 21 }
theorem ic_X7_restore_X7 : ∀ w ∈ u_ws RX7 TX7 20, w ∈ wsX7_restore := by
  intro w h
  simp only [wsX7_restore, List.mem_cons, List.mem_append]
  simp only [h, or_true, true_or]
def wb_X7_restore_21 (T_snapshot : Nat → Int32) (K_46 : (Nat → Int32) → Prop) : Nat → (Nat → Int32) → Int32 → Prop
  | 0, _, _ => False
  | n + 1, T_s, x1 => (((nI 474) ≤ x1 → K_46 T_s) ∧ (¬ (nI 474) ≤ x1 → vp_in x1 474 ∧ vp_in x1 474 ∧ ∀ T_s2, T_s2 = upd T_s x1.toNatClampNeg (T_snapshot x1.toNatClampNeg) → ∀ x1_3, x1_3 = x1 + (nI 1) → wb_X7_restore_21 T_snapshot K_46 n T_s2 x1_3))
set_option maxRecDepth 100000 in
set_option maxHeartbeats 4000000 in
theorem blk_X7_restore_21 {p : Program} {l : Launch} {e : Env} {s : State} {m : MethodId} {args : Array Value} {below : List Frame} {meth : Method} {c : Code} {D : va_G} {cI cC cR : ClassId} {A : Nat → Prop} {Z : State → Prop} (CX : cx cX7_restore (some .int) 2 RX7 wsX7_restore p m meth c s args D cI cC cR A) (oT oT_s oT_aside oT_states oT_snapshot oT_text oT_serves oT_took oT_tookMany oT_helps oT_before oT_read : Nat) (T_thrown : Int32) (T_stateMany : Int32) (T_hasSnapshot : Int32) (T_length : Int32) (T_stopNumber : Int32) (T_stopError : Int32) (T_at : Int32) (T_isWell : Int32) (T_readMany : Int32) (T_states : Nat → Int32) (T_snapshot : Nat → Int32) {K_46 : (Nat → Int32) → Prop} {Q : Int32 → Int32 → Int32 → (Nat → Int32) → (Nat → Int32) → Prop} (HR : ∀ (r : Int32) (u0 : Int32) (u1 : Int32) (u2 : Nat → Int32) (u3 : Nat → Int32) {H : Heap} {locs : List Loc} {ls : Array Slot} {pc : Nat}, Q r u0 u1 u2 u3 → wd D A s (ww_X7_restore cI cC oT oT_s oT_aside oT_states oT_snapshot oT_text oT_serves oT_took oT_tookMany oT_helps oT_before oT_read u0 u1 T_hasSnapshot T_length T_stopNumber T_stopError T_at T_isWell T_readMany u2 u3 T_snapshot) H locs → decode cX7_restore pc = .ok (.ireturn, 1) → W p l e (headSpec wsX7_restore rm_X7_restore).room s m args below meth c H locs 0 0 Z (F0 m pc ls [.int r])) (HK_46 : ∀ (T_sy : Nat → Int32), K_46 T_sy → ∀ (H : Heap) (locs : List Loc) (ls : Array Slot), wd D A s (ww_X7_restore cI cC oT oT_s oT_aside oT_states oT_snapshot oT_text oT_serves oT_took oT_tookMany oT_helps oT_before oT_read T_thrown T_stateMany T_hasSnapshot T_length T_stopNumber T_stopError T_at T_isWell T_readMany T_sy T_states T_snapshot) H locs → lv_has ls 2 [(0, .ref oT)] → W p l e (headSpec wsX7_restore rm_X7_restore).room s m args below meth c H locs 0 0 Z (F0 m 46 ls [])) : ∀ (n : Nat) (T_s : Nat → Int32) (x1 : Int32), wb_X7_restore_21 T_snapshot K_46 n T_s x1 → ∀ (H : Heap) (locs : List Loc) (ls : Array Slot), wd D A s (ww_X7_restore cI cC oT oT_s oT_aside oT_states oT_snapshot oT_text oT_serves oT_took oT_tookMany oT_helps oT_before oT_read T_thrown T_stateMany T_hasSnapshot T_length T_stopNumber T_stopError T_at T_isWell T_readMany T_s T_states T_snapshot) H locs → lv_has ls 2 [(0, .ref oT), (1, .int x1)] → W p l e (headSpec wsX7_restore rm_X7_restore).room s m args below meth c H locs 0 0 Z (F0 m 21 ls []) := by
  obtain ⟨hx, hb, hr, hml, hts, hown, hlocks, hKw, hA⟩ := id CX
  intro n
  induction n with
  | zero => intro T_s x1 hw; exact False.elim hw
  | succ n ih =>
    intro T_s x1 hw H locs ls hwd hl
    rw [wb_X7_restore_21] at hw
    refine lv_iload_n hx hb dX7_restore_21 rfl (lv_at hl 1 rfl) ?_
    refine lv_sipush (v := (nI 474)) hx hb dX7_restore_22 rfl ?_
    refine lv_icmp_ge (tgt := 46) hx hb dX7_restore_25 (by decide) (fun c1 => ?_) (fun c1 => ?_)
    · replace hw := hw.1 c1
      exact HK_46 T_s hw _ _ _ hwd (lv_sub hl [0] rfl)
    · replace hw := hw.2 c1
      refine lv_aload_n hx hb dX7_restore_28 rfl (lv_at hl 0 rfl) ?_
      refine va_get (D := D) (ci := 7) (v := .ref oT_s) (C := RX7) (T := TX7) (N := 20) hx hb hts ic_X7_restore_X7 hown hKw.1 hwd.1 0 rfl rfl 1 (by decide) (hts (.fieldLink RX7 7 "DrillWardensModel" "s" "[I") (List.mem_of_getElem? (i := 3) rfl)) (fun _ h9 => h9) rfl dX7_restore_29 ?_
      refine lv_iload_n hx hb dX7_restore_32 rfl (lv_at hl 1 rfl) ?_
      refine lv_aload_n hx hb dX7_restore_33 rfl (lv_at hl 0 rfl) ?_
      refine va_get (D := D) (ci := 7) (v := .ref oT_snapshot) (C := RX7) (T := TX7) (N := 20) hx hb hts ic_X7_restore_X7 hown hKw.1 hwd.1 0 rfl rfl 5 (by decide) (hts (.fieldLink RX7 19 "DrillWardensModel" "snapshot" "[I") (List.mem_of_getElem? (i := 4) rfl)) (fun _ h9 => h9) rfl dX7_restore_34 ?_
      refine lv_iload_n hx hb dX7_restore_37 rfl (lv_at hl 1 rfl) ?_
      refine va_iald hx hb hKw.1 hwd.1 3 0 rfl rfl hw.1 dX7_restore_38 ?_
      replace hw := hw.2
      obtain ⟨T_s2, e_T_s2⟩ : ∃ y : Nat → Int32, y = upd T_s x1.toNatClampNeg (T_snapshot x1.toNatClampNeg) := ⟨_, rfl⟩
      refine va_iast hx hb hKw.1 hwd.1 hwd.2.1 hwd.2.2 1 0 rfl rfl hw.1 dX7_restore_39 (fun H locs h1 h2 h3 => ?_)
      replace hw := hw.2 T_s2 e_T_s2
      rw [← e_T_s2] at h1 h2
      replace hwd : wd D A s (ww_X7_restore cI cC oT oT_s oT_aside oT_states oT_snapshot oT_text oT_serves oT_took oT_tookMany oT_helps oT_before oT_read T_thrown T_stateMany T_hasSnapshot T_length T_stopNumber T_stopError T_at T_isWell T_readMany T_s2 T_states T_snapshot) H locs := ⟨h1, h2, h3⟩
      clear h1 h2 h3
      obtain ⟨x1_3, e_x1_3⟩ : ∃ y : Int32, y = x1 + (nI 1) := ⟨_, rfl⟩
      replace hw := hw x1_3 e_x1_3
      refine lv_iinc (v := x1_3) (lv' := [(1, .int x1_3), (0, .ref oT)]) hx hb dX7_restore_40 hl (k := 1) rfl (by rw [e_x1_3]; rfl) (by decide) rfl (fun ls hl => ?_)
      refine lv_goto (tgt := 21) hx hb dX7_restore_43 (by decide) ?_
      exact ih T_s2 x1_3 hw _ _ _ hwd (lv_sub hl [1, 0] rfl)
def wp_X7_restore (T_thrown : Int32) (T_stateMany : Int32) (T_hasSnapshot : Int32) (T_s : Nat → Int32) (T_states : Nat → Int32) (T_snapshot : Nat → Int32) (Q : Int32 → Int32 → Int32 → (Nat → Int32) → (Nat → Int32) → Prop) : Prop := ((¬ T_hasSnapshot = 0 → wp_X7_records T_stateMany T_s T_states (fun T_stateMany2 T_states3 => (∃ n4, wb_X7_restore_21 T_snapshot (fun T_s5 => vp_in (nI 3) 474 ∧ Q (T_s5 (nI 3).toNatClampNeg) (nI 0) T_stateMany2 T_s5 T_states3) n4 T_s (nI 0)))) ∧ (T_hasSnapshot = 0 → Q (-5) (nI 0) T_stateMany T_s T_states))
set_option maxRecDepth 100000 in
set_option maxHeartbeats 4000000 in
theorem c_X7_restore (l : Launch) {D : va_G} {cI cC cR : ClassId} (oT oT_s oT_aside oT_states oT_snapshot oT_text oT_serves oT_took oT_tookMany oT_helps oT_before oT_read : Nat) (sz : Nat) (T_thrown : Int32) (T_stateMany : Int32) (T_hasSnapshot : Int32) (T_length : Int32) (T_stopNumber : Int32) (T_stopError : Int32) (T_at : Int32) (T_isWell : Int32) (T_readMany : Int32) (T_s : Nat → Int32) (T_states : Nat → Int32) (T_snapshot : Nat → Int32) {Q : Int32 → Int32 → Int32 → (Nat → Int32) → (Nat → Int32) → Prop} (hw : wp_X7_restore T_thrown T_stateMany T_hasSnapshot T_s T_states T_snapshot Q) : Met l yX7_restore wsX7_restore rm_X7_restore (PcW D cI cC cR [.ref oT] (ww_X7_restore cI cC oT oT_s oT_aside oT_states oT_snapshot oT_text oT_serves oT_took oT_tookMany oT_helps oT_before oT_read T_thrown T_stateMany T_hasSnapshot T_length T_stopNumber T_stopError T_at T_isWell T_readMany T_s T_states T_snapshot) sz) (QiW D (fun (r : Int32) (u : Int32 × Int32 × (Nat → Int32) × (Nat → Int32)) => Q r u.1 u.2.1 u.2.2.1 u.2.2.2) (fun u => (ww_X7_restore cI cC oT oT_s oT_aside oT_states oT_snapshot oT_text oT_serves oT_took oT_tookMany oT_helps oT_before oT_read (u.1) (u.2.1) T_hasSnapshot T_length T_stopNumber T_stopError T_at T_isWell T_readMany (u.2.2.1) (u.2.2.2) T_snapshot)) (ww_X7_restore cI cC oT oT_s oT_aside oT_states oT_snapshot oT_text oT_serves oT_took oT_tookMany oT_helps oT_before oT_read T_thrown T_stateMany T_hasSnapshot T_length T_stopNumber T_stopError T_at T_isWell T_readMany T_s T_states T_snapshot) sz) 0 0 (va_A (ww_X7_restore cI cC oT oT_s oT_aside oT_states oT_snapshot oT_text oT_serves oT_took oT_tookMany oT_helps oT_before oT_read T_thrown T_stateMany T_hasSnapshot T_length T_stopNumber T_stopError T_at T_isWell T_readMany T_s T_states T_snapshot) sz) := by
  refine Met.ofW (cc := cX7_restore) (maxL := 2) (ret := (some .int)) (by decide) rfl ?_
  intro p e s m args below meth c s₁ B hml hv
  obtain ⟨rfl, hsz, hP, hKw, hD0⟩ := hv
  have hlocks := B.notSynchronized
  subst hsz
  have hD := hD0.self (sz := s.heap.size)
  have CX : cx cX7_restore (some .int) 2 RX7 wsX7_restore p m meth c s ([.ref oT] : List Value).toArray D cI cC cR (va_A (ww_X7_restore cI cC oT oT_s oT_aside oT_states oT_snapshot oT_text oT_serves oT_took oT_tookMany oT_helps oT_before oT_read T_thrown T_stateMany T_hasSnapshot T_length T_stopNumber T_stopError T_at T_isWell T_readMany T_s T_states T_snapshot) s.heap.size) := ⟨B.exec, B.bytes, B.returns, hml, atoms_spec (ws := wsX7_restore) B.pre, findClass_of_methodNamed B.named, hlocks, hKw, fun q h => Or.inr h⟩
  obtain ⟨hx, hb, hr, -, hts, hown, -, -, hA⟩ := id CX
  have hwd : wd D (va_A (ww_X7_restore cI cC oT oT_s oT_aside oT_states oT_snapshot oT_text oT_serves oT_took oT_tookMany oT_helps oT_before oT_read T_thrown T_stateMany T_hasSnapshot T_length T_stopNumber T_stopError T_at T_isWell T_readMany T_s T_states T_snapshot) s.heap.size) s (ww_X7_restore cI cC oT oT_s oT_aside oT_states oT_snapshot oT_text oT_serves oT_took oT_tookMany oT_helps oT_before oT_read T_thrown T_stateMany T_hasSnapshot T_length T_stopNumber T_stopError T_at T_isWell T_readMany T_s T_states T_snapshot) s.heap [] := ⟨hP, hD, va_S.rf⟩
  have hl := lv_entry ([.ref oT]) (n := 2) (Nat.le_of_ble_eq_true rfl)
  rw [lg_entry_eq]
  generalize (lg_sl ([.ref oT]) ++ List.replicate (2 - (lg_sl ([.ref oT])).length) Slot.unset).toArray = ls at hl ⊢
  have hl : lv_has ls 2 [(0, .ref oT)] := hl
  have HR : ∀ (r : Int32) (u0 : Int32) (u1 : Int32) (u2 : Nat → Int32) (u3 : Nat → Int32) {H : Heap} {locs : List Loc} {ls : Array Slot} {pc : Nat}, Q r u0 u1 u2 u3 → wd D (va_A (ww_X7_restore cI cC oT oT_s oT_aside oT_states oT_snapshot oT_text oT_serves oT_took oT_tookMany oT_helps oT_before oT_read T_thrown T_stateMany T_hasSnapshot T_length T_stopNumber T_stopError T_at T_isWell T_readMany T_s T_states T_snapshot) s.heap.size) s (ww_X7_restore cI cC oT oT_s oT_aside oT_states oT_snapshot oT_text oT_serves oT_took oT_tookMany oT_helps oT_before oT_read u0 u1 T_hasSnapshot T_length T_stopNumber T_stopError T_at T_isWell T_readMany u2 u3 T_snapshot) H locs → decode cX7_restore pc = .ok (.ireturn, 1) → W p l e (headSpec wsX7_restore rm_X7_restore).room s m ([.ref oT] : List Value).toArray below meth c H locs 0 0 (MQ below (QiW D (fun (r : Int32) (u : Int32 × Int32 × (Nat → Int32) × (Nat → Int32)) => Q r u.1 u.2.1 u.2.2.1 u.2.2.2) (fun u => (ww_X7_restore cI cC oT oT_s oT_aside oT_states oT_snapshot oT_text oT_serves oT_took oT_tookMany oT_helps oT_before oT_read (u.1) (u.2.1) T_hasSnapshot T_length T_stopNumber T_stopError T_at T_isWell T_readMany (u.2.2.1) (u.2.2.2) T_snapshot)) (ww_X7_restore cI cC oT oT_s oT_aside oT_states oT_snapshot oT_text oT_serves oT_took oT_tookMany oT_helps oT_before oT_read T_thrown T_stateMany T_hasSnapshot T_length T_stopNumber T_stopError T_at T_isWell T_readMany T_s T_states T_snapshot) s.heap.size) ([.ref oT] : List Value).toArray s 0 0 (va_A (ww_X7_restore cI cC oT oT_s oT_aside oT_states oT_snapshot oT_text oT_serves oT_took oT_tookMany oT_helps oT_before oT_read T_thrown T_stateMany T_hasSnapshot T_length T_stopNumber T_stopError T_at T_isWell T_readMany T_s T_states T_snapshot) s.heap.size)) (F0 m pc ls [.int r]) := by
    intro r u0 u1 u2 u3 H locs ls pc hq hw9 hd9
    exact W.iret (v := r) hx hb hr (fun t ht hW => ⟨⟨r, (u0, u1, u2, u3), rfl, hq, by rw [ht]; exact hw9.1, hw9.2.1⟩, hw9.2.2.F ht⟩) hw9.2.2.2.2 hd9
  unfold wp_X7_restore at hw
  refine lv_aload_n hx hb dX7_restore_0 rfl (lv_at hl 0 rfl) ?_
  refine lv_iconst (v := (nI 0)) hx hb dX7_restore_1 rfl ?_
  refine va_put (D := D) (ci := 7) (v := .int (nI 0)) (ty := .int) (C := RX7) (T := TX7) (N := 20) hx hb hts ic_X7_restore_X7 tyX7 tyX7_ok nmX7 hown hKw.1 hwd.1 hwd.2.1 hwd.2.2 0 rfl rfl 0 (by decide) (hts (.fieldLink RX7 43 "DrillWardensModel" "thrown" "I") (List.mem_of_getElem? (i := 1) rfl)) (fun _ h9 => h9) rfl (tyX7_ok 0 (by decide)) rfl rfl (Nat.le_of_ble_eq_true rfl) dX7_restore_2 (fun H locs h1 h2 h3 => ?_)
  replace hwd : wd D (va_A (ww_X7_restore cI cC oT oT_s oT_aside oT_states oT_snapshot oT_text oT_serves oT_took oT_tookMany oT_helps oT_before oT_read T_thrown T_stateMany T_hasSnapshot T_length T_stopNumber T_stopError T_at T_isWell T_readMany T_s T_states T_snapshot) s.heap.size) s (ww_X7_restore cI cC oT oT_s oT_aside oT_states oT_snapshot oT_text oT_serves oT_took oT_tookMany oT_helps oT_before oT_read (nI 0) T_stateMany T_hasSnapshot T_length T_stopNumber T_stopError T_at T_isWell T_readMany T_s T_states T_snapshot) H locs := ⟨h1, h2, h3⟩
  clear h1 h2 h3
  refine lv_aload_n hx hb dX7_restore_5 rfl (lv_at hl 0 rfl) ?_
  refine va_get (D := D) (ci := 7) (v := .int T_hasSnapshot) (C := RX7) (T := TX7) (N := 20) hx hb hts ic_X7_restore_X7 hown hKw.1 hwd.1 0 rfl rfl 6 (by decide) (hts (.fieldLink RX7 203 "DrillWardensModel" "hasSnapshot" "Z") (List.mem_of_getElem? (i := 2) rfl)) (fun _ h9 => h9) rfl dX7_restore_6 ?_
  refine lv_if_ne (tgt := 15) hx hb dX7_restore_9 (by decide) (fun c1 => ?_) (fun c1 => ?_)
  · replace hw := hw.1 c1
    refine lv_aload_n hx hb dX7_restore_15 rfl (lv_at hl 0 rfl) ?_
    refine kcVv (W1 := (fun u => (ww_X7_restore cI cC oT oT_s oT_aside oT_states oT_snapshot oT_text oT_serves oT_took oT_tookMany oT_helps oT_before oT_read (nI 0) (u.1) T_hasSnapshot T_length T_stopNumber T_stopError T_at T_isWell T_readMany T_s (u.2) T_snapshot))) (rest := []) (As := []) ⟨Nat.le_of_ble_eq_true rfl, Nat.le_of_ble_eq_true rfl⟩ ⟨hx, hb, hml, hown, hts⟩ (c_X7_records l oT oT_s oT_aside oT_states oT_snapshot oT_text oT_serves oT_took oT_tookMany oT_helps oT_before oT_read H.size (nI 0) T_stateMany T_hasSnapshot T_length T_stopNumber T_stopError T_at T_isWell T_readMany T_s T_states hw) (cwV 0 hts gX7_restore_X7_records rfl rfl rfl ⟨rfl, hd_X7_records⟩ ⟨Nat.le_of_ble_eq_true rfl, Nat.le_of_ble_eq_true rfl⟩) hKw hA hwd [0, 1, 2] [3] [1, 2, 3, 0] [(oT_snapshot, .inl (cI, 474, .inl T_snapshot))] rfl rfl rfl rfl (by decide) rfl (fun _ => rfl) 0 7 rfl rfl rfl rfl hl.1 rfl (lv_room (Nat.le_of_ble_eq_true rfl)) dX7_restore_16 (fun u H locs hw hwd => ?_)
    obtain ⟨T_stateMany2, T_states3⟩ := u
    try dsimp only at hw
    replace hwd : wd D (va_A (ww_X7_restore cI cC oT oT_s oT_aside oT_states oT_snapshot oT_text oT_serves oT_took oT_tookMany oT_helps oT_before oT_read T_thrown T_stateMany T_hasSnapshot T_length T_stopNumber T_stopError T_at T_isWell T_readMany T_s T_states T_snapshot) s.heap.size) s (ww_X7_restore cI cC oT oT_s oT_aside oT_states oT_snapshot oT_text oT_serves oT_took oT_tookMany oT_helps oT_before oT_read (nI 0) T_stateMany2 T_hasSnapshot T_length T_stopNumber T_stopError T_at T_isWell T_readMany T_s T_states3 T_snapshot) H locs := hwd
    refine lv_iconst (v := (nI 0)) hx hb dX7_restore_19 rfl ?_
    refine lv_istore_n (lv' := [(1, .int (nI 0)), (0, .ref oT)]) hx hb dX7_restore_20 rfl hl (by decide) rfl (fun ls hl => ?_)
    obtain ⟨n4, hw⟩ := hw
    refine blk_X7_restore_21 (CX := CX) (oT := oT) (oT_s := oT_s) (oT_aside := oT_aside) (oT_states := oT_states) (oT_snapshot := oT_snapshot) (oT_text := oT_text) (oT_serves := oT_serves) (oT_took := oT_took) (oT_tookMany := oT_tookMany) (oT_helps := oT_helps) (oT_before := oT_before) (oT_read := oT_read) (T_thrown := (nI 0)) (T_stateMany := T_stateMany2) (T_hasSnapshot := T_hasSnapshot) (T_length := T_length) (T_stopNumber := T_stopNumber) (T_stopError := T_stopError) (T_at := T_at) (T_isWell := T_isWell) (T_readMany := T_readMany) (T_states := T_states3) (T_snapshot := T_snapshot) (HR := HR) (HK_46 := fun T_s5 hw H locs ls hwd hl => ?_) n4 T_s (nI 0) hw _ _ _ hwd (lv_sub hl [1, 0] rfl)
    try dsimp only at hw
    refine lv_aload_n hx hb dX7_restore_46 rfl (lv_at hl 0 rfl) ?_
    refine va_get (D := D) (ci := 7) (v := .ref oT_s) (C := RX7) (T := TX7) (N := 20) hx hb hts ic_X7_restore_X7 hown hKw.1 hwd.1 0 rfl rfl 1 (by decide) (hts (.fieldLink RX7 7 "DrillWardensModel" "s" "[I") (List.mem_of_getElem? (i := 3) rfl)) (fun _ h9 => h9) rfl dX7_restore_47 ?_
    refine lv_iconst (v := (nI 3)) hx hb dX7_restore_50 rfl ?_
    refine va_iald hx hb hKw.1 hwd.1 1 0 rfl rfl hw.1 dX7_restore_51 ?_
    replace hw := hw.2
    exact HR (T_s5 (nI 3).toNatClampNeg) (nI 0) T_stateMany2 T_s5 T_states3 hw hwd dX7_restore_52
  · replace hw := hw.2 c1
    refine lv_bipush (v := (-5)) hx hb dX7_restore_12 rfl ?_
    exact HR (-5) (nI 0) T_stateMany T_s T_states hw hwd dX7_restore_14
abbrev ww_X7_warden (cI cC : ClassId) (oT oT_s oT_aside oT_states oT_snapshot oT_text oT_serves oT_took oT_tookMany oT_helps oT_before oT_read : Nat) (T_thrown : Int32) (T_stateMany : Int32) (T_hasSnapshot : Int32) (T_length : Int32) (T_stopNumber : Int32) (T_stopError : Int32) (T_at : Int32) (T_isWell : Int32) (T_readMany : Int32) (T_s : Nat → Int32) (T_serves : Nat → Int32) (T_took : Nat → Int32) (T_tookMany : Nat → Int32) (T_helps : Nat → Int32) : va_W := [(oT, .inr (7, [.int T_thrown, .ref oT_s, .ref oT_aside, .ref oT_states, .int T_stateMany, .ref oT_snapshot, .int T_hasSnapshot, .ref oT_text, .int T_length, .int T_stopNumber, .int T_stopError, .ref oT_serves, .ref oT_took, .ref oT_tookMany, .ref oT_helps, .ref oT_before, .int T_at, .int T_isWell, .ref oT_read, .int T_readMany])), (oT_s, .inl (cI, 474, .inl T_s)), (oT_serves, .inl (cI, 16, .inl T_serves)), (oT_took, .inl (cI, 30, .inl T_took)), (oT_tookMany, .inl (cI, 10, .inl T_tookMany)), (oT_helps, .inl (cI, 10, .inl T_helps))]
abbrev rm_X7_warden : Room := { frames := 5, cells := 0, slots := 0, locals := 113 }
theorem ic_X7_warden_X7 : ∀ w ∈ u_ws RX7 TX7 20, w ∈ wsX7_warden := by
  intro w h
  simp only [wsX7_warden, List.mem_cons, List.mem_append]
  simp only [h, or_true, true_or]
def wp_X7_warden (T_thrown : Int32) (T_s : Nat → Int32) (T_serves : Nat → Int32) (T_took : Nat → Int32) (T_tookMany : Nat → Int32) (T_helps : Nat → Int32) (x1 : Int32) (x2 : Int32) (x3 : Int32) (Q : Int32 → Int32 → (Nat → Int32) → (Nat → Int32) → (Nat → Int32) → (Nat → Int32) → Prop) : Prop := wp_X7_isFloor x2 (fun r1 => ((¬ r1 = 0 → wp_X7_isDay x1 (fun r3 => ((r3 = 0 → Q (-2) (nI 0) T_serves T_took T_tookMany T_helps) ∧ (¬ r3 = 0 → ((0 ≤ x3 → wp_X7_plans T_s T_serves T_took T_tookMany T_helps x1 (fun T_serves6 T_took7 T_tookMany8 T_helps9 => vp_in x2 10 ∧ (((T_tookMany8 x2.toNatClampNeg) ≤ x3 → Q (-5) (nI 0) T_serves6 T_took7 T_tookMany8 T_helps9) ∧ (¬ (T_tookMany8 x2.toNatClampNeg) ≤ x3 → vp_in (((nI 3) * x2) + x3) 30 ∧ Q (T_took7 (((nI 3) * x2) + x3).toNatClampNeg) (nI 0) T_serves6 T_took7 T_tookMany8 T_helps9)))) ∧ (¬ 0 ≤ x3 → Q (-2) (nI 0) T_serves T_took T_tookMany T_helps)))))) ∧ (r1 = 0 → Q (-1) (nI 0) T_serves T_took T_tookMany T_helps)))
set_option maxRecDepth 100000 in
set_option maxHeartbeats 4000000 in
theorem c_X7_warden (l : Launch) {D : va_G} {cI cC cR : ClassId} (oT oT_s oT_aside oT_states oT_snapshot oT_text oT_serves oT_took oT_tookMany oT_helps oT_before oT_read : Nat) (sz : Nat) (T_thrown : Int32) (T_stateMany : Int32) (T_hasSnapshot : Int32) (T_length : Int32) (T_stopNumber : Int32) (T_stopError : Int32) (T_at : Int32) (T_isWell : Int32) (T_readMany : Int32) (T_s : Nat → Int32) (T_serves : Nat → Int32) (T_took : Nat → Int32) (T_tookMany : Nat → Int32) (T_helps : Nat → Int32) (x1 : Int32) (x2 : Int32) (x3 : Int32) {Q : Int32 → Int32 → (Nat → Int32) → (Nat → Int32) → (Nat → Int32) → (Nat → Int32) → Prop} (hw : wp_X7_warden T_thrown T_s T_serves T_took T_tookMany T_helps x1 x2 x3 Q) : Met l yX7_warden wsX7_warden rm_X7_warden (PcW D cI cC cR [.ref oT, .int x1, .int x2, .int x3] (ww_X7_warden cI cC oT oT_s oT_aside oT_states oT_snapshot oT_text oT_serves oT_took oT_tookMany oT_helps oT_before oT_read T_thrown T_stateMany T_hasSnapshot T_length T_stopNumber T_stopError T_at T_isWell T_readMany T_s T_serves T_took T_tookMany T_helps) sz) (QiW D (fun (r : Int32) (u : Int32 × (Nat → Int32) × (Nat → Int32) × (Nat → Int32) × (Nat → Int32)) => Q r u.1 u.2.1 u.2.2.1 u.2.2.2.1 u.2.2.2.2) (fun u => (ww_X7_warden cI cC oT oT_s oT_aside oT_states oT_snapshot oT_text oT_serves oT_took oT_tookMany oT_helps oT_before oT_read (u.1) T_stateMany T_hasSnapshot T_length T_stopNumber T_stopError T_at T_isWell T_readMany T_s (u.2.1) (u.2.2.1) (u.2.2.2.1) (u.2.2.2.2))) (ww_X7_warden cI cC oT oT_s oT_aside oT_states oT_snapshot oT_text oT_serves oT_took oT_tookMany oT_helps oT_before oT_read T_thrown T_stateMany T_hasSnapshot T_length T_stopNumber T_stopError T_at T_isWell T_readMany T_s T_serves T_took T_tookMany T_helps) sz) 0 0 (va_A (ww_X7_warden cI cC oT oT_s oT_aside oT_states oT_snapshot oT_text oT_serves oT_took oT_tookMany oT_helps oT_before oT_read T_thrown T_stateMany T_hasSnapshot T_length T_stopNumber T_stopError T_at T_isWell T_readMany T_s T_serves T_took T_tookMany T_helps) sz) := by
  refine Met.ofW (cc := cX7_warden) (maxL := 4) (ret := (some .int)) (by decide) rfl ?_
  intro p e s m args below meth c s₁ B hml hv
  obtain ⟨rfl, hsz, hP, hKw, hD0⟩ := hv
  have hlocks := B.notSynchronized
  subst hsz
  have hD := hD0.self (sz := s.heap.size)
  have CX : cx cX7_warden (some .int) 4 RX7 wsX7_warden p m meth c s ([.ref oT, .int x1, .int x2, .int x3] : List Value).toArray D cI cC cR (va_A (ww_X7_warden cI cC oT oT_s oT_aside oT_states oT_snapshot oT_text oT_serves oT_took oT_tookMany oT_helps oT_before oT_read T_thrown T_stateMany T_hasSnapshot T_length T_stopNumber T_stopError T_at T_isWell T_readMany T_s T_serves T_took T_tookMany T_helps) s.heap.size) := ⟨B.exec, B.bytes, B.returns, hml, atoms_spec (ws := wsX7_warden) B.pre, findClass_of_methodNamed B.named, hlocks, hKw, fun q h => Or.inr h⟩
  obtain ⟨hx, hb, hr, -, hts, hown, -, -, hA⟩ := id CX
  have hwd : wd D (va_A (ww_X7_warden cI cC oT oT_s oT_aside oT_states oT_snapshot oT_text oT_serves oT_took oT_tookMany oT_helps oT_before oT_read T_thrown T_stateMany T_hasSnapshot T_length T_stopNumber T_stopError T_at T_isWell T_readMany T_s T_serves T_took T_tookMany T_helps) s.heap.size) s (ww_X7_warden cI cC oT oT_s oT_aside oT_states oT_snapshot oT_text oT_serves oT_took oT_tookMany oT_helps oT_before oT_read T_thrown T_stateMany T_hasSnapshot T_length T_stopNumber T_stopError T_at T_isWell T_readMany T_s T_serves T_took T_tookMany T_helps) s.heap [] := ⟨hP, hD, va_S.rf⟩
  have hl := lv_entry ([.ref oT, .int x1, .int x2, .int x3]) (n := 4) (Nat.le_of_ble_eq_true rfl)
  rw [lg_entry_eq]
  generalize (lg_sl ([.ref oT, .int x1, .int x2, .int x3]) ++ List.replicate (4 - (lg_sl ([.ref oT, .int x1, .int x2, .int x3])).length) Slot.unset).toArray = ls at hl ⊢
  have hl : lv_has ls 4 [(0, .ref oT), (1, .int x1), (2, .int x2), (3, .int x3)] := hl
  have HR : ∀ (r : Int32) (u0 : Int32) (u1 : Nat → Int32) (u2 : Nat → Int32) (u3 : Nat → Int32) (u4 : Nat → Int32) {H : Heap} {locs : List Loc} {ls : Array Slot} {pc : Nat}, Q r u0 u1 u2 u3 u4 → wd D (va_A (ww_X7_warden cI cC oT oT_s oT_aside oT_states oT_snapshot oT_text oT_serves oT_took oT_tookMany oT_helps oT_before oT_read T_thrown T_stateMany T_hasSnapshot T_length T_stopNumber T_stopError T_at T_isWell T_readMany T_s T_serves T_took T_tookMany T_helps) s.heap.size) s (ww_X7_warden cI cC oT oT_s oT_aside oT_states oT_snapshot oT_text oT_serves oT_took oT_tookMany oT_helps oT_before oT_read u0 T_stateMany T_hasSnapshot T_length T_stopNumber T_stopError T_at T_isWell T_readMany T_s u1 u2 u3 u4) H locs → decode cX7_warden pc = .ok (.ireturn, 1) → W p l e (headSpec wsX7_warden rm_X7_warden).room s m ([.ref oT, .int x1, .int x2, .int x3] : List Value).toArray below meth c H locs 0 0 (MQ below (QiW D (fun (r : Int32) (u : Int32 × (Nat → Int32) × (Nat → Int32) × (Nat → Int32) × (Nat → Int32)) => Q r u.1 u.2.1 u.2.2.1 u.2.2.2.1 u.2.2.2.2) (fun u => (ww_X7_warden cI cC oT oT_s oT_aside oT_states oT_snapshot oT_text oT_serves oT_took oT_tookMany oT_helps oT_before oT_read (u.1) T_stateMany T_hasSnapshot T_length T_stopNumber T_stopError T_at T_isWell T_readMany T_s (u.2.1) (u.2.2.1) (u.2.2.2.1) (u.2.2.2.2))) (ww_X7_warden cI cC oT oT_s oT_aside oT_states oT_snapshot oT_text oT_serves oT_took oT_tookMany oT_helps oT_before oT_read T_thrown T_stateMany T_hasSnapshot T_length T_stopNumber T_stopError T_at T_isWell T_readMany T_s T_serves T_took T_tookMany T_helps) s.heap.size) ([.ref oT, .int x1, .int x2, .int x3] : List Value).toArray s 0 0 (va_A (ww_X7_warden cI cC oT oT_s oT_aside oT_states oT_snapshot oT_text oT_serves oT_took oT_tookMany oT_helps oT_before oT_read T_thrown T_stateMany T_hasSnapshot T_length T_stopNumber T_stopError T_at T_isWell T_readMany T_s T_serves T_took T_tookMany T_helps) s.heap.size)) (F0 m pc ls [.int r]) := by
    intro r u0 u1 u2 u3 u4 H locs ls pc hq hw9 hd9
    exact W.iret (v := r) hx hb hr (fun t ht hW => ⟨⟨r, (u0, u1, u2, u3, u4), rfl, hq, by rw [ht]; exact hw9.1, hw9.2.1⟩, hw9.2.2.F ht⟩) hw9.2.2.2.2 hd9
  unfold wp_X7_warden at hw
  refine lv_aload_n hx hb dX7_warden_0 rfl (lv_at hl 0 rfl) ?_
  refine lv_iconst (v := (nI 0)) hx hb dX7_warden_1 rfl ?_
  refine va_put (D := D) (ci := 7) (v := .int (nI 0)) (ty := .int) (C := RX7) (T := TX7) (N := 20) hx hb hts ic_X7_warden_X7 tyX7 tyX7_ok nmX7 hown hKw.1 hwd.1 hwd.2.1 hwd.2.2 0 rfl rfl 0 (by decide) (hts (.fieldLink RX7 43 "DrillWardensModel" "thrown" "I") (List.mem_of_getElem? (i := 1) rfl)) (fun _ h9 => h9) rfl (tyX7_ok 0 (by decide)) rfl rfl (Nat.le_of_ble_eq_true rfl) dX7_warden_2 (fun H locs h1 h2 h3 => ?_)
  replace hwd : wd D (va_A (ww_X7_warden cI cC oT oT_s oT_aside oT_states oT_snapshot oT_text oT_serves oT_took oT_tookMany oT_helps oT_before oT_read T_thrown T_stateMany T_hasSnapshot T_length T_stopNumber T_stopError T_at T_isWell T_readMany T_s T_serves T_took T_tookMany T_helps) s.heap.size) s (ww_X7_warden cI cC oT oT_s oT_aside oT_states oT_snapshot oT_text oT_serves oT_took oT_tookMany oT_helps oT_before oT_read (nI 0) T_stateMany T_hasSnapshot T_length T_stopNumber T_stopError T_at T_isWell T_readMany T_s T_serves T_took T_tookMany T_helps) H locs := ⟨h1, h2, h3⟩
  clear h1 h2 h3
  refine lv_iload_n hx hb dX7_warden_5 rfl (lv_at hl 2 rfl) ?_
  refine kcSi (rest := []) (As := [.int x2]) ⟨Nat.le_of_ble_eq_true rfl, Nat.le_of_ble_eq_true rfl⟩ ⟨hx, hb, hml, hown, hts⟩ (c_X7_isFloor l H.size x2 hw) (va_cwS 1 hts gX7_warden_X7_isFloor rfl rfl rfl hd_X7_isFloor ⟨Nat.le_of_ble_eq_true rfl, Nat.le_of_ble_eq_true rfl⟩) hKw hA hwd rfl hl.1 rfl (lv_room (Nat.le_of_ble_eq_true rfl)) dX7_warden_6 (fun r1 H locs hw hwd => ?_)
  try dsimp only at hw
  refine lv_if_ne (tgt := 14) hx hb dX7_warden_9 (by decide) (fun c2 => ?_) (fun c2 => ?_)
  · replace hw := hw.1 c2
    refine lv_iload_n hx hb dX7_warden_14 rfl (lv_at hl 1 rfl) ?_
    refine kcSi (rest := []) (As := [.int x1]) ⟨Nat.le_of_ble_eq_true rfl, Nat.le_of_ble_eq_true rfl⟩ ⟨hx, hb, hml, hown, hts⟩ (c_X7_isDay l H.size x1 hw) (va_cwS 1 hts gX7_warden_X7_isDay rfl rfl rfl hd_X7_isDay ⟨Nat.le_of_ble_eq_true rfl, Nat.le_of_ble_eq_true rfl⟩) hKw hA hwd rfl hl.1 rfl (lv_room (Nat.le_of_ble_eq_true rfl)) dX7_warden_15 (fun r3 H locs hw hwd => ?_)
    try dsimp only at hw
    refine lv_if_eq (tgt := 25) hx hb dX7_warden_18 (by decide) (fun c4 => ?_) (fun c4 => ?_)
    · replace hw := hw.1 c4
      refine lv_bipush (v := (-2)) hx hb dX7_warden_25 rfl ?_
      exact HR (-2) (nI 0) T_serves T_took T_tookMany T_helps hw hwd dX7_warden_27
    · replace hw := hw.2 c4
      refine lv_iload_n hx hb dX7_warden_21 rfl (lv_at hl 3 rfl) ?_
      refine lv_if_ge (tgt := 28) hx hb dX7_warden_22 (by decide) (fun c5 => ?_) (fun c5 => ?_)
      · replace hw := hw.1 c5
        refine lv_aload_n hx hb dX7_warden_28 rfl (lv_at hl 0 rfl) ?_
        refine lv_iload_n hx hb dX7_warden_29 rfl (lv_at hl 1 rfl) ?_
        refine kcVv (W1 := (fun u => (ww_X7_warden cI cC oT oT_s oT_aside oT_states oT_snapshot oT_text oT_serves oT_took oT_tookMany oT_helps oT_before oT_read (nI 0) T_stateMany T_hasSnapshot T_length T_stopNumber T_stopError T_at T_isWell T_readMany T_s (u.1) (u.2.1) (u.2.2.1) (u.2.2.2)))) (rest := []) (As := [.int x1]) ⟨Nat.le_of_ble_eq_true rfl, Nat.le_of_ble_eq_true rfl⟩ ⟨hx, hb, hml, hown, hts⟩ (c_X7_plans l oT oT_s oT_aside oT_states oT_snapshot oT_text oT_serves oT_took oT_tookMany oT_helps oT_before oT_read H.size (nI 0) T_stateMany T_hasSnapshot T_length T_stopNumber T_stopError T_at T_isWell T_readMany T_s T_serves T_took T_tookMany T_helps x1 hw) (cwV 1 hts gX7_warden_X7_plans rfl rfl rfl ⟨rfl, hd_X7_plans⟩ ⟨Nat.le_of_ble_eq_true rfl, Nat.le_of_ble_eq_true rfl⟩) hKw hA hwd [0, 1, 2, 3, 4, 5] [] [0, 1, 2, 3, 4, 5] [] rfl rfl rfl rfl (by decide) rfl (fun _ => rfl) 0 7 rfl rfl rfl rfl hl.1 rfl (lv_room (Nat.le_of_ble_eq_true rfl)) dX7_warden_30 (fun u H locs hw hwd => ?_)
        obtain ⟨T_serves6, T_took7, T_tookMany8, T_helps9⟩ := u
        try dsimp only at hw
        replace hwd : wd D (va_A (ww_X7_warden cI cC oT oT_s oT_aside oT_states oT_snapshot oT_text oT_serves oT_took oT_tookMany oT_helps oT_before oT_read T_thrown T_stateMany T_hasSnapshot T_length T_stopNumber T_stopError T_at T_isWell T_readMany T_s T_serves T_took T_tookMany T_helps) s.heap.size) s (ww_X7_warden cI cC oT oT_s oT_aside oT_states oT_snapshot oT_text oT_serves oT_took oT_tookMany oT_helps oT_before oT_read (nI 0) T_stateMany T_hasSnapshot T_length T_stopNumber T_stopError T_at T_isWell T_readMany T_s T_serves6 T_took7 T_tookMany8 T_helps9) H locs := hwd
        refine lv_iload_n hx hb dX7_warden_33 rfl (lv_at hl 3 rfl) ?_
        refine lv_aload_n hx hb dX7_warden_34 rfl (lv_at hl 0 rfl) ?_
        refine va_get (D := D) (ci := 7) (v := .ref oT_tookMany) (C := RX7) (T := TX7) (N := 20) hx hb hts ic_X7_warden_X7 hown hKw.1 hwd.1 0 rfl rfl 13 (by decide) (hts (.fieldLink RX7 31 "DrillWardensModel" "tookMany" "[I") (List.mem_of_getElem? (i := 2) rfl)) (fun _ h9 => h9) rfl dX7_warden_35 ?_
        refine lv_iload_n hx hb dX7_warden_38 rfl (lv_at hl 2 rfl) ?_
        refine va_iald hx hb hKw.1 hwd.1 4 0 rfl rfl hw.1 dX7_warden_39 ?_
        replace hw := hw.2
        refine lv_icmp_ge (tgt := 56) hx hb dX7_warden_40 (by decide) (fun c10 => ?_) (fun c10 => ?_)
        · replace hw := hw.1 c10
          refine lv_bipush (v := (-5)) hx hb dX7_warden_56 rfl ?_
          exact HR (-5) (nI 0) T_serves6 T_took7 T_tookMany8 T_helps9 hw hwd dX7_warden_58
        · replace hw := hw.2 c10
          refine lv_aload_n hx hb dX7_warden_43 rfl (lv_at hl 0 rfl) ?_
          refine va_get (D := D) (ci := 7) (v := .ref oT_took) (C := RX7) (T := TX7) (N := 20) hx hb hts ic_X7_warden_X7 hown hKw.1 hwd.1 0 rfl rfl 12 (by decide) (hts (.fieldLink RX7 28 "DrillWardensModel" "took" "[I") (List.mem_of_getElem? (i := 3) rfl)) (fun _ h9 => h9) rfl dX7_warden_44 ?_
          refine lv_iconst (v := (nI 3)) hx hb dX7_warden_47 rfl ?_
          refine lv_iload_n hx hb dX7_warden_48 rfl (lv_at hl 2 rfl) ?_
          refine lv_imul hx hb dX7_warden_49 ?_
          refine lv_iload_n hx hb dX7_warden_50 rfl (lv_at hl 3 rfl) ?_
          refine lv_iadd hx hb dX7_warden_51 ?_
          refine va_iald hx hb hKw.1 hwd.1 3 0 rfl rfl hw.1 dX7_warden_52 ?_
          replace hw := hw.2
          refine lv_goto (tgt := 58) hx hb dX7_warden_53 (by decide) ?_
          exact HR (T_took7 (((nI 3) * x2) + x3).toNatClampNeg) (nI 0) T_serves6 T_took7 T_tookMany8 T_helps9 hw hwd dX7_warden_58
      · replace hw := hw.2 c5
        refine lv_bipush (v := (-2)) hx hb dX7_warden_25 rfl ?_
        exact HR (-2) (nI 0) T_serves T_took T_tookMany T_helps hw hwd dX7_warden_27
  · replace hw := hw.2 c2
    refine lv_iconst (v := (-1)) hx hb dX7_warden_12 rfl ?_
    exact HR (-1) (nI 0) T_serves T_took T_tookMany T_helps hw hwd dX7_warden_13
abbrev ww_X7_staff (cI cC : ClassId) (oT oT_s oT_aside oT_states oT_snapshot oT_text oT_serves oT_took oT_tookMany oT_helps oT_before oT_read : Nat) (T_thrown : Int32) (T_stateMany : Int32) (T_hasSnapshot : Int32) (T_length : Int32) (T_stopNumber : Int32) (T_stopError : Int32) (T_at : Int32) (T_isWell : Int32) (T_readMany : Int32) (T_s : Nat → Int32) (T_serves : Nat → Int32) (T_took : Nat → Int32) (T_tookMany : Nat → Int32) (T_helps : Nat → Int32) : va_W := [(oT, .inr (7, [.int T_thrown, .ref oT_s, .ref oT_aside, .ref oT_states, .int T_stateMany, .ref oT_snapshot, .int T_hasSnapshot, .ref oT_text, .int T_length, .int T_stopNumber, .int T_stopError, .ref oT_serves, .ref oT_took, .ref oT_tookMany, .ref oT_helps, .ref oT_before, .int T_at, .int T_isWell, .ref oT_read, .int T_readMany])), (oT_s, .inl (cI, 474, .inl T_s)), (oT_serves, .inl (cI, 16, .inl T_serves)), (oT_took, .inl (cI, 30, .inl T_took)), (oT_tookMany, .inl (cI, 10, .inl T_tookMany)), (oT_helps, .inl (cI, 10, .inl T_helps))]
abbrev rm_X7_staff : Room := { frames := 5, cells := 0, slots := 0, locals := 113 }
theorem ic_X7_staff_X7 : ∀ w ∈ u_ws RX7 TX7 20, w ∈ wsX7_staff := by
  intro w h
  simp only [wsX7_staff, List.mem_cons, List.mem_append]
  simp only [h, or_true, true_or]
def wp_X7_staff (T_thrown : Int32) (T_s : Nat → Int32) (T_serves : Nat → Int32) (T_took : Nat → Int32) (T_tookMany : Nat → Int32) (T_helps : Nat → Int32) (x1 : Int32) (x2 : Int32) (x3 : Int32) (Q : Int32 → Int32 → (Nat → Int32) → (Nat → Int32) → (Nat → Int32) → (Nat → Int32) → Prop) : Prop := wp_X7_isFloor x2 (fun r1 => ((¬ r1 = 0 → wp_X7_isDay x1 (fun r3 => ((r3 = 0 → Q (-2) (nI 0) T_serves T_took T_tookMany T_helps) ∧ (¬ r3 = 0 → wp_X7_in x3 (nI 0) (nI 2) (fun r5 => ((¬ r5 = 0 → wp_X7_plans T_s T_serves T_took T_tookMany T_helps x1 (fun T_serves7 T_took8 T_tookMany9 T_helps10 => ((¬ x3 = 0 → ((¬ x3 = (nI 1) → vp_in x2 10 ∧ Q (T_helps10 x2.toNatClampNeg) (nI 0) T_serves7 T_took8 T_tookMany9 T_helps10) ∧ (x3 = (nI 1) → wp_X7_shortBy T_s T_tookMany9 x2 (fun r13 => Q r13 (nI 0) T_serves7 T_took8 T_tookMany9 T_helps10)))) ∧ (x3 = 0 → vp_in x2 10 ∧ Q (T_tookMany9 x2.toNatClampNeg) (nI 0) T_serves7 T_took8 T_tookMany9 T_helps10)))) ∧ (r5 = 0 → Q (-2) (nI 0) T_serves T_took T_tookMany T_helps))))))) ∧ (r1 = 0 → Q (-1) (nI 0) T_serves T_took T_tookMany T_helps)))
set_option maxRecDepth 100000 in
set_option maxHeartbeats 4000000 in
theorem c_X7_staff (l : Launch) {D : va_G} {cI cC cR : ClassId} (oT oT_s oT_aside oT_states oT_snapshot oT_text oT_serves oT_took oT_tookMany oT_helps oT_before oT_read : Nat) (sz : Nat) (T_thrown : Int32) (T_stateMany : Int32) (T_hasSnapshot : Int32) (T_length : Int32) (T_stopNumber : Int32) (T_stopError : Int32) (T_at : Int32) (T_isWell : Int32) (T_readMany : Int32) (T_s : Nat → Int32) (T_serves : Nat → Int32) (T_took : Nat → Int32) (T_tookMany : Nat → Int32) (T_helps : Nat → Int32) (x1 : Int32) (x2 : Int32) (x3 : Int32) {Q : Int32 → Int32 → (Nat → Int32) → (Nat → Int32) → (Nat → Int32) → (Nat → Int32) → Prop} (hw : wp_X7_staff T_thrown T_s T_serves T_took T_tookMany T_helps x1 x2 x3 Q) : Met l yX7_staff wsX7_staff rm_X7_staff (PcW D cI cC cR [.ref oT, .int x1, .int x2, .int x3] (ww_X7_staff cI cC oT oT_s oT_aside oT_states oT_snapshot oT_text oT_serves oT_took oT_tookMany oT_helps oT_before oT_read T_thrown T_stateMany T_hasSnapshot T_length T_stopNumber T_stopError T_at T_isWell T_readMany T_s T_serves T_took T_tookMany T_helps) sz) (QiW D (fun (r : Int32) (u : Int32 × (Nat → Int32) × (Nat → Int32) × (Nat → Int32) × (Nat → Int32)) => Q r u.1 u.2.1 u.2.2.1 u.2.2.2.1 u.2.2.2.2) (fun u => (ww_X7_staff cI cC oT oT_s oT_aside oT_states oT_snapshot oT_text oT_serves oT_took oT_tookMany oT_helps oT_before oT_read (u.1) T_stateMany T_hasSnapshot T_length T_stopNumber T_stopError T_at T_isWell T_readMany T_s (u.2.1) (u.2.2.1) (u.2.2.2.1) (u.2.2.2.2))) (ww_X7_staff cI cC oT oT_s oT_aside oT_states oT_snapshot oT_text oT_serves oT_took oT_tookMany oT_helps oT_before oT_read T_thrown T_stateMany T_hasSnapshot T_length T_stopNumber T_stopError T_at T_isWell T_readMany T_s T_serves T_took T_tookMany T_helps) sz) 0 0 (va_A (ww_X7_staff cI cC oT oT_s oT_aside oT_states oT_snapshot oT_text oT_serves oT_took oT_tookMany oT_helps oT_before oT_read T_thrown T_stateMany T_hasSnapshot T_length T_stopNumber T_stopError T_at T_isWell T_readMany T_s T_serves T_took T_tookMany T_helps) sz) := by
  refine Met.ofW (cc := cX7_staff) (maxL := 4) (ret := (some .int)) (by decide) rfl ?_
  intro p e s m args below meth c s₁ B hml hv
  obtain ⟨rfl, hsz, hP, hKw, hD0⟩ := hv
  have hlocks := B.notSynchronized
  subst hsz
  have hD := hD0.self (sz := s.heap.size)
  have CX : cx cX7_staff (some .int) 4 RX7 wsX7_staff p m meth c s ([.ref oT, .int x1, .int x2, .int x3] : List Value).toArray D cI cC cR (va_A (ww_X7_staff cI cC oT oT_s oT_aside oT_states oT_snapshot oT_text oT_serves oT_took oT_tookMany oT_helps oT_before oT_read T_thrown T_stateMany T_hasSnapshot T_length T_stopNumber T_stopError T_at T_isWell T_readMany T_s T_serves T_took T_tookMany T_helps) s.heap.size) := ⟨B.exec, B.bytes, B.returns, hml, atoms_spec (ws := wsX7_staff) B.pre, findClass_of_methodNamed B.named, hlocks, hKw, fun q h => Or.inr h⟩
  obtain ⟨hx, hb, hr, -, hts, hown, -, -, hA⟩ := id CX
  have hwd : wd D (va_A (ww_X7_staff cI cC oT oT_s oT_aside oT_states oT_snapshot oT_text oT_serves oT_took oT_tookMany oT_helps oT_before oT_read T_thrown T_stateMany T_hasSnapshot T_length T_stopNumber T_stopError T_at T_isWell T_readMany T_s T_serves T_took T_tookMany T_helps) s.heap.size) s (ww_X7_staff cI cC oT oT_s oT_aside oT_states oT_snapshot oT_text oT_serves oT_took oT_tookMany oT_helps oT_before oT_read T_thrown T_stateMany T_hasSnapshot T_length T_stopNumber T_stopError T_at T_isWell T_readMany T_s T_serves T_took T_tookMany T_helps) s.heap [] := ⟨hP, hD, va_S.rf⟩
  have hl := lv_entry ([.ref oT, .int x1, .int x2, .int x3]) (n := 4) (Nat.le_of_ble_eq_true rfl)
  rw [lg_entry_eq]
  generalize (lg_sl ([.ref oT, .int x1, .int x2, .int x3]) ++ List.replicate (4 - (lg_sl ([.ref oT, .int x1, .int x2, .int x3])).length) Slot.unset).toArray = ls at hl ⊢
  have hl : lv_has ls 4 [(0, .ref oT), (1, .int x1), (2, .int x2), (3, .int x3)] := hl
  have HR : ∀ (r : Int32) (u0 : Int32) (u1 : Nat → Int32) (u2 : Nat → Int32) (u3 : Nat → Int32) (u4 : Nat → Int32) {H : Heap} {locs : List Loc} {ls : Array Slot} {pc : Nat}, Q r u0 u1 u2 u3 u4 → wd D (va_A (ww_X7_staff cI cC oT oT_s oT_aside oT_states oT_snapshot oT_text oT_serves oT_took oT_tookMany oT_helps oT_before oT_read T_thrown T_stateMany T_hasSnapshot T_length T_stopNumber T_stopError T_at T_isWell T_readMany T_s T_serves T_took T_tookMany T_helps) s.heap.size) s (ww_X7_staff cI cC oT oT_s oT_aside oT_states oT_snapshot oT_text oT_serves oT_took oT_tookMany oT_helps oT_before oT_read u0 T_stateMany T_hasSnapshot T_length T_stopNumber T_stopError T_at T_isWell T_readMany T_s u1 u2 u3 u4) H locs → decode cX7_staff pc = .ok (.ireturn, 1) → W p l e (headSpec wsX7_staff rm_X7_staff).room s m ([.ref oT, .int x1, .int x2, .int x3] : List Value).toArray below meth c H locs 0 0 (MQ below (QiW D (fun (r : Int32) (u : Int32 × (Nat → Int32) × (Nat → Int32) × (Nat → Int32) × (Nat → Int32)) => Q r u.1 u.2.1 u.2.2.1 u.2.2.2.1 u.2.2.2.2) (fun u => (ww_X7_staff cI cC oT oT_s oT_aside oT_states oT_snapshot oT_text oT_serves oT_took oT_tookMany oT_helps oT_before oT_read (u.1) T_stateMany T_hasSnapshot T_length T_stopNumber T_stopError T_at T_isWell T_readMany T_s (u.2.1) (u.2.2.1) (u.2.2.2.1) (u.2.2.2.2))) (ww_X7_staff cI cC oT oT_s oT_aside oT_states oT_snapshot oT_text oT_serves oT_took oT_tookMany oT_helps oT_before oT_read T_thrown T_stateMany T_hasSnapshot T_length T_stopNumber T_stopError T_at T_isWell T_readMany T_s T_serves T_took T_tookMany T_helps) s.heap.size) ([.ref oT, .int x1, .int x2, .int x3] : List Value).toArray s 0 0 (va_A (ww_X7_staff cI cC oT oT_s oT_aside oT_states oT_snapshot oT_text oT_serves oT_took oT_tookMany oT_helps oT_before oT_read T_thrown T_stateMany T_hasSnapshot T_length T_stopNumber T_stopError T_at T_isWell T_readMany T_s T_serves T_took T_tookMany T_helps) s.heap.size)) (F0 m pc ls [.int r]) := by
    intro r u0 u1 u2 u3 u4 H locs ls pc hq hw9 hd9
    exact W.iret (v := r) hx hb hr (fun t ht hW => ⟨⟨r, (u0, u1, u2, u3, u4), rfl, hq, by rw [ht]; exact hw9.1, hw9.2.1⟩, hw9.2.2.F ht⟩) hw9.2.2.2.2 hd9
  unfold wp_X7_staff at hw
  refine lv_aload_n hx hb dX7_staff_0 rfl (lv_at hl 0 rfl) ?_
  refine lv_iconst (v := (nI 0)) hx hb dX7_staff_1 rfl ?_
  refine va_put (D := D) (ci := 7) (v := .int (nI 0)) (ty := .int) (C := RX7) (T := TX7) (N := 20) hx hb hts ic_X7_staff_X7 tyX7 tyX7_ok nmX7 hown hKw.1 hwd.1 hwd.2.1 hwd.2.2 0 rfl rfl 0 (by decide) (hts (.fieldLink RX7 43 "DrillWardensModel" "thrown" "I") (List.mem_of_getElem? (i := 1) rfl)) (fun _ h9 => h9) rfl (tyX7_ok 0 (by decide)) rfl rfl (Nat.le_of_ble_eq_true rfl) dX7_staff_2 (fun H locs h1 h2 h3 => ?_)
  replace hwd : wd D (va_A (ww_X7_staff cI cC oT oT_s oT_aside oT_states oT_snapshot oT_text oT_serves oT_took oT_tookMany oT_helps oT_before oT_read T_thrown T_stateMany T_hasSnapshot T_length T_stopNumber T_stopError T_at T_isWell T_readMany T_s T_serves T_took T_tookMany T_helps) s.heap.size) s (ww_X7_staff cI cC oT oT_s oT_aside oT_states oT_snapshot oT_text oT_serves oT_took oT_tookMany oT_helps oT_before oT_read (nI 0) T_stateMany T_hasSnapshot T_length T_stopNumber T_stopError T_at T_isWell T_readMany T_s T_serves T_took T_tookMany T_helps) H locs := ⟨h1, h2, h3⟩
  clear h1 h2 h3
  refine lv_iload_n hx hb dX7_staff_5 rfl (lv_at hl 2 rfl) ?_
  refine kcSi (rest := []) (As := [.int x2]) ⟨Nat.le_of_ble_eq_true rfl, Nat.le_of_ble_eq_true rfl⟩ ⟨hx, hb, hml, hown, hts⟩ (c_X7_isFloor l H.size x2 hw) (va_cwS 1 hts gX7_staff_X7_isFloor rfl rfl rfl hd_X7_isFloor ⟨Nat.le_of_ble_eq_true rfl, Nat.le_of_ble_eq_true rfl⟩) hKw hA hwd rfl hl.1 rfl (lv_room (Nat.le_of_ble_eq_true rfl)) dX7_staff_6 (fun r1 H locs hw hwd => ?_)
  try dsimp only at hw
  refine lv_if_ne (tgt := 14) hx hb dX7_staff_9 (by decide) (fun c2 => ?_) (fun c2 => ?_)
  · replace hw := hw.1 c2
    refine lv_iload_n hx hb dX7_staff_14 rfl (lv_at hl 1 rfl) ?_
    refine kcSi (rest := []) (As := [.int x1]) ⟨Nat.le_of_ble_eq_true rfl, Nat.le_of_ble_eq_true rfl⟩ ⟨hx, hb, hml, hown, hts⟩ (c_X7_isDay l H.size x1 hw) (va_cwS 1 hts gX7_staff_X7_isDay rfl rfl rfl hd_X7_isDay ⟨Nat.le_of_ble_eq_true rfl, Nat.le_of_ble_eq_true rfl⟩) hKw hA hwd rfl hl.1 rfl (lv_room (Nat.le_of_ble_eq_true rfl)) dX7_staff_15 (fun r3 H locs hw hwd => ?_)
    try dsimp only at hw
    refine lv_if_eq (tgt := 30) hx hb dX7_staff_18 (by decide) (fun c4 => ?_) (fun c4 => ?_)
    · replace hw := hw.1 c4
      refine lv_bipush (v := (-2)) hx hb dX7_staff_30 rfl ?_
      exact HR (-2) (nI 0) T_serves T_took T_tookMany T_helps hw hwd dX7_staff_32
    · replace hw := hw.2 c4
      refine lv_iload_n hx hb dX7_staff_21 rfl (lv_at hl 3 rfl) ?_
      refine lv_iconst (v := (nI 0)) hx hb dX7_staff_22 rfl ?_
      refine lv_iconst (v := (nI 2)) hx hb dX7_staff_23 rfl ?_
      refine kcSi (rest := []) (As := [.int x3, .int (nI 0), .int (nI 2)]) ⟨Nat.le_of_ble_eq_true rfl, Nat.le_of_ble_eq_true rfl⟩ ⟨hx, hb, hml, hown, hts⟩ (c_X7_in l H.size x3 (nI 0) (nI 2) hw) (va_cwS 3 hts gX7_staff_X7_in rfl rfl rfl hd_X7_in ⟨Nat.le_of_ble_eq_true rfl, Nat.le_of_ble_eq_true rfl⟩) hKw hA hwd rfl hl.1 rfl (lv_room (Nat.le_of_ble_eq_true rfl)) dX7_staff_24 (fun r5 H locs hw hwd => ?_)
      try dsimp only at hw
      refine lv_if_ne (tgt := 33) hx hb dX7_staff_27 (by decide) (fun c6 => ?_) (fun c6 => ?_)
      · replace hw := hw.1 c6
        refine lv_aload_n hx hb dX7_staff_33 rfl (lv_at hl 0 rfl) ?_
        refine lv_iload_n hx hb dX7_staff_34 rfl (lv_at hl 1 rfl) ?_
        refine kcVv (W1 := (fun u => (ww_X7_staff cI cC oT oT_s oT_aside oT_states oT_snapshot oT_text oT_serves oT_took oT_tookMany oT_helps oT_before oT_read (nI 0) T_stateMany T_hasSnapshot T_length T_stopNumber T_stopError T_at T_isWell T_readMany T_s (u.1) (u.2.1) (u.2.2.1) (u.2.2.2)))) (rest := []) (As := [.int x1]) ⟨Nat.le_of_ble_eq_true rfl, Nat.le_of_ble_eq_true rfl⟩ ⟨hx, hb, hml, hown, hts⟩ (c_X7_plans l oT oT_s oT_aside oT_states oT_snapshot oT_text oT_serves oT_took oT_tookMany oT_helps oT_before oT_read H.size (nI 0) T_stateMany T_hasSnapshot T_length T_stopNumber T_stopError T_at T_isWell T_readMany T_s T_serves T_took T_tookMany T_helps x1 hw) (cwV 1 hts gX7_staff_X7_plans rfl rfl rfl ⟨rfl, hd_X7_plans⟩ ⟨Nat.le_of_ble_eq_true rfl, Nat.le_of_ble_eq_true rfl⟩) hKw hA hwd [0, 1, 2, 3, 4, 5] [] [0, 1, 2, 3, 4, 5] [] rfl rfl rfl rfl (by decide) rfl (fun _ => rfl) 0 7 rfl rfl rfl rfl hl.1 rfl (lv_room (Nat.le_of_ble_eq_true rfl)) dX7_staff_35 (fun u H locs hw hwd => ?_)
        obtain ⟨T_serves7, T_took8, T_tookMany9, T_helps10⟩ := u
        try dsimp only at hw
        replace hwd : wd D (va_A (ww_X7_staff cI cC oT oT_s oT_aside oT_states oT_snapshot oT_text oT_serves oT_took oT_tookMany oT_helps oT_before oT_read T_thrown T_stateMany T_hasSnapshot T_length T_stopNumber T_stopError T_at T_isWell T_readMany T_s T_serves T_took T_tookMany T_helps) s.heap.size) s (ww_X7_staff cI cC oT oT_s oT_aside oT_states oT_snapshot oT_text oT_serves oT_took oT_tookMany oT_helps oT_before oT_read (nI 0) T_stateMany T_hasSnapshot T_length T_stopNumber T_stopError T_at T_isWell T_readMany T_s T_serves7 T_took8 T_tookMany9 T_helps10) H locs := hwd
        refine lv_iload_n hx hb dX7_staff_38 rfl (lv_at hl 3 rfl) ?_
        refine lv_if_ne (tgt := 51) hx hb dX7_staff_39 (by decide) (fun c11 => ?_) (fun c11 => ?_)
        · replace hw := hw.1 c11
          refine lv_iload_n hx hb dX7_staff_51 rfl (lv_at hl 3 rfl) ?_
          refine lv_iconst (v := (nI 1)) hx hb dX7_staff_52 rfl ?_
          refine lv_icmp_ne (tgt := 64) hx hb dX7_staff_53 (by decide) (fun c12 => ?_) (fun c12 => ?_)
          · replace hw := hw.1 c12
            refine lv_aload_n hx hb dX7_staff_64 rfl (lv_at hl 0 rfl) ?_
            refine va_get (D := D) (ci := 7) (v := .ref oT_helps) (C := RX7) (T := TX7) (N := 20) hx hb hts ic_X7_staff_X7 hown hKw.1 hwd.1 0 rfl rfl 14 (by decide) (hts (.fieldLink RX7 34 "DrillWardensModel" "helps" "[I") (List.mem_of_getElem? (i := 3) rfl)) (fun _ h9 => h9) rfl dX7_staff_65 ?_
            refine lv_iload_n hx hb dX7_staff_68 rfl (lv_at hl 2 rfl) ?_
            refine va_iald hx hb hKw.1 hwd.1 5 0 rfl rfl hw.1 dX7_staff_69 ?_
            replace hw := hw.2
            exact HR (T_helps10 x2.toNatClampNeg) (nI 0) T_serves7 T_took8 T_tookMany9 T_helps10 hw hwd dX7_staff_70
          · replace hw := hw.2 c12
            refine lv_aload_n hx hb dX7_staff_56 rfl (lv_at hl 0 rfl) ?_
            refine lv_iload_n hx hb dX7_staff_57 rfl (lv_at hl 2 rfl) ?_
            refine kcVi (W1 := (fun u => (ww_X7_staff cI cC oT oT_s oT_aside oT_states oT_snapshot oT_text oT_serves oT_took oT_tookMany oT_helps oT_before oT_read (nI 0) T_stateMany T_hasSnapshot T_length T_stopNumber T_stopError T_at T_isWell T_readMany T_s T_serves7 T_took8 T_tookMany9 T_helps10))) (rest := []) (As := [.int x2]) ⟨Nat.le_of_ble_eq_true rfl, Nat.le_of_ble_eq_true rfl⟩ ⟨hx, hb, hml, hown, hts⟩ (c_X7_shortBy l oT oT_s oT_aside oT_states oT_snapshot oT_text oT_serves oT_took oT_tookMany oT_helps oT_before oT_read H.size (nI 0) T_stateMany T_hasSnapshot T_length T_stopNumber T_stopError T_at T_isWell T_readMany T_s T_tookMany9 x2 hw) (cwV 1 hts gX7_staff_X7_shortBy rfl rfl rfl ⟨rfl, hd_X7_shortBy⟩ ⟨Nat.le_of_ble_eq_true rfl, Nat.le_of_ble_eq_true rfl⟩) hKw hA hwd [0, 1, 4] [2, 3, 5] [3, 4, 0, 1, 5, 2] [(oT_serves, .inl (cI, 16, .inl T_serves7)), (oT_took, .inl (cI, 30, .inl T_took8)), (oT_helps, .inl (cI, 10, .inl T_helps10))] rfl rfl rfl rfl (by decide) rfl (fun _ => rfl) 0 7 rfl rfl rfl rfl hl.1 rfl (lv_room (Nat.le_of_ble_eq_true rfl)) dX7_staff_58 (fun r13 u H locs hw hwd => ?_)
            try dsimp only at hw
            replace hwd : wd D (va_A (ww_X7_staff cI cC oT oT_s oT_aside oT_states oT_snapshot oT_text oT_serves oT_took oT_tookMany oT_helps oT_before oT_read T_thrown T_stateMany T_hasSnapshot T_length T_stopNumber T_stopError T_at T_isWell T_readMany T_s T_serves T_took T_tookMany T_helps) s.heap.size) s (ww_X7_staff cI cC oT oT_s oT_aside oT_states oT_snapshot oT_text oT_serves oT_took oT_tookMany oT_helps oT_before oT_read (nI 0) T_stateMany T_hasSnapshot T_length T_stopNumber T_stopError T_at T_isWell T_readMany T_s T_serves7 T_took8 T_tookMany9 T_helps10) H locs := hwd
            refine lv_goto (tgt := 70) hx hb dX7_staff_61 (by decide) ?_
            exact HR r13 (nI 0) T_serves7 T_took8 T_tookMany9 T_helps10 hw hwd dX7_staff_70
        · replace hw := hw.2 c11
          refine lv_aload_n hx hb dX7_staff_42 rfl (lv_at hl 0 rfl) ?_
          refine va_get (D := D) (ci := 7) (v := .ref oT_tookMany) (C := RX7) (T := TX7) (N := 20) hx hb hts ic_X7_staff_X7 hown hKw.1 hwd.1 0 rfl rfl 13 (by decide) (hts (.fieldLink RX7 31 "DrillWardensModel" "tookMany" "[I") (List.mem_of_getElem? (i := 2) rfl)) (fun _ h9 => h9) rfl dX7_staff_43 ?_
          refine lv_iload_n hx hb dX7_staff_46 rfl (lv_at hl 2 rfl) ?_
          refine va_iald hx hb hKw.1 hwd.1 4 0 rfl rfl hw.1 dX7_staff_47 ?_
          replace hw := hw.2
          refine lv_goto (tgt := 70) hx hb dX7_staff_48 (by decide) ?_
          exact HR (T_tookMany9 x2.toNatClampNeg) (nI 0) T_serves7 T_took8 T_tookMany9 T_helps10 hw hwd dX7_staff_70
      · replace hw := hw.2 c6
        refine lv_bipush (v := (-2)) hx hb dX7_staff_30 rfl ?_
        exact HR (-2) (nI 0) T_serves T_took T_tookMany T_helps hw hwd dX7_staff_32
  · replace hw := hw.2 c2
    refine lv_iconst (v := (-1)) hx hb dX7_staff_12 rfl ?_
    exact HR (-1) (nI 0) T_serves T_took T_tookMany T_helps hw hwd dX7_staff_13
abbrev ww_X7_floor (cI cC : ClassId) (oT oT_s oT_aside oT_states oT_snapshot oT_text oT_serves oT_took oT_tookMany oT_helps oT_before oT_read : Nat) (T_thrown : Int32) (T_stateMany : Int32) (T_hasSnapshot : Int32) (T_length : Int32) (T_stopNumber : Int32) (T_stopError : Int32) (T_at : Int32) (T_isWell : Int32) (T_readMany : Int32) (T_s : Nat → Int32) : va_W := [(oT, .inr (7, [.int T_thrown, .ref oT_s, .ref oT_aside, .ref oT_states, .int T_stateMany, .ref oT_snapshot, .int T_hasSnapshot, .ref oT_text, .int T_length, .int T_stopNumber, .int T_stopError, .ref oT_serves, .ref oT_took, .ref oT_tookMany, .ref oT_helps, .ref oT_before, .int T_at, .int T_isWell, .ref oT_read, .int T_readMany])), (oT_s, .inl (cI, 474, .inl T_s))]
abbrev rm_X7_floor : Room := { frames := 2, cells := 0, slots := 0, locals := 42 }
theorem ic_X7_floor_X7 : ∀ w ∈ u_ws RX7 TX7 20, w ∈ wsX7_floor := by
  intro w h
  simp only [wsX7_floor, List.mem_cons, List.mem_append]
  simp only [h, or_true, true_or]
def wp_X7_floor (T_thrown : Int32) (T_s : Nat → Int32) (x1 : Int32) (x2 : Int32) (Q : Int32 → Int32 → Prop) : Prop := wp_X7_isFloor x1 (fun r1 => ((¬ r1 = 0 → ((x2 = (nI 0) → wp_X7_of T_s x1 (nI 0) (fun r4 => Q r4 (nI 0))) ∧ (¬ x2 = (nI 0) → (x2 = (nI 1) → wp_X7_of T_s x1 (nI 1) (fun r6 => Q r6 (nI 0))) ∧ (¬ x2 = (nI 1) → (x2 = (nI 2) → wp_X7_of T_s x1 (nI 7) (fun r8 => Q r8 (nI 0))) ∧ (¬ x2 = (nI 2) → (x2 = (nI 3) → wp_X7_of T_s x1 (nI 8) (fun r10 => ((¬ r10 = 0 → wp_X7_of T_s x1 (nI 8) (fun r12 => wp_X7_of T_s x1 (((nI 9) + ((nI 3) * r12)) - (nI 3)) (fun r13 => Q r13 (nI 0)))) ∧ (r10 = 0 → Q (-5) (nI 0))))) ∧ (¬ x2 = (nI 3) → Q (-2) (nI 0))))))) ∧ (r1 = 0 → Q (-1) (nI 0))))
set_option maxRecDepth 100000 in
set_option maxHeartbeats 4000000 in
theorem c_X7_floor (l : Launch) {D : va_G} {cI cC cR : ClassId} (oT oT_s oT_aside oT_states oT_snapshot oT_text oT_serves oT_took oT_tookMany oT_helps oT_before oT_read : Nat) (sz : Nat) (T_thrown : Int32) (T_stateMany : Int32) (T_hasSnapshot : Int32) (T_length : Int32) (T_stopNumber : Int32) (T_stopError : Int32) (T_at : Int32) (T_isWell : Int32) (T_readMany : Int32) (T_s : Nat → Int32) (x1 : Int32) (x2 : Int32) {Q : Int32 → Int32 → Prop} (hw : wp_X7_floor T_thrown T_s x1 x2 Q) : Met l yX7_floor wsX7_floor rm_X7_floor (PcW D cI cC cR [.ref oT, .int x1, .int x2] (ww_X7_floor cI cC oT oT_s oT_aside oT_states oT_snapshot oT_text oT_serves oT_took oT_tookMany oT_helps oT_before oT_read T_thrown T_stateMany T_hasSnapshot T_length T_stopNumber T_stopError T_at T_isWell T_readMany T_s) sz) (QiW D (fun (r : Int32) (u : Int32) => Q r u) (fun u => (ww_X7_floor cI cC oT oT_s oT_aside oT_states oT_snapshot oT_text oT_serves oT_took oT_tookMany oT_helps oT_before oT_read u T_stateMany T_hasSnapshot T_length T_stopNumber T_stopError T_at T_isWell T_readMany T_s)) (ww_X7_floor cI cC oT oT_s oT_aside oT_states oT_snapshot oT_text oT_serves oT_took oT_tookMany oT_helps oT_before oT_read T_thrown T_stateMany T_hasSnapshot T_length T_stopNumber T_stopError T_at T_isWell T_readMany T_s) sz) 0 0 (va_A (ww_X7_floor cI cC oT oT_s oT_aside oT_states oT_snapshot oT_text oT_serves oT_took oT_tookMany oT_helps oT_before oT_read T_thrown T_stateMany T_hasSnapshot T_length T_stopNumber T_stopError T_at T_isWell T_readMany T_s) sz) := by
  refine Met.ofW (cc := cX7_floor) (maxL := 3) (ret := (some .int)) (by decide) rfl ?_
  intro p e s m args below meth c s₁ B hml hv
  obtain ⟨rfl, hsz, hP, hKw, hD0⟩ := hv
  have hlocks := B.notSynchronized
  subst hsz
  have hD := hD0.self (sz := s.heap.size)
  have CX : cx cX7_floor (some .int) 3 RX7 wsX7_floor p m meth c s ([.ref oT, .int x1, .int x2] : List Value).toArray D cI cC cR (va_A (ww_X7_floor cI cC oT oT_s oT_aside oT_states oT_snapshot oT_text oT_serves oT_took oT_tookMany oT_helps oT_before oT_read T_thrown T_stateMany T_hasSnapshot T_length T_stopNumber T_stopError T_at T_isWell T_readMany T_s) s.heap.size) := ⟨B.exec, B.bytes, B.returns, hml, atoms_spec (ws := wsX7_floor) B.pre, findClass_of_methodNamed B.named, hlocks, hKw, fun q h => Or.inr h⟩
  obtain ⟨hx, hb, hr, -, hts, hown, -, -, hA⟩ := id CX
  have hwd : wd D (va_A (ww_X7_floor cI cC oT oT_s oT_aside oT_states oT_snapshot oT_text oT_serves oT_took oT_tookMany oT_helps oT_before oT_read T_thrown T_stateMany T_hasSnapshot T_length T_stopNumber T_stopError T_at T_isWell T_readMany T_s) s.heap.size) s (ww_X7_floor cI cC oT oT_s oT_aside oT_states oT_snapshot oT_text oT_serves oT_took oT_tookMany oT_helps oT_before oT_read T_thrown T_stateMany T_hasSnapshot T_length T_stopNumber T_stopError T_at T_isWell T_readMany T_s) s.heap [] := ⟨hP, hD, va_S.rf⟩
  have hl := lv_entry ([.ref oT, .int x1, .int x2]) (n := 3) (Nat.le_of_ble_eq_true rfl)
  rw [lg_entry_eq]
  generalize (lg_sl ([.ref oT, .int x1, .int x2]) ++ List.replicate (3 - (lg_sl ([.ref oT, .int x1, .int x2])).length) Slot.unset).toArray = ls at hl ⊢
  have hl : lv_has ls 3 [(0, .ref oT), (1, .int x1), (2, .int x2)] := hl
  have HR : ∀ (r : Int32) (u0 : Int32) {H : Heap} {locs : List Loc} {ls : Array Slot} {pc : Nat}, Q r u0 → wd D (va_A (ww_X7_floor cI cC oT oT_s oT_aside oT_states oT_snapshot oT_text oT_serves oT_took oT_tookMany oT_helps oT_before oT_read T_thrown T_stateMany T_hasSnapshot T_length T_stopNumber T_stopError T_at T_isWell T_readMany T_s) s.heap.size) s (ww_X7_floor cI cC oT oT_s oT_aside oT_states oT_snapshot oT_text oT_serves oT_took oT_tookMany oT_helps oT_before oT_read u0 T_stateMany T_hasSnapshot T_length T_stopNumber T_stopError T_at T_isWell T_readMany T_s) H locs → decode cX7_floor pc = .ok (.ireturn, 1) → W p l e (headSpec wsX7_floor rm_X7_floor).room s m ([.ref oT, .int x1, .int x2] : List Value).toArray below meth c H locs 0 0 (MQ below (QiW D (fun (r : Int32) (u : Int32) => Q r u) (fun u => (ww_X7_floor cI cC oT oT_s oT_aside oT_states oT_snapshot oT_text oT_serves oT_took oT_tookMany oT_helps oT_before oT_read u T_stateMany T_hasSnapshot T_length T_stopNumber T_stopError T_at T_isWell T_readMany T_s)) (ww_X7_floor cI cC oT oT_s oT_aside oT_states oT_snapshot oT_text oT_serves oT_took oT_tookMany oT_helps oT_before oT_read T_thrown T_stateMany T_hasSnapshot T_length T_stopNumber T_stopError T_at T_isWell T_readMany T_s) s.heap.size) ([.ref oT, .int x1, .int x2] : List Value).toArray s 0 0 (va_A (ww_X7_floor cI cC oT oT_s oT_aside oT_states oT_snapshot oT_text oT_serves oT_took oT_tookMany oT_helps oT_before oT_read T_thrown T_stateMany T_hasSnapshot T_length T_stopNumber T_stopError T_at T_isWell T_readMany T_s) s.heap.size)) (F0 m pc ls [.int r]) := by
    intro r u0 H locs ls pc hq hw9 hd9
    exact W.iret (v := r) hx hb hr (fun t ht hW => ⟨⟨r, u0, rfl, hq, by rw [ht]; exact hw9.1, hw9.2.1⟩, hw9.2.2.F ht⟩) hw9.2.2.2.2 hd9
  unfold wp_X7_floor at hw
  refine lv_aload_n hx hb dX7_floor_0 rfl (lv_at hl 0 rfl) ?_
  refine lv_iconst (v := (nI 0)) hx hb dX7_floor_1 rfl ?_
  refine va_put (D := D) (ci := 7) (v := .int (nI 0)) (ty := .int) (C := RX7) (T := TX7) (N := 20) hx hb hts ic_X7_floor_X7 tyX7 tyX7_ok nmX7 hown hKw.1 hwd.1 hwd.2.1 hwd.2.2 0 rfl rfl 0 (by decide) (hts (.fieldLink RX7 43 "DrillWardensModel" "thrown" "I") (List.mem_of_getElem? (i := 1) rfl)) (fun _ h9 => h9) rfl (tyX7_ok 0 (by decide)) rfl rfl (Nat.le_of_ble_eq_true rfl) dX7_floor_2 (fun H locs h1 h2 h3 => ?_)
  replace hwd : wd D (va_A (ww_X7_floor cI cC oT oT_s oT_aside oT_states oT_snapshot oT_text oT_serves oT_took oT_tookMany oT_helps oT_before oT_read T_thrown T_stateMany T_hasSnapshot T_length T_stopNumber T_stopError T_at T_isWell T_readMany T_s) s.heap.size) s (ww_X7_floor cI cC oT oT_s oT_aside oT_states oT_snapshot oT_text oT_serves oT_took oT_tookMany oT_helps oT_before oT_read (nI 0) T_stateMany T_hasSnapshot T_length T_stopNumber T_stopError T_at T_isWell T_readMany T_s) H locs := ⟨h1, h2, h3⟩
  clear h1 h2 h3
  refine lv_iload_n hx hb dX7_floor_5 rfl (lv_at hl 1 rfl) ?_
  refine kcSi (rest := []) (As := [.int x1]) ⟨Nat.le_of_ble_eq_true rfl, Nat.le_of_ble_eq_true rfl⟩ ⟨hx, hb, hml, hown, hts⟩ (c_X7_isFloor l H.size x1 hw) (va_cwS 1 hts gX7_floor_X7_isFloor rfl rfl rfl hd_X7_isFloor ⟨Nat.le_of_ble_eq_true rfl, Nat.le_of_ble_eq_true rfl⟩) hKw hA hwd rfl hl.1 rfl (lv_room (Nat.le_of_ble_eq_true rfl)) dX7_floor_6 (fun r1 H locs hw hwd => ?_)
  try dsimp only at hw
  refine lv_if_ne (tgt := 14) hx hb dX7_floor_9 (by decide) (fun c2 => ?_) (fun c2 => ?_)
  · replace hw := hw.1 c2
    refine lv_iload_n hx hb dX7_floor_14 rfl (lv_at hl 2 rfl) ?_
    rcases Classical.em (x2 = (nI 0)) with c3 | c3
    · replace hw := hw.1 c3
      refine lv_tableIn (off := 29) (tgt := 44) hx hb dX7_floor_15 (by rw [c3]; decide) (by rw [c3]; decide) (by rw [c3]; rfl) (by decide) ?_
      refine lv_aload_n hx hb dX7_floor_44 rfl (lv_at hl 0 rfl) ?_
      refine lv_iload_n hx hb dX7_floor_45 rfl (lv_at hl 1 rfl) ?_
      refine lv_iconst (v := (nI 0)) hx hb dX7_floor_46 rfl ?_
      refine kcVi (W1 := (fun u => (ww_X7_floor cI cC oT oT_s oT_aside oT_states oT_snapshot oT_text oT_serves oT_took oT_tookMany oT_helps oT_before oT_read (nI 0) T_stateMany T_hasSnapshot T_length T_stopNumber T_stopError T_at T_isWell T_readMany T_s))) (rest := []) (As := [.int x1, .int (nI 0)]) ⟨Nat.le_of_ble_eq_true rfl, Nat.le_of_ble_eq_true rfl⟩ ⟨hx, hb, hml, hown, hts⟩ (c_X7_of l oT oT_s oT_aside oT_states oT_snapshot oT_text oT_serves oT_took oT_tookMany oT_helps oT_before oT_read H.size (nI 0) T_stateMany T_hasSnapshot T_length T_stopNumber T_stopError T_at T_isWell T_readMany T_s x1 (nI 0) hw) (cwV 2 hts gX7_floor_X7_of rfl rfl rfl ⟨rfl, hd_X7_of⟩ ⟨Nat.le_of_ble_eq_true rfl, Nat.le_of_ble_eq_true rfl⟩) hKw hA hwd [0, 1] [] [0, 1] [] rfl rfl rfl rfl (by decide) rfl (fun _ => rfl) 0 7 rfl rfl rfl rfl hl.1 rfl (lv_room (Nat.le_of_ble_eq_true rfl)) dX7_floor_47 (fun r4 u H locs hw hwd => ?_)
      try dsimp only at hw
      replace hwd : wd D (va_A (ww_X7_floor cI cC oT oT_s oT_aside oT_states oT_snapshot oT_text oT_serves oT_took oT_tookMany oT_helps oT_before oT_read T_thrown T_stateMany T_hasSnapshot T_length T_stopNumber T_stopError T_at T_isWell T_readMany T_s) s.heap.size) s (ww_X7_floor cI cC oT oT_s oT_aside oT_states oT_snapshot oT_text oT_serves oT_took oT_tookMany oT_helps oT_before oT_read (nI 0) T_stateMany T_hasSnapshot T_length T_stopNumber T_stopError T_at T_isWell T_readMany T_s) H locs := hwd
      exact HR r4 (nI 0) hw hwd dX7_floor_50
    · replace hw := hw.2 c3
      rcases Classical.em (x2 = (nI 1)) with c5 | c5
      · replace hw := hw.1 c5
        refine lv_tableIn (off := 36) (tgt := 51) hx hb dX7_floor_15 (by rw [c5]; decide) (by rw [c5]; decide) (by rw [c5]; rfl) (by decide) ?_
        refine lv_aload_n hx hb dX7_floor_51 rfl (lv_at hl 0 rfl) ?_
        refine lv_iload_n hx hb dX7_floor_52 rfl (lv_at hl 1 rfl) ?_
        refine lv_iconst (v := (nI 1)) hx hb dX7_floor_53 rfl ?_
        refine kcVi (W1 := (fun u => (ww_X7_floor cI cC oT oT_s oT_aside oT_states oT_snapshot oT_text oT_serves oT_took oT_tookMany oT_helps oT_before oT_read (nI 0) T_stateMany T_hasSnapshot T_length T_stopNumber T_stopError T_at T_isWell T_readMany T_s))) (rest := []) (As := [.int x1, .int (nI 1)]) ⟨Nat.le_of_ble_eq_true rfl, Nat.le_of_ble_eq_true rfl⟩ ⟨hx, hb, hml, hown, hts⟩ (c_X7_of l oT oT_s oT_aside oT_states oT_snapshot oT_text oT_serves oT_took oT_tookMany oT_helps oT_before oT_read H.size (nI 0) T_stateMany T_hasSnapshot T_length T_stopNumber T_stopError T_at T_isWell T_readMany T_s x1 (nI 1) hw) (cwV 2 hts gX7_floor_X7_of rfl rfl rfl ⟨rfl, hd_X7_of⟩ ⟨Nat.le_of_ble_eq_true rfl, Nat.le_of_ble_eq_true rfl⟩) hKw hA hwd [0, 1] [] [0, 1] [] rfl rfl rfl rfl (by decide) rfl (fun _ => rfl) 0 7 rfl rfl rfl rfl hl.1 rfl (lv_room (Nat.le_of_ble_eq_true rfl)) dX7_floor_54 (fun r6 u H locs hw hwd => ?_)
        try dsimp only at hw
        replace hwd : wd D (va_A (ww_X7_floor cI cC oT oT_s oT_aside oT_states oT_snapshot oT_text oT_serves oT_took oT_tookMany oT_helps oT_before oT_read T_thrown T_stateMany T_hasSnapshot T_length T_stopNumber T_stopError T_at T_isWell T_readMany T_s) s.heap.size) s (ww_X7_floor cI cC oT oT_s oT_aside oT_states oT_snapshot oT_text oT_serves oT_took oT_tookMany oT_helps oT_before oT_read (nI 0) T_stateMany T_hasSnapshot T_length T_stopNumber T_stopError T_at T_isWell T_readMany T_s) H locs := hwd
        exact HR r6 (nI 0) hw hwd dX7_floor_57
      · replace hw := hw.2 c5
        rcases Classical.em (x2 = (nI 2)) with c7 | c7
        · replace hw := hw.1 c7
          refine lv_tableIn (off := 43) (tgt := 58) hx hb dX7_floor_15 (by rw [c7]; decide) (by rw [c7]; decide) (by rw [c7]; rfl) (by decide) ?_
          refine lv_aload_n hx hb dX7_floor_58 rfl (lv_at hl 0 rfl) ?_
          refine lv_iload_n hx hb dX7_floor_59 rfl (lv_at hl 1 rfl) ?_
          refine lv_bipush (v := (nI 7)) hx hb dX7_floor_60 rfl ?_
          refine kcVi (W1 := (fun u => (ww_X7_floor cI cC oT oT_s oT_aside oT_states oT_snapshot oT_text oT_serves oT_took oT_tookMany oT_helps oT_before oT_read (nI 0) T_stateMany T_hasSnapshot T_length T_stopNumber T_stopError T_at T_isWell T_readMany T_s))) (rest := []) (As := [.int x1, .int (nI 7)]) ⟨Nat.le_of_ble_eq_true rfl, Nat.le_of_ble_eq_true rfl⟩ ⟨hx, hb, hml, hown, hts⟩ (c_X7_of l oT oT_s oT_aside oT_states oT_snapshot oT_text oT_serves oT_took oT_tookMany oT_helps oT_before oT_read H.size (nI 0) T_stateMany T_hasSnapshot T_length T_stopNumber T_stopError T_at T_isWell T_readMany T_s x1 (nI 7) hw) (cwV 2 hts gX7_floor_X7_of rfl rfl rfl ⟨rfl, hd_X7_of⟩ ⟨Nat.le_of_ble_eq_true rfl, Nat.le_of_ble_eq_true rfl⟩) hKw hA hwd [0, 1] [] [0, 1] [] rfl rfl rfl rfl (by decide) rfl (fun _ => rfl) 0 7 rfl rfl rfl rfl hl.1 rfl (lv_room (Nat.le_of_ble_eq_true rfl)) dX7_floor_62 (fun r8 u H locs hw hwd => ?_)
          try dsimp only at hw
          replace hwd : wd D (va_A (ww_X7_floor cI cC oT oT_s oT_aside oT_states oT_snapshot oT_text oT_serves oT_took oT_tookMany oT_helps oT_before oT_read T_thrown T_stateMany T_hasSnapshot T_length T_stopNumber T_stopError T_at T_isWell T_readMany T_s) s.heap.size) s (ww_X7_floor cI cC oT oT_s oT_aside oT_states oT_snapshot oT_text oT_serves oT_took oT_tookMany oT_helps oT_before oT_read (nI 0) T_stateMany T_hasSnapshot T_length T_stopNumber T_stopError T_at T_isWell T_readMany T_s) H locs := hwd
          exact HR r8 (nI 0) hw hwd dX7_floor_65
        · replace hw := hw.2 c7
          rcases Classical.em (x2 = (nI 3)) with c9 | c9
          · replace hw := hw.1 c9
            refine lv_tableIn (off := 51) (tgt := 66) hx hb dX7_floor_15 (by rw [c9]; decide) (by rw [c9]; decide) (by rw [c9]; rfl) (by decide) ?_
            refine lv_aload_n hx hb dX7_floor_66 rfl (lv_at hl 0 rfl) ?_
            refine lv_iload_n hx hb dX7_floor_67 rfl (lv_at hl 1 rfl) ?_
            refine lv_bipush (v := (nI 8)) hx hb dX7_floor_68 rfl ?_
            refine kcVi (W1 := (fun u => (ww_X7_floor cI cC oT oT_s oT_aside oT_states oT_snapshot oT_text oT_serves oT_took oT_tookMany oT_helps oT_before oT_read (nI 0) T_stateMany T_hasSnapshot T_length T_stopNumber T_stopError T_at T_isWell T_readMany T_s))) (rest := []) (As := [.int x1, .int (nI 8)]) ⟨Nat.le_of_ble_eq_true rfl, Nat.le_of_ble_eq_true rfl⟩ ⟨hx, hb, hml, hown, hts⟩ (c_X7_of l oT oT_s oT_aside oT_states oT_snapshot oT_text oT_serves oT_took oT_tookMany oT_helps oT_before oT_read H.size (nI 0) T_stateMany T_hasSnapshot T_length T_stopNumber T_stopError T_at T_isWell T_readMany T_s x1 (nI 8) hw) (cwV 2 hts gX7_floor_X7_of rfl rfl rfl ⟨rfl, hd_X7_of⟩ ⟨Nat.le_of_ble_eq_true rfl, Nat.le_of_ble_eq_true rfl⟩) hKw hA hwd [0, 1] [] [0, 1] [] rfl rfl rfl rfl (by decide) rfl (fun _ => rfl) 0 7 rfl rfl rfl rfl hl.1 rfl (lv_room (Nat.le_of_ble_eq_true rfl)) dX7_floor_70 (fun r10 u H locs hw hwd => ?_)
            try dsimp only at hw
            replace hwd : wd D (va_A (ww_X7_floor cI cC oT oT_s oT_aside oT_states oT_snapshot oT_text oT_serves oT_took oT_tookMany oT_helps oT_before oT_read T_thrown T_stateMany T_hasSnapshot T_length T_stopNumber T_stopError T_at T_isWell T_readMany T_s) s.heap.size) s (ww_X7_floor cI cC oT oT_s oT_aside oT_states oT_snapshot oT_text oT_serves oT_took oT_tookMany oT_helps oT_before oT_read (nI 0) T_stateMany T_hasSnapshot T_length T_stopNumber T_stopError T_at T_isWell T_readMany T_s) H locs := hwd
            refine lv_if_ne (tgt := 81) hx hb dX7_floor_73 (by decide) (fun c11 => ?_) (fun c11 => ?_)
            · replace hw := hw.1 c11
              refine lv_aload_n hx hb dX7_floor_81 rfl (lv_at hl 0 rfl) ?_
              refine lv_iload_n hx hb dX7_floor_82 rfl (lv_at hl 1 rfl) ?_
              refine lv_bipush (v := (nI 9)) hx hb dX7_floor_83 rfl ?_
              refine lv_iconst (v := (nI 3)) hx hb dX7_floor_85 rfl ?_
              refine lv_aload_n hx hb dX7_floor_86 rfl (lv_at hl 0 rfl) ?_
              refine lv_iload_n hx hb dX7_floor_87 rfl (lv_at hl 1 rfl) ?_
              refine lv_bipush (v := (nI 8)) hx hb dX7_floor_88 rfl ?_
              refine kcVi (W1 := (fun u => (ww_X7_floor cI cC oT oT_s oT_aside oT_states oT_snapshot oT_text oT_serves oT_took oT_tookMany oT_helps oT_before oT_read (nI 0) T_stateMany T_hasSnapshot T_length T_stopNumber T_stopError T_at T_isWell T_readMany T_s))) (rest := [.int (nI 3), .int (nI 9), .int x1, .ref oT]) (As := [.int x1, .int (nI 8)]) ⟨Nat.le_of_ble_eq_true rfl, Nat.le_of_ble_eq_true rfl⟩ ⟨hx, hb, hml, hown, hts⟩ (c_X7_of l oT oT_s oT_aside oT_states oT_snapshot oT_text oT_serves oT_took oT_tookMany oT_helps oT_before oT_read H.size (nI 0) T_stateMany T_hasSnapshot T_length T_stopNumber T_stopError T_at T_isWell T_readMany T_s x1 (nI 8) hw) (cwV 2 hts gX7_floor_X7_of rfl rfl rfl ⟨rfl, hd_X7_of⟩ ⟨Nat.le_of_ble_eq_true rfl, Nat.le_of_ble_eq_true rfl⟩) hKw hA hwd [0, 1] [] [0, 1] [] rfl rfl rfl rfl (by decide) rfl (fun _ => rfl) 0 7 rfl rfl rfl rfl hl.1 rfl (lv_room (Nat.le_of_ble_eq_true rfl)) dX7_floor_90 (fun r12 u H locs hw hwd => ?_)
              try dsimp only at hw
              replace hwd : wd D (va_A (ww_X7_floor cI cC oT oT_s oT_aside oT_states oT_snapshot oT_text oT_serves oT_took oT_tookMany oT_helps oT_before oT_read T_thrown T_stateMany T_hasSnapshot T_length T_stopNumber T_stopError T_at T_isWell T_readMany T_s) s.heap.size) s (ww_X7_floor cI cC oT oT_s oT_aside oT_states oT_snapshot oT_text oT_serves oT_took oT_tookMany oT_helps oT_before oT_read (nI 0) T_stateMany T_hasSnapshot T_length T_stopNumber T_stopError T_at T_isWell T_readMany T_s) H locs := hwd
              refine lv_imul hx hb dX7_floor_93 ?_
              refine lv_iadd hx hb dX7_floor_94 ?_
              refine lv_iconst (v := (nI 3)) hx hb dX7_floor_95 rfl ?_
              refine lv_isub hx hb dX7_floor_96 ?_
              refine kcVi (W1 := (fun u => (ww_X7_floor cI cC oT oT_s oT_aside oT_states oT_snapshot oT_text oT_serves oT_took oT_tookMany oT_helps oT_before oT_read (nI 0) T_stateMany T_hasSnapshot T_length T_stopNumber T_stopError T_at T_isWell T_readMany T_s))) (rest := []) (As := [.int x1, .int (((nI 9) + ((nI 3) * r12)) - (nI 3))]) ⟨Nat.le_of_ble_eq_true rfl, Nat.le_of_ble_eq_true rfl⟩ ⟨hx, hb, hml, hown, hts⟩ (c_X7_of l oT oT_s oT_aside oT_states oT_snapshot oT_text oT_serves oT_took oT_tookMany oT_helps oT_before oT_read H.size (nI 0) T_stateMany T_hasSnapshot T_length T_stopNumber T_stopError T_at T_isWell T_readMany T_s x1 (((nI 9) + ((nI 3) * r12)) - (nI 3)) hw) (cwV 2 hts gX7_floor_X7_of rfl rfl rfl ⟨rfl, hd_X7_of⟩ ⟨Nat.le_of_ble_eq_true rfl, Nat.le_of_ble_eq_true rfl⟩) hKw hA hwd [0, 1] [] [0, 1] [] rfl rfl rfl rfl (by decide) rfl (fun _ => rfl) 0 7 rfl rfl rfl rfl hl.1 rfl (lv_room (Nat.le_of_ble_eq_true rfl)) dX7_floor_97 (fun r13 u H locs hw hwd => ?_)
              try dsimp only at hw
              replace hwd : wd D (va_A (ww_X7_floor cI cC oT oT_s oT_aside oT_states oT_snapshot oT_text oT_serves oT_took oT_tookMany oT_helps oT_before oT_read T_thrown T_stateMany T_hasSnapshot T_length T_stopNumber T_stopError T_at T_isWell T_readMany T_s) s.heap.size) s (ww_X7_floor cI cC oT oT_s oT_aside oT_states oT_snapshot oT_text oT_serves oT_took oT_tookMany oT_helps oT_before oT_read (nI 0) T_stateMany T_hasSnapshot T_length T_stopNumber T_stopError T_at T_isWell T_readMany T_s) H locs := hwd
              exact HR r13 (nI 0) hw hwd dX7_floor_100
            · replace hw := hw.2 c11
              refine lv_bipush (v := (-5)) hx hb dX7_floor_76 rfl ?_
              refine lv_goto (tgt := 100) hx hb dX7_floor_78 (by decide) ?_
              exact HR (-5) (nI 0) hw hwd dX7_floor_100
          · replace hw := hw.2 c9
            refine lv_tableOut (tgt := 101) hx hb dX7_floor_15 (sw_out (fun j h1 h2 => by rcases (show j = 0 ∨ j = 1 ∨ j = 2 ∨ j = 3 by omega) with rfl | rfl | rfl | rfl <;> first | exact c3 | exact c5 | exact c7 | exact c9)) (by decide) ?_
            refine lv_bipush (v := (-2)) hx hb dX7_floor_101 rfl ?_
            exact HR (-2) (nI 0) hw hwd dX7_floor_103
  · replace hw := hw.2 c2
    refine lv_iconst (v := (-1)) hx hb dX7_floor_12 rfl ?_
    exact HR (-1) (nI 0) hw hwd dX7_floor_13
abbrev ww_X7_row (cI cC : ClassId) (oT oT_s oT_aside oT_states oT_snapshot oT_text oT_serves oT_took oT_tookMany oT_helps oT_before oT_read : Nat) (T_thrown : Int32) (T_stateMany : Int32) (T_hasSnapshot : Int32) (T_length : Int32) (T_stopNumber : Int32) (T_stopError : Int32) (T_at : Int32) (T_isWell : Int32) (T_readMany : Int32) (T_s : Nat → Int32) : va_W := [(oT, .inr (7, [.int T_thrown, .ref oT_s, .ref oT_aside, .ref oT_states, .int T_stateMany, .ref oT_snapshot, .int T_hasSnapshot, .ref oT_text, .int T_length, .int T_stopNumber, .int T_stopError, .ref oT_serves, .ref oT_took, .ref oT_tookMany, .ref oT_helps, .ref oT_before, .int T_at, .int T_isWell, .ref oT_read, .int T_readMany])), (oT_s, .inl (cI, 474, .inl T_s))]
abbrev rm_X7_row : Room := { frames := 2, cells := 0, slots := 0, locals := 42 }
theorem ic_X7_row_X7 : ∀ w ∈ u_ws RX7 TX7 20, w ∈ wsX7_row := by
  intro w h
  simp only [wsX7_row, List.mem_cons, List.mem_append]
  simp only [h, or_true, true_or]
def wp_X7_row (T_thrown : Int32) (T_s : Nat → Int32) (x1 : Int32) (x2 : Int32) (Q : Int32 → Int32 → Prop) : Prop := wp_X7_isFloor x1 (fun r1 => ((¬ r1 = 0 → ((0 ≤ x2 → wp_X7_of T_s x1 (nI 1) (fun r4 => ((r4 ≤ x2 → Q (-5) (nI 0)) ∧ (¬ r4 ≤ x2 → wp_X7_of T_s x1 ((nI 2) + x2) (fun r6 => Q r6 (nI 0)))))) ∧ (¬ 0 ≤ x2 → Q (-2) (nI 0)))) ∧ (r1 = 0 → Q (-1) (nI 0))))
set_option maxRecDepth 100000 in
set_option maxHeartbeats 4000000 in
theorem c_X7_row (l : Launch) {D : va_G} {cI cC cR : ClassId} (oT oT_s oT_aside oT_states oT_snapshot oT_text oT_serves oT_took oT_tookMany oT_helps oT_before oT_read : Nat) (sz : Nat) (T_thrown : Int32) (T_stateMany : Int32) (T_hasSnapshot : Int32) (T_length : Int32) (T_stopNumber : Int32) (T_stopError : Int32) (T_at : Int32) (T_isWell : Int32) (T_readMany : Int32) (T_s : Nat → Int32) (x1 : Int32) (x2 : Int32) {Q : Int32 → Int32 → Prop} (hw : wp_X7_row T_thrown T_s x1 x2 Q) : Met l yX7_row wsX7_row rm_X7_row (PcW D cI cC cR [.ref oT, .int x1, .int x2] (ww_X7_row cI cC oT oT_s oT_aside oT_states oT_snapshot oT_text oT_serves oT_took oT_tookMany oT_helps oT_before oT_read T_thrown T_stateMany T_hasSnapshot T_length T_stopNumber T_stopError T_at T_isWell T_readMany T_s) sz) (QiW D (fun (r : Int32) (u : Int32) => Q r u) (fun u => (ww_X7_row cI cC oT oT_s oT_aside oT_states oT_snapshot oT_text oT_serves oT_took oT_tookMany oT_helps oT_before oT_read u T_stateMany T_hasSnapshot T_length T_stopNumber T_stopError T_at T_isWell T_readMany T_s)) (ww_X7_row cI cC oT oT_s oT_aside oT_states oT_snapshot oT_text oT_serves oT_took oT_tookMany oT_helps oT_before oT_read T_thrown T_stateMany T_hasSnapshot T_length T_stopNumber T_stopError T_at T_isWell T_readMany T_s) sz) 0 0 (va_A (ww_X7_row cI cC oT oT_s oT_aside oT_states oT_snapshot oT_text oT_serves oT_took oT_tookMany oT_helps oT_before oT_read T_thrown T_stateMany T_hasSnapshot T_length T_stopNumber T_stopError T_at T_isWell T_readMany T_s) sz) := by
  refine Met.ofW (cc := cX7_row) (maxL := 3) (ret := (some .int)) (by decide) rfl ?_
  intro p e s m args below meth c s₁ B hml hv
  obtain ⟨rfl, hsz, hP, hKw, hD0⟩ := hv
  have hlocks := B.notSynchronized
  subst hsz
  have hD := hD0.self (sz := s.heap.size)
  have CX : cx cX7_row (some .int) 3 RX7 wsX7_row p m meth c s ([.ref oT, .int x1, .int x2] : List Value).toArray D cI cC cR (va_A (ww_X7_row cI cC oT oT_s oT_aside oT_states oT_snapshot oT_text oT_serves oT_took oT_tookMany oT_helps oT_before oT_read T_thrown T_stateMany T_hasSnapshot T_length T_stopNumber T_stopError T_at T_isWell T_readMany T_s) s.heap.size) := ⟨B.exec, B.bytes, B.returns, hml, atoms_spec (ws := wsX7_row) B.pre, findClass_of_methodNamed B.named, hlocks, hKw, fun q h => Or.inr h⟩
  obtain ⟨hx, hb, hr, -, hts, hown, -, -, hA⟩ := id CX
  have hwd : wd D (va_A (ww_X7_row cI cC oT oT_s oT_aside oT_states oT_snapshot oT_text oT_serves oT_took oT_tookMany oT_helps oT_before oT_read T_thrown T_stateMany T_hasSnapshot T_length T_stopNumber T_stopError T_at T_isWell T_readMany T_s) s.heap.size) s (ww_X7_row cI cC oT oT_s oT_aside oT_states oT_snapshot oT_text oT_serves oT_took oT_tookMany oT_helps oT_before oT_read T_thrown T_stateMany T_hasSnapshot T_length T_stopNumber T_stopError T_at T_isWell T_readMany T_s) s.heap [] := ⟨hP, hD, va_S.rf⟩
  have hl := lv_entry ([.ref oT, .int x1, .int x2]) (n := 3) (Nat.le_of_ble_eq_true rfl)
  rw [lg_entry_eq]
  generalize (lg_sl ([.ref oT, .int x1, .int x2]) ++ List.replicate (3 - (lg_sl ([.ref oT, .int x1, .int x2])).length) Slot.unset).toArray = ls at hl ⊢
  have hl : lv_has ls 3 [(0, .ref oT), (1, .int x1), (2, .int x2)] := hl
  have HR : ∀ (r : Int32) (u0 : Int32) {H : Heap} {locs : List Loc} {ls : Array Slot} {pc : Nat}, Q r u0 → wd D (va_A (ww_X7_row cI cC oT oT_s oT_aside oT_states oT_snapshot oT_text oT_serves oT_took oT_tookMany oT_helps oT_before oT_read T_thrown T_stateMany T_hasSnapshot T_length T_stopNumber T_stopError T_at T_isWell T_readMany T_s) s.heap.size) s (ww_X7_row cI cC oT oT_s oT_aside oT_states oT_snapshot oT_text oT_serves oT_took oT_tookMany oT_helps oT_before oT_read u0 T_stateMany T_hasSnapshot T_length T_stopNumber T_stopError T_at T_isWell T_readMany T_s) H locs → decode cX7_row pc = .ok (.ireturn, 1) → W p l e (headSpec wsX7_row rm_X7_row).room s m ([.ref oT, .int x1, .int x2] : List Value).toArray below meth c H locs 0 0 (MQ below (QiW D (fun (r : Int32) (u : Int32) => Q r u) (fun u => (ww_X7_row cI cC oT oT_s oT_aside oT_states oT_snapshot oT_text oT_serves oT_took oT_tookMany oT_helps oT_before oT_read u T_stateMany T_hasSnapshot T_length T_stopNumber T_stopError T_at T_isWell T_readMany T_s)) (ww_X7_row cI cC oT oT_s oT_aside oT_states oT_snapshot oT_text oT_serves oT_took oT_tookMany oT_helps oT_before oT_read T_thrown T_stateMany T_hasSnapshot T_length T_stopNumber T_stopError T_at T_isWell T_readMany T_s) s.heap.size) ([.ref oT, .int x1, .int x2] : List Value).toArray s 0 0 (va_A (ww_X7_row cI cC oT oT_s oT_aside oT_states oT_snapshot oT_text oT_serves oT_took oT_tookMany oT_helps oT_before oT_read T_thrown T_stateMany T_hasSnapshot T_length T_stopNumber T_stopError T_at T_isWell T_readMany T_s) s.heap.size)) (F0 m pc ls [.int r]) := by
    intro r u0 H locs ls pc hq hw9 hd9
    exact W.iret (v := r) hx hb hr (fun t ht hW => ⟨⟨r, u0, rfl, hq, by rw [ht]; exact hw9.1, hw9.2.1⟩, hw9.2.2.F ht⟩) hw9.2.2.2.2 hd9
  unfold wp_X7_row at hw
  refine lv_aload_n hx hb dX7_row_0 rfl (lv_at hl 0 rfl) ?_
  refine lv_iconst (v := (nI 0)) hx hb dX7_row_1 rfl ?_
  refine va_put (D := D) (ci := 7) (v := .int (nI 0)) (ty := .int) (C := RX7) (T := TX7) (N := 20) hx hb hts ic_X7_row_X7 tyX7 tyX7_ok nmX7 hown hKw.1 hwd.1 hwd.2.1 hwd.2.2 0 rfl rfl 0 (by decide) (hts (.fieldLink RX7 43 "DrillWardensModel" "thrown" "I") (List.mem_of_getElem? (i := 1) rfl)) (fun _ h9 => h9) rfl (tyX7_ok 0 (by decide)) rfl rfl (Nat.le_of_ble_eq_true rfl) dX7_row_2 (fun H locs h1 h2 h3 => ?_)
  replace hwd : wd D (va_A (ww_X7_row cI cC oT oT_s oT_aside oT_states oT_snapshot oT_text oT_serves oT_took oT_tookMany oT_helps oT_before oT_read T_thrown T_stateMany T_hasSnapshot T_length T_stopNumber T_stopError T_at T_isWell T_readMany T_s) s.heap.size) s (ww_X7_row cI cC oT oT_s oT_aside oT_states oT_snapshot oT_text oT_serves oT_took oT_tookMany oT_helps oT_before oT_read (nI 0) T_stateMany T_hasSnapshot T_length T_stopNumber T_stopError T_at T_isWell T_readMany T_s) H locs := ⟨h1, h2, h3⟩
  clear h1 h2 h3
  refine lv_iload_n hx hb dX7_row_5 rfl (lv_at hl 1 rfl) ?_
  refine kcSi (rest := []) (As := [.int x1]) ⟨Nat.le_of_ble_eq_true rfl, Nat.le_of_ble_eq_true rfl⟩ ⟨hx, hb, hml, hown, hts⟩ (c_X7_isFloor l H.size x1 hw) (va_cwS 1 hts gX7_row_X7_isFloor rfl rfl rfl hd_X7_isFloor ⟨Nat.le_of_ble_eq_true rfl, Nat.le_of_ble_eq_true rfl⟩) hKw hA hwd rfl hl.1 rfl (lv_room (Nat.le_of_ble_eq_true rfl)) dX7_row_6 (fun r1 H locs hw hwd => ?_)
  try dsimp only at hw
  refine lv_if_ne (tgt := 14) hx hb dX7_row_9 (by decide) (fun c2 => ?_) (fun c2 => ?_)
  · replace hw := hw.1 c2
    refine lv_iload_n hx hb dX7_row_14 rfl (lv_at hl 2 rfl) ?_
    refine lv_if_ge (tgt := 23) hx hb dX7_row_15 (by decide) (fun c3 => ?_) (fun c3 => ?_)
    · replace hw := hw.1 c3
      refine lv_iload_n hx hb dX7_row_23 rfl (lv_at hl 2 rfl) ?_
      refine lv_aload_n hx hb dX7_row_24 rfl (lv_at hl 0 rfl) ?_
      refine lv_iload_n hx hb dX7_row_25 rfl (lv_at hl 1 rfl) ?_
      refine lv_iconst (v := (nI 1)) hx hb dX7_row_26 rfl ?_
      refine kcVi (W1 := (fun u => (ww_X7_row cI cC oT oT_s oT_aside oT_states oT_snapshot oT_text oT_serves oT_took oT_tookMany oT_helps oT_before oT_read (nI 0) T_stateMany T_hasSnapshot T_length T_stopNumber T_stopError T_at T_isWell T_readMany T_s))) (rest := [.int x2]) (As := [.int x1, .int (nI 1)]) ⟨Nat.le_of_ble_eq_true rfl, Nat.le_of_ble_eq_true rfl⟩ ⟨hx, hb, hml, hown, hts⟩ (c_X7_of l oT oT_s oT_aside oT_states oT_snapshot oT_text oT_serves oT_took oT_tookMany oT_helps oT_before oT_read H.size (nI 0) T_stateMany T_hasSnapshot T_length T_stopNumber T_stopError T_at T_isWell T_readMany T_s x1 (nI 1) hw) (cwV 2 hts gX7_row_X7_of rfl rfl rfl ⟨rfl, hd_X7_of⟩ ⟨Nat.le_of_ble_eq_true rfl, Nat.le_of_ble_eq_true rfl⟩) hKw hA hwd [0, 1] [] [0, 1] [] rfl rfl rfl rfl (by decide) rfl (fun _ => rfl) 0 7 rfl rfl rfl rfl hl.1 rfl (lv_room (Nat.le_of_ble_eq_true rfl)) dX7_row_27 (fun r4 u H locs hw hwd => ?_)
      try dsimp only at hw
      replace hwd : wd D (va_A (ww_X7_row cI cC oT oT_s oT_aside oT_states oT_snapshot oT_text oT_serves oT_took oT_tookMany oT_helps oT_before oT_read T_thrown T_stateMany T_hasSnapshot T_length T_stopNumber T_stopError T_at T_isWell T_readMany T_s) s.heap.size) s (ww_X7_row cI cC oT oT_s oT_aside oT_states oT_snapshot oT_text oT_serves oT_took oT_tookMany oT_helps oT_before oT_read (nI 0) T_stateMany T_hasSnapshot T_length T_stopNumber T_stopError T_at T_isWell T_readMany T_s) H locs := hwd
      refine lv_icmp_ge (tgt := 44) hx hb dX7_row_30 (by decide) (fun c5 => ?_) (fun c5 => ?_)
      · replace hw := hw.1 c5
        refine lv_bipush (v := (-5)) hx hb dX7_row_44 rfl ?_
        exact HR (-5) (nI 0) hw hwd dX7_row_46
      · replace hw := hw.2 c5
        refine lv_aload_n hx hb dX7_row_33 rfl (lv_at hl 0 rfl) ?_
        refine lv_iload_n hx hb dX7_row_34 rfl (lv_at hl 1 rfl) ?_
        refine lv_iconst (v := (nI 2)) hx hb dX7_row_35 rfl ?_
        refine lv_iload_n hx hb dX7_row_36 rfl (lv_at hl 2 rfl) ?_
        refine lv_iadd hx hb dX7_row_37 ?_
        refine kcVi (W1 := (fun u => (ww_X7_row cI cC oT oT_s oT_aside oT_states oT_snapshot oT_text oT_serves oT_took oT_tookMany oT_helps oT_before oT_read (nI 0) T_stateMany T_hasSnapshot T_length T_stopNumber T_stopError T_at T_isWell T_readMany T_s))) (rest := []) (As := [.int x1, .int ((nI 2) + x2)]) ⟨Nat.le_of_ble_eq_true rfl, Nat.le_of_ble_eq_true rfl⟩ ⟨hx, hb, hml, hown, hts⟩ (c_X7_of l oT oT_s oT_aside oT_states oT_snapshot oT_text oT_serves oT_took oT_tookMany oT_helps oT_before oT_read H.size (nI 0) T_stateMany T_hasSnapshot T_length T_stopNumber T_stopError T_at T_isWell T_readMany T_s x1 ((nI 2) + x2) hw) (cwV 2 hts gX7_row_X7_of rfl rfl rfl ⟨rfl, hd_X7_of⟩ ⟨Nat.le_of_ble_eq_true rfl, Nat.le_of_ble_eq_true rfl⟩) hKw hA hwd [0, 1] [] [0, 1] [] rfl rfl rfl rfl (by decide) rfl (fun _ => rfl) 0 7 rfl rfl rfl rfl hl.1 rfl (lv_room (Nat.le_of_ble_eq_true rfl)) dX7_row_38 (fun r6 u H locs hw hwd => ?_)
        try dsimp only at hw
        replace hwd : wd D (va_A (ww_X7_row cI cC oT oT_s oT_aside oT_states oT_snapshot oT_text oT_serves oT_took oT_tookMany oT_helps oT_before oT_read T_thrown T_stateMany T_hasSnapshot T_length T_stopNumber T_stopError T_at T_isWell T_readMany T_s) s.heap.size) s (ww_X7_row cI cC oT oT_s oT_aside oT_states oT_snapshot oT_text oT_serves oT_took oT_tookMany oT_helps oT_before oT_read (nI 0) T_stateMany T_hasSnapshot T_length T_stopNumber T_stopError T_at T_isWell T_readMany T_s) H locs := hwd
        refine lv_goto (tgt := 46) hx hb dX7_row_41 (by decide) ?_
        exact HR r6 (nI 0) hw hwd dX7_row_46
    · replace hw := hw.2 c3
      refine lv_bipush (v := (-2)) hx hb dX7_row_18 rfl ?_
      refine lv_goto (tgt := 46) hx hb dX7_row_20 (by decide) ?_
      exact HR (-2) (nI 0) hw hwd dX7_row_46
  · replace hw := hw.2 c2
    refine lv_iconst (v := (-1)) hx hb dX7_row_12 rfl ?_
    exact HR (-1) (nI 0) hw hwd dX7_row_13
abbrev ww_X7_leavesOf (cI cC : ClassId) (oT oT_s oT_aside oT_states oT_snapshot oT_text oT_serves oT_took oT_tookMany oT_helps oT_before oT_read : Nat) (T_thrown : Int32) (T_stateMany : Int32) (T_hasSnapshot : Int32) (T_length : Int32) (T_stopNumber : Int32) (T_stopError : Int32) (T_at : Int32) (T_isWell : Int32) (T_readMany : Int32) (T_s : Nat → Int32) : va_W := [(oT, .inr (7, [.int T_thrown, .ref oT_s, .ref oT_aside, .ref oT_states, .int T_stateMany, .ref oT_snapshot, .int T_hasSnapshot, .ref oT_text, .int T_length, .int T_stopNumber, .int T_stopError, .ref oT_serves, .ref oT_took, .ref oT_tookMany, .ref oT_helps, .ref oT_before, .int T_at, .int T_isWell, .ref oT_read, .int T_readMany])), (oT_s, .inl (cI, 474, .inl T_s))]
abbrev rm_X7_leavesOf : Room := { frames := 1, cells := 0, slots := 0, locals := 22 }
theorem ic_X7_leavesOf_X7 : ∀ w ∈ u_ws RX7 TX7 20, w ∈ wsX7_leavesOf := by
  intro w h
  simp only [wsX7_leavesOf, List.mem_cons, List.mem_append]
  simp only [h, or_true, true_or]
def wb_X7_leavesOf_42 (T_s : Nat → Int32) (x1 : Int32) (x3 : Int32) (x4 : Int32) (K_5 : Int32 → Int32 → Prop) (st0 : Int32) : Prop := wp_X7_ofLeave T_s x4 (nI 0) (fun r1 => ((¬ r1 = x1 → ∀ x3_3, x3_3 = x3 + (nI 0) → ∀ x4_4, x4_4 = x4 + (nI 1) → K_5 x3_3 x4_4) ∧ (r1 = x1 → ∀ x3_5, x3_5 = x3 + st0 → ∀ x4_6, x4_6 = x4 + (nI 1) → K_5 x3_5 x4_6)))
set_option maxRecDepth 100000 in
set_option maxHeartbeats 4000000 in
theorem blk_X7_leavesOf_42 {p : Program} {l : Launch} {e : Env} {s : State} {m : MethodId} {args : Array Value} {below : List Frame} {meth : Method} {c : Code} {D : va_G} {cI cC cR : ClassId} {A : Nat → Prop} {Z : State → Prop} (CX : cx cX7_leavesOf (some .int) 6 RX7 wsX7_leavesOf p m meth c s args D cI cC cR A) (oT oT_s oT_aside oT_states oT_snapshot oT_text oT_serves oT_took oT_tookMany oT_helps oT_before oT_read : Nat) (T_thrown : Int32) (T_stateMany : Int32) (T_hasSnapshot : Int32) (T_length : Int32) (T_stopNumber : Int32) (T_stopError : Int32) (T_at : Int32) (T_isWell : Int32) (T_readMany : Int32) (T_s : Nat → Int32) (x1 : Int32) (x2 : Int32) (x3 : Int32) (x4 : Int32) {K_5 : Int32 → Int32 → Prop} {Q : Int32 → Prop} (HR : ∀ (r : Int32) {H : Heap} {locs : List Loc} {ls : Array Slot} {pc : Nat}, Q r → wd D A s (ww_X7_leavesOf cI cC oT oT_s oT_aside oT_states oT_snapshot oT_text oT_serves oT_took oT_tookMany oT_helps oT_before oT_read T_thrown T_stateMany T_hasSnapshot T_length T_stopNumber T_stopError T_at T_isWell T_readMany T_s) H locs → decode cX7_leavesOf pc = .ok (.ireturn, 1) → W p l e (headSpec wsX7_leavesOf rm_X7_leavesOf).room s m args below meth c H locs 0 0 Z (F0 m pc ls [.int r])) (HK_5 : ∀ (x3y : Int32) (x4y : Int32), K_5 x3y x4y → ∀ (H : Heap) (locs : List Loc) (ls : Array Slot), wd D A s (ww_X7_leavesOf cI cC oT oT_s oT_aside oT_states oT_snapshot oT_text oT_serves oT_took oT_tookMany oT_helps oT_before oT_read T_thrown T_stateMany T_hasSnapshot T_length T_stopNumber T_stopError T_at T_isWell T_readMany T_s) H locs → lv_has ls 6 [(0, .ref oT), (1, .int x1), (2, .int x2), (3, .int x3y), (4, .int x4y)] → W p l e (headSpec wsX7_leavesOf rm_X7_leavesOf).room s m args below meth c H locs 0 0 Z (F0 m 5 ls [])) : ∀ (st0 : Int32), wb_X7_leavesOf_42 T_s x1 x3 x4 K_5 st0 → ∀ (H : Heap) (locs : List Loc) (ls : Array Slot), wd D A s (ww_X7_leavesOf cI cC oT oT_s oT_aside oT_states oT_snapshot oT_text oT_serves oT_took oT_tookMany oT_helps oT_before oT_read T_thrown T_stateMany T_hasSnapshot T_length T_stopNumber T_stopError T_at T_isWell T_readMany T_s) H locs → lv_has ls 6 [(0, .ref oT), (1, .int x1), (2, .int x2), (3, .int x3), (4, .int x4)] → W p l e (headSpec wsX7_leavesOf rm_X7_leavesOf).room s m args below meth c H locs 0 0 Z (F0 m 42 ls [.int st0]) := by
  obtain ⟨hx, hb, hr, hml, hts, hown, hlocks, hKw, hA⟩ := id CX
  intro st0 hw H locs ls hwd hl
  unfold wb_X7_leavesOf_42 at hw
  refine lv_istore (lv' := [(5, .int st0), (0, .ref oT), (1, .int x1), (2, .int x2), (3, .int x3), (4, .int x4)]) hx hb dX7_leavesOf_42 hl (by decide) rfl (fun ls hl => ?_)
  refine lv_iload_n hx hb dX7_leavesOf_44 rfl (lv_at hl 4 rfl) ?_
  refine lv_aload_n hx hb dX7_leavesOf_45 rfl (lv_at hl 1 rfl) ?_
  refine lv_iload hx hb dX7_leavesOf_46 (lv_at hl 5 rfl) ?_
  refine lv_iconst (v := (nI 0)) hx hb dX7_leavesOf_48 rfl ?_
  refine kcVi (W1 := (fun u => (ww_X7_leavesOf cI cC oT oT_s oT_aside oT_states oT_snapshot oT_text oT_serves oT_took oT_tookMany oT_helps oT_before oT_read T_thrown T_stateMany T_hasSnapshot T_length T_stopNumber T_stopError T_at T_isWell T_readMany T_s))) (rest := [.int x3]) (As := [.int x4, .int (nI 0)]) ⟨Nat.le_of_ble_eq_true rfl, Nat.le_of_ble_eq_true rfl⟩ ⟨hx, hb, hml, hown, hts⟩ (c_X7_ofLeave l oT oT_s oT_aside oT_states oT_snapshot oT_text oT_serves oT_took oT_tookMany oT_helps oT_before oT_read H.size T_thrown T_stateMany T_hasSnapshot T_length T_stopNumber T_stopError T_at T_isWell T_readMany T_s x4 (nI 0) hw) (cwV 2 hts gX7_leavesOf_X7_ofLeave rfl rfl rfl ⟨rfl, hd_X7_ofLeave⟩ ⟨Nat.le_of_ble_eq_true rfl, Nat.le_of_ble_eq_true rfl⟩) hKw hA hwd [0, 1] [] [0, 1] [] rfl rfl rfl rfl (by decide) rfl (fun _ => rfl) 0 7 rfl rfl rfl rfl hl.1 rfl (lv_room (Nat.le_of_ble_eq_true rfl)) dX7_leavesOf_49 (fun r1 u H locs hw hwd => ?_)
  try dsimp only at hw
  replace hwd : wd D A s (ww_X7_leavesOf cI cC oT oT_s oT_aside oT_states oT_snapshot oT_text oT_serves oT_took oT_tookMany oT_helps oT_before oT_read T_thrown T_stateMany T_hasSnapshot T_length T_stopNumber T_stopError T_at T_isWell T_readMany T_s) H locs := hwd
  refine lv_iload_n hx hb dX7_leavesOf_52 rfl (lv_at hl 2 rfl) ?_
  refine lv_icmp_ne (tgt := 61) hx hb dX7_leavesOf_53 (by decide) (fun c2 => ?_) (fun c2 => ?_)
  · replace hw := hw.1 c2
    refine lv_iconst (v := (nI 0)) hx hb dX7_leavesOf_61 rfl ?_
    refine lv_iadd hx hb dX7_leavesOf_62 ?_
    refine lv_topi (fun x3_3 e_x3_3 => ?_)
    replace hw := hw x3_3 e_x3_3
    refine lv_istore_n (lv' := [(3, .int x3_3), (5, .int st0), (0, .ref oT), (1, .int x1), (2, .int x2), (4, .int x4)]) hx hb dX7_leavesOf_63 rfl hl (by decide) rfl (fun ls hl => ?_)
    obtain ⟨x4_4, e_x4_4⟩ : ∃ y : Int32, y = x4 + (nI 1) := ⟨_, rfl⟩
    replace hw := hw x4_4 e_x4_4
    refine lv_iinc (v := x4_4) (lv' := [(4, .int x4_4), (3, .int x3_3), (5, .int st0), (0, .ref oT), (1, .int x1), (2, .int x2)]) hx hb dX7_leavesOf_64 hl (k := 5) rfl (by rw [e_x4_4]; rfl) (by decide) rfl (fun ls hl => ?_)
    refine lv_goto (tgt := 5) hx hb dX7_leavesOf_67 (by decide) ?_
    exact HK_5 x3_3 x4_4 hw _ _ _ hwd (lv_sub hl [3, 4, 5, 1, 0] rfl)
  · replace hw := hw.2 c2
    refine lv_iload hx hb dX7_leavesOf_56 (lv_at hl 0 rfl) ?_
    refine lv_goto (tgt := 62) hx hb dX7_leavesOf_58 (by decide) ?_
    refine lv_iadd hx hb dX7_leavesOf_62 ?_
    refine lv_topi (fun x3_5 e_x3_5 => ?_)
    replace hw := hw x3_5 e_x3_5
    refine lv_istore_n (lv' := [(3, .int x3_5), (5, .int st0), (0, .ref oT), (1, .int x1), (2, .int x2), (4, .int x4)]) hx hb dX7_leavesOf_63 rfl hl (by decide) rfl (fun ls hl => ?_)
    obtain ⟨x4_6, e_x4_6⟩ : ∃ y : Int32, y = x4 + (nI 1) := ⟨_, rfl⟩
    replace hw := hw x4_6 e_x4_6
    refine lv_iinc (v := x4_6) (lv' := [(4, .int x4_6), (3, .int x3_5), (5, .int st0), (0, .ref oT), (1, .int x1), (2, .int x2)]) hx hb dX7_leavesOf_64 hl (k := 5) rfl (by rw [e_x4_6]; rfl) (by decide) rfl (fun ls hl => ?_)
    refine lv_goto (tgt := 5) hx hb dX7_leavesOf_67 (by decide) ?_
    exact HK_5 x3_5 x4_6 hw _ _ _ hwd (lv_sub hl [3, 4, 5, 1, 0] rfl)
def wb_X7_leavesOf_5 (T_s : Nat → Int32) (x1 : Int32) (x2 : Int32) (K_70 : Int32 → Prop) : Nat → Int32 → Int32 → Prop
  | 0, _, _ => False
  | n + 1, x3, x4 => vp_in (nI 6) 474 ∧ (((T_s (nI 6).toNatClampNeg) ≤ x4 → K_70 x3) ∧ (¬ (T_s (nI 6).toNatClampNeg) ≤ x4 → ((x2 = 0 → wb_X7_leavesOf_42 T_s x1 x3 x4 (fun x3z x4z => wb_X7_leavesOf_5 T_s x1 x2 K_70 n x3z x4z) (nI 1)) ∧ (¬ x2 = 0 → wp_X7_ofLeave T_s x4 (nI 2) (fun r3 => wp_X7_ofLeave T_s x4 (nI 1) (fun r4 => wb_X7_leavesOf_42 T_s x1 x3 x4 (fun x3z x4z => wb_X7_leavesOf_5 T_s x1 x2 K_70 n x3z x4z) ((r3 - r4) + (nI 1))))))))
set_option maxRecDepth 100000 in
set_option maxHeartbeats 4000000 in
theorem blk_X7_leavesOf_5 {p : Program} {l : Launch} {e : Env} {s : State} {m : MethodId} {args : Array Value} {below : List Frame} {meth : Method} {c : Code} {D : va_G} {cI cC cR : ClassId} {A : Nat → Prop} {Z : State → Prop} (CX : cx cX7_leavesOf (some .int) 6 RX7 wsX7_leavesOf p m meth c s args D cI cC cR A) (oT oT_s oT_aside oT_states oT_snapshot oT_text oT_serves oT_took oT_tookMany oT_helps oT_before oT_read : Nat) (T_thrown : Int32) (T_stateMany : Int32) (T_hasSnapshot : Int32) (T_length : Int32) (T_stopNumber : Int32) (T_stopError : Int32) (T_at : Int32) (T_isWell : Int32) (T_readMany : Int32) (T_s : Nat → Int32) (x1 : Int32) (x2 : Int32) {K_70 : Int32 → Prop} {Q : Int32 → Prop} (HR : ∀ (r : Int32) {H : Heap} {locs : List Loc} {ls : Array Slot} {pc : Nat}, Q r → wd D A s (ww_X7_leavesOf cI cC oT oT_s oT_aside oT_states oT_snapshot oT_text oT_serves oT_took oT_tookMany oT_helps oT_before oT_read T_thrown T_stateMany T_hasSnapshot T_length T_stopNumber T_stopError T_at T_isWell T_readMany T_s) H locs → decode cX7_leavesOf pc = .ok (.ireturn, 1) → W p l e (headSpec wsX7_leavesOf rm_X7_leavesOf).room s m args below meth c H locs 0 0 Z (F0 m pc ls [.int r])) (HK_70 : ∀ (x3y : Int32), K_70 x3y → ∀ (H : Heap) (locs : List Loc) (ls : Array Slot), wd D A s (ww_X7_leavesOf cI cC oT oT_s oT_aside oT_states oT_snapshot oT_text oT_serves oT_took oT_tookMany oT_helps oT_before oT_read T_thrown T_stateMany T_hasSnapshot T_length T_stopNumber T_stopError T_at T_isWell T_readMany T_s) H locs → lv_has ls 6 [(3, .int x3y)] → W p l e (headSpec wsX7_leavesOf rm_X7_leavesOf).room s m args below meth c H locs 0 0 Z (F0 m 70 ls [])) : ∀ (n : Nat) (x3 : Int32) (x4 : Int32), wb_X7_leavesOf_5 T_s x1 x2 K_70 n x3 x4 → ∀ (H : Heap) (locs : List Loc) (ls : Array Slot), wd D A s (ww_X7_leavesOf cI cC oT oT_s oT_aside oT_states oT_snapshot oT_text oT_serves oT_took oT_tookMany oT_helps oT_before oT_read T_thrown T_stateMany T_hasSnapshot T_length T_stopNumber T_stopError T_at T_isWell T_readMany T_s) H locs → lv_has ls 6 [(0, .ref oT), (1, .int x1), (2, .int x2), (3, .int x3), (4, .int x4)] → W p l e (headSpec wsX7_leavesOf rm_X7_leavesOf).room s m args below meth c H locs 0 0 Z (F0 m 5 ls []) := by
  obtain ⟨hx, hb, hr, hml, hts, hown, hlocks, hKw, hA⟩ := id CX
  intro n
  induction n with
  | zero => intro x3 x4 hw; exact False.elim hw
  | succ n ih =>
    intro x3 x4 hw H locs ls hwd hl
    rw [wb_X7_leavesOf_5] at hw
    refine lv_iload hx hb dX7_leavesOf_5 (lv_at hl 4 rfl) ?_
    refine lv_aload_n hx hb dX7_leavesOf_7 rfl (lv_at hl 0 rfl) ?_
    refine va_get (D := D) (ci := 7) (v := .ref oT_s) (C := RX7) (T := TX7) (N := 20) hx hb hts ic_X7_leavesOf_X7 hown hKw.1 hwd.1 0 rfl rfl 1 (by decide) (hts (.fieldLink RX7 7 "DrillWardensModel" "s" "[I") (List.mem_of_getElem? (i := 1) rfl)) (fun _ h9 => h9) rfl dX7_leavesOf_8 ?_
    refine lv_bipush (v := (nI 6)) hx hb dX7_leavesOf_11 rfl ?_
    refine va_iald hx hb hKw.1 hwd.1 1 0 rfl rfl hw.1 dX7_leavesOf_13 ?_
    replace hw := hw.2
    refine lv_icmp_ge (tgt := 70) hx hb dX7_leavesOf_14 (by decide) (fun c1 => ?_) (fun c1 => ?_)
    · replace hw := hw.1 c1
      exact HK_70 x3 hw _ _ _ hwd (lv_sub hl [3] rfl)
    · replace hw := hw.2 c1
      refine lv_iload_n hx hb dX7_leavesOf_17 rfl (lv_at hl 2 rfl) ?_
      refine lv_if_eq (tgt := 41) hx hb dX7_leavesOf_18 (by decide) (fun c2 => ?_) (fun c2 => ?_)
      · replace hw := hw.1 c2
        refine lv_iconst (v := (nI 1)) hx hb dX7_leavesOf_41 rfl ?_
        refine blk_X7_leavesOf_42 (CX := CX) (oT := oT) (oT_s := oT_s) (oT_aside := oT_aside) (oT_states := oT_states) (oT_snapshot := oT_snapshot) (oT_text := oT_text) (oT_serves := oT_serves) (oT_took := oT_took) (oT_tookMany := oT_tookMany) (oT_helps := oT_helps) (oT_before := oT_before) (oT_read := oT_read) (T_thrown := T_thrown) (T_stateMany := T_stateMany) (T_hasSnapshot := T_hasSnapshot) (T_length := T_length) (T_stopNumber := T_stopNumber) (T_stopError := T_stopError) (T_at := T_at) (T_isWell := T_isWell) (T_readMany := T_readMany) (T_s := T_s) (x1 := x1) (x2 := x2) (x3 := x3) (x4 := x4) (HR := HR) (HK_5 := fun x3z x4z hw H locs ls hwd hl => ih x3z x4z hw H locs ls hwd hl) (nI 1) hw _ _ _ hwd hl
      · replace hw := hw.2 c2
        refine lv_aload_n hx hb dX7_leavesOf_21 rfl (lv_at hl 0 rfl) ?_
        refine lv_iload hx hb dX7_leavesOf_22 (lv_at hl 4 rfl) ?_
        refine lv_iconst (v := (nI 2)) hx hb dX7_leavesOf_24 rfl ?_
        refine kcVi (W1 := (fun u => (ww_X7_leavesOf cI cC oT oT_s oT_aside oT_states oT_snapshot oT_text oT_serves oT_took oT_tookMany oT_helps oT_before oT_read T_thrown T_stateMany T_hasSnapshot T_length T_stopNumber T_stopError T_at T_isWell T_readMany T_s))) (rest := []) (As := [.int x4, .int (nI 2)]) ⟨Nat.le_of_ble_eq_true rfl, Nat.le_of_ble_eq_true rfl⟩ ⟨hx, hb, hml, hown, hts⟩ (c_X7_ofLeave l oT oT_s oT_aside oT_states oT_snapshot oT_text oT_serves oT_took oT_tookMany oT_helps oT_before oT_read H.size T_thrown T_stateMany T_hasSnapshot T_length T_stopNumber T_stopError T_at T_isWell T_readMany T_s x4 (nI 2) hw) (cwV 2 hts gX7_leavesOf_X7_ofLeave rfl rfl rfl ⟨rfl, hd_X7_ofLeave⟩ ⟨Nat.le_of_ble_eq_true rfl, Nat.le_of_ble_eq_true rfl⟩) hKw hA hwd [0, 1] [] [0, 1] [] rfl rfl rfl rfl (by decide) rfl (fun _ => rfl) 0 7 rfl rfl rfl rfl hl.1 rfl (lv_room (Nat.le_of_ble_eq_true rfl)) dX7_leavesOf_25 (fun r3 u H locs hw hwd => ?_)
        try dsimp only at hw
        replace hwd : wd D A s (ww_X7_leavesOf cI cC oT oT_s oT_aside oT_states oT_snapshot oT_text oT_serves oT_took oT_tookMany oT_helps oT_before oT_read T_thrown T_stateMany T_hasSnapshot T_length T_stopNumber T_stopError T_at T_isWell T_readMany T_s) H locs := hwd
        refine lv_aload_n hx hb dX7_leavesOf_28 rfl (lv_at hl 0 rfl) ?_
        refine lv_iload hx hb dX7_leavesOf_29 (lv_at hl 4 rfl) ?_
        refine lv_iconst (v := (nI 1)) hx hb dX7_leavesOf_31 rfl ?_
        refine kcVi (W1 := (fun u => (ww_X7_leavesOf cI cC oT oT_s oT_aside oT_states oT_snapshot oT_text oT_serves oT_took oT_tookMany oT_helps oT_before oT_read T_thrown T_stateMany T_hasSnapshot T_length T_stopNumber T_stopError T_at T_isWell T_readMany T_s))) (rest := [.int r3]) (As := [.int x4, .int (nI 1)]) ⟨Nat.le_of_ble_eq_true rfl, Nat.le_of_ble_eq_true rfl⟩ ⟨hx, hb, hml, hown, hts⟩ (c_X7_ofLeave l oT oT_s oT_aside oT_states oT_snapshot oT_text oT_serves oT_took oT_tookMany oT_helps oT_before oT_read H.size T_thrown T_stateMany T_hasSnapshot T_length T_stopNumber T_stopError T_at T_isWell T_readMany T_s x4 (nI 1) hw) (cwV 2 hts gX7_leavesOf_X7_ofLeave rfl rfl rfl ⟨rfl, hd_X7_ofLeave⟩ ⟨Nat.le_of_ble_eq_true rfl, Nat.le_of_ble_eq_true rfl⟩) hKw hA hwd [0, 1] [] [0, 1] [] rfl rfl rfl rfl (by decide) rfl (fun _ => rfl) 0 7 rfl rfl rfl rfl hl.1 rfl (lv_room (Nat.le_of_ble_eq_true rfl)) dX7_leavesOf_32 (fun r4 u H locs hw hwd => ?_)
        try dsimp only at hw
        replace hwd : wd D A s (ww_X7_leavesOf cI cC oT oT_s oT_aside oT_states oT_snapshot oT_text oT_serves oT_took oT_tookMany oT_helps oT_before oT_read T_thrown T_stateMany T_hasSnapshot T_length T_stopNumber T_stopError T_at T_isWell T_readMany T_s) H locs := hwd
        refine lv_isub hx hb dX7_leavesOf_35 ?_
        refine lv_iconst (v := (nI 1)) hx hb dX7_leavesOf_36 rfl ?_
        refine lv_iadd hx hb dX7_leavesOf_37 ?_
        refine lv_goto (tgt := 42) hx hb dX7_leavesOf_38 (by decide) ?_
        refine blk_X7_leavesOf_42 (CX := CX) (oT := oT) (oT_s := oT_s) (oT_aside := oT_aside) (oT_states := oT_states) (oT_snapshot := oT_snapshot) (oT_text := oT_text) (oT_serves := oT_serves) (oT_took := oT_took) (oT_tookMany := oT_tookMany) (oT_helps := oT_helps) (oT_before := oT_before) (oT_read := oT_read) (T_thrown := T_thrown) (T_stateMany := T_stateMany) (T_hasSnapshot := T_hasSnapshot) (T_length := T_length) (T_stopNumber := T_stopNumber) (T_stopError := T_stopError) (T_at := T_at) (T_isWell := T_isWell) (T_readMany := T_readMany) (T_s := T_s) (x1 := x1) (x2 := x2) (x3 := x3) (x4 := x4) (HR := HR) (HK_5 := fun x3z x4z hw H locs ls hwd hl => ih x3z x4z hw H locs ls hwd hl) ((r3 - r4) + (nI 1)) hw _ _ _ hwd hl
def wp_X7_leavesOf (T_s : Nat → Int32) (x1 : Int32) (x2 : Int32) (Q : Int32 → Prop) : Prop := (∃ n1, wb_X7_leavesOf_5 T_s x1 x2 (fun x3_2 => Q x3_2) n1 (nI 0) (nI 0))
set_option maxRecDepth 100000 in
set_option maxHeartbeats 4000000 in
theorem c_X7_leavesOf (l : Launch) {D : va_G} {cI cC cR : ClassId} (oT oT_s oT_aside oT_states oT_snapshot oT_text oT_serves oT_took oT_tookMany oT_helps oT_before oT_read : Nat) (sz : Nat) (T_thrown : Int32) (T_stateMany : Int32) (T_hasSnapshot : Int32) (T_length : Int32) (T_stopNumber : Int32) (T_stopError : Int32) (T_at : Int32) (T_isWell : Int32) (T_readMany : Int32) (T_s : Nat → Int32) (x1 : Int32) (x2 : Int32) {Q : Int32 → Prop} (hw : wp_X7_leavesOf T_s x1 x2 Q) : Met l yX7_leavesOf wsX7_leavesOf rm_X7_leavesOf (PcW D cI cC cR [.ref oT, .int x1, .int x2] (ww_X7_leavesOf cI cC oT oT_s oT_aside oT_states oT_snapshot oT_text oT_serves oT_took oT_tookMany oT_helps oT_before oT_read T_thrown T_stateMany T_hasSnapshot T_length T_stopNumber T_stopError T_at T_isWell T_readMany T_s) sz) (QiW D (fun (r : Int32) (u : Unit) => Q r ) (fun u => (ww_X7_leavesOf cI cC oT oT_s oT_aside oT_states oT_snapshot oT_text oT_serves oT_took oT_tookMany oT_helps oT_before oT_read T_thrown T_stateMany T_hasSnapshot T_length T_stopNumber T_stopError T_at T_isWell T_readMany T_s)) (ww_X7_leavesOf cI cC oT oT_s oT_aside oT_states oT_snapshot oT_text oT_serves oT_took oT_tookMany oT_helps oT_before oT_read T_thrown T_stateMany T_hasSnapshot T_length T_stopNumber T_stopError T_at T_isWell T_readMany T_s) sz) 0 0 (va_A (ww_X7_leavesOf cI cC oT oT_s oT_aside oT_states oT_snapshot oT_text oT_serves oT_took oT_tookMany oT_helps oT_before oT_read T_thrown T_stateMany T_hasSnapshot T_length T_stopNumber T_stopError T_at T_isWell T_readMany T_s) sz) := by
  refine Met.ofW (cc := cX7_leavesOf) (maxL := 6) (ret := (some .int)) (by decide) rfl ?_
  intro p e s m args below meth c s₁ B hml hv
  obtain ⟨rfl, hsz, hP, hKw, hD0⟩ := hv
  have hlocks := B.notSynchronized
  subst hsz
  have hD := hD0.self (sz := s.heap.size)
  have CX : cx cX7_leavesOf (some .int) 6 RX7 wsX7_leavesOf p m meth c s ([.ref oT, .int x1, .int x2] : List Value).toArray D cI cC cR (va_A (ww_X7_leavesOf cI cC oT oT_s oT_aside oT_states oT_snapshot oT_text oT_serves oT_took oT_tookMany oT_helps oT_before oT_read T_thrown T_stateMany T_hasSnapshot T_length T_stopNumber T_stopError T_at T_isWell T_readMany T_s) s.heap.size) := ⟨B.exec, B.bytes, B.returns, hml, atoms_spec (ws := wsX7_leavesOf) B.pre, findClass_of_methodNamed B.named, hlocks, hKw, fun q h => Or.inr h⟩
  obtain ⟨hx, hb, hr, -, hts, hown, -, -, hA⟩ := id CX
  have hwd : wd D (va_A (ww_X7_leavesOf cI cC oT oT_s oT_aside oT_states oT_snapshot oT_text oT_serves oT_took oT_tookMany oT_helps oT_before oT_read T_thrown T_stateMany T_hasSnapshot T_length T_stopNumber T_stopError T_at T_isWell T_readMany T_s) s.heap.size) s (ww_X7_leavesOf cI cC oT oT_s oT_aside oT_states oT_snapshot oT_text oT_serves oT_took oT_tookMany oT_helps oT_before oT_read T_thrown T_stateMany T_hasSnapshot T_length T_stopNumber T_stopError T_at T_isWell T_readMany T_s) s.heap [] := ⟨hP, hD, va_S.rf⟩
  have hl := lv_entry ([.ref oT, .int x1, .int x2]) (n := 6) (Nat.le_of_ble_eq_true rfl)
  rw [lg_entry_eq]
  generalize (lg_sl ([.ref oT, .int x1, .int x2]) ++ List.replicate (6 - (lg_sl ([.ref oT, .int x1, .int x2])).length) Slot.unset).toArray = ls at hl ⊢
  have hl : lv_has ls 6 [(0, .ref oT), (1, .int x1), (2, .int x2)] := hl
  have HR : ∀ (r : Int32) {H : Heap} {locs : List Loc} {ls : Array Slot} {pc : Nat}, Q r → wd D (va_A (ww_X7_leavesOf cI cC oT oT_s oT_aside oT_states oT_snapshot oT_text oT_serves oT_took oT_tookMany oT_helps oT_before oT_read T_thrown T_stateMany T_hasSnapshot T_length T_stopNumber T_stopError T_at T_isWell T_readMany T_s) s.heap.size) s (ww_X7_leavesOf cI cC oT oT_s oT_aside oT_states oT_snapshot oT_text oT_serves oT_took oT_tookMany oT_helps oT_before oT_read T_thrown T_stateMany T_hasSnapshot T_length T_stopNumber T_stopError T_at T_isWell T_readMany T_s) H locs → decode cX7_leavesOf pc = .ok (.ireturn, 1) → W p l e (headSpec wsX7_leavesOf rm_X7_leavesOf).room s m ([.ref oT, .int x1, .int x2] : List Value).toArray below meth c H locs 0 0 (MQ below (QiW D (fun (r : Int32) (u : Unit) => Q r ) (fun u => (ww_X7_leavesOf cI cC oT oT_s oT_aside oT_states oT_snapshot oT_text oT_serves oT_took oT_tookMany oT_helps oT_before oT_read T_thrown T_stateMany T_hasSnapshot T_length T_stopNumber T_stopError T_at T_isWell T_readMany T_s)) (ww_X7_leavesOf cI cC oT oT_s oT_aside oT_states oT_snapshot oT_text oT_serves oT_took oT_tookMany oT_helps oT_before oT_read T_thrown T_stateMany T_hasSnapshot T_length T_stopNumber T_stopError T_at T_isWell T_readMany T_s) s.heap.size) ([.ref oT, .int x1, .int x2] : List Value).toArray s 0 0 (va_A (ww_X7_leavesOf cI cC oT oT_s oT_aside oT_states oT_snapshot oT_text oT_serves oT_took oT_tookMany oT_helps oT_before oT_read T_thrown T_stateMany T_hasSnapshot T_length T_stopNumber T_stopError T_at T_isWell T_readMany T_s) s.heap.size)) (F0 m pc ls [.int r]) := by
    intro r H locs ls pc hq hw9 hd9
    exact W.iret (v := r) hx hb hr (fun t ht hW => ⟨⟨r, (), rfl, hq, by rw [ht]; exact hw9.1, hw9.2.1⟩, hw9.2.2.F ht⟩) hw9.2.2.2.2 hd9
  unfold wp_X7_leavesOf at hw
  refine lv_iconst (v := (nI 0)) hx hb dX7_leavesOf_0 rfl ?_
  refine lv_istore_n (lv' := [(3, .int (nI 0)), (0, .ref oT), (1, .int x1), (2, .int x2)]) hx hb dX7_leavesOf_1 rfl hl (by decide) rfl (fun ls hl => ?_)
  refine lv_iconst (v := (nI 0)) hx hb dX7_leavesOf_2 rfl ?_
  refine lv_istore (lv' := [(4, .int (nI 0)), (3, .int (nI 0)), (0, .ref oT), (1, .int x1), (2, .int x2)]) hx hb dX7_leavesOf_3 hl (by decide) rfl (fun ls hl => ?_)
  obtain ⟨n1, hw⟩ := hw
  refine blk_X7_leavesOf_5 (CX := CX) (oT := oT) (oT_s := oT_s) (oT_aside := oT_aside) (oT_states := oT_states) (oT_snapshot := oT_snapshot) (oT_text := oT_text) (oT_serves := oT_serves) (oT_took := oT_took) (oT_tookMany := oT_tookMany) (oT_helps := oT_helps) (oT_before := oT_before) (oT_read := oT_read) (T_thrown := T_thrown) (T_stateMany := T_stateMany) (T_hasSnapshot := T_hasSnapshot) (T_length := T_length) (T_stopNumber := T_stopNumber) (T_stopError := T_stopError) (T_at := T_at) (T_isWell := T_isWell) (T_readMany := T_readMany) (T_s := T_s) (x1 := x1) (x2 := x2) (HR := HR) (HK_70 := fun x3_2 hw H locs ls hwd hl => ?_) n1 (nI 0) (nI 0) hw _ _ _ hwd (lv_sub hl [2, 3, 4, 1, 0] rfl)
  try dsimp only at hw
  refine lv_iload_n hx hb dX7_leavesOf_70 rfl (lv_at hl 0 rfl) ?_
  exact HR x3_2 hw hwd dX7_leavesOf_71
abbrev ww_X7_floorsOf (cI cC : ClassId) (oT oT_s oT_aside oT_states oT_snapshot oT_text oT_serves oT_took oT_tookMany oT_helps oT_before oT_read : Nat) (T_thrown : Int32) (T_stateMany : Int32) (T_hasSnapshot : Int32) (T_length : Int32) (T_stopNumber : Int32) (T_stopError : Int32) (T_at : Int32) (T_isWell : Int32) (T_readMany : Int32) (T_s : Nat → Int32) : va_W := [(oT, .inr (7, [.int T_thrown, .ref oT_s, .ref oT_aside, .ref oT_states, .int T_stateMany, .ref oT_snapshot, .int T_hasSnapshot, .ref oT_text, .int T_length, .int T_stopNumber, .int T_stopError, .ref oT_serves, .ref oT_took, .ref oT_tookMany, .ref oT_helps, .ref oT_before, .int T_at, .int T_isWell, .ref oT_read, .int T_readMany])), (oT_s, .inl (cI, 474, .inl T_s))]
abbrev rm_X7_floorsOf : Room := { frames := 2, cells := 0, slots := 0, locals := 45 }
def wb_X7_floorsOf_4 (T_s : Nat → Int32) (x1 : Int32) (K_37 : Int32 → Prop) : Nat → Int32 → Int32 → Prop
  | 0, _, _ => False
  | n + 1, x2, x3 => (((nI 10) ≤ x3 → K_37 x2) ∧ (¬ (nI 10) ≤ x3 → wp_X7_placeIn T_s x3 x1 (fun r2 => ((r2 = (-5) → ∀ x2_4, x2_4 = x2 ||| (nI 0) → ∀ x3_5, x3_5 = x3 + (nI 1) → wb_X7_floorsOf_4 T_s x1 K_37 n x2_4 x3_5) ∧ (¬ r2 = (-5) → ∀ x2_6, x2_6 = x2 ||| ((nI 1) <<< (x3 &&& 31)) → ∀ x3_7, x3_7 = x3 + (nI 1) → wb_X7_floorsOf_4 T_s x1 K_37 n x2_6 x3_7)))))
set_option maxRecDepth 100000 in
set_option maxHeartbeats 4000000 in
theorem blk_X7_floorsOf_4 {p : Program} {l : Launch} {e : Env} {s : State} {m : MethodId} {args : Array Value} {below : List Frame} {meth : Method} {c : Code} {D : va_G} {cI cC cR : ClassId} {A : Nat → Prop} {Z : State → Prop} (CX : cx cX7_floorsOf (some .int) 4 RX7 wsX7_floorsOf p m meth c s args D cI cC cR A) (oT oT_s oT_aside oT_states oT_snapshot oT_text oT_serves oT_took oT_tookMany oT_helps oT_before oT_read : Nat) (T_thrown : Int32) (T_stateMany : Int32) (T_hasSnapshot : Int32) (T_length : Int32) (T_stopNumber : Int32) (T_stopError : Int32) (T_at : Int32) (T_isWell : Int32) (T_readMany : Int32) (T_s : Nat → Int32) (x1 : Int32) {K_37 : Int32 → Prop} {Q : Int32 → Prop} (HR : ∀ (r : Int32) {H : Heap} {locs : List Loc} {ls : Array Slot} {pc : Nat}, Q r → wd D A s (ww_X7_floorsOf cI cC oT oT_s oT_aside oT_states oT_snapshot oT_text oT_serves oT_took oT_tookMany oT_helps oT_before oT_read T_thrown T_stateMany T_hasSnapshot T_length T_stopNumber T_stopError T_at T_isWell T_readMany T_s) H locs → decode cX7_floorsOf pc = .ok (.ireturn, 1) → W p l e (headSpec wsX7_floorsOf rm_X7_floorsOf).room s m args below meth c H locs 0 0 Z (F0 m pc ls [.int r])) (HK_37 : ∀ (x2y : Int32), K_37 x2y → ∀ (H : Heap) (locs : List Loc) (ls : Array Slot), wd D A s (ww_X7_floorsOf cI cC oT oT_s oT_aside oT_states oT_snapshot oT_text oT_serves oT_took oT_tookMany oT_helps oT_before oT_read T_thrown T_stateMany T_hasSnapshot T_length T_stopNumber T_stopError T_at T_isWell T_readMany T_s) H locs → lv_has ls 4 [(2, .int x2y)] → W p l e (headSpec wsX7_floorsOf rm_X7_floorsOf).room s m args below meth c H locs 0 0 Z (F0 m 37 ls [])) : ∀ (n : Nat) (x2 : Int32) (x3 : Int32), wb_X7_floorsOf_4 T_s x1 K_37 n x2 x3 → ∀ (H : Heap) (locs : List Loc) (ls : Array Slot), wd D A s (ww_X7_floorsOf cI cC oT oT_s oT_aside oT_states oT_snapshot oT_text oT_serves oT_took oT_tookMany oT_helps oT_before oT_read T_thrown T_stateMany T_hasSnapshot T_length T_stopNumber T_stopError T_at T_isWell T_readMany T_s) H locs → lv_has ls 4 [(0, .ref oT), (1, .int x1), (2, .int x2), (3, .int x3)] → W p l e (headSpec wsX7_floorsOf rm_X7_floorsOf).room s m args below meth c H locs 0 0 Z (F0 m 4 ls []) := by
  obtain ⟨hx, hb, hr, hml, hts, hown, hlocks, hKw, hA⟩ := id CX
  intro n
  induction n with
  | zero => intro x2 x3 hw; exact False.elim hw
  | succ n ih =>
    intro x2 x3 hw H locs ls hwd hl
    rw [wb_X7_floorsOf_4] at hw
    refine lv_iload_n hx hb dX7_floorsOf_4 rfl (lv_at hl 3 rfl) ?_
    refine lv_bipush (v := (nI 10)) hx hb dX7_floorsOf_5 rfl ?_
    refine lv_icmp_ge (tgt := 37) hx hb dX7_floorsOf_7 (by decide) (fun c1 => ?_) (fun c1 => ?_)
    · replace hw := hw.1 c1
      exact HK_37 x2 hw _ _ _ hwd (lv_sub hl [2] rfl)
    · replace hw := hw.2 c1
      refine lv_iload_n hx hb dX7_floorsOf_10 rfl (lv_at hl 2 rfl) ?_
      refine lv_aload_n hx hb dX7_floorsOf_11 rfl (lv_at hl 0 rfl) ?_
      refine lv_iload_n hx hb dX7_floorsOf_12 rfl (lv_at hl 3 rfl) ?_
      refine lv_iload_n hx hb dX7_floorsOf_13 rfl (lv_at hl 1 rfl) ?_
      refine kcVi (W1 := (fun u => (ww_X7_floorsOf cI cC oT oT_s oT_aside oT_states oT_snapshot oT_text oT_serves oT_took oT_tookMany oT_helps oT_before oT_read T_thrown T_stateMany T_hasSnapshot T_length T_stopNumber T_stopError T_at T_isWell T_readMany T_s))) (rest := [.int x2]) (As := [.int x3, .int x1]) ⟨Nat.le_of_ble_eq_true rfl, Nat.le_of_ble_eq_true rfl⟩ ⟨hx, hb, hml, hown, hts⟩ (c_X7_placeIn l oT oT_s oT_aside oT_states oT_snapshot oT_text oT_serves oT_took oT_tookMany oT_helps oT_before oT_read H.size T_thrown T_stateMany T_hasSnapshot T_length T_stopNumber T_stopError T_at T_isWell T_readMany T_s x3 x1 hw) (cwV 2 hts gX7_floorsOf_X7_placeIn rfl rfl rfl ⟨rfl, hd_X7_placeIn⟩ ⟨Nat.le_of_ble_eq_true rfl, Nat.le_of_ble_eq_true rfl⟩) hKw hA hwd [0, 1] [] [0, 1] [] rfl rfl rfl rfl (by decide) rfl (fun _ => rfl) 0 7 rfl rfl rfl rfl hl.1 rfl (lv_room (Nat.le_of_ble_eq_true rfl)) dX7_floorsOf_14 (fun r2 u H locs hw hwd => ?_)
      try dsimp only at hw
      replace hwd : wd D A s (ww_X7_floorsOf cI cC oT oT_s oT_aside oT_states oT_snapshot oT_text oT_serves oT_took oT_tookMany oT_helps oT_before oT_read T_thrown T_stateMany T_hasSnapshot T_length T_stopNumber T_stopError T_at T_isWell T_readMany T_s) H locs := hwd
      refine lv_bipush (v := (-5)) hx hb dX7_floorsOf_17 rfl ?_
      refine lv_icmp_eq (tgt := 28) hx hb dX7_floorsOf_19 (by decide) (fun c3 => ?_) (fun c3 => ?_)
      · replace hw := hw.1 c3
        refine lv_iconst (v := (nI 0)) hx hb dX7_floorsOf_28 rfl ?_
        refine lv_ior hx hb dX7_floorsOf_29 ?_
        refine lv_topi (fun x2_4 e_x2_4 => ?_)
        replace hw := hw x2_4 e_x2_4
        refine lv_istore_n (lv' := [(2, .int x2_4), (0, .ref oT), (1, .int x1), (3, .int x3)]) hx hb dX7_floorsOf_30 rfl hl (by decide) rfl (fun ls hl => ?_)
        obtain ⟨x3_5, e_x3_5⟩ : ∃ y : Int32, y = x3 + (nI 1) := ⟨_, rfl⟩
        replace hw := hw x3_5 e_x3_5
        refine lv_iinc (v := x3_5) (lv' := [(3, .int x3_5), (2, .int x2_4), (0, .ref oT), (1, .int x1)]) hx hb dX7_floorsOf_31 hl (k := 3) rfl (by rw [e_x3_5]; rfl) (by decide) rfl (fun ls hl => ?_)
        refine lv_goto (tgt := 4) hx hb dX7_floorsOf_34 (by decide) ?_
        exact ih x2_4 x3_5 hw _ _ _ hwd (lv_sub hl [2, 3, 1, 0] rfl)
      · replace hw := hw.2 c3
        refine lv_iconst (v := (nI 1)) hx hb dX7_floorsOf_22 rfl ?_
        refine lv_iload_n hx hb dX7_floorsOf_23 rfl (lv_at hl 3 rfl) ?_
        refine lv_ishl hx hb dX7_floorsOf_24 ?_
        refine lv_goto (tgt := 29) hx hb dX7_floorsOf_25 (by decide) ?_
        refine lv_ior hx hb dX7_floorsOf_29 ?_
        refine lv_topi (fun x2_6 e_x2_6 => ?_)
        replace hw := hw x2_6 e_x2_6
        refine lv_istore_n (lv' := [(2, .int x2_6), (0, .ref oT), (1, .int x1), (3, .int x3)]) hx hb dX7_floorsOf_30 rfl hl (by decide) rfl (fun ls hl => ?_)
        obtain ⟨x3_7, e_x3_7⟩ : ∃ y : Int32, y = x3 + (nI 1) := ⟨_, rfl⟩
        replace hw := hw x3_7 e_x3_7
        refine lv_iinc (v := x3_7) (lv' := [(3, .int x3_7), (2, .int x2_6), (0, .ref oT), (1, .int x1)]) hx hb dX7_floorsOf_31 hl (k := 3) rfl (by rw [e_x3_7]; rfl) (by decide) rfl (fun ls hl => ?_)
        refine lv_goto (tgt := 4) hx hb dX7_floorsOf_34 (by decide) ?_
        exact ih x2_6 x3_7 hw _ _ _ hwd (lv_sub hl [2, 3, 1, 0] rfl)
def wp_X7_floorsOf (T_s : Nat → Int32) (x1 : Int32) (Q : Int32 → Prop) : Prop := (∃ n1, wb_X7_floorsOf_4 T_s x1 (fun x2_2 => Q x2_2) n1 (nI 0) (nI 0))
set_option maxRecDepth 100000 in
set_option maxHeartbeats 4000000 in
theorem c_X7_floorsOf (l : Launch) {D : va_G} {cI cC cR : ClassId} (oT oT_s oT_aside oT_states oT_snapshot oT_text oT_serves oT_took oT_tookMany oT_helps oT_before oT_read : Nat) (sz : Nat) (T_thrown : Int32) (T_stateMany : Int32) (T_hasSnapshot : Int32) (T_length : Int32) (T_stopNumber : Int32) (T_stopError : Int32) (T_at : Int32) (T_isWell : Int32) (T_readMany : Int32) (T_s : Nat → Int32) (x1 : Int32) {Q : Int32 → Prop} (hw : wp_X7_floorsOf T_s x1 Q) : Met l yX7_floorsOf wsX7_floorsOf rm_X7_floorsOf (PcW D cI cC cR [.ref oT, .int x1] (ww_X7_floorsOf cI cC oT oT_s oT_aside oT_states oT_snapshot oT_text oT_serves oT_took oT_tookMany oT_helps oT_before oT_read T_thrown T_stateMany T_hasSnapshot T_length T_stopNumber T_stopError T_at T_isWell T_readMany T_s) sz) (QiW D (fun (r : Int32) (u : Unit) => Q r ) (fun u => (ww_X7_floorsOf cI cC oT oT_s oT_aside oT_states oT_snapshot oT_text oT_serves oT_took oT_tookMany oT_helps oT_before oT_read T_thrown T_stateMany T_hasSnapshot T_length T_stopNumber T_stopError T_at T_isWell T_readMany T_s)) (ww_X7_floorsOf cI cC oT oT_s oT_aside oT_states oT_snapshot oT_text oT_serves oT_took oT_tookMany oT_helps oT_before oT_read T_thrown T_stateMany T_hasSnapshot T_length T_stopNumber T_stopError T_at T_isWell T_readMany T_s) sz) 0 0 (va_A (ww_X7_floorsOf cI cC oT oT_s oT_aside oT_states oT_snapshot oT_text oT_serves oT_took oT_tookMany oT_helps oT_before oT_read T_thrown T_stateMany T_hasSnapshot T_length T_stopNumber T_stopError T_at T_isWell T_readMany T_s) sz) := by
  refine Met.ofW (cc := cX7_floorsOf) (maxL := 4) (ret := (some .int)) (by decide) rfl ?_
  intro p e s m args below meth c s₁ B hml hv
  obtain ⟨rfl, hsz, hP, hKw, hD0⟩ := hv
  have hlocks := B.notSynchronized
  subst hsz
  have hD := hD0.self (sz := s.heap.size)
  have CX : cx cX7_floorsOf (some .int) 4 RX7 wsX7_floorsOf p m meth c s ([.ref oT, .int x1] : List Value).toArray D cI cC cR (va_A (ww_X7_floorsOf cI cC oT oT_s oT_aside oT_states oT_snapshot oT_text oT_serves oT_took oT_tookMany oT_helps oT_before oT_read T_thrown T_stateMany T_hasSnapshot T_length T_stopNumber T_stopError T_at T_isWell T_readMany T_s) s.heap.size) := ⟨B.exec, B.bytes, B.returns, hml, atoms_spec (ws := wsX7_floorsOf) B.pre, findClass_of_methodNamed B.named, hlocks, hKw, fun q h => Or.inr h⟩
  obtain ⟨hx, hb, hr, -, hts, hown, -, -, hA⟩ := id CX
  have hwd : wd D (va_A (ww_X7_floorsOf cI cC oT oT_s oT_aside oT_states oT_snapshot oT_text oT_serves oT_took oT_tookMany oT_helps oT_before oT_read T_thrown T_stateMany T_hasSnapshot T_length T_stopNumber T_stopError T_at T_isWell T_readMany T_s) s.heap.size) s (ww_X7_floorsOf cI cC oT oT_s oT_aside oT_states oT_snapshot oT_text oT_serves oT_took oT_tookMany oT_helps oT_before oT_read T_thrown T_stateMany T_hasSnapshot T_length T_stopNumber T_stopError T_at T_isWell T_readMany T_s) s.heap [] := ⟨hP, hD, va_S.rf⟩
  have hl := lv_entry ([.ref oT, .int x1]) (n := 4) (Nat.le_of_ble_eq_true rfl)
  rw [lg_entry_eq]
  generalize (lg_sl ([.ref oT, .int x1]) ++ List.replicate (4 - (lg_sl ([.ref oT, .int x1])).length) Slot.unset).toArray = ls at hl ⊢
  have hl : lv_has ls 4 [(0, .ref oT), (1, .int x1)] := hl
  have HR : ∀ (r : Int32) {H : Heap} {locs : List Loc} {ls : Array Slot} {pc : Nat}, Q r → wd D (va_A (ww_X7_floorsOf cI cC oT oT_s oT_aside oT_states oT_snapshot oT_text oT_serves oT_took oT_tookMany oT_helps oT_before oT_read T_thrown T_stateMany T_hasSnapshot T_length T_stopNumber T_stopError T_at T_isWell T_readMany T_s) s.heap.size) s (ww_X7_floorsOf cI cC oT oT_s oT_aside oT_states oT_snapshot oT_text oT_serves oT_took oT_tookMany oT_helps oT_before oT_read T_thrown T_stateMany T_hasSnapshot T_length T_stopNumber T_stopError T_at T_isWell T_readMany T_s) H locs → decode cX7_floorsOf pc = .ok (.ireturn, 1) → W p l e (headSpec wsX7_floorsOf rm_X7_floorsOf).room s m ([.ref oT, .int x1] : List Value).toArray below meth c H locs 0 0 (MQ below (QiW D (fun (r : Int32) (u : Unit) => Q r ) (fun u => (ww_X7_floorsOf cI cC oT oT_s oT_aside oT_states oT_snapshot oT_text oT_serves oT_took oT_tookMany oT_helps oT_before oT_read T_thrown T_stateMany T_hasSnapshot T_length T_stopNumber T_stopError T_at T_isWell T_readMany T_s)) (ww_X7_floorsOf cI cC oT oT_s oT_aside oT_states oT_snapshot oT_text oT_serves oT_took oT_tookMany oT_helps oT_before oT_read T_thrown T_stateMany T_hasSnapshot T_length T_stopNumber T_stopError T_at T_isWell T_readMany T_s) s.heap.size) ([.ref oT, .int x1] : List Value).toArray s 0 0 (va_A (ww_X7_floorsOf cI cC oT oT_s oT_aside oT_states oT_snapshot oT_text oT_serves oT_took oT_tookMany oT_helps oT_before oT_read T_thrown T_stateMany T_hasSnapshot T_length T_stopNumber T_stopError T_at T_isWell T_readMany T_s) s.heap.size)) (F0 m pc ls [.int r]) := by
    intro r H locs ls pc hq hw9 hd9
    exact W.iret (v := r) hx hb hr (fun t ht hW => ⟨⟨r, (), rfl, hq, by rw [ht]; exact hw9.1, hw9.2.1⟩, hw9.2.2.F ht⟩) hw9.2.2.2.2 hd9
  unfold wp_X7_floorsOf at hw
  refine lv_iconst (v := (nI 0)) hx hb dX7_floorsOf_0 rfl ?_
  refine lv_istore_n (lv' := [(2, .int (nI 0)), (0, .ref oT), (1, .int x1)]) hx hb dX7_floorsOf_1 rfl hl (by decide) rfl (fun ls hl => ?_)
  refine lv_iconst (v := (nI 0)) hx hb dX7_floorsOf_2 rfl ?_
  refine lv_istore_n (lv' := [(3, .int (nI 0)), (2, .int (nI 0)), (0, .ref oT), (1, .int x1)]) hx hb dX7_floorsOf_3 rfl hl (by decide) rfl (fun ls hl => ?_)
  obtain ⟨n1, hw⟩ := hw
  refine blk_X7_floorsOf_4 (CX := CX) (oT := oT) (oT_s := oT_s) (oT_aside := oT_aside) (oT_states := oT_states) (oT_snapshot := oT_snapshot) (oT_text := oT_text) (oT_serves := oT_serves) (oT_took := oT_took) (oT_tookMany := oT_tookMany) (oT_helps := oT_helps) (oT_before := oT_before) (oT_read := oT_read) (T_thrown := T_thrown) (T_stateMany := T_stateMany) (T_hasSnapshot := T_hasSnapshot) (T_length := T_length) (T_stopNumber := T_stopNumber) (T_stopError := T_stopError) (T_at := T_at) (T_isWell := T_isWell) (T_readMany := T_readMany) (T_s := T_s) (x1 := x1) (HR := HR) (HK_37 := fun x2_2 hw H locs ls hwd hl => ?_) n1 (nI 0) (nI 0) hw _ _ _ hwd (lv_sub hl [2, 3, 1, 0] rfl)
  try dsimp only at hw
  refine lv_iload_n hx hb dX7_floorsOf_37 rfl (lv_at hl 0 rfl) ?_
  exact HR x2_2 hw hwd dX7_floorsOf_38
abbrev ww_X7_person (cI cC : ClassId) (oT oT_s oT_aside oT_states oT_snapshot oT_text oT_serves oT_took oT_tookMany oT_helps oT_before oT_read : Nat) (T_thrown : Int32) (T_stateMany : Int32) (T_hasSnapshot : Int32) (T_length : Int32) (T_stopNumber : Int32) (T_stopError : Int32) (T_at : Int32) (T_isWell : Int32) (T_readMany : Int32) (T_s : Nat → Int32) (T_serves : Nat → Int32) (T_took : Nat → Int32) (T_tookMany : Nat → Int32) (T_helps : Nat → Int32) : va_W := [(oT, .inr (7, [.int T_thrown, .ref oT_s, .ref oT_aside, .ref oT_states, .int T_stateMany, .ref oT_snapshot, .int T_hasSnapshot, .ref oT_text, .int T_length, .int T_stopNumber, .int T_stopError, .ref oT_serves, .ref oT_took, .ref oT_tookMany, .ref oT_helps, .ref oT_before, .int T_at, .int T_isWell, .ref oT_read, .int T_readMany])), (oT_s, .inl (cI, 474, .inl T_s)), (oT_serves, .inl (cI, 16, .inl T_serves)), (oT_took, .inl (cI, 30, .inl T_took)), (oT_tookMany, .inl (cI, 10, .inl T_tookMany)), (oT_helps, .inl (cI, 10, .inl T_helps))]
abbrev rm_X7_person : Room := { frames := 5, cells := 0, slots := 0, locals := 113 }
theorem ic_X7_person_X7 : ∀ w ∈ u_ws RX7 TX7 20, w ∈ wsX7_person := by
  intro w h
  simp only [wsX7_person, List.mem_cons, List.mem_append]
  simp only [h, or_true, true_or]
def wp_X7_person (T_thrown : Int32) (T_s : Nat → Int32) (T_serves : Nat → Int32) (T_took : Nat → Int32) (T_tookMany : Nat → Int32) (T_helps : Nat → Int32) (x1 : Int32) (x2 : Int32) (Q : Int32 → Int32 → (Nat → Int32) → (Nat → Int32) → (Nat → Int32) → (Nat → Int32) → Prop) : Prop := wp_X7_isPerson x1 (fun r1 => ((¬ r1 = 0 → vp_in (nI 3) 474 ∧ wp_X7_plans T_s T_serves T_took T_tookMany T_helps (T_s (nI 3).toNatClampNeg) (fun T_serves3 T_took4 T_tookMany5 T_helps6 => ((x2 = (nI 0) → vp_in (((nI 318) + ((nI 2) * x1)) + (nI 0)) 474 ∧ Q (T_s (((nI 318) + ((nI 2) * x1)) + (nI 0)).toNatClampNeg) (nI 0) T_serves3 T_took4 T_tookMany5 T_helps6) ∧ (¬ x2 = (nI 0) → (x2 = (nI 1) → wp_X7_leavesOf T_s x1 (nI 0) (fun r9 => Q r9 (nI 0) T_serves3 T_took4 T_tookMany5 T_helps6)) ∧ (¬ x2 = (nI 1) → (x2 = (nI 2) → wp_X7_leavesOf T_s x1 (nI 1) (fun r11 => Q r11 (nI 0) T_serves3 T_took4 T_tookMany5 T_helps6)) ∧ (¬ x2 = (nI 2) → (x2 = (nI 3) → wp_X7_floorsOf T_s x1 (fun r13 => Q r13 (nI 0) T_serves3 T_took4 T_tookMany5 T_helps6)) ∧ (¬ x2 = (nI 3) → (x2 = (nI 4) → vp_in (((nI 318) + ((nI 2) * x1)) + (nI 1)) 474 ∧ Q (T_s (((nI 318) + ((nI 2) * x1)) + (nI 1)).toNatClampNeg) (nI 0) T_serves3 T_took4 T_tookMany5 T_helps6) ∧ (¬ x2 = (nI 4) → (x2 = (nI 5) → vp_in x1 16 ∧ Q (T_serves3 x1.toNatClampNeg) (nI 0) T_serves3 T_took4 T_tookMany5 T_helps6) ∧ (¬ x2 = (nI 5) → Q (-2) (nI 0) T_serves3 T_took4 T_tookMany5 T_helps6))))))))) ∧ (r1 = 0 → Q (-1) (nI 0) T_serves T_took T_tookMany T_helps)))
set_option maxRecDepth 100000 in
set_option maxHeartbeats 4000000 in
theorem c_X7_person (l : Launch) {D : va_G} {cI cC cR : ClassId} (oT oT_s oT_aside oT_states oT_snapshot oT_text oT_serves oT_took oT_tookMany oT_helps oT_before oT_read : Nat) (sz : Nat) (T_thrown : Int32) (T_stateMany : Int32) (T_hasSnapshot : Int32) (T_length : Int32) (T_stopNumber : Int32) (T_stopError : Int32) (T_at : Int32) (T_isWell : Int32) (T_readMany : Int32) (T_s : Nat → Int32) (T_serves : Nat → Int32) (T_took : Nat → Int32) (T_tookMany : Nat → Int32) (T_helps : Nat → Int32) (x1 : Int32) (x2 : Int32) {Q : Int32 → Int32 → (Nat → Int32) → (Nat → Int32) → (Nat → Int32) → (Nat → Int32) → Prop} (hw : wp_X7_person T_thrown T_s T_serves T_took T_tookMany T_helps x1 x2 Q) : Met l yX7_person wsX7_person rm_X7_person (PcW D cI cC cR [.ref oT, .int x1, .int x2] (ww_X7_person cI cC oT oT_s oT_aside oT_states oT_snapshot oT_text oT_serves oT_took oT_tookMany oT_helps oT_before oT_read T_thrown T_stateMany T_hasSnapshot T_length T_stopNumber T_stopError T_at T_isWell T_readMany T_s T_serves T_took T_tookMany T_helps) sz) (QiW D (fun (r : Int32) (u : Int32 × (Nat → Int32) × (Nat → Int32) × (Nat → Int32) × (Nat → Int32)) => Q r u.1 u.2.1 u.2.2.1 u.2.2.2.1 u.2.2.2.2) (fun u => (ww_X7_person cI cC oT oT_s oT_aside oT_states oT_snapshot oT_text oT_serves oT_took oT_tookMany oT_helps oT_before oT_read (u.1) T_stateMany T_hasSnapshot T_length T_stopNumber T_stopError T_at T_isWell T_readMany T_s (u.2.1) (u.2.2.1) (u.2.2.2.1) (u.2.2.2.2))) (ww_X7_person cI cC oT oT_s oT_aside oT_states oT_snapshot oT_text oT_serves oT_took oT_tookMany oT_helps oT_before oT_read T_thrown T_stateMany T_hasSnapshot T_length T_stopNumber T_stopError T_at T_isWell T_readMany T_s T_serves T_took T_tookMany T_helps) sz) 0 0 (va_A (ww_X7_person cI cC oT oT_s oT_aside oT_states oT_snapshot oT_text oT_serves oT_took oT_tookMany oT_helps oT_before oT_read T_thrown T_stateMany T_hasSnapshot T_length T_stopNumber T_stopError T_at T_isWell T_readMany T_s T_serves T_took T_tookMany T_helps) sz) := by
  refine Met.ofW (cc := cX7_person) (maxL := 3) (ret := (some .int)) (by decide) rfl ?_
  intro p e s m args below meth c s₁ B hml hv
  obtain ⟨rfl, hsz, hP, hKw, hD0⟩ := hv
  have hlocks := B.notSynchronized
  subst hsz
  have hD := hD0.self (sz := s.heap.size)
  have CX : cx cX7_person (some .int) 3 RX7 wsX7_person p m meth c s ([.ref oT, .int x1, .int x2] : List Value).toArray D cI cC cR (va_A (ww_X7_person cI cC oT oT_s oT_aside oT_states oT_snapshot oT_text oT_serves oT_took oT_tookMany oT_helps oT_before oT_read T_thrown T_stateMany T_hasSnapshot T_length T_stopNumber T_stopError T_at T_isWell T_readMany T_s T_serves T_took T_tookMany T_helps) s.heap.size) := ⟨B.exec, B.bytes, B.returns, hml, atoms_spec (ws := wsX7_person) B.pre, findClass_of_methodNamed B.named, hlocks, hKw, fun q h => Or.inr h⟩
  obtain ⟨hx, hb, hr, -, hts, hown, -, -, hA⟩ := id CX
  have hwd : wd D (va_A (ww_X7_person cI cC oT oT_s oT_aside oT_states oT_snapshot oT_text oT_serves oT_took oT_tookMany oT_helps oT_before oT_read T_thrown T_stateMany T_hasSnapshot T_length T_stopNumber T_stopError T_at T_isWell T_readMany T_s T_serves T_took T_tookMany T_helps) s.heap.size) s (ww_X7_person cI cC oT oT_s oT_aside oT_states oT_snapshot oT_text oT_serves oT_took oT_tookMany oT_helps oT_before oT_read T_thrown T_stateMany T_hasSnapshot T_length T_stopNumber T_stopError T_at T_isWell T_readMany T_s T_serves T_took T_tookMany T_helps) s.heap [] := ⟨hP, hD, va_S.rf⟩
  have hl := lv_entry ([.ref oT, .int x1, .int x2]) (n := 3) (Nat.le_of_ble_eq_true rfl)
  rw [lg_entry_eq]
  generalize (lg_sl ([.ref oT, .int x1, .int x2]) ++ List.replicate (3 - (lg_sl ([.ref oT, .int x1, .int x2])).length) Slot.unset).toArray = ls at hl ⊢
  have hl : lv_has ls 3 [(0, .ref oT), (1, .int x1), (2, .int x2)] := hl
  have HR : ∀ (r : Int32) (u0 : Int32) (u1 : Nat → Int32) (u2 : Nat → Int32) (u3 : Nat → Int32) (u4 : Nat → Int32) {H : Heap} {locs : List Loc} {ls : Array Slot} {pc : Nat}, Q r u0 u1 u2 u3 u4 → wd D (va_A (ww_X7_person cI cC oT oT_s oT_aside oT_states oT_snapshot oT_text oT_serves oT_took oT_tookMany oT_helps oT_before oT_read T_thrown T_stateMany T_hasSnapshot T_length T_stopNumber T_stopError T_at T_isWell T_readMany T_s T_serves T_took T_tookMany T_helps) s.heap.size) s (ww_X7_person cI cC oT oT_s oT_aside oT_states oT_snapshot oT_text oT_serves oT_took oT_tookMany oT_helps oT_before oT_read u0 T_stateMany T_hasSnapshot T_length T_stopNumber T_stopError T_at T_isWell T_readMany T_s u1 u2 u3 u4) H locs → decode cX7_person pc = .ok (.ireturn, 1) → W p l e (headSpec wsX7_person rm_X7_person).room s m ([.ref oT, .int x1, .int x2] : List Value).toArray below meth c H locs 0 0 (MQ below (QiW D (fun (r : Int32) (u : Int32 × (Nat → Int32) × (Nat → Int32) × (Nat → Int32) × (Nat → Int32)) => Q r u.1 u.2.1 u.2.2.1 u.2.2.2.1 u.2.2.2.2) (fun u => (ww_X7_person cI cC oT oT_s oT_aside oT_states oT_snapshot oT_text oT_serves oT_took oT_tookMany oT_helps oT_before oT_read (u.1) T_stateMany T_hasSnapshot T_length T_stopNumber T_stopError T_at T_isWell T_readMany T_s (u.2.1) (u.2.2.1) (u.2.2.2.1) (u.2.2.2.2))) (ww_X7_person cI cC oT oT_s oT_aside oT_states oT_snapshot oT_text oT_serves oT_took oT_tookMany oT_helps oT_before oT_read T_thrown T_stateMany T_hasSnapshot T_length T_stopNumber T_stopError T_at T_isWell T_readMany T_s T_serves T_took T_tookMany T_helps) s.heap.size) ([.ref oT, .int x1, .int x2] : List Value).toArray s 0 0 (va_A (ww_X7_person cI cC oT oT_s oT_aside oT_states oT_snapshot oT_text oT_serves oT_took oT_tookMany oT_helps oT_before oT_read T_thrown T_stateMany T_hasSnapshot T_length T_stopNumber T_stopError T_at T_isWell T_readMany T_s T_serves T_took T_tookMany T_helps) s.heap.size)) (F0 m pc ls [.int r]) := by
    intro r u0 u1 u2 u3 u4 H locs ls pc hq hw9 hd9
    exact W.iret (v := r) hx hb hr (fun t ht hW => ⟨⟨r, (u0, u1, u2, u3, u4), rfl, hq, by rw [ht]; exact hw9.1, hw9.2.1⟩, hw9.2.2.F ht⟩) hw9.2.2.2.2 hd9
  unfold wp_X7_person at hw
  refine lv_aload_n hx hb dX7_person_0 rfl (lv_at hl 0 rfl) ?_
  refine lv_iconst (v := (nI 0)) hx hb dX7_person_1 rfl ?_
  refine va_put (D := D) (ci := 7) (v := .int (nI 0)) (ty := .int) (C := RX7) (T := TX7) (N := 20) hx hb hts ic_X7_person_X7 tyX7 tyX7_ok nmX7 hown hKw.1 hwd.1 hwd.2.1 hwd.2.2 0 rfl rfl 0 (by decide) (hts (.fieldLink RX7 43 "DrillWardensModel" "thrown" "I") (List.mem_of_getElem? (i := 1) rfl)) (fun _ h9 => h9) rfl (tyX7_ok 0 (by decide)) rfl rfl (Nat.le_of_ble_eq_true rfl) dX7_person_2 (fun H locs h1 h2 h3 => ?_)
  replace hwd : wd D (va_A (ww_X7_person cI cC oT oT_s oT_aside oT_states oT_snapshot oT_text oT_serves oT_took oT_tookMany oT_helps oT_before oT_read T_thrown T_stateMany T_hasSnapshot T_length T_stopNumber T_stopError T_at T_isWell T_readMany T_s T_serves T_took T_tookMany T_helps) s.heap.size) s (ww_X7_person cI cC oT oT_s oT_aside oT_states oT_snapshot oT_text oT_serves oT_took oT_tookMany oT_helps oT_before oT_read (nI 0) T_stateMany T_hasSnapshot T_length T_stopNumber T_stopError T_at T_isWell T_readMany T_s T_serves T_took T_tookMany T_helps) H locs := ⟨h1, h2, h3⟩
  clear h1 h2 h3
  refine lv_iload_n hx hb dX7_person_5 rfl (lv_at hl 1 rfl) ?_
  refine kcSi (rest := []) (As := [.int x1]) ⟨Nat.le_of_ble_eq_true rfl, Nat.le_of_ble_eq_true rfl⟩ ⟨hx, hb, hml, hown, hts⟩ (c_X7_isPerson l H.size x1 hw) (va_cwS 1 hts gX7_person_X7_isPerson rfl rfl rfl hd_X7_isPerson ⟨Nat.le_of_ble_eq_true rfl, Nat.le_of_ble_eq_true rfl⟩) hKw hA hwd rfl hl.1 rfl (lv_room (Nat.le_of_ble_eq_true rfl)) dX7_person_6 (fun r1 H locs hw hwd => ?_)
  try dsimp only at hw
  refine lv_if_ne (tgt := 14) hx hb dX7_person_9 (by decide) (fun c2 => ?_) (fun c2 => ?_)
  · replace hw := hw.1 c2
    refine lv_aload_n hx hb dX7_person_14 rfl (lv_at hl 0 rfl) ?_
    refine lv_aload_n hx hb dX7_person_15 rfl (lv_at hl 0 rfl) ?_
    refine va_get (D := D) (ci := 7) (v := .ref oT_s) (C := RX7) (T := TX7) (N := 20) hx hb hts ic_X7_person_X7 hown hKw.1 hwd.1 0 rfl rfl 1 (by decide) (hts (.fieldLink RX7 7 "DrillWardensModel" "s" "[I") (List.mem_of_getElem? (i := 2) rfl)) (fun _ h9 => h9) rfl dX7_person_16 ?_
    refine lv_iconst (v := (nI 3)) hx hb dX7_person_19 rfl ?_
    refine va_iald hx hb hKw.1 hwd.1 1 0 rfl rfl hw.1 dX7_person_20 ?_
    replace hw := hw.2
    refine kcVv (W1 := (fun u => (ww_X7_person cI cC oT oT_s oT_aside oT_states oT_snapshot oT_text oT_serves oT_took oT_tookMany oT_helps oT_before oT_read (nI 0) T_stateMany T_hasSnapshot T_length T_stopNumber T_stopError T_at T_isWell T_readMany T_s (u.1) (u.2.1) (u.2.2.1) (u.2.2.2)))) (rest := []) (As := [.int (T_s (nI 3).toNatClampNeg)]) ⟨Nat.le_of_ble_eq_true rfl, Nat.le_of_ble_eq_true rfl⟩ ⟨hx, hb, hml, hown, hts⟩ (c_X7_plans l oT oT_s oT_aside oT_states oT_snapshot oT_text oT_serves oT_took oT_tookMany oT_helps oT_before oT_read H.size (nI 0) T_stateMany T_hasSnapshot T_length T_stopNumber T_stopError T_at T_isWell T_readMany T_s T_serves T_took T_tookMany T_helps (T_s (nI 3).toNatClampNeg) hw) (cwV 1 hts gX7_person_X7_plans rfl rfl rfl ⟨rfl, hd_X7_plans⟩ ⟨Nat.le_of_ble_eq_true rfl, Nat.le_of_ble_eq_true rfl⟩) hKw hA hwd [0, 1, 2, 3, 4, 5] [] [0, 1, 2, 3, 4, 5] [] rfl rfl rfl rfl (by decide) rfl (fun _ => rfl) 0 7 rfl rfl rfl rfl hl.1 rfl (lv_room (Nat.le_of_ble_eq_true rfl)) dX7_person_21 (fun u H locs hw hwd => ?_)
    obtain ⟨T_serves3, T_took4, T_tookMany5, T_helps6⟩ := u
    try dsimp only at hw
    replace hwd : wd D (va_A (ww_X7_person cI cC oT oT_s oT_aside oT_states oT_snapshot oT_text oT_serves oT_took oT_tookMany oT_helps oT_before oT_read T_thrown T_stateMany T_hasSnapshot T_length T_stopNumber T_stopError T_at T_isWell T_readMany T_s T_serves T_took T_tookMany T_helps) s.heap.size) s (ww_X7_person cI cC oT oT_s oT_aside oT_states oT_snapshot oT_text oT_serves oT_took oT_tookMany oT_helps oT_before oT_read (nI 0) T_stateMany T_hasSnapshot T_length T_stopNumber T_stopError T_at T_isWell T_readMany T_s T_serves3 T_took4 T_tookMany5 T_helps6) H locs := hwd
    refine lv_iload_n hx hb dX7_person_24 rfl (lv_at hl 2 rfl) ?_
    rcases Classical.em (x2 = (nI 0)) with c7 | c7
    · replace hw := hw.1 c7
      refine lv_tableIn (off := 39) (tgt := 64) hx hb dX7_person_25 (by rw [c7]; decide) (by rw [c7]; decide) (by rw [c7]; rfl) (by decide) ?_
      refine lv_aload_n hx hb dX7_person_64 rfl (lv_at hl 0 rfl) ?_
      refine va_get (D := D) (ci := 7) (v := .ref oT_s) (C := RX7) (T := TX7) (N := 20) hx hb hts ic_X7_person_X7 hown hKw.1 hwd.1 0 rfl rfl 1 (by decide) (hts (.fieldLink RX7 7 "DrillWardensModel" "s" "[I") (List.mem_of_getElem? (i := 2) rfl)) (fun _ h9 => h9) rfl dX7_person_65 ?_
      refine lv_sipush (v := (nI 318)) hx hb dX7_person_68 rfl ?_
      refine lv_iconst (v := (nI 2)) hx hb dX7_person_71 rfl ?_
      refine lv_iload_n hx hb dX7_person_72 rfl (lv_at hl 1 rfl) ?_
      refine lv_imul hx hb dX7_person_73 ?_
      refine lv_iadd hx hb dX7_person_74 ?_
      refine lv_iconst (v := (nI 0)) hx hb dX7_person_75 rfl ?_
      refine lv_iadd hx hb dX7_person_76 ?_
      refine va_iald hx hb hKw.1 hwd.1 1 0 rfl rfl hw.1 dX7_person_77 ?_
      replace hw := hw.2
      exact HR (T_s (((nI 318) + ((nI 2) * x1)) + (nI 0)).toNatClampNeg) (nI 0) T_serves3 T_took4 T_tookMany5 T_helps6 hw hwd dX7_person_78
    · replace hw := hw.2 c7
      rcases Classical.em (x2 = (nI 1)) with c8 | c8
      · replace hw := hw.1 c8
        refine lv_tableIn (off := 54) (tgt := 79) hx hb dX7_person_25 (by rw [c8]; decide) (by rw [c8]; decide) (by rw [c8]; rfl) (by decide) ?_
        refine lv_aload_n hx hb dX7_person_79 rfl (lv_at hl 0 rfl) ?_
        refine lv_iload_n hx hb dX7_person_80 rfl (lv_at hl 1 rfl) ?_
        refine lv_iconst (v := (nI 0)) hx hb dX7_person_81 rfl ?_
        refine kcVi (W1 := (fun u => (ww_X7_person cI cC oT oT_s oT_aside oT_states oT_snapshot oT_text oT_serves oT_took oT_tookMany oT_helps oT_before oT_read (nI 0) T_stateMany T_hasSnapshot T_length T_stopNumber T_stopError T_at T_isWell T_readMany T_s T_serves3 T_took4 T_tookMany5 T_helps6))) (rest := []) (As := [.int x1, .int (nI 0)]) ⟨Nat.le_of_ble_eq_true rfl, Nat.le_of_ble_eq_true rfl⟩ ⟨hx, hb, hml, hown, hts⟩ (c_X7_leavesOf l oT oT_s oT_aside oT_states oT_snapshot oT_text oT_serves oT_took oT_tookMany oT_helps oT_before oT_read H.size (nI 0) T_stateMany T_hasSnapshot T_length T_stopNumber T_stopError T_at T_isWell T_readMany T_s x1 (nI 0) hw) (cwV 2 hts gX7_person_X7_leavesOf rfl rfl rfl ⟨rfl, hd_X7_leavesOf⟩ ⟨Nat.le_of_ble_eq_true rfl, Nat.le_of_ble_eq_true rfl⟩) hKw hA hwd [0, 1] [2, 3, 4, 5] [4, 5, 0, 1, 2, 3] [(oT_serves, .inl (cI, 16, .inl T_serves3)), (oT_took, .inl (cI, 30, .inl T_took4)), (oT_tookMany, .inl (cI, 10, .inl T_tookMany5)), (oT_helps, .inl (cI, 10, .inl T_helps6))] rfl rfl rfl rfl (by decide) rfl (fun _ => rfl) 0 7 rfl rfl rfl rfl hl.1 rfl (lv_room (Nat.le_of_ble_eq_true rfl)) dX7_person_82 (fun r9 u H locs hw hwd => ?_)
        try dsimp only at hw
        replace hwd : wd D (va_A (ww_X7_person cI cC oT oT_s oT_aside oT_states oT_snapshot oT_text oT_serves oT_took oT_tookMany oT_helps oT_before oT_read T_thrown T_stateMany T_hasSnapshot T_length T_stopNumber T_stopError T_at T_isWell T_readMany T_s T_serves T_took T_tookMany T_helps) s.heap.size) s (ww_X7_person cI cC oT oT_s oT_aside oT_states oT_snapshot oT_text oT_serves oT_took oT_tookMany oT_helps oT_before oT_read (nI 0) T_stateMany T_hasSnapshot T_length T_stopNumber T_stopError T_at T_isWell T_readMany T_s T_serves3 T_took4 T_tookMany5 T_helps6) H locs := hwd
        exact HR r9 (nI 0) T_serves3 T_took4 T_tookMany5 T_helps6 hw hwd dX7_person_85
      · replace hw := hw.2 c8
        rcases Classical.em (x2 = (nI 2)) with c10 | c10
        · replace hw := hw.1 c10
          refine lv_tableIn (off := 61) (tgt := 86) hx hb dX7_person_25 (by rw [c10]; decide) (by rw [c10]; decide) (by rw [c10]; rfl) (by decide) ?_
          refine lv_aload_n hx hb dX7_person_86 rfl (lv_at hl 0 rfl) ?_
          refine lv_iload_n hx hb dX7_person_87 rfl (lv_at hl 1 rfl) ?_
          refine lv_iconst (v := (nI 1)) hx hb dX7_person_88 rfl ?_
          refine kcVi (W1 := (fun u => (ww_X7_person cI cC oT oT_s oT_aside oT_states oT_snapshot oT_text oT_serves oT_took oT_tookMany oT_helps oT_before oT_read (nI 0) T_stateMany T_hasSnapshot T_length T_stopNumber T_stopError T_at T_isWell T_readMany T_s T_serves3 T_took4 T_tookMany5 T_helps6))) (rest := []) (As := [.int x1, .int (nI 1)]) ⟨Nat.le_of_ble_eq_true rfl, Nat.le_of_ble_eq_true rfl⟩ ⟨hx, hb, hml, hown, hts⟩ (c_X7_leavesOf l oT oT_s oT_aside oT_states oT_snapshot oT_text oT_serves oT_took oT_tookMany oT_helps oT_before oT_read H.size (nI 0) T_stateMany T_hasSnapshot T_length T_stopNumber T_stopError T_at T_isWell T_readMany T_s x1 (nI 1) hw) (cwV 2 hts gX7_person_X7_leavesOf rfl rfl rfl ⟨rfl, hd_X7_leavesOf⟩ ⟨Nat.le_of_ble_eq_true rfl, Nat.le_of_ble_eq_true rfl⟩) hKw hA hwd [0, 1] [2, 3, 4, 5] [4, 5, 0, 1, 2, 3] [(oT_serves, .inl (cI, 16, .inl T_serves3)), (oT_took, .inl (cI, 30, .inl T_took4)), (oT_tookMany, .inl (cI, 10, .inl T_tookMany5)), (oT_helps, .inl (cI, 10, .inl T_helps6))] rfl rfl rfl rfl (by decide) rfl (fun _ => rfl) 0 7 rfl rfl rfl rfl hl.1 rfl (lv_room (Nat.le_of_ble_eq_true rfl)) dX7_person_89 (fun r11 u H locs hw hwd => ?_)
          try dsimp only at hw
          replace hwd : wd D (va_A (ww_X7_person cI cC oT oT_s oT_aside oT_states oT_snapshot oT_text oT_serves oT_took oT_tookMany oT_helps oT_before oT_read T_thrown T_stateMany T_hasSnapshot T_length T_stopNumber T_stopError T_at T_isWell T_readMany T_s T_serves T_took T_tookMany T_helps) s.heap.size) s (ww_X7_person cI cC oT oT_s oT_aside oT_states oT_snapshot oT_text oT_serves oT_took oT_tookMany oT_helps oT_before oT_read (nI 0) T_stateMany T_hasSnapshot T_length T_stopNumber T_stopError T_at T_isWell T_readMany T_s T_serves3 T_took4 T_tookMany5 T_helps6) H locs := hwd
          exact HR r11 (nI 0) T_serves3 T_took4 T_tookMany5 T_helps6 hw hwd dX7_person_92
        · replace hw := hw.2 c10
          rcases Classical.em (x2 = (nI 3)) with c12 | c12
          · replace hw := hw.1 c12
            refine lv_tableIn (off := 68) (tgt := 93) hx hb dX7_person_25 (by rw [c12]; decide) (by rw [c12]; decide) (by rw [c12]; rfl) (by decide) ?_
            refine lv_aload_n hx hb dX7_person_93 rfl (lv_at hl 0 rfl) ?_
            refine lv_iload_n hx hb dX7_person_94 rfl (lv_at hl 1 rfl) ?_
            refine kcVi (W1 := (fun u => (ww_X7_person cI cC oT oT_s oT_aside oT_states oT_snapshot oT_text oT_serves oT_took oT_tookMany oT_helps oT_before oT_read (nI 0) T_stateMany T_hasSnapshot T_length T_stopNumber T_stopError T_at T_isWell T_readMany T_s T_serves3 T_took4 T_tookMany5 T_helps6))) (rest := []) (As := [.int x1]) ⟨Nat.le_of_ble_eq_true rfl, Nat.le_of_ble_eq_true rfl⟩ ⟨hx, hb, hml, hown, hts⟩ (c_X7_floorsOf l oT oT_s oT_aside oT_states oT_snapshot oT_text oT_serves oT_took oT_tookMany oT_helps oT_before oT_read H.size (nI 0) T_stateMany T_hasSnapshot T_length T_stopNumber T_stopError T_at T_isWell T_readMany T_s x1 hw) (cwV 1 hts gX7_person_X7_floorsOf rfl rfl rfl ⟨rfl, hd_X7_floorsOf⟩ ⟨Nat.le_of_ble_eq_true rfl, Nat.le_of_ble_eq_true rfl⟩) hKw hA hwd [0, 1] [2, 3, 4, 5] [4, 5, 0, 1, 2, 3] [(oT_serves, .inl (cI, 16, .inl T_serves3)), (oT_took, .inl (cI, 30, .inl T_took4)), (oT_tookMany, .inl (cI, 10, .inl T_tookMany5)), (oT_helps, .inl (cI, 10, .inl T_helps6))] rfl rfl rfl rfl (by decide) rfl (fun _ => rfl) 0 7 rfl rfl rfl rfl hl.1 rfl (lv_room (Nat.le_of_ble_eq_true rfl)) dX7_person_95 (fun r13 u H locs hw hwd => ?_)
            try dsimp only at hw
            replace hwd : wd D (va_A (ww_X7_person cI cC oT oT_s oT_aside oT_states oT_snapshot oT_text oT_serves oT_took oT_tookMany oT_helps oT_before oT_read T_thrown T_stateMany T_hasSnapshot T_length T_stopNumber T_stopError T_at T_isWell T_readMany T_s T_serves T_took T_tookMany T_helps) s.heap.size) s (ww_X7_person cI cC oT oT_s oT_aside oT_states oT_snapshot oT_text oT_serves oT_took oT_tookMany oT_helps oT_before oT_read (nI 0) T_stateMany T_hasSnapshot T_length T_stopNumber T_stopError T_at T_isWell T_readMany T_s T_serves3 T_took4 T_tookMany5 T_helps6) H locs := hwd
            exact HR r13 (nI 0) T_serves3 T_took4 T_tookMany5 T_helps6 hw hwd dX7_person_98
          · replace hw := hw.2 c12
            rcases Classical.em (x2 = (nI 4)) with c14 | c14
            · replace hw := hw.1 c14
              refine lv_tableIn (off := 74) (tgt := 99) hx hb dX7_person_25 (by rw [c14]; decide) (by rw [c14]; decide) (by rw [c14]; rfl) (by decide) ?_
              refine lv_aload_n hx hb dX7_person_99 rfl (lv_at hl 0 rfl) ?_
              refine va_get (D := D) (ci := 7) (v := .ref oT_s) (C := RX7) (T := TX7) (N := 20) hx hb hts ic_X7_person_X7 hown hKw.1 hwd.1 0 rfl rfl 1 (by decide) (hts (.fieldLink RX7 7 "DrillWardensModel" "s" "[I") (List.mem_of_getElem? (i := 2) rfl)) (fun _ h9 => h9) rfl dX7_person_100 ?_
              refine lv_sipush (v := (nI 318)) hx hb dX7_person_103 rfl ?_
              refine lv_iconst (v := (nI 2)) hx hb dX7_person_106 rfl ?_
              refine lv_iload_n hx hb dX7_person_107 rfl (lv_at hl 1 rfl) ?_
              refine lv_imul hx hb dX7_person_108 ?_
              refine lv_iadd hx hb dX7_person_109 ?_
              refine lv_iconst (v := (nI 1)) hx hb dX7_person_110 rfl ?_
              refine lv_iadd hx hb dX7_person_111 ?_
              refine va_iald hx hb hKw.1 hwd.1 1 0 rfl rfl hw.1 dX7_person_112 ?_
              replace hw := hw.2
              exact HR (T_s (((nI 318) + ((nI 2) * x1)) + (nI 1)).toNatClampNeg) (nI 0) T_serves3 T_took4 T_tookMany5 T_helps6 hw hwd dX7_person_113
            · replace hw := hw.2 c14
              rcases Classical.em (x2 = (nI 5)) with c15 | c15
              · replace hw := hw.1 c15
                refine lv_tableIn (off := 89) (tgt := 114) hx hb dX7_person_25 (by rw [c15]; decide) (by rw [c15]; decide) (by rw [c15]; rfl) (by decide) ?_
                refine lv_aload_n hx hb dX7_person_114 rfl (lv_at hl 0 rfl) ?_
                refine va_get (D := D) (ci := 7) (v := .ref oT_serves) (C := RX7) (T := TX7) (N := 20) hx hb hts ic_X7_person_X7 hown hKw.1 hwd.1 0 rfl rfl 11 (by decide) (hts (.fieldLink RX7 25 "DrillWardensModel" "serves" "[I") (List.mem_of_getElem? (i := 3) rfl)) (fun _ h9 => h9) rfl dX7_person_115 ?_
                refine lv_iload_n hx hb dX7_person_118 rfl (lv_at hl 1 rfl) ?_
                refine va_iald hx hb hKw.1 hwd.1 2 0 rfl rfl hw.1 dX7_person_119 ?_
                replace hw := hw.2
                exact HR (T_serves3 x1.toNatClampNeg) (nI 0) T_serves3 T_took4 T_tookMany5 T_helps6 hw hwd dX7_person_120
              · replace hw := hw.2 c15
                refine lv_tableOut (tgt := 121) hx hb dX7_person_25 (sw_out (fun j h1 h2 => by rcases (show j = 0 ∨ j = 1 ∨ j = 2 ∨ j = 3 ∨ j = 4 ∨ j = 5 by omega) with rfl | rfl | rfl | rfl | rfl | rfl <;> first | exact c7 | exact c8 | exact c10 | exact c12 | exact c14 | exact c15)) (by decide) ?_
                refine lv_bipush (v := (-2)) hx hb dX7_person_121 rfl ?_
                exact HR (-2) (nI 0) T_serves3 T_took4 T_tookMany5 T_helps6 hw hwd dX7_person_123
  · replace hw := hw.2 c2
    refine lv_iconst (v := (-1)) hx hb dX7_person_12 rfl ?_
    exact HR (-1) (nI 0) T_serves T_took T_tookMany T_helps hw hwd dX7_person_13
