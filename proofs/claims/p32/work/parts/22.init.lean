abbrev rm_X0_init : Room := { frames := 1, cells := 6, slots := 216, locals := 12 }
theorem ic_X0_init_X0 : ∀ w ∈ u_ws RX0 TX0 7, w ∈ wsX0_init := by
  intro w h
  simp only [wsX0_init, List.mem_cons, List.mem_append]
  simp only [h, or_true, true_or]
abbrev iw_X0 (cI cC : ClassId) (oT : Nat) (u : Nat → Nat) : va_W := [(oT, .inr (0, [.int 0, .ref (u 0), .ref (u 1), .ref (u 2), .ref (u 3), .ref (u 4), .ref (u 5)])), (u 0, .inl (cI, 10, .inl (fun _ => 0))), (u 1, .inl (cI, 10, .inl (fun _ => 0))), (u 2, .inl (cI, 16, .inl (fun _ => 0))), (u 3, .inl (cI, 60, .inl (fun _ => 0))), (u 4, .inl (cI, 60, .inl (fun _ => 0))), (u 5, .inl (cI, 60, .inl (fun _ => 0)))]
set_option maxRecDepth 100000 in
set_option maxHeartbeats 4000000 in
theorem c_X0_init (l : Launch) {D : va_G} {cI cC cR : ClassId} (oT sz : Nat) : Met l yX0_init wsX0_init rm_X0_init (PcW D cI cC cR [.ref oT] [(oT, .inr (0, [.int 0, .null, .null, .null, .null, .null, .null]))] sz) (QvW D (fun (_ : Nat → Nat) => True) (fun u => iw_X0 cI cC oT u) [(oT, .inr (0, [.int 0, .null, .null, .null, .null, .null, .null]))] sz) 6 216 (va_A [(oT, .inr (0, [.int 0, .null, .null, .null, .null, .null, .null]))] sz) := by
  refine Met.ofW (cc := cX0_init) (maxL := 1) (ret := none) (by decide) rfl ?_
  intro p e s m args below meth c s₁ B hml hv
  obtain ⟨rfl, hsz, hP, hKw, hD0⟩ := hv
  have hlocks := B.notSynchronized
  have hin : meth.name = "<init>" := (name_of_methodNamed B.named B.method).1
  subst hsz
  have hD := hD0.self (sz := s.heap.size)
  obtain ⟨A, hAe⟩ : ∃ z, z = va_A [(oT, .inr (0, [.int 0, .null, .null, .null, .null, .null, .null]))] s.heap.size := ⟨_, rfl⟩
  rw [← hAe] at hD
  have hA : ∀ q : Nat, s.heap.size ≤ q → A q := fun q h => by rw [hAe]; exact Or.inr h
  have CX : cx cX0_init none 1 RX0 wsX0_init p m meth c s ([.ref oT] : List Value).toArray D cI cC cR A := ⟨B.exec, B.bytes, B.returns, hml, atoms_spec (ws := wsX0_init) B.pre, findClass_of_methodNamed B.named, hlocks, hKw, hA⟩
  obtain ⟨hx, hb, hr, -, hts, hown, -, -, -⟩ := id CX
  obtain ⟨locs, hlocs⟩ : ∃ z : List Loc, z = [] := ⟨_, rfl⟩
  rw [← hlocs]
  have hwd : wd D A s [(oT, .inr (0, [.int 0, .null, .null, .null, .null, .null, .null]))] s.heap locs := ⟨hP, hD, by rw [hlocs]; exact va_S.rf⟩
  have hl := lv_entry ([.ref oT]) (n := 1) (Nat.le_of_ble_eq_true rfl)
  rw [lg_entry_eq]
  generalize (lg_sl ([.ref oT]) ++ List.replicate (1 - (lg_sl ([.ref oT])).length) Slot.unset).toArray = ls at hl ⊢
  have hl : lv_has ls 1 [(0, .ref oT)] := hl
  refine lv_aload_n hx hb dX0_init_0 rfl (lv_at hl 0 rfl) ?_
  refine W.objInit hx hb hown (hts (.methodLink RX0 3 objectInit) (List.mem_of_getElem? (i := 1) rfl)) (hts (.instanceMethod objectInit) (List.mem_of_getElem? (i := 2) rfl)) (hts (.code objectInit ⟨#[0xb1]⟩ 1 none) (List.mem_of_getElem? (i := 3) rfl)) rfl (by rw [hml]; exact hl.1) rfl dX0_init_1 (Nat.le_of_ble_eq_true rfl) (Nat.le_of_ble_eq_true rfl) ?_
  refine W.eq (g2 := F0 m 4 ls []) rfl ?_
  refine lv_aload_n hx hb dX0_init_4 rfl (lv_at hl 0 rfl) ?_
  refine lv_bipush (v := (nI 10)) hx hb dX0_init_5 rfl ?_
  refine kna hx hb (hts (.arrayClass .int) (List.mem_of_getElem? (i := 4) rfl)) hKw hA hwd 10 (Nat.le_of_ble_eq_true rfl) (Nat.le_of_ble_eq_true rfl) (Nat.le_of_ble_eq_true rfl) dX0_init_7 (fun q1 H hwd => ?_)
  replace hwd : wd D A s [(oT, .inr (0, [.int 0, .null, .null, .null, .null, .null, .null])), (q1, .inl (cI, 10, .inl (fun _ => 0)))] H locs := hwd
  refine W.widen (k := 1) (n := 10) (by omega) (by omega) ?_
  refine va_putF (D := D) (ci := 0) (v := .ref q1) (ty := .array .int) (C := RX0) (T := TX0) (N := 7) hx hb hts ic_X0_init_X0 tyX0 tyX0_ok nmX0 hown hKw.1 hwd.1 hwd.2.1 hwd.2.2 0 rfl rfl 1 (by decide) (hts (.fieldLink RX0 9 "DrillWardens$Drills" "held" "[I") (List.mem_of_getElem? (i := 5) rfl)) (fun _ h9 => h9) rfl hin rfl (tyX0_ok 1 (by decide)) rfl rfl (Nat.le_of_ble_eq_true rfl) dX0_init_9 (fun H locs h1 h2 h3 => ?_)
  replace hwd : wd D A s [(oT, .inr (0, [.int 0, .ref q1, .null, .null, .null, .null, .null])), (q1, .inl (cI, 10, .inl (fun _ => 0)))] H locs := ⟨h1, h2, h3⟩
  clear h1 h2 h3
  refine lv_aload_n hx hb dX0_init_12 rfl (lv_at hl 0 rfl) ?_
  refine lv_bipush (v := (nI 10)) hx hb dX0_init_13 rfl ?_
  refine kna hx hb (hts (.arrayClass .int) (List.mem_of_getElem? (i := 4) rfl)) hKw hA hwd 10 (Nat.le_of_ble_eq_true rfl) (Nat.le_of_ble_eq_true rfl) (Nat.le_of_ble_eq_true rfl) dX0_init_15 (fun q2 H hwd => ?_)
  replace hwd : wd D A s [(oT, .inr (0, [.int 0, .ref q1, .null, .null, .null, .null, .null])), (q1, .inl (cI, 10, .inl (fun _ => 0))), (q2, .inl (cI, 10, .inl (fun _ => 0)))] H locs := hwd
  refine W.widen (k := 2) (n := 20) (by omega) (by omega) ?_
  refine va_putF (D := D) (ci := 0) (v := .ref q2) (ty := .array .int) (C := RX0) (T := TX0) (N := 7) hx hb hts ic_X0_init_X0 tyX0 tyX0_ok nmX0 hown hKw.1 hwd.1 hwd.2.1 hwd.2.2 0 rfl rfl 2 (by decide) (hts (.fieldLink RX0 15 "DrillWardens$Drills" "quarters" "[I") (List.mem_of_getElem? (i := 6) rfl)) (fun _ h9 => h9) rfl hin rfl (tyX0_ok 2 (by decide)) rfl rfl (Nat.le_of_ble_eq_true rfl) dX0_init_17 (fun H locs h1 h2 h3 => ?_)
  replace hwd : wd D A s [(oT, .inr (0, [.int 0, .ref q1, .ref q2, .null, .null, .null, .null])), (q1, .inl (cI, 10, .inl (fun _ => 0))), (q2, .inl (cI, 10, .inl (fun _ => 0)))] H locs := ⟨h1, h2, h3⟩
  clear h1 h2 h3
  refine lv_aload_n hx hb dX0_init_20 rfl (lv_at hl 0 rfl) ?_
  refine lv_bipush (v := (nI 16)) hx hb dX0_init_21 rfl ?_
  refine kna hx hb (hts (.arrayClass .int) (List.mem_of_getElem? (i := 4) rfl)) hKw hA hwd 16 (Nat.le_of_ble_eq_true rfl) (Nat.le_of_ble_eq_true rfl) (Nat.le_of_ble_eq_true rfl) dX0_init_23 (fun q3 H hwd => ?_)
  replace hwd : wd D A s [(oT, .inr (0, [.int 0, .ref q1, .ref q2, .null, .null, .null, .null])), (q1, .inl (cI, 10, .inl (fun _ => 0))), (q2, .inl (cI, 10, .inl (fun _ => 0))), (q3, .inl (cI, 16, .inl (fun _ => 0)))] H locs := hwd
  refine W.widen (k := 3) (n := 36) (by omega) (by omega) ?_
  refine va_putF (D := D) (ci := 0) (v := .ref q3) (ty := .array .int) (C := RX0) (T := TX0) (N := 7) hx hb hts ic_X0_init_X0 tyX0 tyX0_ok nmX0 hown hKw.1 hwd.1 hwd.2.1 hwd.2.2 0 rfl rfl 3 (by decide) (hts (.fieldLink RX0 18 "DrillWardens$Drills" "led" "[I") (List.mem_of_getElem? (i := 7) rfl)) (fun _ h9 => h9) rfl hin rfl (tyX0_ok 3 (by decide)) rfl rfl (Nat.le_of_ble_eq_true rfl) dX0_init_25 (fun H locs h1 h2 h3 => ?_)
  replace hwd : wd D A s [(oT, .inr (0, [.int 0, .ref q1, .ref q2, .ref q3, .null, .null, .null])), (q1, .inl (cI, 10, .inl (fun _ => 0))), (q2, .inl (cI, 10, .inl (fun _ => 0))), (q3, .inl (cI, 16, .inl (fun _ => 0)))] H locs := ⟨h1, h2, h3⟩
  clear h1 h2 h3
  refine lv_aload_n hx hb dX0_init_28 rfl (lv_at hl 0 rfl) ?_
  refine lv_bipush (v := (nI 60)) hx hb dX0_init_29 rfl ?_
  refine kna hx hb (hts (.arrayClass .int) (List.mem_of_getElem? (i := 4) rfl)) hKw hA hwd 60 (Nat.le_of_ble_eq_true rfl) (Nat.le_of_ble_eq_true rfl) (Nat.le_of_ble_eq_true rfl) dX0_init_31 (fun q4 H hwd => ?_)
  replace hwd : wd D A s [(oT, .inr (0, [.int 0, .ref q1, .ref q2, .ref q3, .null, .null, .null])), (q1, .inl (cI, 10, .inl (fun _ => 0))), (q2, .inl (cI, 10, .inl (fun _ => 0))), (q3, .inl (cI, 16, .inl (fun _ => 0))), (q4, .inl (cI, 60, .inl (fun _ => 0)))] H locs := hwd
  refine W.widen (k := 4) (n := 96) (by omega) (by omega) ?_
  refine va_putF (D := D) (ci := 0) (v := .ref q4) (ty := .array .int) (C := RX0) (T := TX0) (N := 7) hx hb hts ic_X0_init_X0 tyX0 tyX0_ok nmX0 hown hKw.1 hwd.1 hwd.2.1 hwd.2.2 0 rfl rfl 4 (by decide) (hts (.fieldLink RX0 21 "DrillWardens$Drills" "logDays" "[I") (List.mem_of_getElem? (i := 8) rfl)) (fun _ h9 => h9) rfl hin rfl (tyX0_ok 4 (by decide)) rfl rfl (Nat.le_of_ble_eq_true rfl) dX0_init_33 (fun H locs h1 h2 h3 => ?_)
  replace hwd : wd D A s [(oT, .inr (0, [.int 0, .ref q1, .ref q2, .ref q3, .ref q4, .null, .null])), (q1, .inl (cI, 10, .inl (fun _ => 0))), (q2, .inl (cI, 10, .inl (fun _ => 0))), (q3, .inl (cI, 16, .inl (fun _ => 0))), (q4, .inl (cI, 60, .inl (fun _ => 0)))] H locs := ⟨h1, h2, h3⟩
  clear h1 h2 h3
  refine lv_aload_n hx hb dX0_init_36 rfl (lv_at hl 0 rfl) ?_
  refine lv_bipush (v := (nI 60)) hx hb dX0_init_37 rfl ?_
  refine kna hx hb (hts (.arrayClass .int) (List.mem_of_getElem? (i := 4) rfl)) hKw hA hwd 60 (Nat.le_of_ble_eq_true rfl) (Nat.le_of_ble_eq_true rfl) (Nat.le_of_ble_eq_true rfl) dX0_init_39 (fun q5 H hwd => ?_)
  replace hwd : wd D A s [(oT, .inr (0, [.int 0, .ref q1, .ref q2, .ref q3, .ref q4, .null, .null])), (q1, .inl (cI, 10, .inl (fun _ => 0))), (q2, .inl (cI, 10, .inl (fun _ => 0))), (q3, .inl (cI, 16, .inl (fun _ => 0))), (q4, .inl (cI, 60, .inl (fun _ => 0))), (q5, .inl (cI, 60, .inl (fun _ => 0)))] H locs := hwd
  refine W.widen (k := 5) (n := 156) (by omega) (by omega) ?_
  refine va_putF (D := D) (ci := 0) (v := .ref q5) (ty := .array .int) (C := RX0) (T := TX0) (N := 7) hx hb hts ic_X0_init_X0 tyX0 tyX0_ok nmX0 hown hKw.1 hwd.1 hwd.2.1 hwd.2.2 0 rfl rfl 5 (by decide) (hts (.fieldLink RX0 24 "DrillWardens$Drills" "logMinutes" "[I") (List.mem_of_getElem? (i := 9) rfl)) (fun _ h9 => h9) rfl hin rfl (tyX0_ok 5 (by decide)) rfl rfl (Nat.le_of_ble_eq_true rfl) dX0_init_41 (fun H locs h1 h2 h3 => ?_)
  replace hwd : wd D A s [(oT, .inr (0, [.int 0, .ref q1, .ref q2, .ref q3, .ref q4, .ref q5, .null])), (q1, .inl (cI, 10, .inl (fun _ => 0))), (q2, .inl (cI, 10, .inl (fun _ => 0))), (q3, .inl (cI, 16, .inl (fun _ => 0))), (q4, .inl (cI, 60, .inl (fun _ => 0))), (q5, .inl (cI, 60, .inl (fun _ => 0)))] H locs := ⟨h1, h2, h3⟩
  clear h1 h2 h3
  refine lv_aload_n hx hb dX0_init_44 rfl (lv_at hl 0 rfl) ?_
  refine lv_bipush (v := (nI 60)) hx hb dX0_init_45 rfl ?_
  refine kna hx hb (hts (.arrayClass .int) (List.mem_of_getElem? (i := 4) rfl)) hKw hA hwd 60 (Nat.le_of_ble_eq_true rfl) (Nat.le_of_ble_eq_true rfl) (Nat.le_of_ble_eq_true rfl) dX0_init_47 (fun q6 H hwd => ?_)
  replace hwd : wd D A s [(oT, .inr (0, [.int 0, .ref q1, .ref q2, .ref q3, .ref q4, .ref q5, .null])), (q1, .inl (cI, 10, .inl (fun _ => 0))), (q2, .inl (cI, 10, .inl (fun _ => 0))), (q3, .inl (cI, 16, .inl (fun _ => 0))), (q4, .inl (cI, 60, .inl (fun _ => 0))), (q5, .inl (cI, 60, .inl (fun _ => 0))), (q6, .inl (cI, 60, .inl (fun _ => 0)))] H locs := hwd
  refine W.widen (k := 6) (n := 216) (by omega) (by omega) ?_
  refine va_putF (D := D) (ci := 0) (v := .ref q6) (ty := .array .int) (C := RX0) (T := TX0) (N := 7) hx hb hts ic_X0_init_X0 tyX0 tyX0_ok nmX0 hown hKw.1 hwd.1 hwd.2.1 hwd.2.2 0 rfl rfl 6 (by decide) (hts (.fieldLink RX0 27 "DrillWardens$Drills" "logLeaders" "[I") (List.mem_of_getElem? (i := 10) rfl)) (fun _ h9 => h9) rfl hin rfl (tyX0_ok 6 (by decide)) rfl rfl (Nat.le_of_ble_eq_true rfl) dX0_init_49 (fun H locs h1 h2 h3 => ?_)
  replace hwd : wd D A s [(oT, .inr (0, [.int 0, .ref q1, .ref q2, .ref q3, .ref q4, .ref q5, .ref q6])), (q1, .inl (cI, 10, .inl (fun _ => 0))), (q2, .inl (cI, 10, .inl (fun _ => 0))), (q3, .inl (cI, 16, .inl (fun _ => 0))), (q4, .inl (cI, 60, .inl (fun _ => 0))), (q5, .inl (cI, 60, .inl (fun _ => 0))), (q6, .inl (cI, 60, .inl (fun _ => 0)))] H locs := ⟨h1, h2, h3⟩
  clear h1 h2 h3
  subst hAe
  exact W.vret hx hb hr (fun t ht hW => ⟨⟨(fun i => [q1, q2, q3, q4, q5, q6].getD i 0), rfl, trivial, by rw [ht]; exact hwd.1, hwd.2.1⟩, hwd.2.2.F ht⟩) hwd.2.2.2.2 dX0_init_52
abbrev rm_X2_init : Room := { frames := 1, cells := 3, slots := 120, locals := 12 }
theorem ic_X2_init_X2 : ∀ w ∈ u_ws RX2 TX2 4, w ∈ wsX2_init := by
  intro w h
  simp only [wsX2_init, List.mem_cons, List.mem_append]
  simp only [h, or_true, true_or]
abbrev iw_X2 (cI cC : ClassId) (oT : Nat) (u : Nat → Nat) : va_W := [(oT, .inr (2, [.int 0, .ref (u 0), .ref (u 1), .ref (u 2)])), (u 0, .inl (cI, 40, .inl (fun _ => 0))), (u 1, .inl (cI, 40, .inl (fun _ => 0))), (u 2, .inl (cI, 40, .inl (fun _ => 0)))]
set_option maxRecDepth 100000 in
set_option maxHeartbeats 4000000 in
theorem c_X2_init (l : Launch) {D : va_G} {cI cC cR : ClassId} (oT sz : Nat) : Met l yX2_init wsX2_init rm_X2_init (PcW D cI cC cR [.ref oT] [(oT, .inr (2, [.int 0, .null, .null, .null]))] sz) (QvW D (fun (_ : Nat → Nat) => True) (fun u => iw_X2 cI cC oT u) [(oT, .inr (2, [.int 0, .null, .null, .null]))] sz) 3 120 (va_A [(oT, .inr (2, [.int 0, .null, .null, .null]))] sz) := by
  refine Met.ofW (cc := cX2_init) (maxL := 1) (ret := none) (by decide) rfl ?_
  intro p e s m args below meth c s₁ B hml hv
  obtain ⟨rfl, hsz, hP, hKw, hD0⟩ := hv
  have hlocks := B.notSynchronized
  have hin : meth.name = "<init>" := (name_of_methodNamed B.named B.method).1
  subst hsz
  have hD := hD0.self (sz := s.heap.size)
  obtain ⟨A, hAe⟩ : ∃ z, z = va_A [(oT, .inr (2, [.int 0, .null, .null, .null]))] s.heap.size := ⟨_, rfl⟩
  rw [← hAe] at hD
  have hA : ∀ q : Nat, s.heap.size ≤ q → A q := fun q h => by rw [hAe]; exact Or.inr h
  have CX : cx cX2_init none 1 RX2 wsX2_init p m meth c s ([.ref oT] : List Value).toArray D cI cC cR A := ⟨B.exec, B.bytes, B.returns, hml, atoms_spec (ws := wsX2_init) B.pre, findClass_of_methodNamed B.named, hlocks, hKw, hA⟩
  obtain ⟨hx, hb, hr, -, hts, hown, -, -, -⟩ := id CX
  obtain ⟨locs, hlocs⟩ : ∃ z : List Loc, z = [] := ⟨_, rfl⟩
  rw [← hlocs]
  have hwd : wd D A s [(oT, .inr (2, [.int 0, .null, .null, .null]))] s.heap locs := ⟨hP, hD, by rw [hlocs]; exact va_S.rf⟩
  have hl := lv_entry ([.ref oT]) (n := 1) (Nat.le_of_ble_eq_true rfl)
  rw [lg_entry_eq]
  generalize (lg_sl ([.ref oT]) ++ List.replicate (1 - (lg_sl ([.ref oT])).length) Slot.unset).toArray = ls at hl ⊢
  have hl : lv_has ls 1 [(0, .ref oT)] := hl
  refine lv_aload_n hx hb dX2_init_0 rfl (lv_at hl 0 rfl) ?_
  refine W.objInit hx hb hown (hts (.methodLink RX2 3 objectInit) (List.mem_of_getElem? (i := 1) rfl)) (hts (.instanceMethod objectInit) (List.mem_of_getElem? (i := 2) rfl)) (hts (.code objectInit ⟨#[0xb1]⟩ 1 none) (List.mem_of_getElem? (i := 3) rfl)) rfl (by rw [hml]; exact hl.1) rfl dX2_init_1 (Nat.le_of_ble_eq_true rfl) (Nat.le_of_ble_eq_true rfl) ?_
  refine W.eq (g2 := F0 m 4 ls []) rfl ?_
  refine lv_aload_n hx hb dX2_init_4 rfl (lv_at hl 0 rfl) ?_
  refine lv_bipush (v := (nI 40)) hx hb dX2_init_5 rfl ?_
  refine kna hx hb (hts (.arrayClass .int) (List.mem_of_getElem? (i := 4) rfl)) hKw hA hwd 40 (Nat.le_of_ble_eq_true rfl) (Nat.le_of_ble_eq_true rfl) (Nat.le_of_ble_eq_true rfl) dX2_init_7 (fun q1 H hwd => ?_)
  replace hwd : wd D A s [(oT, .inr (2, [.int 0, .null, .null, .null])), (q1, .inl (cI, 40, .inl (fun _ => 0)))] H locs := hwd
  refine W.widen (k := 1) (n := 40) (by omega) (by omega) ?_
  refine va_putF (D := D) (ci := 2) (v := .ref q1) (ty := .array .int) (C := RX2) (T := TX2) (N := 4) hx hb hts ic_X2_init_X2 tyX2 tyX2_ok nmX2 hown hKw.1 hwd.1 hwd.2.1 hwd.2.2 0 rfl rfl 1 (by decide) (hts (.fieldLink RX2 9 "DrillWardens$Leaves" "persons" "[I") (List.mem_of_getElem? (i := 5) rfl)) (fun _ h9 => h9) rfl hin rfl (tyX2_ok 1 (by decide)) rfl rfl (Nat.le_of_ble_eq_true rfl) dX2_init_9 (fun H locs h1 h2 h3 => ?_)
  replace hwd : wd D A s [(oT, .inr (2, [.int 0, .ref q1, .null, .null])), (q1, .inl (cI, 40, .inl (fun _ => 0)))] H locs := ⟨h1, h2, h3⟩
  clear h1 h2 h3
  refine lv_aload_n hx hb dX2_init_12 rfl (lv_at hl 0 rfl) ?_
  refine lv_bipush (v := (nI 40)) hx hb dX2_init_13 rfl ?_
  refine kna hx hb (hts (.arrayClass .int) (List.mem_of_getElem? (i := 4) rfl)) hKw hA hwd 40 (Nat.le_of_ble_eq_true rfl) (Nat.le_of_ble_eq_true rfl) (Nat.le_of_ble_eq_true rfl) dX2_init_15 (fun q2 H hwd => ?_)
  replace hwd : wd D A s [(oT, .inr (2, [.int 0, .ref q1, .null, .null])), (q1, .inl (cI, 40, .inl (fun _ => 0))), (q2, .inl (cI, 40, .inl (fun _ => 0)))] H locs := hwd
  refine W.widen (k := 2) (n := 80) (by omega) (by omega) ?_
  refine va_putF (D := D) (ci := 2) (v := .ref q2) (ty := .array .int) (C := RX2) (T := TX2) (N := 4) hx hb hts ic_X2_init_X2 tyX2 tyX2_ok nmX2 hown hKw.1 hwd.1 hwd.2.1 hwd.2.2 0 rfl rfl 2 (by decide) (hts (.fieldLink RX2 15 "DrillWardens$Leaves" "firstDays" "[I") (List.mem_of_getElem? (i := 6) rfl)) (fun _ h9 => h9) rfl hin rfl (tyX2_ok 2 (by decide)) rfl rfl (Nat.le_of_ble_eq_true rfl) dX2_init_17 (fun H locs h1 h2 h3 => ?_)
  replace hwd : wd D A s [(oT, .inr (2, [.int 0, .ref q1, .ref q2, .null])), (q1, .inl (cI, 40, .inl (fun _ => 0))), (q2, .inl (cI, 40, .inl (fun _ => 0)))] H locs := ⟨h1, h2, h3⟩
  clear h1 h2 h3
  refine lv_aload_n hx hb dX2_init_20 rfl (lv_at hl 0 rfl) ?_
  refine lv_bipush (v := (nI 40)) hx hb dX2_init_21 rfl ?_
  refine kna hx hb (hts (.arrayClass .int) (List.mem_of_getElem? (i := 4) rfl)) hKw hA hwd 40 (Nat.le_of_ble_eq_true rfl) (Nat.le_of_ble_eq_true rfl) (Nat.le_of_ble_eq_true rfl) dX2_init_23 (fun q3 H hwd => ?_)
  replace hwd : wd D A s [(oT, .inr (2, [.int 0, .ref q1, .ref q2, .null])), (q1, .inl (cI, 40, .inl (fun _ => 0))), (q2, .inl (cI, 40, .inl (fun _ => 0))), (q3, .inl (cI, 40, .inl (fun _ => 0)))] H locs := hwd
  refine W.widen (k := 3) (n := 120) (by omega) (by omega) ?_
  refine va_putF (D := D) (ci := 2) (v := .ref q3) (ty := .array .int) (C := RX2) (T := TX2) (N := 4) hx hb hts ic_X2_init_X2 tyX2 tyX2_ok nmX2 hown hKw.1 hwd.1 hwd.2.1 hwd.2.2 0 rfl rfl 3 (by decide) (hts (.fieldLink RX2 18 "DrillWardens$Leaves" "lastDays" "[I") (List.mem_of_getElem? (i := 7) rfl)) (fun _ h9 => h9) rfl hin rfl (tyX2_ok 3 (by decide)) rfl rfl (Nat.le_of_ble_eq_true rfl) dX2_init_25 (fun H locs h1 h2 h3 => ?_)
  replace hwd : wd D A s [(oT, .inr (2, [.int 0, .ref q1, .ref q2, .ref q3])), (q1, .inl (cI, 40, .inl (fun _ => 0))), (q2, .inl (cI, 40, .inl (fun _ => 0))), (q3, .inl (cI, 40, .inl (fun _ => 0)))] H locs := ⟨h1, h2, h3⟩
  clear h1 h2 h3
  subst hAe
  exact W.vret hx hb hr (fun t ht hW => ⟨⟨(fun i => [q1, q2, q3].getD i 0), rfl, trivial, by rw [ht]; exact hwd.1, hwd.2.1⟩, hwd.2.2.F ht⟩) hwd.2.2.2.2 dX2_init_28
abbrev rm_X3_init : Room := { frames := 1, cells := 3, slots := 128, locals := 12 }
theorem ic_X3_init_X3 : ∀ w ∈ u_ws RX3 TX3 6, w ∈ wsX3_init := by
  intro w h
  simp only [wsX3_init, List.mem_cons, List.mem_append]
  simp only [h, or_true, true_or]
abbrev iw_X3 (cI cC : ClassId) (oT : Nat) (u : Nat → Nat) : va_W := [(oT, .inr (3, [.ref (u 0), .int 0, .int 0, .int 0, .ref (u 1), .ref (u 2)])), (u 0, .inl (cC, 80, .inl (fun _ => 0))), (u 1, .inl (cI, 12, .inl (fun _ => 0))), (u 2, .inl (cI, 36, .inl (fun _ => 0)))]
set_option maxRecDepth 100000 in
set_option maxHeartbeats 4000000 in
theorem c_X3_init (l : Launch) {D : va_G} {cI cC cR : ClassId} (oT sz : Nat) : Met l yX3_init wsX3_init rm_X3_init (PcW D cI cC cR [.ref oT] [(oT, .inr (3, [.null, .int 0, .int 0, .int 0, .null, .null]))] sz) (QvW D (fun (_ : Nat → Nat) => True) (fun u => iw_X3 cI cC oT u) [(oT, .inr (3, [.null, .int 0, .int 0, .int 0, .null, .null]))] sz) 3 128 (va_A [(oT, .inr (3, [.null, .int 0, .int 0, .int 0, .null, .null]))] sz) := by
  refine Met.ofW (cc := cX3_init) (maxL := 1) (ret := none) (by decide) rfl ?_
  intro p e s m args below meth c s₁ B hml hv
  obtain ⟨rfl, hsz, hP, hKw, hD0⟩ := hv
  have hlocks := B.notSynchronized
  have hin : meth.name = "<init>" := (name_of_methodNamed B.named B.method).1
  subst hsz
  have hD := hD0.self (sz := s.heap.size)
  obtain ⟨A, hAe⟩ : ∃ z, z = va_A [(oT, .inr (3, [.null, .int 0, .int 0, .int 0, .null, .null]))] s.heap.size := ⟨_, rfl⟩
  rw [← hAe] at hD
  have hA : ∀ q : Nat, s.heap.size ≤ q → A q := fun q h => by rw [hAe]; exact Or.inr h
  have CX : cx cX3_init none 1 RX3 wsX3_init p m meth c s ([.ref oT] : List Value).toArray D cI cC cR A := ⟨B.exec, B.bytes, B.returns, hml, atoms_spec (ws := wsX3_init) B.pre, findClass_of_methodNamed B.named, hlocks, hKw, hA⟩
  obtain ⟨hx, hb, hr, -, hts, hown, -, -, -⟩ := id CX
  obtain ⟨locs, hlocs⟩ : ∃ z : List Loc, z = [] := ⟨_, rfl⟩
  rw [← hlocs]
  have hwd : wd D A s [(oT, .inr (3, [.null, .int 0, .int 0, .int 0, .null, .null]))] s.heap locs := ⟨hP, hD, by rw [hlocs]; exact va_S.rf⟩
  have hl := lv_entry ([.ref oT]) (n := 1) (Nat.le_of_ble_eq_true rfl)
  rw [lg_entry_eq]
  generalize (lg_sl ([.ref oT]) ++ List.replicate (1 - (lg_sl ([.ref oT])).length) Slot.unset).toArray = ls at hl ⊢
  have hl : lv_has ls 1 [(0, .ref oT)] := hl
  refine lv_aload_n hx hb dX3_init_0 rfl (lv_at hl 0 rfl) ?_
  refine W.objInit hx hb hown (hts (.methodLink RX3 3 objectInit) (List.mem_of_getElem? (i := 1) rfl)) (hts (.instanceMethod objectInit) (List.mem_of_getElem? (i := 2) rfl)) (hts (.code objectInit ⟨#[0xb1]⟩ 1 none) (List.mem_of_getElem? (i := 3) rfl)) rfl (by rw [hml]; exact hl.1) rfl dX3_init_1 (Nat.le_of_ble_eq_true rfl) (Nat.le_of_ble_eq_true rfl) ?_
  refine W.eq (g2 := F0 m 4 ls []) rfl ?_
  refine lv_aload_n hx hb dX3_init_4 rfl (lv_at hl 0 rfl) ?_
  refine lv_bipush (v := (nI 80)) hx hb dX3_init_5 rfl ?_
  refine knc hx hb (hts (.arrayClass .char) (List.mem_of_getElem? (i := 4) rfl)) hKw hA hwd 80 (Nat.le_of_ble_eq_true rfl) (Nat.le_of_ble_eq_true rfl) (Nat.le_of_ble_eq_true rfl) dX3_init_7 (fun q1 H hwd => ?_)
  replace hwd : wd D A s [(oT, .inr (3, [.null, .int 0, .int 0, .int 0, .null, .null])), (q1, .inl (cC, 80, .inl (fun _ => 0)))] H locs := hwd
  refine W.widen (k := 1) (n := 80) (by omega) (by omega) ?_
  refine va_putF (D := D) (ci := 3) (v := .ref q1) (ty := .array .char) (C := RX3) (T := TX3) (N := 6) hx hb hts ic_X3_init_X3 tyX3 tyX3_ok nmX3 hown hKw.1 hwd.1 hwd.2.1 hwd.2.2 0 rfl rfl 0 (by decide) (hts (.fieldLink RX3 9 "DrillWardens$OrderText" "characters" "[C") (List.mem_of_getElem? (i := 5) rfl)) (fun _ h9 => h9) rfl hin rfl (tyX3_ok 0 (by decide)) rfl rfl (Nat.le_of_ble_eq_true rfl) dX3_init_9 (fun H locs h1 h2 h3 => ?_)
  replace hwd : wd D A s [(oT, .inr (3, [.ref q1, .int 0, .int 0, .int 0, .null, .null])), (q1, .inl (cC, 80, .inl (fun _ => 0)))] H locs := ⟨h1, h2, h3⟩
  clear h1 h2 h3
  refine lv_aload_n hx hb dX3_init_12 rfl (lv_at hl 0 rfl) ?_
  refine lv_bipush (v := (nI 12)) hx hb dX3_init_13 rfl ?_
  refine kna hx hb (hts (.arrayClass .int) (List.mem_of_getElem? (i := 6) rfl)) hKw hA hwd 12 (Nat.le_of_ble_eq_true rfl) (Nat.le_of_ble_eq_true rfl) (Nat.le_of_ble_eq_true rfl) dX3_init_15 (fun q2 H hwd => ?_)
  replace hwd : wd D A s [(oT, .inr (3, [.ref q1, .int 0, .int 0, .int 0, .null, .null])), (q1, .inl (cC, 80, .inl (fun _ => 0))), (q2, .inl (cI, 12, .inl (fun _ => 0)))] H locs := hwd
  refine W.widen (k := 2) (n := 92) (by omega) (by omega) ?_
  refine va_putF (D := D) (ci := 3) (v := .ref q2) (ty := .array .int) (C := RX3) (T := TX3) (N := 6) hx hb hts ic_X3_init_X3 tyX3 tyX3_ok nmX3 hown hKw.1 hwd.1 hwd.2.1 hwd.2.2 0 rfl rfl 4 (by decide) (hts (.fieldLink RX3 15 "DrillWardens$OrderText" "kinds" "[I") (List.mem_of_getElem? (i := 7) rfl)) (fun _ h9 => h9) rfl hin rfl (tyX3_ok 4 (by decide)) rfl rfl (Nat.le_of_ble_eq_true rfl) dX3_init_17 (fun H locs h1 h2 h3 => ?_)
  replace hwd : wd D A s [(oT, .inr (3, [.ref q1, .int 0, .int 0, .int 0, .ref q2, .null])), (q1, .inl (cC, 80, .inl (fun _ => 0))), (q2, .inl (cI, 12, .inl (fun _ => 0)))] H locs := ⟨h1, h2, h3⟩
  clear h1 h2 h3
  refine lv_aload_n hx hb dX3_init_20 rfl (lv_at hl 0 rfl) ?_
  refine lv_bipush (v := (nI 36)) hx hb dX3_init_21 rfl ?_
  refine kna hx hb (hts (.arrayClass .int) (List.mem_of_getElem? (i := 6) rfl)) hKw hA hwd 36 (Nat.le_of_ble_eq_true rfl) (Nat.le_of_ble_eq_true rfl) (Nat.le_of_ble_eq_true rfl) dX3_init_23 (fun q3 H hwd => ?_)
  replace hwd : wd D A s [(oT, .inr (3, [.ref q1, .int 0, .int 0, .int 0, .ref q2, .null])), (q1, .inl (cC, 80, .inl (fun _ => 0))), (q2, .inl (cI, 12, .inl (fun _ => 0))), (q3, .inl (cI, 36, .inl (fun _ => 0)))] H locs := hwd
  refine W.widen (k := 3) (n := 128) (by omega) (by omega) ?_
  refine va_putF (D := D) (ci := 3) (v := .ref q3) (ty := .array .int) (C := RX3) (T := TX3) (N := 6) hx hb hts ic_X3_init_X3 tyX3 tyX3_ok nmX3 hown hKw.1 hwd.1 hwd.2.1 hwd.2.2 0 rfl rfl 5 (by decide) (hts (.fieldLink RX3 19 "DrillWardens$OrderText" "numbers" "[I") (List.mem_of_getElem? (i := 8) rfl)) (fun _ h9 => h9) rfl hin rfl (tyX3_ok 5 (by decide)) rfl rfl (Nat.le_of_ble_eq_true rfl) dX3_init_25 (fun H locs h1 h2 h3 => ?_)
  replace hwd : wd D A s [(oT, .inr (3, [.ref q1, .int 0, .int 0, .int 0, .ref q2, .ref q3])), (q1, .inl (cC, 80, .inl (fun _ => 0))), (q2, .inl (cI, 12, .inl (fun _ => 0))), (q3, .inl (cI, 36, .inl (fun _ => 0)))] H locs := ⟨h1, h2, h3⟩
  clear h1 h2 h3
  subst hAe
  exact W.vret hx hb hr (fun t ht hW => ⟨⟨(fun i => [q1, q2, q3].getD i 0), rfl, trivial, by rw [ht]; exact hwd.1, hwd.2.1⟩, hwd.2.2.F ht⟩) hwd.2.2.2.2 dX3_init_28
abbrev rm_X4_init : Room := { frames := 1, cells := 5, slots := 70, locals := 12 }
theorem ic_X4_init_X4 : ∀ w ∈ u_ws RX4 TX4 6, w ∈ wsX4_init := by
  intro w h
  simp only [wsX4_init, List.mem_cons, List.mem_append]
  simp only [h, or_true, true_or]
abbrev iw_X4 (cI cC : ClassId) (oT : Nat) (u : Nat → Nat) : va_W := [(oT, .inr (4, [.ref (u 0), .ref (u 1), .ref (u 2), .ref (u 3), .ref (u 4), .int 0])), (u 0, .inl (cI, 10, .inl (fun _ => 0))), (u 1, .inl (cI, 10, .inl (fun _ => 0))), (u 2, .inl (cI, 10, .inl (fun _ => 0))), (u 3, .inl (cI, 10, .inl (fun _ => 0))), (u 4, .inl (cI, 30, .inl (fun _ => 0)))]
set_option maxRecDepth 100000 in
set_option maxHeartbeats 4000000 in
theorem c_X4_init (l : Launch) {D : va_G} {cI cC cR : ClassId} (oT sz : Nat) : Met l yX4_init wsX4_init rm_X4_init (PcW D cI cC cR [.ref oT] [(oT, .inr (4, [.null, .null, .null, .null, .null, .int 0]))] sz) (QvW D (fun (_ : Nat → Nat) => True) (fun u => iw_X4 cI cC oT u) [(oT, .inr (4, [.null, .null, .null, .null, .null, .int 0]))] sz) 5 70 (va_A [(oT, .inr (4, [.null, .null, .null, .null, .null, .int 0]))] sz) := by
  refine Met.ofW (cc := cX4_init) (maxL := 1) (ret := none) (by decide) rfl ?_
  intro p e s m args below meth c s₁ B hml hv
  obtain ⟨rfl, hsz, hP, hKw, hD0⟩ := hv
  have hlocks := B.notSynchronized
  have hin : meth.name = "<init>" := (name_of_methodNamed B.named B.method).1
  subst hsz
  have hD := hD0.self (sz := s.heap.size)
  obtain ⟨A, hAe⟩ : ∃ z, z = va_A [(oT, .inr (4, [.null, .null, .null, .null, .null, .int 0]))] s.heap.size := ⟨_, rfl⟩
  rw [← hAe] at hD
  have hA : ∀ q : Nat, s.heap.size ≤ q → A q := fun q h => by rw [hAe]; exact Or.inr h
  have CX : cx cX4_init none 1 RX4 wsX4_init p m meth c s ([.ref oT] : List Value).toArray D cI cC cR A := ⟨B.exec, B.bytes, B.returns, hml, atoms_spec (ws := wsX4_init) B.pre, findClass_of_methodNamed B.named, hlocks, hKw, hA⟩
  obtain ⟨hx, hb, hr, -, hts, hown, -, -, -⟩ := id CX
  obtain ⟨locs, hlocs⟩ : ∃ z : List Loc, z = [] := ⟨_, rfl⟩
  rw [← hlocs]
  have hwd : wd D A s [(oT, .inr (4, [.null, .null, .null, .null, .null, .int 0]))] s.heap locs := ⟨hP, hD, by rw [hlocs]; exact va_S.rf⟩
  have hl := lv_entry ([.ref oT]) (n := 1) (Nat.le_of_ble_eq_true rfl)
  rw [lg_entry_eq]
  generalize (lg_sl ([.ref oT]) ++ List.replicate (1 - (lg_sl ([.ref oT])).length) Slot.unset).toArray = ls at hl ⊢
  have hl : lv_has ls 1 [(0, .ref oT)] := hl
  refine lv_aload_n hx hb dX4_init_0 rfl (lv_at hl 0 rfl) ?_
  refine W.objInit hx hb hown (hts (.methodLink RX4 3 objectInit) (List.mem_of_getElem? (i := 1) rfl)) (hts (.instanceMethod objectInit) (List.mem_of_getElem? (i := 2) rfl)) (hts (.code objectInit ⟨#[0xb1]⟩ 1 none) (List.mem_of_getElem? (i := 3) rfl)) rfl (by rw [hml]; exact hl.1) rfl dX4_init_1 (Nat.le_of_ble_eq_true rfl) (Nat.le_of_ble_eq_true rfl) ?_
  refine W.eq (g2 := F0 m 4 ls []) rfl ?_
  refine lv_aload_n hx hb dX4_init_4 rfl (lv_at hl 0 rfl) ?_
  refine lv_bipush (v := (nI 10)) hx hb dX4_init_5 rfl ?_
  refine kna hx hb (hts (.arrayClass .int) (List.mem_of_getElem? (i := 4) rfl)) hKw hA hwd 10 (Nat.le_of_ble_eq_true rfl) (Nat.le_of_ble_eq_true rfl) (Nat.le_of_ble_eq_true rfl) dX4_init_7 (fun q1 H hwd => ?_)
  replace hwd : wd D A s [(oT, .inr (4, [.null, .null, .null, .null, .null, .int 0])), (q1, .inl (cI, 10, .inl (fun _ => 0)))] H locs := hwd
  refine W.widen (k := 1) (n := 10) (by omega) (by omega) ?_
  refine va_putF (D := D) (ci := 4) (v := .ref q1) (ty := .array .int) (C := RX4) (T := TX4) (N := 6) hx hb hts ic_X4_init_X4 tyX4 tyX4_ok nmX4 hown hKw.1 hwd.1 hwd.2.1 hwd.2.2 0 rfl rfl 0 (by decide) (hts (.fieldLink RX4 9 "DrillWardens$Roster" "order" "[I") (List.mem_of_getElem? (i := 5) rfl)) (fun _ h9 => h9) rfl hin rfl (tyX4_ok 0 (by decide)) rfl rfl (Nat.le_of_ble_eq_true rfl) dX4_init_9 (fun H locs h1 h2 h3 => ?_)
  replace hwd : wd D A s [(oT, .inr (4, [.ref q1, .null, .null, .null, .null, .int 0])), (q1, .inl (cI, 10, .inl (fun _ => 0)))] H locs := ⟨h1, h2, h3⟩
  clear h1 h2 h3
  refine lv_aload_n hx hb dX4_init_12 rfl (lv_at hl 0 rfl) ?_
  refine lv_bipush (v := (nI 10)) hx hb dX4_init_13 rfl ?_
  refine kna hx hb (hts (.arrayClass .int) (List.mem_of_getElem? (i := 4) rfl)) hKw hA hwd 10 (Nat.le_of_ble_eq_true rfl) (Nat.le_of_ble_eq_true rfl) (Nat.le_of_ble_eq_true rfl) dX4_init_15 (fun q2 H hwd => ?_)
  replace hwd : wd D A s [(oT, .inr (4, [.ref q1, .null, .null, .null, .null, .int 0])), (q1, .inl (cI, 10, .inl (fun _ => 0))), (q2, .inl (cI, 10, .inl (fun _ => 0)))] H locs := hwd
  refine W.widen (k := 2) (n := 20) (by omega) (by omega) ?_
  refine va_putF (D := D) (ci := 4) (v := .ref q2) (ty := .array .int) (C := RX4) (T := TX4) (N := 6) hx hb hts ic_X4_init_X4 tyX4 tyX4_ok nmX4 hown hKw.1 hwd.1 hwd.2.1 hwd.2.2 0 rfl rfl 1 (by decide) (hts (.fieldLink RX4 15 "DrillWardens$Roster" "needed" "[I") (List.mem_of_getElem? (i := 6) rfl)) (fun _ h9 => h9) rfl hin rfl (tyX4_ok 1 (by decide)) rfl rfl (Nat.le_of_ble_eq_true rfl) dX4_init_17 (fun H locs h1 h2 h3 => ?_)
  replace hwd : wd D A s [(oT, .inr (4, [.ref q1, .ref q2, .null, .null, .null, .int 0])), (q1, .inl (cI, 10, .inl (fun _ => 0))), (q2, .inl (cI, 10, .inl (fun _ => 0)))] H locs := ⟨h1, h2, h3⟩
  clear h1 h2 h3
  refine lv_aload_n hx hb dX4_init_20 rfl (lv_at hl 0 rfl) ?_
  refine lv_bipush (v := (nI 10)) hx hb dX4_init_21 rfl ?_
  refine kna hx hb (hts (.arrayClass .int) (List.mem_of_getElem? (i := 4) rfl)) hKw hA hwd 10 (Nat.le_of_ble_eq_true rfl) (Nat.le_of_ble_eq_true rfl) (Nat.le_of_ble_eq_true rfl) dX4_init_23 (fun q3 H hwd => ?_)
  replace hwd : wd D A s [(oT, .inr (4, [.ref q1, .ref q2, .null, .null, .null, .int 0])), (q1, .inl (cI, 10, .inl (fun _ => 0))), (q2, .inl (cI, 10, .inl (fun _ => 0))), (q3, .inl (cI, 10, .inl (fun _ => 0)))] H locs := hwd
  refine W.widen (k := 3) (n := 30) (by omega) (by omega) ?_
  refine va_putF (D := D) (ci := 4) (v := .ref q3) (ty := .array .int) (C := RX4) (T := TX4) (N := 6) hx hb hts ic_X4_init_X4 tyX4 tyX4_ok nmX4 hown hKw.1 hwd.1 hwd.2.1 hwd.2.2 0 rfl rfl 2 (by decide) (hts (.fieldLink RX4 18 "DrillWardens$Roster" "sizes" "[I") (List.mem_of_getElem? (i := 7) rfl)) (fun _ h9 => h9) rfl hin rfl (tyX4_ok 2 (by decide)) rfl rfl (Nat.le_of_ble_eq_true rfl) dX4_init_25 (fun H locs h1 h2 h3 => ?_)
  replace hwd : wd D A s [(oT, .inr (4, [.ref q1, .ref q2, .ref q3, .null, .null, .int 0])), (q1, .inl (cI, 10, .inl (fun _ => 0))), (q2, .inl (cI, 10, .inl (fun _ => 0))), (q3, .inl (cI, 10, .inl (fun _ => 0)))] H locs := ⟨h1, h2, h3⟩
  clear h1 h2 h3
  refine lv_aload_n hx hb dX4_init_28 rfl (lv_at hl 0 rfl) ?_
  refine lv_bipush (v := (nI 10)) hx hb dX4_init_29 rfl ?_
  refine kna hx hb (hts (.arrayClass .int) (List.mem_of_getElem? (i := 4) rfl)) hKw hA hwd 10 (Nat.le_of_ble_eq_true rfl) (Nat.le_of_ble_eq_true rfl) (Nat.le_of_ble_eq_true rfl) dX4_init_31 (fun q4 H hwd => ?_)
  replace hwd : wd D A s [(oT, .inr (4, [.ref q1, .ref q2, .ref q3, .null, .null, .int 0])), (q1, .inl (cI, 10, .inl (fun _ => 0))), (q2, .inl (cI, 10, .inl (fun _ => 0))), (q3, .inl (cI, 10, .inl (fun _ => 0))), (q4, .inl (cI, 10, .inl (fun _ => 0)))] H locs := hwd
  refine W.widen (k := 4) (n := 40) (by omega) (by omega) ?_
  refine va_putF (D := D) (ci := 4) (v := .ref q4) (ty := .array .int) (C := RX4) (T := TX4) (N := 6) hx hb hts ic_X4_init_X4 tyX4 tyX4_ok nmX4 hown hKw.1 hwd.1 hwd.2.1 hwd.2.2 0 rfl rfl 3 (by decide) (hts (.fieldLink RX4 21 "DrillWardens$Roster" "helpers" "[I") (List.mem_of_getElem? (i := 8) rfl)) (fun _ h9 => h9) rfl hin rfl (tyX4_ok 3 (by decide)) rfl rfl (Nat.le_of_ble_eq_true rfl) dX4_init_33 (fun H locs h1 h2 h3 => ?_)
  replace hwd : wd D A s [(oT, .inr (4, [.ref q1, .ref q2, .ref q3, .ref q4, .null, .int 0])), (q1, .inl (cI, 10, .inl (fun _ => 0))), (q2, .inl (cI, 10, .inl (fun _ => 0))), (q3, .inl (cI, 10, .inl (fun _ => 0))), (q4, .inl (cI, 10, .inl (fun _ => 0)))] H locs := ⟨h1, h2, h3⟩
  clear h1 h2 h3
  refine lv_aload_n hx hb dX4_init_36 rfl (lv_at hl 0 rfl) ?_
  refine lv_bipush (v := (nI 30)) hx hb dX4_init_37 rfl ?_
  refine kna hx hb (hts (.arrayClass .int) (List.mem_of_getElem? (i := 4) rfl)) hKw hA hwd 30 (Nat.le_of_ble_eq_true rfl) (Nat.le_of_ble_eq_true rfl) (Nat.le_of_ble_eq_true rfl) dX4_init_39 (fun q5 H hwd => ?_)
  replace hwd : wd D A s [(oT, .inr (4, [.ref q1, .ref q2, .ref q3, .ref q4, .null, .int 0])), (q1, .inl (cI, 10, .inl (fun _ => 0))), (q2, .inl (cI, 10, .inl (fun _ => 0))), (q3, .inl (cI, 10, .inl (fun _ => 0))), (q4, .inl (cI, 10, .inl (fun _ => 0))), (q5, .inl (cI, 30, .inl (fun _ => 0)))] H locs := hwd
  refine W.widen (k := 5) (n := 70) (by omega) (by omega) ?_
  refine va_putF (D := D) (ci := 4) (v := .ref q5) (ty := .array .int) (C := RX4) (T := TX4) (N := 6) hx hb hts ic_X4_init_X4 tyX4 tyX4_ok nmX4 hown hKw.1 hwd.1 hwd.2.1 hwd.2.2 0 rfl rfl 4 (by decide) (hts (.fieldLink RX4 24 "DrillWardens$Roster" "taken" "[I") (List.mem_of_getElem? (i := 9) rfl)) (fun _ h9 => h9) rfl hin rfl (tyX4_ok 4 (by decide)) rfl rfl (Nat.le_of_ble_eq_true rfl) dX4_init_41 (fun H locs h1 h2 h3 => ?_)
  replace hwd : wd D A s [(oT, .inr (4, [.ref q1, .ref q2, .ref q3, .ref q4, .ref q5, .int 0])), (q1, .inl (cI, 10, .inl (fun _ => 0))), (q2, .inl (cI, 10, .inl (fun _ => 0))), (q3, .inl (cI, 10, .inl (fun _ => 0))), (q4, .inl (cI, 10, .inl (fun _ => 0))), (q5, .inl (cI, 30, .inl (fun _ => 0)))] H locs := ⟨h1, h2, h3⟩
  clear h1 h2 h3
  subst hAe
  exact W.vret hx hb hr (fun t ht hW => ⟨⟨(fun i => [q1, q2, q3, q4, q5].getD i 0), rfl, trivial, by rw [ht]; exact hwd.1, hwd.2.1⟩, hwd.2.2.F ht⟩) hwd.2.2.2.2 dX4_init_44
