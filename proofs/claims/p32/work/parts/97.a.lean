/-! the class's beginning, with all its zeros -/
def x5Z (V : SV) : Prop := x5Q (V 1) (V 4) ∧ V 14 0 = 0 ∧ V 14 1 = 0 ∧ V 14 2 = 0 ∧ V 0 = (fun _ => 0) ∧ V 2 = (fun _ => 0) ∧ V 8 = (fun _ => 0) ∧ V 9 = (fun _ => 0) ∧ V 10 = (fun _ => 0)
set_option maxRecDepth 100000 in
set_option maxHeartbeats 4000000 in
theorem c_X5_init3 (l : Launch) {D : va_G} {cI cC cR : ClassId} (oT sz : Nat) : Met l yX5_init wsX5_init rm_X5_init (PcW D cI cC cR [.ref oT] [(oT, .inr (5, [.int 0, .null, .null, .null, .null, .null, .null, .null]))] sz) (QvW D (fun (u : (Nat → Nat) × SV) => u.1 0 = oT ∧ x5Z u.2) (fun u => stW cI u.1 u.2) [(oT, .inr (5, [.int 0, .null, .null, .null, .null, .null, .null, .null]))] sz) 16 436 (va_A [(oT, .inr (5, [.int 0, .null, .null, .null, .null, .null, .null, .null]))] sz) :=
  Met.frameV (c_X5_init l oT sz x5_ok) [0] [] [0, 1, 2, 3, 4, 5, 6, 7, 8, 9, 10, 11, 12, 13, 14, 15, 16] [] (fun (u : (Nat → Nat) × (Nat → Int32) × (Nat → Int32)) => (x5a oT u.1, sv 0 (fun _ => 0) u.2.1 (fun _ => 0) (fun _ => 0) u.2.2 0 (fun _ => 0) (fun _ => 0) (fun _ => 0) 0 (fun _ => 0) (fun _ => 0) (fun _ => 0) (fun _ => 0) (fun _ => 0) (fun _ => 0))) rfl rfl rfl rfl (by decide) rfl (fun _ => rfl) (fun _ h => ⟨rfl, h, rfl, rfl, rfl, rfl, rfl, rfl, rfl, rfl⟩)
set_option maxRecDepth 100000 in
set_option maxHeartbeats 4000000 in
theorem c_X6_init3 (l : Launch) {D : va_G} {cI cC cR : ClassId} (oT sz : Nat) : Met l yX6_init wsX6_init rm_X6_init (PcW D cI cC cR [.ref oT] [(oT, .inr (6, [.null, .null, .null, .null, .null, .null, .int 0, .int 0]))] sz) (QvW D (fun (u : (Nat → Nat) × (Nat → Nat) × Nat × (Nat → Nat → Nat) × Nat × (Nat → Nat) × (Nat → Nat) × (Nat → Nat) × SV × SV × (Nat → SV)) => x5Z (u.2.2.2.2.2.2.2.2.1)) (fun u => clW cI cC cR oT (u.1) (u.2.1) (u.2.2.1) (u.2.2.2.1) (u.2.2.2.2.1) (u.2.2.2.2.2.1) (u.2.2.2.2.2.2.1) (u.2.2.2.2.2.2.2.1) (u.2.2.2.2.2.2.2.2.1) (u.2.2.2.2.2.2.2.2.2.1) (u.2.2.2.2.2.2.2.2.2.2) 0 0 (fun _ => 0) 0 0 0 (fun _ => 0) (fun _ => 0) (fun _ => 0) (fun _ => 0) (fun _ => 0) (fun _ => 0) (fun _ => 0) 0 (fun _ => 0) (fun _ => 0) (fun _ => 0) (fun _ => 0) (fun _ => 0) 0 (-5) (-5)) [(oT, .inr (6, [.null, .null, .null, .null, .null, .null, .int 0, .int 0]))] sz) 137 3402 (va_A [(oT, .inr (6, [.null, .null, .null, .null, .null, .null, .int 0, .int 0]))] sz) := by
  refine Met.ofW (cc := cX6_init) (maxL := 1) (ret := none) (by decide) rfl ?_
  intro p e s m args below meth c s₁ B hml hv
  obtain ⟨rfl, hsz, hP, hKw, hD0⟩ := hv
  have hlocks := B.notSynchronized
  have hin : meth.name = "<init>" := (name_of_methodNamed B.named B.method).1
  subst hsz
  have hD := hD0.self (sz := s.heap.size)
  obtain ⟨A, hAe⟩ : ∃ z, z = va_A [(oT, .inr (6, [.null, .null, .null, .null, .null, .null, .int 0, .int 0]))] s.heap.size := ⟨_, rfl⟩
  rw [← hAe] at hD
  have hA : ∀ q : Nat, s.heap.size ≤ q → A q := fun q h => by rw [hAe]; exact Or.inr h
  have CX : cx cX6_init none 1 RX6 wsX6_init p m meth c s ([.ref oT] : List Value).toArray D cI cC cR A := ⟨B.exec, B.bytes, B.returns, hml, atoms_spec (ws := wsX6_init) B.pre, findClass_of_methodNamed B.named, hlocks, hKw, hA⟩
  obtain ⟨hx, hb, hr, -, hts, hown, -, -, -⟩ := id CX
  obtain ⟨locs, hlocs⟩ : ∃ z : List Loc, z = [] := ⟨_, rfl⟩
  rw [← hlocs]
  have hwd : wd D A s [(oT, .inr (6, [.null, .null, .null, .null, .null, .null, .int 0, .int 0]))] s.heap locs := ⟨hP, hD, by rw [hlocs]; exact va_S.rf⟩
  have hl := lv_entry ([.ref oT]) (n := 1) (Nat.le_of_ble_eq_true rfl)
  rw [lg_entry_eq]
  generalize (lg_sl ([.ref oT]) ++ List.replicate (1 - (lg_sl ([.ref oT])).length) Slot.unset).toArray = ls at hl ⊢
  have hl : lv_has ls 1 [(0, .ref oT)] := hl
  refine lv_aload_n hx hb dX6_init_0 rfl (lv_at hl 0 rfl) ?_
  refine W.objInit hx hb hown (hts (.methodLink RX6 1 objectInit) (List.mem_of_getElem? (i := 1) rfl)) (hts (.instanceMethod objectInit) (List.mem_of_getElem? (i := 2) rfl)) (hts (.code objectInit ⟨#[0xb1]⟩ 1 none) (List.mem_of_getElem? (i := 3) rfl)) rfl (by rw [hml]; exact hl.1) rfl dX6_init_1 (Nat.le_of_ble_eq_true rfl) (Nat.le_of_ble_eq_true rfl) ?_
  refine W.eq (g2 := F0 m 4 ls []) rfl ?_
  refine lv_aload_n hx hb dX6_init_4 rfl (lv_at hl 0 rfl) ?_
  refine va_new (ci := 5) (fs := [.int 0, .null, .null, .null, .null, .null, .null, .null]) (C := RX5) (T := TX5) (N := 8) hx hb hts ic_X6_init_X5 tyX5 tyX5_ok hown (hts (.classLink RX6 7 RX5) (List.mem_of_getElem? (i := 4) rfl)) (hts (.instantiable RX5 8) (List.mem_of_getElem? (i := 5) rfl)) (hts (.initialized RX5) (List.mem_of_getElem? (i := 6) rfl)) hKw.1 hwd.1 hwd.2.1 hwd.2.2 hA rfl (fun j hj => by rcases (show j = 0 ∨ j = 1 ∨ j = 2 ∨ j = 3 ∨ j = 4 ∨ j = 5 ∨ j = 6 ∨ j = 7 by omega) with rfl | rfl | rfl | rfl | rfl | rfl | rfl | rfl <;> rfl) (Nat.le_of_ble_eq_true rfl) (Nat.le_of_ble_eq_true rfl) dX6_init_5 (fun q1 H h1 h2 h3 => ?_)
  replace hwd : wd D A s ([(oT, .inr (6, [.null, .null, .null, .null, .null, .null, .int 0, .int 0]))] ++ [(q1, .inr (5, [.int 0, .null, .null, .null, .null, .null, .null, .null]))]) H locs := ⟨h1, h2, h3⟩
  clear h1 h2 h3
  refine W.widen (k := 1) (n := 8) (by omega) (by omega) ?_
  refine lv_dup hx hb dX6_init_8 rfl ?_
  refine kcI (rest := [.ref q1, .ref oT]) (X := [(oT, .inr (6, [.null, .null, .null, .null, .null, .null, .int 0, .int 0]))]) ⟨hx, hb, hml, hown, hts⟩ (c_X5_init3 l q1 H.size) (cwI 0 hts gX6_init_X5_init rfl rfl rfl (hts (.initialized RX5) (List.mem_of_getElem? (i := 6) rfl)) (hts (.methodLink RX6 9 yX5_init) (List.mem_of_getElem? (i := 24) rfl)) (hts (.instanceMethod yX5_init) (List.mem_of_getElem? (i := 25) rfl)) rfl hd_X5_init ⟨Nat.le_of_ble_eq_true rfl, Nat.le_of_ble_eq_true rfl⟩) hKw hA hwd rfl hl.1 rfl (lv_room (Nat.le_of_ble_eq_true rfl)) dX6_init_9 ⟨Nat.le_of_ble_eq_true rfl, Nat.le_of_ble_eq_true rfl⟩ (fun u2 H locs hw hwd => ?_)
  obtain ⟨a2, V2⟩ := u2
  obtain ⟨h0_2, hq2⟩ := hw
  rw [← h0_2]
  replace hwd : wd D A s ([(oT, .inr (6, [.null, .null, .null, .null, .null, .null, .int 0, .int 0]))] ++ stW cI a2 V2) H locs := hwd
  refine W.widen (k := 17) (n := 444) (by omega) (by omega) ?_
  refine va_putF (D := D) (ci := 6) (v := .ref (a2 0)) (ty := .object "DrillWardens$State") (C := RX6) (T := TX6) (N := 8) hx hb hts ic_X6_init_X6 tyX6 tyX6_ok nmX6 hown hKw.1 hwd.1 hwd.2.1 hwd.2.2 0 rfl rfl 0 (by decide) (hts (.fieldLink RX6 10 "DrillWardens" "now" "LDrillWardens$State;") (List.mem_of_getElem? (i := 7) rfl)) (fun _ h9 => h9) rfl hin rfl (tyX6_ok 0 (by decide)) rfl rfl (Nat.le_of_ble_eq_true rfl) dX6_init_12 (fun H locs h1 h2 h3 => ?_)
  replace hwd : wd D A s ([(oT, .inr (6, [.ref (a2 0), .null, .null, .null, .null, .null, .int 0, .int 0]))] ++ stW cI a2 V2) H locs := ⟨h1, h2, h3⟩
  clear h1 h2 h3
  refine lv_aload_n hx hb dX6_init_15 rfl (lv_at hl 0 rfl) ?_
  refine va_new (ci := 5) (fs := [.int 0, .null, .null, .null, .null, .null, .null, .null]) (C := RX5) (T := TX5) (N := 8) hx hb hts ic_X6_init_X5 tyX5 tyX5_ok hown (hts (.classLink RX6 7 RX5) (List.mem_of_getElem? (i := 4) rfl)) (hts (.instantiable RX5 8) (List.mem_of_getElem? (i := 5) rfl)) (hts (.initialized RX5) (List.mem_of_getElem? (i := 6) rfl)) hKw.1 hwd.1 hwd.2.1 hwd.2.2 hA rfl (fun j hj => by rcases (show j = 0 ∨ j = 1 ∨ j = 2 ∨ j = 3 ∨ j = 4 ∨ j = 5 ∨ j = 6 ∨ j = 7 by omega) with rfl | rfl | rfl | rfl | rfl | rfl | rfl | rfl <;> rfl) (Nat.le_of_ble_eq_true rfl) (Nat.le_of_ble_eq_true rfl) dX6_init_16 (fun q3 H h1 h2 h3 => ?_)
  replace hwd : wd D A s (([(oT, .inr (6, [.ref (a2 0), .null, .null, .null, .null, .null, .int 0, .int 0]))] ++ stW cI a2 V2) ++ [(q3, .inr (5, [.int 0, .null, .null, .null, .null, .null, .null, .null]))]) H locs := ⟨h1, h2, h3⟩
  clear h1 h2 h3
  refine W.widen (k := 18) (n := 452) (by omega) (by omega) ?_
  refine lv_dup hx hb dX6_init_19 rfl ?_
  refine kcI (rest := [.ref q3, .ref oT]) (X := ([(oT, .inr (6, [.ref (a2 0), .null, .null, .null, .null, .null, .int 0, .int 0]))] ++ stW cI a2 V2)) ⟨hx, hb, hml, hown, hts⟩ (c_X5_init3 l q3 H.size) (cwI 0 hts gX6_init_X5_init rfl rfl rfl (hts (.initialized RX5) (List.mem_of_getElem? (i := 6) rfl)) (hts (.methodLink RX6 9 yX5_init) (List.mem_of_getElem? (i := 24) rfl)) (hts (.instanceMethod yX5_init) (List.mem_of_getElem? (i := 25) rfl)) rfl hd_X5_init ⟨Nat.le_of_ble_eq_true rfl, Nat.le_of_ble_eq_true rfl⟩) hKw hA hwd rfl hl.1 rfl (lv_room (Nat.le_of_ble_eq_true rfl)) dX6_init_20 ⟨Nat.le_of_ble_eq_true rfl, Nat.le_of_ble_eq_true rfl⟩ (fun u4 H locs hw hwd => ?_)
  obtain ⟨a4, V4⟩ := u4
  obtain ⟨h0_4, hq4⟩ := hw
  rw [← h0_4]
  replace hwd : wd D A s (([(oT, .inr (6, [.ref (a2 0), .null, .null, .null, .null, .null, .int 0, .int 0]))] ++ stW cI a2 V2) ++ stW cI a4 V4) H locs := hwd
  refine W.widen (k := 34) (n := 888) (by omega) (by omega) ?_
  refine va_putF (D := D) (ci := 6) (v := .ref (a4 0)) (ty := .object "DrillWardens$State") (C := RX6) (T := TX6) (N := 8) hx hb hts ic_X6_init_X6 tyX6 tyX6_ok nmX6 hown hKw.1 hwd.1 hwd.2.1 hwd.2.2 0 rfl rfl 1 (by decide) (hts (.fieldLink RX6 16 "DrillWardens" "before" "LDrillWardens$State;") (List.mem_of_getElem? (i := 8) rfl)) (fun _ h9 => h9) rfl hin rfl (tyX6_ok 1 (by decide)) rfl rfl (Nat.le_of_ble_eq_true rfl) dX6_init_23 (fun H locs h1 h2 h3 => ?_)
  replace hwd : wd D A s (([(oT, .inr (6, [.ref (a2 0), .ref (a4 0), .null, .null, .null, .null, .int 0, .int 0]))] ++ stW cI a2 V2) ++ stW cI a4 V4) H locs := ⟨h1, h2, h3⟩
  clear h1 h2 h3
  refine lv_aload_n hx hb dX6_init_26 rfl (lv_at hl 0 rfl) ?_
  refine va_new (ci := 1) (fs := [.null, .int 0, .null, .int 0]) (C := RX1) (T := TX1) (N := 4) hx hb hts ic_X6_init_X1 tyX1 tyX1_ok hown (hts (.classLink RX6 19 RX1) (List.mem_of_getElem? (i := 9) rfl)) (hts (.instantiable RX1 4) (List.mem_of_getElem? (i := 10) rfl)) (hts (.initialized RX1) (List.mem_of_getElem? (i := 11) rfl)) hKw.1 hwd.1 hwd.2.1 hwd.2.2 hA rfl (fun j hj => by rcases (show j = 0 ∨ j = 1 ∨ j = 2 ∨ j = 3 by omega) with rfl | rfl | rfl | rfl <;> rfl) (Nat.le_of_ble_eq_true rfl) (Nat.le_of_ble_eq_true rfl) dX6_init_27 (fun q5 H h1 h2 h3 => ?_)
  replace hwd : wd D A s ((([(oT, .inr (6, [.ref (a2 0), .ref (a4 0), .null, .null, .null, .null, .int 0, .int 0]))] ++ stW cI a2 V2) ++ stW cI a4 V4) ++ [(q5, .inr (1, [.null, .int 0, .null, .int 0]))]) H locs := ⟨h1, h2, h3⟩
  clear h1 h2 h3
  refine W.widen (k := 35) (n := 892) (by omega) (by omega) ?_
  refine lv_dup hx hb dX6_init_30 rfl ?_
  refine kcI (rest := [.ref q5, .ref oT]) (X := (([(oT, .inr (6, [.ref (a2 0), .ref (a4 0), .null, .null, .null, .null, .int 0, .int 0]))] ++ stW cI a2 V2) ++ stW cI a4 V4)) ⟨hx, hb, hml, hown, hts⟩ (c_X1_init l q5 H.size) (cwI 0 hts gX6_init_X1_init rfl rfl rfl (hts (.initialized RX1) (List.mem_of_getElem? (i := 11) rfl)) (hts (.methodLink RX6 21 yX1_init) (List.mem_of_getElem? (i := 59) rfl)) (hts (.instanceMethod yX1_init) (List.mem_of_getElem? (i := 60) rfl)) rfl hd_X1_init ⟨Nat.le_of_ble_eq_true rfl, Nat.le_of_ble_eq_true rfl⟩) hKw hA hwd rfl hl.1 rfl (lv_room (Nat.le_of_ble_eq_true rfl)) dX6_init_31 ⟨Nat.le_of_ble_eq_true rfl, Nat.le_of_ble_eq_true rfl⟩ (fun u6 H locs hw hwd => ?_)
  obtain ⟨hs, bA, hV⟩ := u6
  replace hwd : wd D A s ((([(oT, .inr (6, [.ref (a2 0), .ref (a4 0), .null, .null, .null, .null, .int 0, .int 0]))] ++ stW cI a2 V2) ++ stW cI a4 V4) ++ histW cR cI q5 hs bA hV 0 0) H locs := hwd
  refine W.widen (k := 121) (n := 3116) (by omega) (by omega) ?_
  refine va_putF (D := D) (ci := 6) (v := .ref q5) (ty := .object "DrillWardens$History") (C := RX6) (T := TX6) (N := 8) hx hb hts ic_X6_init_X6 tyX6 tyX6_ok nmX6 hown hKw.1 hwd.1 hwd.2.1 hwd.2.2 0 rfl rfl 2 (by decide) (hts (.fieldLink RX6 22 "DrillWardens" "history" "LDrillWardens$History;") (List.mem_of_getElem? (i := 12) rfl)) (fun _ h9 => h9) rfl hin rfl (tyX6_ok 2 (by decide)) rfl rfl (Nat.le_of_ble_eq_true rfl) dX6_init_34 (fun H locs h1 h2 h3 => ?_)
  replace hwd : wd D A s ((([(oT, .inr (6, [.ref (a2 0), .ref (a4 0), .ref q5, .null, .null, .null, .int 0, .int 0]))] ++ stW cI a2 V2) ++ stW cI a4 V4) ++ histW cR cI q5 hs bA hV 0 0) H locs := ⟨h1, h2, h3⟩
  clear h1 h2 h3
  refine lv_aload_n hx hb dX6_init_37 rfl (lv_at hl 0 rfl) ?_
  refine va_new (ci := 3) (fs := [.null, .int 0, .int 0, .int 0, .null, .null]) (C := RX3) (T := TX3) (N := 6) hx hb hts ic_X6_init_X3 tyX3 tyX3_ok hown (hts (.classLink RX6 26 RX3) (List.mem_of_getElem? (i := 13) rfl)) (hts (.instantiable RX3 6) (List.mem_of_getElem? (i := 14) rfl)) (hts (.initialized RX3) (List.mem_of_getElem? (i := 15) rfl)) hKw.1 hwd.1 hwd.2.1 hwd.2.2 hA rfl (fun j hj => by rcases (show j = 0 ∨ j = 1 ∨ j = 2 ∨ j = 3 ∨ j = 4 ∨ j = 5 by omega) with rfl | rfl | rfl | rfl | rfl | rfl <;> rfl) (Nat.le_of_ble_eq_true rfl) (Nat.le_of_ble_eq_true rfl) dX6_init_38 (fun q7 H h1 h2 h3 => ?_)
  replace hwd : wd D A s (((([(oT, .inr (6, [.ref (a2 0), .ref (a4 0), .ref q5, .null, .null, .null, .int 0, .int 0]))] ++ stW cI a2 V2) ++ stW cI a4 V4) ++ histW cR cI q5 hs bA hV 0 0) ++ [(q7, .inr (3, [.null, .int 0, .int 0, .int 0, .null, .null]))]) H locs := ⟨h1, h2, h3⟩
  clear h1 h2 h3
  refine W.widen (k := 122) (n := 3122) (by omega) (by omega) ?_
  refine lv_dup hx hb dX6_init_41 rfl ?_
  refine kcI (rest := [.ref q7, .ref oT]) (X := ((([(oT, .inr (6, [.ref (a2 0), .ref (a4 0), .ref q5, .null, .null, .null, .int 0, .int 0]))] ++ stW cI a2 V2) ++ stW cI a4 V4) ++ histW cR cI q5 hs bA hV 0 0)) ⟨hx, hb, hml, hown, hts⟩ (c_X3_init2 l q7 H.size) (cwI 0 hts gX6_init_X3_init rfl rfl rfl (hts (.initialized RX3) (List.mem_of_getElem? (i := 15) rfl)) (hts (.methodLink RX6 28 yX3_init) (List.mem_of_getElem? (i := 67) rfl)) (hts (.instanceMethod yX3_init) (List.mem_of_getElem? (i := 68) rfl)) rfl hd_X3_init ⟨Nat.le_of_ble_eq_true rfl, Nat.le_of_ble_eq_true rfl⟩) hKw hA hwd rfl hl.1 rfl (lv_room (Nat.le_of_ble_eq_true rfl)) dX6_init_42 ⟨Nat.le_of_ble_eq_true rfl, Nat.le_of_ble_eq_true rfl⟩ (fun u8 H locs hw hwd => ?_)
  obtain ⟨a8, ea8⟩ : ∃ z, z = u8 := ⟨_, rfl⟩
  rw [← ea8] at hw hwd
  rw [← hw]
  replace hwd : wd D A s (((([(oT, .inr (6, [.ref (a2 0), .ref (a4 0), .ref q5, .null, .null, .null, .int 0, .int 0]))] ++ stW cI a2 V2) ++ stW cI a4 V4) ++ histW cR cI q5 hs bA hV 0 0) ++ txW cI cC a8 (fun _ => 0) 0 0 0 (fun _ => 0) (fun _ => 0)) H locs := hwd
  refine W.widen (k := 125) (n := 3250) (by omega) (by omega) ?_
  refine va_putF (D := D) (ci := 6) (v := .ref (a8 0)) (ty := .object "DrillWardens$OrderText") (C := RX6) (T := TX6) (N := 8) hx hb hts ic_X6_init_X6 tyX6 tyX6_ok nmX6 hown hKw.1 hwd.1 hwd.2.1 hwd.2.2 0 rfl rfl 3 (by decide) (hts (.fieldLink RX6 29 "DrillWardens" "text" "LDrillWardens$OrderText;") (List.mem_of_getElem? (i := 16) rfl)) (fun _ h9 => h9) rfl hin rfl (tyX6_ok 3 (by decide)) rfl rfl (Nat.le_of_ble_eq_true rfl) dX6_init_45 (fun H locs h1 h2 h3 => ?_)
  replace hwd : wd D A s (((([(oT, .inr (6, [.ref (a2 0), .ref (a4 0), .ref q5, .ref (a8 0), .null, .null, .int 0, .int 0]))] ++ stW cI a2 V2) ++ stW cI a4 V4) ++ histW cR cI q5 hs bA hV 0 0) ++ txW cI cC a8 (fun _ => 0) 0 0 0 (fun _ => 0) (fun _ => 0)) H locs := ⟨h1, h2, h3⟩
  clear h1 h2 h3
  refine lv_aload_n hx hb dX6_init_48 rfl (lv_at hl 0 rfl) ?_
  refine va_new (ci := 4) (fs := [.null, .null, .null, .null, .null, .int 0]) (C := RX4) (T := TX4) (N := 6) hx hb hts ic_X6_init_X4 tyX4 tyX4_ok hown (hts (.classLink RX6 33 RX4) (List.mem_of_getElem? (i := 17) rfl)) (hts (.instantiable RX4 6) (List.mem_of_getElem? (i := 18) rfl)) (hts (.initialized RX4) (List.mem_of_getElem? (i := 19) rfl)) hKw.1 hwd.1 hwd.2.1 hwd.2.2 hA rfl (fun j hj => by rcases (show j = 0 ∨ j = 1 ∨ j = 2 ∨ j = 3 ∨ j = 4 ∨ j = 5 by omega) with rfl | rfl | rfl | rfl | rfl | rfl <;> rfl) (Nat.le_of_ble_eq_true rfl) (Nat.le_of_ble_eq_true rfl) dX6_init_49 (fun q9 H h1 h2 h3 => ?_)
  replace hwd : wd D A s ((((([(oT, .inr (6, [.ref (a2 0), .ref (a4 0), .ref q5, .ref (a8 0), .null, .null, .int 0, .int 0]))] ++ stW cI a2 V2) ++ stW cI a4 V4) ++ histW cR cI q5 hs bA hV 0 0) ++ txW cI cC a8 (fun _ => 0) 0 0 0 (fun _ => 0) (fun _ => 0)) ++ [(q9, .inr (4, [.null, .null, .null, .null, .null, .int 0]))]) H locs := ⟨h1, h2, h3⟩
  clear h1 h2 h3
  refine W.widen (k := 126) (n := 3256) (by omega) (by omega) ?_
  refine lv_dup hx hb dX6_init_52 rfl ?_
  refine kcI (rest := [.ref q9, .ref oT]) (X := (((([(oT, .inr (6, [.ref (a2 0), .ref (a4 0), .ref q5, .ref (a8 0), .null, .null, .int 0, .int 0]))] ++ stW cI a2 V2) ++ stW cI a4 V4) ++ histW cR cI q5 hs bA hV 0 0) ++ txW cI cC a8 (fun _ => 0) 0 0 0 (fun _ => 0) (fun _ => 0))) ⟨hx, hb, hml, hown, hts⟩ (c_X4_init2 l q9 H.size) (cwI 0 hts gX6_init_X4_init rfl rfl rfl (hts (.initialized RX4) (List.mem_of_getElem? (i := 19) rfl)) (hts (.methodLink RX6 35 yX4_init) (List.mem_of_getElem? (i := 75) rfl)) (hts (.instanceMethod yX4_init) (List.mem_of_getElem? (i := 76) rfl)) rfl hd_X4_init ⟨Nat.le_of_ble_eq_true rfl, Nat.le_of_ble_eq_true rfl⟩) hKw hA hwd rfl hl.1 rfl (lv_room (Nat.le_of_ble_eq_true rfl)) dX6_init_53 ⟨Nat.le_of_ble_eq_true rfl, Nat.le_of_ble_eq_true rfl⟩ (fun u10 H locs hw hwd => ?_)
  obtain ⟨a10, ea10⟩ : ∃ z, z = u10 := ⟨_, rfl⟩
  rw [← ea10] at hw hwd
  rw [← hw]
  replace hwd : wd D A s ((((([(oT, .inr (6, [.ref (a2 0), .ref (a4 0), .ref q5, .ref (a8 0), .null, .null, .int 0, .int 0]))] ++ stW cI a2 V2) ++ stW cI a4 V4) ++ histW cR cI q5 hs bA hV 0 0) ++ txW cI cC a8 (fun _ => 0) 0 0 0 (fun _ => 0) (fun _ => 0)) ++ roW cI a10 (fun _ => 0) (fun _ => 0) (fun _ => 0) (fun _ => 0) (fun _ => 0) 0) H locs := hwd
  refine W.widen (k := 131) (n := 3326) (by omega) (by omega) ?_
  refine va_putF (D := D) (ci := 6) (v := .ref (a10 0)) (ty := .object "DrillWardens$Roster") (C := RX6) (T := TX6) (N := 8) hx hb hts ic_X6_init_X6 tyX6 tyX6_ok nmX6 hown hKw.1 hwd.1 hwd.2.1 hwd.2.2 0 rfl rfl 4 (by decide) (hts (.fieldLink RX6 36 "DrillWardens" "roster" "LDrillWardens$Roster;") (List.mem_of_getElem? (i := 20) rfl)) (fun _ h9 => h9) rfl hin rfl (tyX6_ok 4 (by decide)) rfl rfl (Nat.le_of_ble_eq_true rfl) dX6_init_56 (fun H locs h1 h2 h3 => ?_)
  replace hwd : wd D A s ((((([(oT, .inr (6, [.ref (a2 0), .ref (a4 0), .ref q5, .ref (a8 0), .ref (a10 0), .null, .int 0, .int 0]))] ++ stW cI a2 V2) ++ stW cI a4 V4) ++ histW cR cI q5 hs bA hV 0 0) ++ txW cI cC a8 (fun _ => 0) 0 0 0 (fun _ => 0) (fun _ => 0)) ++ roW cI a10 (fun _ => 0) (fun _ => 0) (fun _ => 0) (fun _ => 0) (fun _ => 0) 0) H locs := ⟨h1, h2, h3⟩
  clear h1 h2 h3
  refine lv_aload_n hx hb dX6_init_59 rfl (lv_at hl 0 rfl) ?_
  refine va_new (ci := 4) (fs := [.null, .null, .null, .null, .null, .int 0]) (C := RX4) (T := TX4) (N := 6) hx hb hts ic_X6_init_X4 tyX4 tyX4_ok hown (hts (.classLink RX6 33 RX4) (List.mem_of_getElem? (i := 17) rfl)) (hts (.instantiable RX4 6) (List.mem_of_getElem? (i := 18) rfl)) (hts (.initialized RX4) (List.mem_of_getElem? (i := 19) rfl)) hKw.1 hwd.1 hwd.2.1 hwd.2.2 hA rfl (fun j hj => by rcases (show j = 0 ∨ j = 1 ∨ j = 2 ∨ j = 3 ∨ j = 4 ∨ j = 5 by omega) with rfl | rfl | rfl | rfl | rfl | rfl <;> rfl) (Nat.le_of_ble_eq_true rfl) (Nat.le_of_ble_eq_true rfl) dX6_init_60 (fun q11 H h1 h2 h3 => ?_)
  replace hwd : wd D A s (((((([(oT, .inr (6, [.ref (a2 0), .ref (a4 0), .ref q5, .ref (a8 0), .ref (a10 0), .null, .int 0, .int 0]))] ++ stW cI a2 V2) ++ stW cI a4 V4) ++ histW cR cI q5 hs bA hV 0 0) ++ txW cI cC a8 (fun _ => 0) 0 0 0 (fun _ => 0) (fun _ => 0)) ++ roW cI a10 (fun _ => 0) (fun _ => 0) (fun _ => 0) (fun _ => 0) (fun _ => 0) 0) ++ [(q11, .inr (4, [.null, .null, .null, .null, .null, .int 0]))]) H locs := ⟨h1, h2, h3⟩
  clear h1 h2 h3
  refine W.widen (k := 132) (n := 3332) (by omega) (by omega) ?_
  refine lv_dup hx hb dX6_init_63 rfl ?_
  refine kcI (rest := [.ref q11, .ref oT]) (X := ((((([(oT, .inr (6, [.ref (a2 0), .ref (a4 0), .ref q5, .ref (a8 0), .ref (a10 0), .null, .int 0, .int 0]))] ++ stW cI a2 V2) ++ stW cI a4 V4) ++ histW cR cI q5 hs bA hV 0 0) ++ txW cI cC a8 (fun _ => 0) 0 0 0 (fun _ => 0) (fun _ => 0)) ++ roW cI a10 (fun _ => 0) (fun _ => 0) (fun _ => 0) (fun _ => 0) (fun _ => 0) 0)) ⟨hx, hb, hml, hown, hts⟩ (c_X4_init2 l q11 H.size) (cwI 0 hts gX6_init_X4_init rfl rfl rfl (hts (.initialized RX4) (List.mem_of_getElem? (i := 19) rfl)) (hts (.methodLink RX6 35 yX4_init) (List.mem_of_getElem? (i := 75) rfl)) (hts (.instanceMethod yX4_init) (List.mem_of_getElem? (i := 76) rfl)) rfl hd_X4_init ⟨Nat.le_of_ble_eq_true rfl, Nat.le_of_ble_eq_true rfl⟩) hKw hA hwd rfl hl.1 rfl (lv_room (Nat.le_of_ble_eq_true rfl)) dX6_init_64 ⟨Nat.le_of_ble_eq_true rfl, Nat.le_of_ble_eq_true rfl⟩ (fun u12 H locs hw hwd => ?_)
  obtain ⟨a12, ea12⟩ : ∃ z, z = u12 := ⟨_, rfl⟩
  rw [← ea12] at hw hwd
  rw [← hw]
  replace hwd : wd D A s (((((([(oT, .inr (6, [.ref (a2 0), .ref (a4 0), .ref q5, .ref (a8 0), .ref (a10 0), .null, .int 0, .int 0]))] ++ stW cI a2 V2) ++ stW cI a4 V4) ++ histW cR cI q5 hs bA hV 0 0) ++ txW cI cC a8 (fun _ => 0) 0 0 0 (fun _ => 0) (fun _ => 0)) ++ roW cI a10 (fun _ => 0) (fun _ => 0) (fun _ => 0) (fun _ => 0) (fun _ => 0) 0) ++ roW cI a12 (fun _ => 0) (fun _ => 0) (fun _ => 0) (fun _ => 0) (fun _ => 0) 0) H locs := hwd
  refine W.widen (k := 137) (n := 3402) (by omega) (by omega) ?_
  refine va_putF (D := D) (ci := 6) (v := .ref (a12 0)) (ty := .object "DrillWardens$Roster") (C := RX6) (T := TX6) (N := 8) hx hb hts ic_X6_init_X6 tyX6 tyX6_ok nmX6 hown hKw.1 hwd.1 hwd.2.1 hwd.2.2 0 rfl rfl 5 (by decide) (hts (.fieldLink RX6 40 "DrillWardens" "rosterWithout" "LDrillWardens$Roster;") (List.mem_of_getElem? (i := 21) rfl)) (fun _ h9 => h9) rfl hin rfl (tyX6_ok 5 (by decide)) rfl rfl (Nat.le_of_ble_eq_true rfl) dX6_init_67 (fun H locs h1 h2 h3 => ?_)
  replace hwd : wd D A s (((((([(oT, .inr (6, [.ref (a2 0), .ref (a4 0), .ref q5, .ref (a8 0), .ref (a10 0), .ref (a12 0), .int 0, .int 0]))] ++ stW cI a2 V2) ++ stW cI a4 V4) ++ histW cR cI q5 hs bA hV 0 0) ++ txW cI cC a8 (fun _ => 0) 0 0 0 (fun _ => 0) (fun _ => 0)) ++ roW cI a10 (fun _ => 0) (fun _ => 0) (fun _ => 0) (fun _ => 0) (fun _ => 0) 0) ++ roW cI a12 (fun _ => 0) (fun _ => 0) (fun _ => 0) (fun _ => 0) (fun _ => 0) 0) H locs := ⟨h1, h2, h3⟩
  clear h1 h2 h3
  refine lv_aload_n hx hb dX6_init_70 rfl (lv_at hl 0 rfl) ?_
  refine lv_bipush (v := (-5)) hx hb dX6_init_71 rfl ?_
  refine va_put (D := D) (ci := 6) (v := .int (-5)) (ty := .int) (C := RX6) (T := TX6) (N := 8) hx hb hts ic_X6_init_X6 tyX6 tyX6_ok nmX6 hown hKw.1 hwd.1 hwd.2.1 hwd.2.2 0 rfl rfl 6 (by decide) (hts (.fieldLink RX6 43 "DrillWardens" "stopOrder" "I") (List.mem_of_getElem? (i := 22) rfl)) (fun _ h9 => h9) rfl (tyX6_ok 6 (by decide)) rfl rfl (Nat.le_of_ble_eq_true rfl) dX6_init_73 (fun H locs h1 h2 h3 => ?_)
  replace hwd : wd D A s (((((([(oT, .inr (6, [.ref (a2 0), .ref (a4 0), .ref q5, .ref (a8 0), .ref (a10 0), .ref (a12 0), .int (-5), .int 0]))] ++ stW cI a2 V2) ++ stW cI a4 V4) ++ histW cR cI q5 hs bA hV 0 0) ++ txW cI cC a8 (fun _ => 0) 0 0 0 (fun _ => 0) (fun _ => 0)) ++ roW cI a10 (fun _ => 0) (fun _ => 0) (fun _ => 0) (fun _ => 0) (fun _ => 0) 0) ++ roW cI a12 (fun _ => 0) (fun _ => 0) (fun _ => 0) (fun _ => 0) (fun _ => 0) 0) H locs := ⟨h1, h2, h3⟩
  clear h1 h2 h3
  refine lv_aload_n hx hb dX6_init_76 rfl (lv_at hl 0 rfl) ?_
  refine lv_bipush (v := (-5)) hx hb dX6_init_77 rfl ?_
  refine va_put (D := D) (ci := 6) (v := .int (-5)) (ty := .int) (C := RX6) (T := TX6) (N := 8) hx hb hts ic_X6_init_X6 tyX6 tyX6_ok nmX6 hown hKw.1 hwd.1 hwd.2.1 hwd.2.2 0 rfl rfl 7 (by decide) (hts (.fieldLink RX6 47 "DrillWardens" "stopError" "I") (List.mem_of_getElem? (i := 23) rfl)) (fun _ h9 => h9) rfl (tyX6_ok 7 (by decide)) rfl rfl (Nat.le_of_ble_eq_true rfl) dX6_init_79 (fun H locs h1 h2 h3 => ?_)
  replace hwd : wd D A s (((((([(oT, .inr (6, [.ref (a2 0), .ref (a4 0), .ref q5, .ref (a8 0), .ref (a10 0), .ref (a12 0), .int (-5), .int (-5)]))] ++ stW cI a2 V2) ++ stW cI a4 V4) ++ histW cR cI q5 hs bA hV 0 0) ++ txW cI cC a8 (fun _ => 0) 0 0 0 (fun _ => 0) (fun _ => 0)) ++ roW cI a10 (fun _ => 0) (fun _ => 0) (fun _ => 0) (fun _ => 0) (fun _ => 0) 0) ++ roW cI a12 (fun _ => 0) (fun _ => 0) (fun _ => 0) (fun _ => 0) (fun _ => 0) 0) H locs := ⟨h1, h2, h3⟩
  clear h1 h2 h3
  replace hwd : wd D A s (clW cI cC cR oT a2 a4 q5 bA hs a8 a10 a12 V2 V4 hV 0 0 (fun _ => 0) 0 0 0 (fun _ => 0) (fun _ => 0) (fun _ => 0) (fun _ => 0) (fun _ => 0) (fun _ => 0) (fun _ => 0) 0 (fun _ => 0) (fun _ => 0) (fun _ => 0) (fun _ => 0) (fun _ => 0) 0 (-5) (-5)) H locs := by
    simp only [List.append_assoc, List.cons_append, List.nil_append] at hwd
    exact hwd
  subst hAe
  exact W.vret hx hb hr (fun t ht hW => ⟨⟨(a2, a4, q5, bA, hs, a8, a10, a12, V2, V4, hV), rfl, hq2, by rw [ht]; exact hwd.1, hwd.2.1⟩, hwd.2.2.F ht⟩) hwd.2.2.2.2 dX6_init_82
