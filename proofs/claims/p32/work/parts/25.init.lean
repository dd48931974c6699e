/-- the class's world: its own cell, now, before, the history, the text, the plan, the plan without -/
abbrev txW (cI cC : ClassId) (a : Nat → Nat) (chars : Nat → Int32) (length at_ orders : Int32) (kinds numbers : Nat → Int32) : va_W := [(a 0, .inr (3, [.ref (a 1), .int length, .int at_, .int orders, .ref (a 2), .ref (a 3)])), (a 1, .inl (cC, 80, .inl chars)), (a 2, .inl (cI, 12, .inl kinds)), (a 3, .inl (cI, 36, .inl numbers))]
abbrev roW (cI : ClassId) (a : Nat → Nat) (order needed sizes helpers taken : Nat → Int32) (serving : Int32) : va_W := [(a 0, .inr (4, [.ref (a 1), .ref (a 2), .ref (a 3), .ref (a 4), .ref (a 5), .int serving])), (a 1, .inl (cI, 10, .inl order)), (a 2, .inl (cI, 10, .inl needed)), (a 3, .inl (cI, 10, .inl sizes)), (a 4, .inl (cI, 10, .inl helpers)), (a 5, .inl (cI, 30, .inl taken))]
def x5a (q : Nat) (u : Nat → Nat) : Nat → Nat := fun c => match c with
  | 0 => q
  | 1 => u 0
  | 2 => u 1
  | 3 => u 2
  | 4 => u 3
  | 5 => u 4
  | 6 => u 5
  | 7 => u 7
  | 8 => u 8
  | 9 => u 9
  | 10 => u 6
  | 11 => u 10
  | 12 => u 11
  | 13 => u 12
  | 14 => u 13
  | 15 => u 14
  | 16 => u 15
  | _ => 0
def xNa (q : Nat) (u : Nat → Nat) : Nat → Nat := fun c => match c with
  | 0 => q
  | c + 1 => u c
def sel5 {α : Type} (a b c d e : α) : Nat → α := fun i => match i with
  | 0 => a
  | 1 => b
  | 2 => c
  | 3 => d
  | _ => e
set_option maxRecDepth 100000 in
set_option maxHeartbeats 4000000 in
theorem c_X5_init2 (l : Launch) {D : va_G} {cI cC cR : ClassId} (oT sz : Nat) : Met l yX5_init wsX5_init rm_X5_init (PcW D cI cC cR [.ref oT] [(oT, .inr (5, [.int 0, .null, .null, .null, .null, .null, .null, .null]))] sz) (QvW D (fun (u : (Nat → Nat) × SV) => u.1 0 = oT ∧ x5Q (u.2 1) (u.2 4)) (fun u => stW cI u.1 u.2) [(oT, .inr (5, [.int 0, .null, .null, .null, .null, .null, .null, .null]))] sz) 16 436 (va_A [(oT, .inr (5, [.int 0, .null, .null, .null, .null, .null, .null, .null]))] sz) :=
  Met.frameV (c_X5_init l oT sz x5_ok) [0] [] [0, 1, 2, 3, 4, 5, 6, 7, 8, 9, 10, 11, 12, 13, 14, 15, 16] [] (fun (u : (Nat → Nat) × (Nat → Int32) × (Nat → Int32)) => (x5a oT u.1, sv 0 (fun _ => 0) u.2.1 (fun _ => 0) (fun _ => 0) u.2.2 0 (fun _ => 0) (fun _ => 0) (fun _ => 0) 0 (fun _ => 0) (fun _ => 0) (fun _ => 0) (fun _ => 0) (fun _ => 0) (fun _ => 0))) rfl rfl rfl rfl (by decide) rfl (fun _ => rfl) (fun _ h => ⟨rfl, h⟩)
set_option maxRecDepth 100000 in
set_option maxHeartbeats 4000000 in
theorem c_X3_init2 (l : Launch) {D : va_G} {cI cC cR : ClassId} (oT sz : Nat) : Met l yX3_init wsX3_init rm_X3_init (PcW D cI cC cR [.ref oT] [(oT, .inr (3, [.null, .int 0, .int 0, .int 0, .null, .null]))] sz) (QvW D (fun (u : Nat → Nat) => u 0 = oT) (fun u => txW cI cC u (fun _ => 0) 0 0 0 (fun _ => 0) (fun _ => 0)) [(oT, .inr (3, [.null, .int 0, .int 0, .int 0, .null, .null]))] sz) 3 128 (va_A [(oT, .inr (3, [.null, .int 0, .int 0, .int 0, .null, .null]))] sz) :=
  Met.frameV (c_X3_init l oT sz) [0] [] [0, 1, 2, 3] [] (fun (u : Nat → Nat) => xNa oT u) rfl rfl rfl rfl (by decide) rfl (fun _ => rfl) (fun _ _ => rfl)
set_option maxRecDepth 100000 in
set_option maxHeartbeats 4000000 in
theorem c_X4_init2 (l : Launch) {D : va_G} {cI cC cR : ClassId} (oT sz : Nat) : Met l yX4_init wsX4_init rm_X4_init (PcW D cI cC cR [.ref oT] [(oT, .inr (4, [.null, .null, .null, .null, .null, .int 0]))] sz) (QvW D (fun (u : Nat → Nat) => u 0 = oT) (fun u => roW cI u (fun _ => 0) (fun _ => 0) (fun _ => 0) (fun _ => 0) (fun _ => 0) 0) [(oT, .inr (4, [.null, .null, .null, .null, .null, .int 0]))] sz) 5 70 (va_A [(oT, .inr (4, [.null, .null, .null, .null, .null, .int 0]))] sz) :=
  Met.frameV (c_X4_init l oT sz) [0] [] [0, 1, 2, 3, 4, 5] [] (fun (u : Nat → Nat) => xNa oT u) rfl rfl rfl rfl (by decide) rfl (fun _ => rfl) (fun _ _ => rfl)
abbrev rm_X1_init : Room := { frames := 3, cells := 86, slots := 2224, locals := 53 }
theorem ic_X1_init_X1 : ∀ w ∈ u_ws RX1 TX1 4, w ∈ wsX1_init := by
  intro w h
  simp only [wsX1_init, List.mem_cons, List.mem_append]
  simp only [h, or_true, true_or]
theorem ic_X1_init_X5 : ∀ w ∈ u_ws RX5 TX5 8, w ∈ wsX1_init := by
  intro w h
  simp only [wsX1_init, List.mem_cons, List.mem_append]
  simp only [h, or_true, true_or]
set_option maxRecDepth 100000 in
set_option maxHeartbeats 4000000 in
theorem c_X1_init (l : Launch) {D : va_G} {cI cC cR : ClassId} (oT sz : Nat) : Met l yX1_init wsX1_init rm_X1_init (PcW D cI cC cR [.ref oT] [(oT, .inr (1, [.null, .int 0, .null, .int 0]))] sz) (QvW D (fun (_ : Nat × (Nat → Nat → Nat) × (Nat → SV)) => True) (fun u => histW cR cI oT u.1 u.2.1 u.2.2 0 0) [(oT, .inr (1, [.null, .int 0, .null, .int 0]))] sz) 86 2224 (va_A [(oT, .inr (1, [.null, .int 0, .null, .int 0]))] sz) := by
  refine Met.ofW (cc := cX1_init) (maxL := 2) (ret := none) (by decide) rfl ?_
  intro p e s m args below meth c s₁ B hml hv
  obtain ⟨rfl, hsz, hP, hKw, hD0⟩ := hv
  have hlocks := B.notSynchronized
  have hin : meth.name = "<init>" := (name_of_methodNamed B.named B.method).1
  subst hsz
  have hD := hD0.self (sz := s.heap.size)
  obtain ⟨A, hAe⟩ : ∃ z, z = va_A [(oT, .inr (1, [.null, .int 0, .null, .int 0]))] s.heap.size := ⟨_, rfl⟩
  rw [← hAe] at hD
  have hA : ∀ q : Nat, s.heap.size ≤ q → A q := fun q h => by rw [hAe]; exact Or.inr h
  have CX : cx cX1_init none 2 RX1 wsX1_init p m meth c s ([.ref oT] : List Value).toArray D cI cC cR A := ⟨B.exec, B.bytes, B.returns, hml, atoms_spec (ws := wsX1_init) B.pre, findClass_of_methodNamed B.named, hlocks, hKw, hA⟩
  obtain ⟨hx, hb, hr, -, hts, hown, -, -, -⟩ := id CX
  obtain ⟨locs, hlocs⟩ : ∃ z : List Loc, z = [] := ⟨_, rfl⟩
  rw [← hlocs]
  have hwd : wd D A s [(oT, .inr (1, [.null, .int 0, .null, .int 0]))] s.heap locs := ⟨hP, hD, by rw [hlocs]; exact va_S.rf⟩
  have hl := lv_entry ([.ref oT]) (n := 2) (Nat.le_of_ble_eq_true rfl)
  rw [lg_entry_eq]
  generalize (lg_sl ([.ref oT]) ++ List.replicate (2 - (lg_sl ([.ref oT])).length) Slot.unset).toArray = ls at hl ⊢
  have hl : lv_has ls 2 [(0, .ref oT)] := hl
  refine lv_aload_n hx hb dX1_init_0 rfl (lv_at hl 0 rfl) ?_
  refine W.objInit hx hb hown (hts (.methodLink RX1 3 objectInit) (List.mem_of_getElem? (i := 1) rfl)) (hts (.instanceMethod objectInit) (List.mem_of_getElem? (i := 2) rfl)) (hts (.code objectInit ⟨#[0xb1]⟩ 1 none) (List.mem_of_getElem? (i := 3) rfl)) rfl (by rw [hml]; exact hl.1) rfl dX1_init_1 (Nat.le_of_ble_eq_true rfl) (Nat.le_of_ble_eq_true rfl) ?_
  refine W.eq (g2 := F0 m 4 ls []) rfl ?_
  refine lv_aload_n hx hb dX1_init_4 rfl (lv_at hl 0 rfl) ?_
  refine lv_iconst (v := (nI 4)) hx hb dX1_init_5 rfl ?_
  refine knr hx hb hown (hts (.classLink RX1 9 RX5) (List.mem_of_getElem? (i := 4) rfl)) hKw hA hwd 4 (Nat.le_of_ble_eq_true rfl) (Nat.le_of_ble_eq_true rfl) (Nat.le_of_ble_eq_true rfl) dX1_init_6 (fun oT_states H hwd => ?_)
  replace hwd : wd D A s [(oT, .inr (1, [.null, .int 0, .null, .int 0])), (oT_states, .inl (cR, 4, .inr (.inr (.inr (.inr (fun _ => none))))))] H locs := hwd
  refine W.widen (k := 1) (n := 4) (by omega) (by omega) ?_
  refine va_putF (D := D) (ci := 1) (v := .ref oT_states) (ty := .array (.object "DrillWardens$State")) (C := RX1) (T := TX1) (N := 4) hx hb hts ic_X1_init_X1 tyX1 tyX1_ok nmX1 hown hKw.1 hwd.1 hwd.2.1 hwd.2.2 0 rfl rfl 0 (by decide) (hts (.fieldLink RX1 11 "DrillWardens$History" "states" "[LDrillWardens$State;") (List.mem_of_getElem? (i := 5) rfl)) (fun _ h9 => h9) rfl hin rfl (tyX1_ok 0 (by decide)) rfl rfl (Nat.le_of_ble_eq_true rfl) dX1_init_9 (fun H locs h1 h2 h3 => ?_)
  replace hwd : wd D A s [(oT, .inr (1, [.ref oT_states, .int 0, .null, .int 0])), (oT_states, .inl (cR, 4, .inr (.inr (.inr (.inr (fun _ => none))))))] H locs := ⟨h1, h2, h3⟩
  clear h1 h2 h3
  refine lv_iconst (v := (nI 0)) hx hb dX1_init_12 rfl ?_
  refine lv_istore_n (lv' := [(1, .int (nI 0)), (0, .ref oT)]) hx hb dX1_init_13 rfl hl (by decide) rfl (fun ls hl => ?_)
  refine lv_iload_n hx hb dX1_init_14 rfl (lv_at hl 0 rfl) ?_
  refine lv_iconst (v := (nI 4)) hx hb dX1_init_15 rfl ?_
  refine lv_icmp_ge (tgt := 38) hx hb dX1_init_16 (by decide) (fun c1 => absurd c1 (by decide)) (fun c1 => ?_)
  refine lv_aload_n hx hb dX1_init_19 rfl (lv_at hl 1 rfl) ?_
  refine va_get (D := D) (ci := 1) (v := .ref oT_states) (C := RX1) (T := TX1) (N := 4) hx hb hts ic_X1_init_X1 hown hKw.1 hwd.1 0 rfl rfl 0 (by decide) (hts (.fieldLink RX1 11 "DrillWardens$History" "states" "[LDrillWardens$State;") (List.mem_of_getElem? (i := 5) rfl)) (fun _ h9 => h9) rfl dX1_init_20 ?_
  refine lv_iload_n hx hb dX1_init_23 rfl (lv_at hl 0 rfl) ?_
  refine va_new (ci := 5) (fs := [.int 0, .null, .null, .null, .null, .null, .null, .null]) (C := RX5) (T := TX5) (N := 8) hx hb hts ic_X1_init_X5 tyX5 tyX5_ok hown (hts (.classLink RX1 9 RX5) (List.mem_of_getElem? (i := 4) rfl)) (hts (.instantiable RX5 8) (List.mem_of_getElem? (i := 6) rfl)) (hts (.initialized RX5) (List.mem_of_getElem? (i := 7) rfl)) hKw.1 hwd.1 hwd.2.1 hwd.2.2 hA rfl (fun j hj => by rcases (show j = 0 ∨ j = 1 ∨ j = 2 ∨ j = 3 ∨ j = 4 ∨ j = 5 ∨ j = 6 ∨ j = 7 by omega) with rfl | rfl | rfl | rfl | rfl | rfl | rfl | rfl <;> rfl) (Nat.le_of_ble_eq_true rfl) (Nat.le_of_ble_eq_true rfl) dX1_init_24 (fun q2 H h1 h2 h3 => ?_)
  replace hwd : wd D A s ([(oT, .inr (1, [.ref oT_states, .int 0, .null, .int 0])), (oT_states, .inl (cR, 4, .inr (.inr (.inr (.inr (fun _ => none))))))] ++ [(q2, .inr (5, [.int 0, .null, .null, .null, .null, .null, .null, .null]))]) H locs := ⟨h1, h2, h3⟩
  clear h1 h2 h3
  refine W.widen (k := 2) (n := 12) (by omega) (by omega) ?_
  refine lv_dup hx hb dX1_init_27 rfl ?_
  refine kcI (rest := [.ref q2, .int (nI 0), .ref oT_states]) (X := [(oT, .inr (1, [.ref oT_states, .int 0, .null, .int 0])), (oT_states, .inl (cR, 4, .inr (.inr (.inr (.inr (fun _ => none))))))]) ⟨hx, hb, hml, hown, hts⟩ (c_X5_init2 l q2 H.size) (cwI 0 hts gX1_init_X5_init rfl rfl rfl (hts (.initialized RX5) (List.mem_of_getElem? (i := 7) rfl)) (hts (.methodLink RX1 17 yX5_init) (List.mem_of_getElem? (i := 9) rfl)) (hts (.instanceMethod yX5_init) (List.mem_of_getElem? (i := 10) rfl)) rfl hd_X5_init ⟨Nat.le_of_ble_eq_true rfl, Nat.le_of_ble_eq_true rfl⟩) hKw hA hwd rfl hl.1 rfl (lv_room (Nat.le_of_ble_eq_true rfl)) dX1_init_28 ⟨Nat.le_of_ble_eq_true rfl, Nat.le_of_ble_eq_true rfl⟩ (fun u3 H locs hw hwd => ?_)
  obtain ⟨a3, V3⟩ := u3
  obtain ⟨h0_3, hq3⟩ := hw
  rw [← h0_3]
  replace hwd : wd D A s ([(oT, .inr (1, [.ref oT_states, .int 0, .null, .int 0])), (oT_states, .inl (cR, 4, .inr (.inr (.inr (.inr (fun _ => none))))))] ++ stW cI a3 V3) H locs := hwd
  refine W.widen (k := 18) (n := 448) (by omega) (by omega) ?_
  refine va_astq hx hb hKw.1 hwd.1 hwd.2.1 hwd.2.2 1 2 2 5 rfl rfl rfl rfl (i := (nI 0)) (vp_in_nI (by decide) (by decide)) dX1_init_31 (fun H locs h1 h2 h3 => ?_)
  replace hwd : wd D A s ([(oT, .inr (1, [.ref oT_states, .int 0, .null, .int 0])), (oT_states, .inl (cR, 4, .inr (.inr (.inr (.inr (va_up (fun _ => none) (nI 0).toNatClampNeg (some (a3 0))))))))] ++ stW cI a3 V3) H locs := ⟨h1, h2, h3⟩
  clear h1 h2 h3
  refine lv_iinc (v := (nI 1)) (lv' := [(1, .int (nI 1)), (0, .ref oT)]) hx hb dX1_init_32 hl (k := 0) rfl (by decide) (by decide) rfl (fun ls hl => ?_)
  refine lv_goto (tgt := 14) hx hb dX1_init_35 (by decide) ?_
  refine lv_iload_n hx hb dX1_init_14 rfl (lv_at hl 0 rfl) ?_
  refine lv_iconst (v := (nI 4)) hx hb dX1_init_15 rfl ?_
  refine lv_icmp_ge (tgt := 38) hx hb dX1_init_16 (by decide) (fun c4 => absurd c4 (by decide)) (fun c4 => ?_)
  refine lv_aload_n hx hb dX1_init_19 rfl (lv_at hl 1 rfl) ?_
  refine va_get (D := D) (ci := 1) (v := .ref oT_states) (C := RX1) (T := TX1) (N := 4) hx hb hts ic_X1_init_X1 hown hKw.1 hwd.1 0 rfl rfl 0 (by decide) (hts (.fieldLink RX1 11 "DrillWardens$History" "states" "[LDrillWardens$State;") (List.mem_of_getElem? (i := 5) rfl)) (fun _ h9 => h9) rfl dX1_init_20 ?_
  refine lv_iload_n hx hb dX1_init_23 rfl (lv_at hl 0 rfl) ?_
  refine va_new (ci := 5) (fs := [.int 0, .null, .null, .null, .null, .null, .null, .null]) (C := RX5) (T := TX5) (N := 8) hx hb hts ic_X1_init_X5 tyX5 tyX5_ok hown (hts (.classLink RX1 9 RX5) (List.mem_of_getElem? (i := 4) rfl)) (hts (.instantiable RX5 8) (List.mem_of_getElem? (i := 6) rfl)) (hts (.initialized RX5) (List.mem_of_getElem? (i := 7) rfl)) hKw.1 hwd.1 hwd.2.1 hwd.2.2 hA rfl (fun j hj => by rcases (show j = 0 ∨ j = 1 ∨ j = 2 ∨ j = 3 ∨ j = 4 ∨ j = 5 ∨ j = 6 ∨ j = 7 by omega) with rfl | rfl | rfl | rfl | rfl | rfl | rfl | rfl <;> rfl) (Nat.le_of_ble_eq_true rfl) (Nat.le_of_ble_eq_true rfl) dX1_init_24 (fun q5 H h1 h2 h3 => ?_)
  replace hwd : wd D A s (([(oT, .inr (1, [.ref oT_states, .int 0, .null, .int 0])), (oT_states, .inl (cR, 4, .inr (.inr (.inr (.inr (va_up (fun _ => none) (nI 0).toNatClampNeg (some (a3 0))))))))] ++ stW cI a3 V3) ++ [(q5, .inr (5, [.int 0, .null, .null, .null, .null, .null, .null, .null]))]) H locs := ⟨h1, h2, h3⟩
  clear h1 h2 h3
  refine W.widen (k := 19) (n := 456) (by omega) (by omega) ?_
  refine lv_dup hx hb dX1_init_27 rfl ?_
  refine kcI (rest := [.ref q5, .int (nI 1), .ref oT_states]) (X := ([(oT, .inr (1, [.ref oT_states, .int 0, .null, .int 0])), (oT_states, .inl (cR, 4, .inr (.inr (.inr (.inr (va_up (fun _ => none) (nI 0).toNatClampNeg (some (a3 0))))))))] ++ stW cI a3 V3)) ⟨hx, hb, hml, hown, hts⟩ (c_X5_init2 l q5 H.size) (cwI 0 hts gX1_init_X5_init rfl rfl rfl (hts (.initialized RX5) (List.mem_of_getElem? (i := 7) rfl)) (hts (.methodLink RX1 17 yX5_init) (List.mem_of_getElem? (i := 9) rfl)) (hts (.instanceMethod yX5_init) (List.mem_of_getElem? (i := 10) rfl)) rfl hd_X5_init ⟨Nat.le_of_ble_eq_true rfl, Nat.le_of_ble_eq_true rfl⟩) hKw hA hwd rfl hl.1 rfl (lv_room (Nat.le_of_ble_eq_true rfl)) dX1_init_28 ⟨Nat.le_of_ble_eq_true rfl, Nat.le_of_ble_eq_true rfl⟩ (fun u6 H locs hw hwd => ?_)
  obtain ⟨a6, V6⟩ := u6
  obtain ⟨h0_6, hq6⟩ := hw
  rw [← h0_6]
  replace hwd : wd D A s (([(oT, .inr (1, [.ref oT_states, .int 0, .null, .int 0])), (oT_states, .inl (cR, 4, .inr (.inr (.inr (.inr (va_up (fun _ => none) (nI 0).toNatClampNeg (some (a3 0))))))))] ++ stW cI a3 V3) ++ stW cI a6 V6) H locs := hwd
  refine W.widen (k := 35) (n := 892) (by omega) (by omega) ?_
  refine va_astq hx hb hKw.1 hwd.1 hwd.2.1 hwd.2.2 1 2 19 5 rfl rfl rfl rfl (i := (nI 1)) (vp_in_nI (by decide) (by decide)) dX1_init_31 (fun H locs h1 h2 h3 => ?_)
  replace hwd : wd D A s (([(oT, .inr (1, [.ref oT_states, .int 0, .null, .int 0])), (oT_states, .inl (cR, 4, .inr (.inr (.inr (.inr (va_up (va_up (fun _ => none) (nI 0).toNatClampNeg (some (a3 0))) (nI 1).toNatClampNeg (some (a6 0))))))))] ++ stW cI a3 V3) ++ stW cI a6 V6) H locs := ⟨h1, h2, h3⟩
  clear h1 h2 h3
  refine lv_iinc (v := (nI 2)) (lv' := [(1, .int (nI 2)), (0, .ref oT)]) hx hb dX1_init_32 hl (k := 0) rfl (by decide) (by decide) rfl (fun ls hl => ?_)
  refine lv_goto (tgt := 14) hx hb dX1_init_35 (by decide) ?_
  refine lv_iload_n hx hb dX1_init_14 rfl (lv_at hl 0 rfl) ?_
  refine lv_iconst (v := (nI 4)) hx hb dX1_init_15 rfl ?_
  refine lv_icmp_ge (tgt := 38) hx hb dX1_init_16 (by decide) (fun c7 => absurd c7 (by decide)) (fun c7 => ?_)
  refine lv_aload_n hx hb dX1_init_19 rfl (lv_at hl 1 rfl) ?_
  refine va_get (D := D) (ci := 1) (v := .ref oT_states) (C := RX1) (T := TX1) (N := 4) hx hb hts ic_X1_init_X1 hown hKw.1 hwd.1 0 rfl rfl 0 (by decide) (hts (.fieldLink RX1 11 "DrillWardens$History" "states" "[LDrillWardens$State;") (List.mem_of_getElem? (i := 5) rfl)) (fun _ h9 => h9) rfl dX1_init_20 ?_
  refine lv_iload_n hx hb dX1_init_23 rfl (lv_at hl 0 rfl) ?_
  refine va_new (ci := 5) (fs := [.int 0, .null, .null, .null, .null, .null, .null, .null]) (C := RX5) (T := TX5) (N := 8) hx hb hts ic_X1_init_X5 tyX5 tyX5_ok hown (hts (.classLink RX1 9 RX5) (List.mem_of_getElem? (i := 4) rfl)) (hts (.instantiable RX5 8) (List.mem_of_getElem? (i := 6) rfl)) (hts (.initialized RX5) (List.mem_of_getElem? (i := 7) rfl)) hKw.1 hwd.1 hwd.2.1 hwd.2.2 hA rfl (fun j hj => by rcases (show j = 0 ∨ j = 1 ∨ j = 2 ∨ j = 3 ∨ j = 4 ∨ j = 5 ∨ j = 6 ∨ j = 7 by omega) with rfl | rfl | rfl | rfl | rfl | rfl | rfl | rfl <;> rfl) (Nat.le_of_ble_eq_true rfl) (Nat.le_of_ble_eq_true rfl) dX1_init_24 (fun q8 H h1 h2 h3 => ?_)
  replace hwd : wd D A s ((([(oT, .inr (1, [.ref oT_states, .int 0, .null, .int 0])), (oT_states, .inl (cR, 4, .inr (.inr (.inr (.inr (va_up (va_up (fun _ => none) (nI 0).toNatClampNeg (some (a3 0))) (nI 1).toNatClampNeg (some (a6 0))))))))] ++ stW cI a3 V3) ++ stW cI a6 V6) ++ [(q8, .inr (5, [.int 0, .null, .null, .null, .null, .null, .null, .null]))]) H locs := ⟨h1, h2, h3⟩
  clear h1 h2 h3
  refine W.widen (k := 36) (n := 900) (by omega) (by omega) ?_
  refine lv_dup hx hb dX1_init_27 rfl ?_
  refine kcI (rest := [.ref q8, .int (nI 2), .ref oT_states]) (X := (([(oT, .inr (1, [.ref oT_states, .int 0, .null, .int 0])), (oT_states, .inl (cR, 4, .inr (.inr (.inr (.inr (va_up (va_up (fun _ => none) (nI 0).toNatClampNeg (some (a3 0))) (nI 1).toNatClampNeg (some (a6 0))))))))] ++ stW cI a3 V3) ++ stW cI a6 V6)) ⟨hx, hb, hml, hown, hts⟩ (c_X5_init2 l q8 H.size) (cwI 0 hts gX1_init_X5_init rfl rfl rfl (hts (.initialized RX5) (List.mem_of_getElem? (i := 7) rfl)) (hts (.methodLink RX1 17 yX5_init) (List.mem_of_getElem? (i := 9) rfl)) (hts (.instanceMethod yX5_init) (List.mem_of_getElem? (i := 10) rfl)) rfl hd_X5_init ⟨Nat.le_of_ble_eq_true rfl, Nat.le_of_ble_eq_true rfl⟩) hKw hA hwd rfl hl.1 rfl (lv_room (Nat.le_of_ble_eq_true rfl)) dX1_init_28 ⟨Nat.le_of_ble_eq_true rfl, Nat.le_of_ble_eq_true rfl⟩ (fun u9 H locs hw hwd => ?_)
  obtain ⟨a9, V9⟩ := u9
  obtain ⟨h0_9, hq9⟩ := hw
  rw [← h0_9]
  replace hwd : wd D A s ((([(oT, .inr (1, [.ref oT_states, .int 0, .null, .int 0])), (oT_states, .inl (cR, 4, .inr (.inr (.inr (.inr (va_up (va_up (fun _ => none) (nI 0).toNatClampNeg (some (a3 0))) (nI 1).toNatClampNeg (some (a6 0))))))))] ++ stW cI a3 V3) ++ stW cI a6 V6) ++ stW cI a9 V9) H locs := hwd
  refine W.widen (k := 52) (n := 1336) (by omega) (by omega) ?_
  refine va_astq hx hb hKw.1 hwd.1 hwd.2.1 hwd.2.2 1 2 36 5 rfl rfl rfl rfl (i := (nI 2)) (vp_in_nI (by decide) (by decide)) dX1_init_31 (fun H locs h1 h2 h3 => ?_)
  replace hwd : wd D A s ((([(oT, .inr (1, [.ref oT_states, .int 0, .null, .int 0])), (oT_states, .inl (cR, 4, .inr (.inr (.inr (.inr (va_up (va_up (va_up (fun _ => none) (nI 0).toNatClampNeg (some (a3 0))) (nI 1).toNatClampNeg (some (a6 0))) (nI 2).toNatClampNeg (some (a9 0))))))))] ++ stW cI a3 V3) ++ stW cI a6 V6) ++ stW cI a9 V9) H locs := ⟨h1, h2, h3⟩
  clear h1 h2 h3
  refine lv_iinc (v := (nI 3)) (lv' := [(1, .int (nI 3)), (0, .ref oT)]) hx hb dX1_init_32 hl (k := 0) rfl (by decide) (by decide) rfl (fun ls hl => ?_)
  refine lv_goto (tgt := 14) hx hb dX1_init_35 (by decide) ?_
  refine lv_iload_n hx hb dX1_init_14 rfl (lv_at hl 0 rfl) ?_
  refine lv_iconst (v := (nI 4)) hx hb dX1_init_15 rfl ?_
  refine lv_icmp_ge (tgt := 38) hx hb dX1_init_16 (by decide) (fun c10 => absurd c10 (by decide)) (fun c10 => ?_)
  refine lv_aload_n hx hb dX1_init_19 rfl (lv_at hl 1 rfl) ?_
  refine va_get (D := D) (ci := 1) (v := .ref oT_states) (C := RX1) (T := TX1) (N := 4) hx hb hts ic_X1_init_X1 hown hKw.1 hwd.1 0 rfl rfl 0 (by decide) (hts (.fieldLink RX1 11 "DrillWardens$History" "states" "[LDrillWardens$State;") (List.mem_of_getElem? (i := 5) rfl)) (fun _ h9 => h9) rfl dX1_init_20 ?_
  refine lv_iload_n hx hb dX1_init_23 rfl (lv_at hl 0 rfl) ?_
  refine va_new (ci := 5) (fs := [.int 0, .null, .null, .null, .null, .null, .null, .null]) (C := RX5) (T := TX5) (N := 8) hx hb hts ic_X1_init_X5 tyX5 tyX5_ok hown (hts (.classLink RX1 9 RX5) (List.mem_of_getElem? (i := 4) rfl)) (hts (.instantiable RX5 8) (List.mem_of_getElem? (i := 6) rfl)) (hts (.initialized RX5) (List.mem_of_getElem? (i := 7) rfl)) hKw.1 hwd.1 hwd.2.1 hwd.2.2 hA rfl (fun j hj => by rcases (show j = 0 ∨ j = 1 ∨ j = 2 ∨ j = 3 ∨ j = 4 ∨ j = 5 ∨ j = 6 ∨ j = 7 by omega) with rfl | rfl | rfl | rfl | rfl | rfl | rfl | rfl <;> rfl) (Nat.le_of_ble_eq_true rfl) (Nat.le_of_ble_eq_true rfl) dX1_init_24 (fun q11 H h1 h2 h3 => ?_)
  replace hwd : wd D A s (((([(oT, .inr (1, [.ref oT_states, .int 0, .null, .int 0])), (oT_states, .inl (cR, 4, .inr (.inr (.inr (.inr (va_up (va_up (va_up (fun _ => none) (nI 0).toNatClampNeg (some (a3 0))) (nI 1).toNatClampNeg (some (a6 0))) (nI 2).toNatClampNeg (some (a9 0))))))))] ++ stW cI a3 V3) ++ stW cI a6 V6) ++ stW cI a9 V9) ++ [(q11, .inr (5, [.int 0, .null, .null, .null, .null, .null, .null, .null]))]) H locs := ⟨h1, h2, h3⟩
  clear h1 h2 h3
  refine W.widen (k := 53) (n := 1344) (by omega) (by omega) ?_
  refine lv_dup hx hb dX1_init_27 rfl ?_
  refine kcI (rest := [.ref q11, .int (nI 3), .ref oT_states]) (X := ((([(oT, .inr (1, [.ref oT_states, .int 0, .null, .int 0])), (oT_states, .inl (cR, 4, .inr (.inr (.inr (.inr (va_up (va_up (va_up (fun _ => none) (nI 0).toNatClampNeg (some (a3 0))) (nI 1).toNatClampNeg (some (a6 0))) (nI 2).toNatClampNeg (some (a9 0))))))))] ++ stW cI a3 V3) ++ stW cI a6 V6) ++ stW cI a9 V9)) ⟨hx, hb, hml, hown, hts⟩ (c_X5_init2 l q11 H.size) (cwI 0 hts gX1_init_X5_init rfl rfl rfl (hts (.initialized RX5) (List.mem_of_getElem? (i := 7) rfl)) (hts (.methodLink RX1 17 yX5_init) (List.mem_of_getElem? (i := 9) rfl)) (hts (.instanceMethod yX5_init) (List.mem_of_getElem? (i := 10) rfl)) rfl hd_X5_init ⟨Nat.le_of_ble_eq_true rfl, Nat.le_of_ble_eq_true rfl⟩) hKw hA hwd rfl hl.1 rfl (lv_room (Nat.le_of_ble_eq_true rfl)) dX1_init_28 ⟨Nat.le_of_ble_eq_true rfl, Nat.le_of_ble_eq_true rfl⟩ (fun u12 H locs hw hwd => ?_)
  obtain ⟨a12, V12⟩ := u12
  obtain ⟨h0_12, hq12⟩ := hw
  rw [← h0_12]
  replace hwd : wd D A s (((([(oT, .inr (1, [.ref oT_states, .int 0, .null, .int 0])), (oT_states, .inl (cR, 4, .inr (.inr (.inr (.inr (va_up (va_up (va_up (fun _ => none) (nI 0).toNatClampNeg (some (a3 0))) (nI 1).toNatClampNeg (some (a6 0))) (nI 2).toNatClampNeg (some (a9 0))))))))] ++ stW cI a3 V3) ++ stW cI a6 V6) ++ stW cI a9 V9) ++ stW cI a12 V12) H locs := hwd
  refine W.widen (k := 69) (n := 1780) (by omega) (by omega) ?_
  refine va_astq hx hb hKw.1 hwd.1 hwd.2.1 hwd.2.2 1 2 53 5 rfl rfl rfl rfl (i := (nI 3)) (vp_in_nI (by decide) (by decide)) dX1_init_31 (fun H locs h1 h2 h3 => ?_)
  replace hwd : wd D A s (((([(oT, .inr (1, [.ref oT_states, .int 0, .null, .int 0])), (oT_states, .inl (cR, 4, .inr (.inr (.inr (.inr (va_up (va_up (va_up (va_up (fun _ => none) (nI 0).toNatClampNeg (some (a3 0))) (nI 1).toNatClampNeg (some (a6 0))) (nI 2).toNatClampNeg (some (a9 0))) (nI 3).toNatClampNeg (some (a12 0))))))))] ++ stW cI a3 V3) ++ stW cI a6 V6) ++ stW cI a9 V9) ++ stW cI a12 V12) H locs := ⟨h1, h2, h3⟩
  clear h1 h2 h3
  refine lv_iinc (v := (nI 4)) (lv' := [(1, .int (nI 4)), (0, .ref oT)]) hx hb dX1_init_32 hl (k := 0) rfl (by decide) (by decide) rfl (fun ls hl => ?_)
  refine lv_goto (tgt := 14) hx hb dX1_init_35 (by decide) ?_
  refine lv_iload_n hx hb dX1_init_14 rfl (lv_at hl 0 rfl) ?_
  refine lv_iconst (v := (nI 4)) hx hb dX1_init_15 rfl ?_
  refine lv_icmp_ge (tgt := 38) hx hb dX1_init_16 (by decide) (fun c13 => ?_) (fun c13 => absurd (by decide) c13)
  refine lv_aload_n hx hb dX1_init_38 rfl (lv_at hl 1 rfl) ?_
  refine va_new (ci := 5) (fs := [.int 0, .null, .null, .null, .null, .null, .null, .null]) (C := RX5) (T := TX5) (N := 8) hx hb hts ic_X1_init_X5 tyX5 tyX5_ok hown (hts (.classLink RX1 9 RX5) (List.mem_of_getElem? (i := 4) rfl)) (hts (.instantiable RX5 8) (List.mem_of_getElem? (i := 6) rfl)) (hts (.initialized RX5) (List.mem_of_getElem? (i := 7) rfl)) hKw.1 hwd.1 hwd.2.1 hwd.2.2 hA rfl (fun j hj => by rcases (show j = 0 ∨ j = 1 ∨ j = 2 ∨ j = 3 ∨ j = 4 ∨ j = 5 ∨ j = 6 ∨ j = 7 by omega) with rfl | rfl | rfl | rfl | rfl | rfl | rfl | rfl <;> rfl) (Nat.le_of_ble_eq_true rfl) (Nat.le_of_ble_eq_true rfl) dX1_init_39 (fun q14 H h1 h2 h3 => ?_)
  replace hwd : wd D A s ((((([(oT, .inr (1, [.ref oT_states, .int 0, .null, .int 0])), (oT_states, .inl (cR, 4, .inr (.inr (.inr (.inr (va_up (va_up (va_up (va_up (fun _ => none) (nI 0).toNatClampNeg (some (a3 0))) (nI 1).toNatClampNeg (some (a6 0))) (nI 2).toNatClampNeg (some (a9 0))) (nI 3).toNatClampNeg (some (a12 0))))))))] ++ stW cI a3 V3) ++ stW cI a6 V6) ++ stW cI a9 V9) ++ stW cI a12 V12) ++ [(q14, .inr (5, [.int 0, .null, .null, .null, .null, .null, .null, .null]))]) H locs := ⟨h1, h2, h3⟩
  clear h1 h2 h3
  refine W.widen (k := 70) (n := 1788) (by omega) (by omega) ?_
  refine lv_dup hx hb dX1_init_42 rfl ?_
  refine kcI (rest := [.ref q14, .ref oT]) (X := (((([(oT, .inr (1, [.ref oT_states, .int 0, .null, .int 0])), (oT_states, .inl (cR, 4, .inr (.inr (.inr (.inr (va_up (va_up (va_up (va_up (fun _ => none) (nI 0).toNatClampNeg (some (a3 0))) (nI 1).toNatClampNeg (some (a6 0))) (nI 2).toNatClampNeg (some (a9 0))) (nI 3).toNatClampNeg (some (a12 0))))))))] ++ stW cI a3 V3) ++ stW cI a6 V6) ++ stW cI a9 V9) ++ stW cI a12 V12)) ⟨hx, hb, hml, hown, hts⟩ (c_X5_init2 l q14 H.size) (cwI 0 hts gX1_init_X5_init rfl rfl rfl (hts (.initialized RX5) (List.mem_of_getElem? (i := 7) rfl)) (hts (.methodLink RX1 17 yX5_init) (List.mem_of_getElem? (i := 9) rfl)) (hts (.instanceMethod yX5_init) (List.mem_of_getElem? (i := 10) rfl)) rfl hd_X5_init ⟨Nat.le_of_ble_eq_true rfl, Nat.le_of_ble_eq_true rfl⟩) hKw hA hwd rfl hl.1 rfl (lv_room (Nat.le_of_ble_eq_true rfl)) dX1_init_43 ⟨Nat.le_of_ble_eq_true rfl, Nat.le_of_ble_eq_true rfl⟩ (fun u15 H locs hw hwd => ?_)
  obtain ⟨a15, V15⟩ := u15
  obtain ⟨h0_15, hq15⟩ := hw
  rw [← h0_15]
  replace hwd : wd D A s ((((([(oT, .inr (1, [.ref oT_states, .int 0, .null, .int 0])), (oT_states, .inl (cR, 4, .inr (.inr (.inr (.inr (va_up (va_up (va_up (va_up (fun _ => none) (nI 0).toNatClampNeg (some (a3 0))) (nI 1).toNatClampNeg (some (a6 0))) (nI 2).toNatClampNeg (some (a9 0))) (nI 3).toNatClampNeg (some (a12 0))))))))] ++ stW cI a3 V3) ++ stW cI a6 V6) ++ stW cI a9 V9) ++ stW cI a12 V12) ++ stW cI a15 V15) H locs := hwd
  refine W.widen (k := 86) (n := 2224) (by omega) (by omega) ?_
  refine va_putF (D := D) (ci := 1) (v := .ref (a15 0)) (ty := .object "DrillWardens$State") (C := RX1) (T := TX1) (N := 4) hx hb hts ic_X1_init_X1 tyX1 tyX1_ok nmX1 hown hKw.1 hwd.1 hwd.2.1 hwd.2.2 0 rfl rfl 2 (by decide) (hts (.fieldLink RX1 18 "DrillWardens$History" "snapshot" "LDrillWardens$State;") (List.mem_of_getElem? (i := 8) rfl)) (fun _ h9 => h9) rfl hin rfl (tyX1_ok 2 (by decide)) rfl rfl (Nat.le_of_ble_eq_true rfl) dX1_init_46 (fun H locs h1 h2 h3 => ?_)
  replace hwd : wd D A s ((((([(oT, .inr (1, [.ref oT_states, .int 0, .ref (a15 0), .int 0])), (oT_states, .inl (cR, 4, .inr (.inr (.inr (.inr (va_up (va_up (va_up (va_up (fun _ => none) (nI 0).toNatClampNeg (some (a3 0))) (nI 1).toNatClampNeg (some (a6 0))) (nI 2).toNatClampNeg (some (a9 0))) (nI 3).toNatClampNeg (some (a12 0))))))))] ++ stW cI a3 V3) ++ stW cI a6 V6) ++ stW cI a9 V9) ++ stW cI a12 V12) ++ stW cI a15 V15) H locs := ⟨h1, h2, h3⟩
  clear h1 h2 h3
  rw [rf4_mk] at hwd
  replace hwd : wd D A s (histW cR cI oT oT_states (sel5 a3 a6 a9 a12 a15) (sel5 V3 V6 V9 V12 V15) 0 0) H locs := by
    simp only [List.append_assoc, List.cons_append, List.nil_append] at hwd
    exact hwd
  subst hAe
  exact W.vret hx hb hr (fun t ht hW => ⟨⟨(oT_states, sel5 a3 a6 a9 a12 a15, sel5 V3 V6 V9 V12 V15), rfl, trivial, by rw [ht]; exact hwd.1, hwd.2.1⟩, hwd.2.2.F ht⟩) hwd.2.2.2.2 dX1_init_49
