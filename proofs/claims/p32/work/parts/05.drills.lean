abbrev ww_X0_copyFrom (cI cC : ClassId) (oT oT_held oT_quarters oT_led oT_logDays oT_logMinutes oT_logLeaders oa1 oa1_held oa1_quarters oa1_led oa1_logDays oa1_logMinutes oa1_logLeaders : Nat) (T_minutes : Int32) (T_held : Nat → Int32) (T_quarters : Nat → Int32) (T_led : Nat → Int32) (T_logDays : Nat → Int32) (T_logMinutes : Nat → Int32) (T_logLeaders : Nat → Int32) (a1_minutes : Int32) (a1_held : Nat → Int32) (a1_quarters : Nat → Int32) (a1_led : Nat → Int32) (a1_logDays : Nat → Int32) (a1_logMinutes : Nat → Int32) (a1_logLeaders : Nat → Int32) : va_W := [(oT, .inr (0, [.int T_minutes, .ref oT_held, .ref oT_quarters, .ref oT_led, .ref oT_logDays, .ref oT_logMinutes, .ref oT_logLeaders])), (oT_held, .inl (cI, 10, .inl T_held)), (oT_quarters, .inl (cI, 10, .inl T_quarters)), (oT_led, .inl (cI, 16, .inl T_led)), (oT_logDays, .inl (cI, 60, .inl T_logDays)), (oT_logMinutes, .inl (cI, 60, .inl T_logMinutes)), (oT_logLeaders, .inl (cI, 60, .inl T_logLeaders)), (oa1, .inr (0, [.int a1_minutes, .ref oa1_held, .ref oa1_quarters, .ref oa1_led, .ref oa1_logDays, .ref oa1_logMinutes, .ref oa1_logLeaders])), (oa1_held, .inl (cI, 10, .inl a1_held)), (oa1_quarters, .inl (cI, 10, .inl a1_quarters)), (oa1_led, .inl (cI, 16, .inl a1_led)), (oa1_logDays, .inl (cI, 60, .inl a1_logDays)), (oa1_logMinutes, .inl (cI, 60, .inl a1_logMinutes)), (oa1_logLeaders, .inl (cI, 60, .inl a1_logLeaders))]
abbrev rm_X0_copyFrom : Room := { frames := 2, cells := 0, slots := 0, locals := 81 }
theorem ic_X0_copyFrom_X0 : ∀ w ∈ u_ws RX0 TX0 7, w ∈ wsX0_copyFrom := by
  intro w h
  simp only [wsX0_copyFrom, List.mem_cons, List.mem_append]
  simp only [h, or_true, true_or]
def wp_X0_copyFrom (T_minutes : Int32) (T_held : Nat → Int32) (T_quarters : Nat → Int32) (T_led : Nat → Int32) (T_logDays : Nat → Int32) (T_logMinutes : Nat → Int32) (T_logLeaders : Nat → Int32) (a1_minutes : Int32) (a1_held : Nat → Int32) (a1_quarters : Nat → Int32) (a1_led : Nat → Int32) (a1_logDays : Nat → Int32) (a1_logMinutes : Nat → Int32) (a1_logLeaders : Nat → Int32) (Q : Int32 → (Nat → Int32) → (Nat → Int32) → (Nat → Int32) → (Nat → Int32) → (Nat → Int32) → (Nat → Int32) → Prop) : Prop := wp_X6_copy 10 a1_held T_held (fun T_held1 => wp_X6_copy 10 a1_quarters T_quarters (fun T_quarters2 => wp_X6_copy 16 a1_led T_led (fun T_led3 => wp_X6_copy 60 a1_logDays T_logDays (fun T_logDays4 => wp_X6_copy 60 a1_logMinutes T_logMinutes (fun T_logMinutes5 => wp_X6_copy 60 a1_logLeaders T_logLeaders (fun T_logLeaders6 => Q a1_minutes T_held1 T_quarters2 T_led3 T_logDays4 T_logMinutes5 T_logLeaders6))))))
set_option maxRecDepth 100000 in
set_option maxHeartbeats 4000000 in
theorem c_X0_copyFrom (l : Launch) {D : va_G} {cI cC cR : ClassId} (oT oT_held oT_quarters oT_led oT_logDays oT_logMinutes oT_logLeaders oa1 oa1_held oa1_quarters oa1_led oa1_logDays oa1_logMinutes oa1_logLeaders : Nat) (sz : Nat) (T_minutes : Int32) (T_held : Nat → Int32) (T_quarters : Nat → Int32) (T_led : Nat → Int32) (T_logDays : Nat → Int32) (T_logMinutes : Nat → Int32) (T_logLeaders : Nat → Int32) (a1_minutes : Int32) (a1_held : Nat → Int32) (a1_quarters : Nat → Int32) (a1_led : Nat → Int32) (a1_logDays : Nat → Int32) (a1_logMinutes : Nat → Int32) (a1_logLeaders : Nat → Int32) {Q : Int32 → (Nat → Int32) → (Nat → Int32) → (Nat → Int32) → (Nat → Int32) → (Nat → Int32) → (Nat → Int32) → Prop} (hw : wp_X0_copyFrom T_minutes T_held T_quarters T_led T_logDays T_logMinutes T_logLeaders a1_minutes a1_held a1_quarters a1_led a1_logDays a1_logMinutes a1_logLeaders Q) : Met l yX0_copyFrom wsX0_copyFrom rm_X0_copyFrom (PcW D cI cC cR [.ref oT, .ref oa1] (ww_X0_copyFrom cI cC oT oT_held oT_quarters oT_led oT_logDays oT_logMinutes oT_logLeaders oa1 oa1_held oa1_quarters oa1_led oa1_logDays oa1_logMinutes oa1_logLeaders T_minutes T_held T_quarters T_led T_logDays T_logMinutes T_logLeaders a1_minutes a1_held a1_quarters a1_led a1_logDays a1_logMinutes a1_logLeaders) sz) (QvW D (fun (u : Int32 × (Nat → Int32) × (Nat → Int32) × (Nat → Int32) × (Nat → Int32) × (Nat → Int32) × (Nat → Int32)) => Q u.1 u.2.1 u.2.2.1 u.2.2.2.1 u.2.2.2.2.1 u.2.2.2.2.2.1 u.2.2.2.2.2.2) (fun u => (ww_X0_copyFrom cI cC oT oT_held oT_quarters oT_led oT_logDays oT_logMinutes oT_logLeaders oa1 oa1_held oa1_quarters oa1_led oa1_logDays oa1_logMinutes oa1_logLeaders (u.1) (u.2.1) (u.2.2.1) (u.2.2.2.1) (u.2.2.2.2.1) (u.2.2.2.2.2.1) (u.2.2.2.2.2.2) a1_minutes a1_held a1_quarters a1_led a1_logDays a1_logMinutes a1_logLeaders)) (ww_X0_copyFrom cI cC oT oT_held oT_quarters oT_led oT_logDays oT_logMinutes oT_logLeaders oa1 oa1_held oa1_quarters oa1_led oa1_logDays oa1_logMinutes oa1_logLeaders T_minutes T_held T_quarters T_led T_logDays T_logMinutes T_logLeaders a1_minutes a1_held a1_quarters a1_led a1_logDays a1_logMinutes a1_logLeaders) sz) 0 0 (va_A (ww_X0_copyFrom cI cC oT oT_held oT_quarters oT_led oT_logDays oT_logMinutes oT_logLeaders oa1 oa1_held oa1_quarters oa1_led oa1_logDays oa1_logMinutes oa1_logLeaders T_minutes T_held T_quarters T_led T_logDays T_logMinutes T_logLeaders a1_minutes a1_held a1_quarters a1_led a1_logDays a1_logMinutes a1_logLeaders) sz) := by
  refine Met.ofW (cc := cX0_copyFrom) (maxL := 2) (ret := none) (by decide) rfl ?_
  intro p e s m args below meth c s₁ B hml hv
  obtain ⟨rfl, hsz, hP, hKw, hD0⟩ := hv
  have hlocks := B.notSynchronized
  subst hsz
  have hD := hD0.self (sz := s.heap.size)
  have CX : cx cX0_copyFrom none 2 RX0 wsX0_copyFrom p m meth c s ([.ref oT, .ref oa1] : List Value).toArray D cI cC cR (va_A (ww_X0_copyFrom cI cC oT oT_held oT_quarters oT_led oT_logDays oT_logMinutes oT_logLeaders oa1 oa1_held oa1_quarters oa1_led oa1_logDays oa1_logMinutes oa1_logLeaders T_minutes T_held T_quarters T_led T_logDays T_logMinutes T_logLeaders a1_minutes a1_held a1_quarters a1_led a1_logDays a1_logMinutes a1_logLeaders) s.heap.size) := ⟨B.exec, B.bytes, B.returns, hml, atoms_spec (ws := wsX0_copyFrom) B.pre, findClass_of_methodNamed B.named, hlocks, hKw, fun q h => Or.inr h⟩
  obtain ⟨hx, hb, hr, -, hts, hown, -, -, hA⟩ := id CX
  have hwd : wd D (va_A (ww_X0_copyFrom cI cC oT oT_held oT_quarters oT_led oT_logDays oT_logMinutes oT_logLeaders oa1 oa1_held oa1_quarters oa1_led oa1_logDays oa1_logMinutes oa1_logLeaders T_minutes T_held T_quarters T_led T_logDays T_logMinutes T_logLeaders a1_minutes a1_held a1_quarters a1_led a1_logDays a1_logMinutes a1_logLeaders) s.heap.size) s (ww_X0_copyFrom cI cC oT oT_held oT_quarters oT_led oT_logDays oT_logMinutes oT_logLeaders oa1 oa1_held oa1_quarters oa1_led oa1_logDays oa1_logMinutes oa1_logLeaders T_minutes T_held T_quarters T_led T_logDays T_logMinutes T_logLeaders a1_minutes a1_held a1_quarters a1_led a1_logDays a1_logMinutes a1_logLeaders) s.heap [] := ⟨hP, hD, va_S.rf⟩
  have hl := lv_entry ([.ref oT, .ref oa1]) (n := 2) (Nat.le_of_ble_eq_true rfl)
  rw [lg_entry_eq]
  generalize (lg_sl ([.ref oT, .ref oa1]) ++ List.replicate (2 - (lg_sl ([.ref oT, .ref oa1])).length) Slot.unset).toArray = ls at hl ⊢
  have hl : lv_has ls 2 [(0, .ref oT), (1, .ref oa1)] := hl
  have HR : ∀ (u0 : Int32) (u1 : Nat → Int32) (u2 : Nat → Int32) (u3 : Nat → Int32) (u4 : Nat → Int32) (u5 : Nat → Int32) (u6 : Nat → Int32) {H : Heap} {locs : List Loc} {ls : Array Slot} {pc : Nat}, Q u0 u1 u2 u3 u4 u5 u6 → wd D (va_A (ww_X0_copyFrom cI cC oT oT_held oT_quarters oT_led oT_logDays oT_logMinutes oT_logLeaders oa1 oa1_held oa1_quarters oa1_led oa1_logDays oa1_logMinutes oa1_logLeaders T_minutes T_held T_quarters T_led T_logDays T_logMinutes T_logLeaders a1_minutes a1_held a1_quarters a1_led a1_logDays a1_logMinutes a1_logLeaders) s.heap.size) s (ww_X0_copyFrom cI cC oT oT_held oT_quarters oT_led oT_logDays oT_logMinutes oT_logLeaders oa1 oa1_held oa1_quarters oa1_led oa1_logDays oa1_logMinutes oa1_logLeaders u0 u1 u2 u3 u4 u5 u6 a1_minutes a1_held a1_quarters a1_led a1_logDays a1_logMinutes a1_logLeaders) H locs → decode cX0_copyFrom pc = .ok (.return_, 1) → W p l e (headSpec wsX0_copyFrom rm_X0_copyFrom).room s m ([.ref oT, .ref oa1] : List Value).toArray below meth c H locs 0 0 (MQ below (QvW D (fun (u : Int32 × (Nat → Int32) × (Nat → Int32) × (Nat → Int32) × (Nat → Int32) × (Nat → Int32) × (Nat → Int32)) => Q u.1 u.2.1 u.2.2.1 u.2.2.2.1 u.2.2.2.2.1 u.2.2.2.2.2.1 u.2.2.2.2.2.2) (fun u => (ww_X0_copyFrom cI cC oT oT_held oT_quarters oT_led oT_logDays oT_logMinutes oT_logLeaders oa1 oa1_held oa1_quarters oa1_led oa1_logDays oa1_logMinutes oa1_logLeaders (u.1) (u.2.1) (u.2.2.1) (u.2.2.2.1) (u.2.2.2.2.1) (u.2.2.2.2.2.1) (u.2.2.2.2.2.2) a1_minutes a1_held a1_quarters a1_led a1_logDays a1_logMinutes a1_logLeaders)) (ww_X0_copyFrom cI cC oT oT_held oT_quarters oT_led oT_logDays oT_logMinutes oT_logLeaders oa1 oa1_held oa1_quarters oa1_led oa1_logDays oa1_logMinutes oa1_logLeaders T_minutes T_held T_quarters T_led T_logDays T_logMinutes T_logLeaders a1_minutes a1_held a1_quarters a1_led a1_logDays a1_logMinutes a1_logLeaders) s.heap.size) ([.ref oT, .ref oa1] : List Value).toArray s 0 0 (va_A (ww_X0_copyFrom cI cC oT oT_held oT_quarters oT_led oT_logDays oT_logMinutes oT_logLeaders oa1 oa1_held oa1_quarters oa1_led oa1_logDays oa1_logMinutes oa1_logLeaders T_minutes T_held T_quarters T_led T_logDays T_logMinutes T_logLeaders a1_minutes a1_held a1_quarters a1_led a1_logDays a1_logMinutes a1_logLeaders) s.heap.size)) (F0 m pc ls []) := by
    intro u0 u1 u2 u3 u4 u5 u6 H locs ls pc hq hw9 hd9
    exact W.vret hx hb hr (fun t ht hW => ⟨⟨(u0, u1, u2, u3, u4, u5, u6), rfl, hq, by rw [ht]; exact hw9.1, hw9.2.1⟩, hw9.2.2.F ht⟩) hw9.2.2.2.2 hd9
  unfold wp_X0_copyFrom at hw
  refine lv_aload_n hx hb dX0_copyFrom_0 rfl (lv_at hl 0 rfl) ?_
  refine lv_aload_n hx hb dX0_copyFrom_1 rfl (lv_at hl 1 rfl) ?_
  refine va_get (D := D) (ci := 0) (v := .int a1_minutes) (C := RX0) (T := TX0) (N := 7) hx hb hts ic_X0_copyFrom_X0 hown hKw.1 hwd.1 7 rfl rfl 0 (by decide) (hts (.fieldLink RX0 30 "DrillWardens$Drills" "minutes" "I") (List.mem_of_getElem? (i := 1) rfl)) (fun _ h9 => h9) rfl dX0_copyFrom_2 ?_
  refine va_put (D := D) (ci := 0) (v := .int a1_minutes) (ty := .int) (C := RX0) (T := TX0) (N := 7) hx hb hts ic_X0_copyFrom_X0 tyX0 tyX0_ok nmX0 hown hKw.1 hwd.1 hwd.2.1 hwd.2.2 0 rfl rfl 0 (by decide) (hts (.fieldLink RX0 30 "DrillWardens$Drills" "minutes" "I") (List.mem_of_getElem? (i := 1) rfl)) (fun _ h9 => h9) rfl (tyX0_ok 0 (by decide)) rfl rfl (Nat.le_of_ble_eq_true rfl) dX0_copyFrom_5 (fun H locs h1 h2 h3 => ?_)
  replace hwd : wd D (va_A (ww_X0_copyFrom cI cC oT oT_held oT_quarters oT_led oT_logDays oT_logMinutes oT_logLeaders oa1 oa1_held oa1_quarters oa1_led oa1_logDays oa1_logMinutes oa1_logLeaders T_minutes T_held T_quarters T_led T_logDays T_logMinutes T_logLeaders a1_minutes a1_held a1_quarters a1_led a1_logDays a1_logMinutes a1_logLeaders) s.heap.size) s (ww_X0_copyFrom cI cC oT oT_held oT_quarters oT_led oT_logDays oT_logMinutes oT_logLeaders oa1 oa1_held oa1_quarters oa1_led oa1_logDays oa1_logMinutes oa1_logLeaders a1_minutes T_held T_quarters T_led T_logDays T_logMinutes T_logLeaders a1_minutes a1_held a1_quarters a1_led a1_logDays a1_logMinutes a1_logLeaders) H locs := ⟨h1, h2, h3⟩
  clear h1 h2 h3
  refine lv_aload_n hx hb dX0_copyFrom_8 rfl (lv_at hl 1 rfl) ?_
  refine va_get (D := D) (ci := 0) (v := .ref oa1_held) (C := RX0) (T := TX0) (N := 7) hx hb hts ic_X0_copyFrom_X0 hown hKw.1 hwd.1 7 rfl rfl 1 (by decide) (hts (.fieldLink RX0 9 "DrillWardens$Drills" "held" "[I") (List.mem_of_getElem? (i := 2) rfl)) (fun _ h9 => h9) rfl dX0_copyFrom_9 ?_
  refine lv_aload_n hx hb dX0_copyFrom_12 rfl (lv_at hl 0 rfl) ?_
  refine va_get (D := D) (ci := 0) (v := .ref oT_held) (C := RX0) (T := TX0) (N := 7) hx hb hts ic_X0_copyFrom_X0 hown hKw.1 hwd.1 0 rfl rfl 1 (by decide) (hts (.fieldLink RX0 9 "DrillWardens$Drills" "held" "[I") (List.mem_of_getElem? (i := 2) rfl)) (fun _ h9 => h9) rfl dX0_copyFrom_13 ?_
  refine kcNv (W1 := (fun u => (ww_X0_copyFrom cI cC oT oT_held oT_quarters oT_led oT_logDays oT_logMinutes oT_logLeaders oa1 oa1_held oa1_quarters oa1_led oa1_logDays oa1_logMinutes oa1_logLeaders a1_minutes u T_quarters T_led T_logDays T_logMinutes T_logLeaders a1_minutes a1_held a1_quarters a1_led a1_logDays a1_logMinutes a1_logLeaders))) (rest := []) (As := [.ref oa1_held, .ref oT_held]) ⟨Nat.le_of_ble_eq_true rfl, Nat.le_of_ble_eq_true rfl⟩ ⟨hx, hb, hml, hown, hts⟩ (c_X6_copy l 10 oa1_held oT_held H.size a1_held T_held hw) ⟨va_cnB 2 hts gX0_copyFrom_X6_copy_n34 rfl rfl rfl (nwm_3 hKw.2) (hts (.initialized RX6) (List.mem_of_getElem? (i := 9) rfl)) hd_X6_copy ⟨Nat.le_of_ble_eq_true rfl, Nat.le_of_ble_eq_true rfl⟩, hts (.static yX6_copy) (List.mem_of_getElem? (i := 8) rfl), trivial⟩ hKw hA hwd [8, 1] [0, 2, 3, 4, 5, 6, 7, 9, 10, 11, 12, 13] [0, 13, 1, 2, 3, 4, 5, 6, 12, 7, 8, 9, 10, 11] [(oT, .inr (0, [.int a1_minutes, .ref oT_held, .ref oT_quarters, .ref oT_led, .ref oT_logDays, .ref oT_logMinutes, .ref oT_logLeaders])), (oT_quarters, .inl (cI, 10, .inl T_quarters)), (oT_led, .inl (cI, 16, .inl T_led)), (oT_logDays, .inl (cI, 60, .inl T_logDays)), (oT_logMinutes, .inl (cI, 60, .inl T_logMinutes)), (oT_logLeaders, .inl (cI, 60, .inl T_logLeaders)), (oa1, .inr (0, [.int a1_minutes, .ref oa1_held, .ref oa1_quarters, .ref oa1_led, .ref oa1_logDays, .ref oa1_logMinutes, .ref oa1_logLeaders])), (oa1_quarters, .inl (cI, 10, .inl a1_quarters)), (oa1_led, .inl (cI, 16, .inl a1_led)), (oa1_logDays, .inl (cI, 60, .inl a1_logDays)), (oa1_logMinutes, .inl (cI, 60, .inl a1_logMinutes)), (oa1_logLeaders, .inl (cI, 60, .inl a1_logLeaders))] rfl rfl rfl rfl (by decide) rfl (fun _ => rfl) rfl hl.1 rfl (lv_room (Nat.le_of_ble_eq_true rfl)) dX0_copyFrom_16 (fun u H locs hw hwd => ?_)
  obtain ⟨T_held1, rfl⟩ : ∃ z, z = u := ⟨_, rfl⟩
  try dsimp only at hw
  replace hwd : wd D (va_A (ww_X0_copyFrom cI cC oT oT_held oT_quarters oT_led oT_logDays oT_logMinutes oT_logLeaders oa1 oa1_held oa1_quarters oa1_led oa1_logDays oa1_logMinutes oa1_logLeaders T_minutes T_held T_quarters T_led T_logDays T_logMinutes T_logLeaders a1_minutes a1_held a1_quarters a1_led a1_logDays a1_logMinutes a1_logLeaders) s.heap.size) s (ww_X0_copyFrom cI cC oT oT_held oT_quarters oT_led oT_logDays oT_logMinutes oT_logLeaders oa1 oa1_held oa1_quarters oa1_led oa1_logDays oa1_logMinutes oa1_logLeaders a1_minutes T_held1 T_quarters T_led T_logDays T_logMinutes T_logLeaders a1_minutes a1_held a1_quarters a1_led a1_logDays a1_logMinutes a1_logLeaders) H locs := hwd
  refine lv_aload_n hx hb dX0_copyFrom_19 rfl (lv_at hl 1 rfl) ?_
  refine va_get (D := D) (ci := 0) (v := .ref oa1_quarters) (C := RX0) (T := TX0) (N := 7) hx hb hts ic_X0_copyFrom_X0 hown hKw.1 hwd.1 7 rfl rfl 2 (by decide) (hts (.fieldLink RX0 15 "DrillWardens$Drills" "quarters" "[I") (List.mem_of_getElem? (i := 3) rfl)) (fun _ h9 => h9) rfl dX0_copyFrom_20 ?_
  refine lv_aload_n hx hb dX0_copyFrom_23 rfl (lv_at hl 0 rfl) ?_
  refine va_get (D := D) (ci := 0) (v := .ref oT_quarters) (C := RX0) (T := TX0) (N := 7) hx hb hts ic_X0_copyFrom_X0 hown hKw.1 hwd.1 0 rfl rfl 2 (by decide) (hts (.fieldLink RX0 15 "DrillWardens$Drills" "quarters" "[I") (List.mem_of_getElem? (i := 3) rfl)) (fun _ h9 => h9) rfl dX0_copyFrom_24 ?_
  refine kcNv (W1 := (fun u => (ww_X0_copyFrom cI cC oT oT_held oT_quarters oT_led oT_logDays oT_logMinutes oT_logLeaders oa1 oa1_held oa1_quarters oa1_led oa1_logDays oa1_logMinutes oa1_logLeaders a1_minutes T_held1 u T_led T_logDays T_logMinutes T_logLeaders a1_minutes a1_held a1_quarters a1_led a1_logDays a1_logMinutes a1_logLeaders))) (rest := []) (As := [.ref oa1_quarters, .ref oT_quarters]) ⟨Nat.le_of_ble_eq_true rfl, Nat.le_of_ble_eq_true rfl⟩ ⟨hx, hb, hml, hown, hts⟩ (c_X6_copy l 10 oa1_quarters oT_quarters H.size a1_quarters T_quarters hw) ⟨va_cnB 2 hts gX0_copyFrom_X6_copy_n34 rfl rfl rfl (nwm_3 hKw.2) (hts (.initialized RX6) (List.mem_of_getElem? (i := 9) rfl)) hd_X6_copy ⟨Nat.le_of_ble_eq_true rfl, Nat.le_of_ble_eq_true rfl⟩, hts (.static yX6_copy) (List.mem_of_getElem? (i := 8) rfl), trivial⟩ hKw hA hwd [9, 2] [0, 1, 3, 4, 5, 6, 7, 8, 10, 11, 12, 13] [0, 1, 13, 2, 3, 4, 5, 6, 7, 12, 8, 9, 10, 11] [(oT, .inr (0, [.int a1_minutes, .ref oT_held, .ref oT_quarters, .ref oT_led, .ref oT_logDays, .ref oT_logMinutes, .ref oT_logLeaders])), (oT_held, .inl (cI, 10, .inl T_held1)), (oT_led, .inl (cI, 16, .inl T_led)), (oT_logDays, .inl (cI, 60, .inl T_logDays)), (oT_logMinutes, .inl (cI, 60, .inl T_logMinutes)), (oT_logLeaders, .inl (cI, 60, .inl T_logLeaders)), (oa1, .inr (0, [.int a1_minutes, .ref oa1_held, .ref oa1_quarters, .ref oa1_led, .ref oa1_logDays, .ref oa1_logMinutes, .ref oa1_logLeaders])), (oa1_held, .inl (cI, 10, .inl a1_held)), (oa1_led, .inl (cI, 16, .inl a1_led)), (oa1_logDays, .inl (cI, 60, .inl a1_logDays)), (oa1_logMinutes, .inl (cI, 60, .inl a1_logMinutes)), (oa1_logLeaders, .inl (cI, 60, .inl a1_logLeaders))] rfl rfl rfl rfl (by decide) rfl (fun _ => rfl) rfl hl.1 rfl (lv_room (Nat.le_of_ble_eq_true rfl)) dX0_copyFrom_27 (fun u H locs hw hwd => ?_)
  obtain ⟨T_quarters2, rfl⟩ : ∃ z, z = u := ⟨_, rfl⟩
  try dsimp only at hw
  replace hwd : wd D (va_A (ww_X0_copyFrom cI cC oT oT_held oT_quarters oT_led oT_logDays oT_logMinutes oT_logLeaders oa1 oa1_held oa1_quarters oa1_led oa1_logDays oa1_logMinutes oa1_logLeaders T_minutes T_held T_quarters T_led T_logDays T_logMinutes T_logLeaders a1_minutes a1_held a1_quarters a1_led a1_logDays a1_logMinutes a1_logLeaders) s.heap.size) s (ww_X0_copyFrom cI cC oT oT_held oT_quarters oT_led oT_logDays oT_logMinutes oT_logLeaders oa1 oa1_held oa1_quarters oa1_led oa1_logDays oa1_logMinutes oa1_logLeaders a1_minutes T_held1 T_quarters2 T_led T_logDays T_logMinutes T_logLeaders a1_minutes a1_held a1_quarters a1_led a1_logDays a1_logMinutes a1_logLeaders) H locs := hwd
  refine lv_aload_n hx hb dX0_copyFrom_30 rfl (lv_at hl 1 rfl) ?_
  refine va_get (D := D) (ci := 0) (v := .ref oa1_led) (C := RX0) (T := TX0) (N := 7) hx hb hts ic_X0_copyFrom_X0 hown hKw.1 hwd.1 7 rfl rfl 3 (by decide) (hts (.fieldLink RX0 18 "DrillWardens$Drills" "led" "[I") (List.mem_of_getElem? (i := 4) rfl)) (fun _ h9 => h9) rfl dX0_copyFrom_31 ?_
  refine lv_aload_n hx hb dX0_copyFrom_34 rfl (lv_at hl 0 rfl) ?_
  refine va_get (D := D) (ci := 0) (v := .ref oT_led) (C := RX0) (T := TX0) (N := 7) hx hb hts ic_X0_copyFrom_X0 hown hKw.1 hwd.1 0 rfl rfl 3 (by decide) (hts (.fieldLink RX0 18 "DrillWardens$Drills" "led" "[I") (List.mem_of_getElem? (i := 4) rfl)) (fun _ h9 => h9) rfl dX0_copyFrom_35 ?_
  refine kcNv (W1 := (fun u => (ww_X0_copyFrom cI cC oT oT_held oT_quarters oT_led oT_logDays oT_logMinutes oT_logLeaders oa1 oa1_held oa1_quarters oa1_led oa1_logDays oa1_logMinutes oa1_logLeaders a1_minutes T_held1 T_quarters2 u T_logDays T_logMinutes T_logLeaders a1_minutes a1_held a1_quarters a1_led a1_logDays a1_logMinutes a1_logLeaders))) (rest := []) (As := [.ref oa1_led, .ref oT_led]) ⟨Nat.le_of_ble_eq_true rfl, Nat.le_of_ble_eq_true rfl⟩ ⟨hx, hb, hml, hown, hts⟩ (c_X6_copy l 16 oa1_led oT_led H.size a1_led T_led hw) ⟨va_cnB 2 hts gX0_copyFrom_X6_copy_n34 rfl rfl rfl (nwm_3 hKw.2) (hts (.initialized RX6) (List.mem_of_getElem? (i := 9) rfl)) hd_X6_copy ⟨Nat.le_of_ble_eq_true rfl, Nat.le_of_ble_eq_true rfl⟩, hts (.static yX6_copy) (List.mem_of_getElem? (i := 8) rfl), trivial⟩ hKw hA hwd [10, 3] [0, 1, 2, 4, 5, 6, 7, 8, 9, 11, 12, 13] [0, 1, 2, 13, 3, 4, 5, 6, 7, 8, 12, 9, 10, 11] [(oT, .inr (0, [.int a1_minutes, .ref oT_held, .ref oT_quarters, .ref oT_led, .ref oT_logDays, .ref oT_logMinutes, .ref oT_logLeaders])), (oT_held, .inl (cI, 10, .inl T_held1)), (oT_quarters, .inl (cI, 10, .inl T_quarters2)), (oT_logDays, .inl (cI, 60, .inl T_logDays)), (oT_logMinutes, .inl (cI, 60, .inl T_logMinutes)), (oT_logLeaders, .inl (cI, 60, .inl T_logLeaders)), (oa1, .inr (0, [.int a1_minutes, .ref oa1_held, .ref oa1_quarters, .ref oa1_led, .ref oa1_logDays, .ref oa1_logMinutes, .ref oa1_logLeaders])), (oa1_held, .inl (cI, 10, .inl a1_held)), (oa1_quarters, .inl (cI, 10, .inl a1_quarters)), (oa1_logDays, .inl (cI, 60, .inl a1_logDays)), (oa1_logMinutes, .inl (cI, 60, .inl a1_logMinutes)), (oa1_logLeaders, .inl (cI, 60, .inl a1_logLeaders))] rfl rfl rfl rfl (by decide) rfl (fun _ => rfl) rfl hl.1 rfl (lv_room (Nat.le_of_ble_eq_true rfl)) dX0_copyFrom_38 (fun u H locs hw hwd => ?_)
  obtain ⟨T_led3, rfl⟩ : ∃ z, z = u := ⟨_, rfl⟩
  try dsimp only at hw
  replace hwd : wd D (va_A (ww_X0_copyFrom cI cC oT oT_held oT_quarters oT_led oT_logDays oT_logMinutes oT_logLeaders oa1 oa1_held oa1_quarters oa1_led oa1_logDays oa1_logMinutes oa1_logLeaders T_minutes T_held T_quarters T_led T_logDays T_logMinutes T_logLeaders a1_minutes a1_held a1_quarters a1_led a1_logDays a1_logMinutes a1_logLeaders) s.heap.size) s (ww_X0_copyFrom cI cC oT oT_held oT_quarters oT_led oT_logDays oT_logMinutes oT_logLeaders oa1 oa1_held oa1_quarters oa1_led oa1_logDays oa1_logMinutes oa1_logLeaders a1_minutes T_held1 T_quarters2 T_led3 T_logDays T_logMinutes T_logLeaders a1_minutes a1_held a1_quarters a1_led a1_logDays a1_logMinutes a1_logLeaders) H locs := hwd
  refine lv_aload_n hx hb dX0_copyFrom_41 rfl (lv_at hl 1 rfl) ?_
  refine va_get (D := D) (ci := 0) (v := .ref oa1_logDays) (C := RX0) (T := TX0) (N := 7) hx hb hts ic_X0_copyFrom_X0 hown hKw.1 hwd.1 7 rfl rfl 4 (by decide) (hts (.fieldLink RX0 21 "DrillWardens$Drills" "logDays" "[I") (List.mem_of_getElem? (i := 5) rfl)) (fun _ h9 => h9) rfl dX0_copyFrom_42 ?_
  refine lv_aload_n hx hb dX0_copyFrom_45 rfl (lv_at hl 0 rfl) ?_
  refine va_get (D := D) (ci := 0) (v := .ref oT_logDays) (C := RX0) (T := TX0) (N := 7) hx hb hts ic_X0_copyFrom_X0 hown hKw.1 hwd.1 0 rfl rfl 4 (by decide) (hts (.fieldLink RX0 21 "DrillWardens$Drills" "logDays" "[I") (List.mem_of_getElem? (i := 5) rfl)) (fun _ h9 => h9) rfl dX0_copyFrom_46 ?_
  refine kcNv (W1 := (fun u => (ww_X0_copyFrom cI cC oT oT_held oT_quarters oT_led oT_logDays oT_logMinutes oT_logLeaders oa1 oa1_held oa1_quarters oa1_led oa1_logDays oa1_logMinutes oa1_logLeaders a1_minutes T_held1 T_quarters2 T_led3 u T_logMinutes T_logLeaders a1_minutes a1_held a1_quarters a1_led a1_logDays a1_logMinutes a1_logLeaders))) (rest := []) (As := [.ref oa1_logDays, .ref oT_logDays]) ⟨Nat.le_of_ble_eq_true rfl, Nat.le_of_ble_eq_true rfl⟩ ⟨hx, hb, hml, hown, hts⟩ (c_X6_copy l 60 oa1_logDays oT_logDays H.size a1_logDays T_logDays hw) ⟨va_cnB 2 hts gX0_copyFrom_X6_copy_n34 rfl rfl rfl (nwm_3 hKw.2) (hts (.initialized RX6) (List.mem_of_getElem? (i := 9) rfl)) hd_X6_copy ⟨Nat.le_of_ble_eq_true rfl, Nat.le_of_ble_eq_true rfl⟩, hts (.static yX6_copy) (List.mem_of_getElem? (i := 8) rfl), trivial⟩ hKw hA hwd [11, 4] [0, 1, 2, 3, 5, 6, 7, 8, 9, 10, 12, 13] [0, 1, 2, 3, 13, 4, 5, 6, 7, 8, 9, 12, 10, 11] [(oT, .inr (0, [.int a1_minutes, .ref oT_held, .ref oT_quarters, .ref oT_led, .ref oT_logDays, .ref oT_logMinutes, .ref oT_logLeaders])), (oT_held, .inl (cI, 10, .inl T_held1)), (oT_quarters, .inl (cI, 10, .inl T_quarters2)), (oT_led, .inl (cI, 16, .inl T_led3)), (oT_logMinutes, .inl (cI, 60, .inl T_logMinutes)), (oT_logLeaders, .inl (cI, 60, .inl T_logLeaders)), (oa1, .inr (0, [.int a1_minutes, .ref oa1_held, .ref oa1_quarters, .ref oa1_led, .ref oa1_logDays, .ref oa1_logMinutes, .ref oa1_logLeaders])), (oa1_held, .inl (cI, 10, .inl a1_held)), (oa1_quarters, .inl (cI, 10, .inl a1_quarters)), (oa1_led, .inl (cI, 16, .inl a1_led)), (oa1_logMinutes, .inl (cI, 60, .inl a1_logMinutes)), (oa1_logLeaders, .inl (cI, 60, .inl a1_logLeaders))] rfl rfl rfl rfl (by decide) rfl (fun _ => rfl) rfl hl.1 rfl (lv_room (Nat.le_of_ble_eq_true rfl)) dX0_copyFrom_49 (fun u H locs hw hwd => ?_)
  obtain ⟨T_logDays4, rfl⟩ : ∃ z, z = u := ⟨_, rfl⟩
  try dsimp only at hw
  replace hwd : wd D (va_A (ww_X0_copyFrom cI cC oT oT_held oT_quarters oT_led oT_logDays oT_logMinutes oT_logLeaders oa1 oa1_held oa1_quarters oa1_led oa1_logDays oa1_logMinutes oa1_logLeaders T_minutes T_held T_quarters T_led T_logDays T_logMinutes T_logLeaders a1_minutes a1_held a1_quarters a1_led a1_logDays a1_logMinutes a1_logLeaders) s.heap.size) s (ww_X0_copyFrom cI cC oT oT_held oT_quarters oT_led oT_logDays oT_logMinutes oT_logLeaders oa1 oa1_held oa1_quarters oa1_led oa1_logDays oa1_logMinutes oa1_logLeaders a1_minutes T_held1 T_quarters2 T_led3 T_logDays4 T_logMinutes T_logLeaders a1_minutes a1_held a1_quarters a1_led a1_logDays a1_logMinutes a1_logLeaders) H locs := hwd
  refine lv_aload_n hx hb dX0_copyFrom_52 rfl (lv_at hl 1 rfl) ?_
  refine va_get (D := D) (ci := 0) (v := .ref oa1_logMinutes) (C := RX0) (T := TX0) (N := 7) hx hb hts ic_X0_copyFrom_X0 hown hKw.1 hwd.1 7 rfl rfl 5 (by decide) (hts (.fieldLink RX0 24 "DrillWardens$Drills" "logMinutes" "[I") (List.mem_of_getElem? (i := 6) rfl)) (fun _ h9 => h9) rfl dX0_copyFrom_53 ?_
  refine lv_aload_n hx hb dX0_copyFrom_56 rfl (lv_at hl 0 rfl) ?_
  refine va_get (D := D) (ci := 0) (v := .ref oT_logMinutes) (C := RX0) (T := TX0) (N := 7) hx hb hts ic_X0_copyFrom_X0 hown hKw.1 hwd.1 0 rfl rfl 5 (by decide) (hts (.fieldLink RX0 24 "DrillWardens$Drills" "logMinutes" "[I") (List.mem_of_getElem? (i := 6) rfl)) (fun _ h9 => h9) rfl dX0_copyFrom_57 ?_
  refine kcNv (W1 := (fun u => (ww_X0_copyFrom cI cC oT oT_held oT_quarters oT_led oT_logDays oT_logMinutes oT_logLeaders oa1 oa1_held oa1_quarters oa1_led oa1_logDays oa1_logMinutes oa1_logLeaders a1_minutes T_held1 T_quarters2 T_led3 T_logDays4 u T_logLeaders a1_minutes a1_held a1_quarters a1_led a1_logDays a1_logMinutes a1_logLeaders))) (rest := []) (As := [.ref oa1_logMinutes, .ref oT_logMinutes]) ⟨Nat.le_of_ble_eq_true rfl, Nat.le_of_ble_eq_true rfl⟩ ⟨hx, hb, hml, hown, hts⟩ (c_X6_copy l 60 oa1_logMinutes oT_logMinutes H.size a1_logMinutes T_logMinutes hw) ⟨va_cnB 2 hts gX0_copyFrom_X6_copy_n34 rfl rfl rfl (nwm_3 hKw.2) (hts (.initialized RX6) (List.mem_of_getElem? (i := 9) rfl)) hd_X6_copy ⟨Nat.le_of_ble_eq_true rfl, Nat.le_of_ble_eq_true rfl⟩, hts (.static yX6_copy) (List.mem_of_getElem? (i := 8) rfl), trivial⟩ hKw hA hwd [12, 5] [0, 1, 2, 3, 4, 6, 7, 8, 9, 10, 11, 13] [0, 1, 2, 3, 4, 13, 5, 6, 7, 8, 9, 10, 12, 11] [(oT, .inr (0, [.int a1_minutes, .ref oT_held, .ref oT_quarters, .ref oT_led, .ref oT_logDays, .ref oT_logMinutes, .ref oT_logLeaders])), (oT_held, .inl (cI, 10, .inl T_held1)), (oT_quarters, .inl (cI, 10, .inl T_quarters2)), (oT_led, .inl (cI, 16, .inl T_led3)), (oT_logDays, .inl (cI, 60, .inl T_logDays4)), (oT_logLeaders, .inl (cI, 60, .inl T_logLeaders)), (oa1, .inr (0, [.int a1_minutes, .ref oa1_held, .ref oa1_quarters, .ref oa1_led, .ref oa1_logDays, .ref oa1_logMinutes, .ref oa1_logLeaders])), (oa1_held, .inl (cI, 10, .inl a1_held)), (oa1_quarters, .inl (cI, 10, .inl a1_quarters)), (oa1_led, .inl (cI, 16, .inl a1_led)), (oa1_logDays, .inl (cI, 60, .inl a1_logDays)), (oa1_logLeaders, .inl (cI, 60, .inl a1_logLeaders))] rfl rfl rfl rfl (by decide) rfl (fun _ => rfl) rfl hl.1 rfl (lv_room (Nat.le_of_ble_eq_true rfl)) dX0_copyFrom_60 (fun u H locs hw hwd => ?_)
  obtain ⟨T_logMinutes5, rfl⟩ : ∃ z, z = u := ⟨_, rfl⟩
  try dsimp only at hw
  replace hwd : wd D (va_A (ww_X0_copyFrom cI cC oT oT_held oT_quarters oT_led oT_logDays oT_logMinutes oT_logLeaders oa1 oa1_held oa1_quarters oa1_led oa1_logDays oa1_logMinutes oa1_logLeaders T_minutes T_held T_quarters T_led T_logDays T_logMinutes T_logLeaders a1_minutes a1_held a1_quarters a1_led a1_logDays a1_logMinutes a1_logLeaders) s.heap.size) s (ww_X0_copyFrom cI cC oT oT_held oT_quarters oT_led oT_logDays oT_logMinutes oT_logLeaders oa1 oa1_held oa1_quarters oa1_led oa1_logDays oa1_logMinutes oa1_logLeaders a1_minutes T_held1 T_quarters2 T_led3 T_logDays4 T_logMinutes5 T_logLeaders a1_minutes a1_held a1_quarters a1_led a1_logDays a1_logMinutes a1_logLeaders) H locs := hwd
  refine lv_aload_n hx hb dX0_copyFrom_63 rfl (lv_at hl 1 rfl) ?_
  refine va_get (D := D) (ci := 0) (v := .ref oa1_logLeaders) (C := RX0) (T := TX0) (N := 7) hx hb hts ic_X0_copyFrom_X0 hown hKw.1 hwd.1 7 rfl rfl 6 (by decide) (hts (.fieldLink RX0 27 "DrillWardens$Drills" "logLeaders" "[I") (List.mem_of_getElem? (i := 7) rfl)) (fun _ h9 => h9) rfl dX0_copyFrom_64 ?_
  refine lv_aload_n hx hb dX0_copyFrom_67 rfl (lv_at hl 0 rfl) ?_
  refine va_get (D := D) (ci := 0) (v := .ref oT_logLeaders) (C := RX0) (T := TX0) (N := 7) hx hb hts ic_X0_copyFrom_X0 hown hKw.1 hwd.1 0 rfl rfl 6 (by decide) (hts (.fieldLink RX0 27 "DrillWardens$Drills" "logLeaders" "[I") (List.mem_of_getElem? (i := 7) rfl)) (fun _ h9 => h9) rfl dX0_copyFrom_68 ?_
  refine kcNv (W1 := (fun u => (ww_X0_copyFrom cI cC oT oT_held oT_quarters oT_led oT_logDays oT_logMinutes oT_logLeaders oa1 oa1_held oa1_quarters oa1_led oa1_logDays oa1_logMinutes oa1_logLeaders a1_minutes T_held1 T_quarters2 T_led3 T_logDays4 T_logMinutes5 u a1_minutes a1_held a1_quarters a1_led a1_logDays a1_logMinutes a1_logLeaders))) (rest := []) (As := [.ref oa1_logLeaders, .ref oT_logLeaders]) ⟨Nat.le_of_ble_eq_true rfl, Nat.le_of_ble_eq_true rfl⟩ ⟨hx, hb, hml, hown, hts⟩ (c_X6_copy l 60 oa1_logLeaders oT_logLeaders H.size a1_logLeaders T_logLeaders hw) ⟨va_cnB 2 hts gX0_copyFrom_X6_copy_n34 rfl rfl rfl (nwm_3 hKw.2) (hts (.initialized RX6) (List.mem_of_getElem? (i := 9) rfl)) hd_X6_copy ⟨Nat.le_of_ble_eq_true rfl, Nat.le_of_ble_eq_true rfl⟩, hts (.static yX6_copy) (List.mem_of_getElem? (i := 8) rfl), trivial⟩ hKw hA hwd [13, 6] [0, 1, 2, 3, 4, 5, 7, 8, 9, 10, 11, 12] [0, 1, 2, 3, 4, 5, 13, 6, 7, 8, 9, 10, 11, 12] [(oT, .inr (0, [.int a1_minutes, .ref oT_held, .ref oT_quarters, .ref oT_led, .ref oT_logDays, .ref oT_logMinutes, .ref oT_logLeaders])), (oT_held, .inl (cI, 10, .inl T_held1)), (oT_quarters, .inl (cI, 10, .inl T_quarters2)), (oT_led, .inl (cI, 16, .inl T_led3)), (oT_logDays, .inl (cI, 60, .inl T_logDays4)), (oT_logMinutes, .inl (cI, 60, .inl T_logMinutes5)), (oa1, .inr (0, [.int a1_minutes, .ref oa1_held, .ref oa1_quarters, .ref oa1_led, .ref oa1_logDays, .ref oa1_logMinutes, .ref oa1_logLeaders])), (oa1_held, .inl (cI, 10, .inl a1_held)), (oa1_quarters, .inl (cI, 10, .inl a1_quarters)), (oa1_led, .inl (cI, 16, .inl a1_led)), (oa1_logDays, .inl (cI, 60, .inl a1_logDays)), (oa1_logMinutes, .inl (cI, 60, .inl a1_logMinutes))] rfl rfl rfl rfl (by decide) rfl (fun _ => rfl) rfl hl.1 rfl (lv_room (Nat.le_of_ble_eq_true rfl)) dX0_copyFrom_71 (fun u H locs hw hwd => ?_)
  obtain ⟨T_logLeaders6, rfl⟩ : ∃ z, z = u := ⟨_, rfl⟩
  try dsimp only at hw
  replace hwd : wd D (va_A (ww_X0_copyFrom cI cC oT oT_held oT_quarters oT_led oT_logDays oT_logMinutes oT_logLeaders oa1 oa1_held oa1_quarters oa1_led oa1_logDays oa1_logMinutes oa1_logLeaders T_minutes T_held T_quarters T_led T_logDays T_logMinutes T_logLeaders a1_minutes a1_held a1_quarters a1_led a1_logDays a1_logMinutes a1_logLeaders) s.heap.size) s (ww_X0_copyFrom cI cC oT oT_held oT_quarters oT_led oT_logDays oT_logMinutes oT_logLeaders oa1 oa1_held oa1_quarters oa1_led oa1_logDays oa1_logMinutes oa1_logLeaders a1_minutes T_held1 T_quarters2 T_led3 T_logDays4 T_logMinutes5 T_logLeaders6 a1_minutes a1_held a1_quarters a1_led a1_logDays a1_logMinutes a1_logLeaders) H locs := hwd
  exact HR a1_minutes T_held1 T_quarters2 T_led3 T_logDays4 T_logMinutes5 T_logLeaders6 hw hwd dX0_copyFrom_74
abbrev ww_X0_total (cI cC : ClassId) (oT oT_held oT_quarters oT_led oT_logDays oT_logMinutes oT_logLeaders : Nat) (T_minutes : Int32) (T_held : Nat → Int32) : va_W := [(oT, .inr (0, [.int T_minutes, .ref oT_held, .ref oT_quarters, .ref oT_led, .ref oT_logDays, .ref oT_logMinutes, .ref oT_logLeaders])), (oT_held, .inl (cI, 10, .inl T_held))]
abbrev rm_X0_total : Room := { frames := 0, cells := 0, slots := 0, locals := 0 }
theorem ic_X0_total_X0 : ∀ w ∈ u_ws RX0 TX0 7, w ∈ wsX0_total := by
  intro w h
  simp only [wsX0_total, List.mem_cons, List.mem_append]
  simp only [h, or_true, true_or]
def wb_X0_total_4 (T_held : Nat → Int32) (K_25 : Int32 → Prop) : Nat → Int32 → Int32 → Prop
  | 0, _, _ => False
  | n + 1, x1, x2 => (((nI 10) ≤ x2 → K_25 x1) ∧ (¬ (nI 10) ≤ x2 → vp_in x2 10 ∧ ∀ x1_2, x1_2 = x1 + (T_held x2.toNatClampNeg) → ∀ x2_3, x2_3 = x2 + (nI 1) → wb_X0_total_4 T_held K_25 n x1_2 x2_3))
set_option maxRecDepth 100000 in
set_option maxHeartbeats 4000000 in
theorem blk_X0_total_4 {p : Program} {l : Launch} {e : Env} {s : State} {m : MethodId} {args : Array Value} {below : List Frame} {meth : Method} {c : Code} {D : va_G} {cI cC cR : ClassId} {A : Nat → Prop} {Z : State → Prop} (CX : cx cX0_total (some .int) 3 RX0 wsX0_total p m meth c s args D cI cC cR A) (oT oT_held oT_quarters oT_led oT_logDays oT_logMinutes oT_logLeaders : Nat) (T_minutes : Int32) (T_held : Nat → Int32) {K_25 : Int32 → Prop} {Q : Int32 → Prop} (HR : ∀ (r : Int32) {H : Heap} {locs : List Loc} {ls : Array Slot} {pc : Nat}, Q r → wd D A s (ww_X0_total cI cC oT oT_held oT_quarters oT_led oT_logDays oT_logMinutes oT_logLeaders T_minutes T_held) H locs → decode cX0_total pc = .ok (.ireturn, 1) → W p l e (headSpec wsX0_total rm_X0_total).room s m args below meth c H locs 0 0 Z (F0 m pc ls [.int r])) (HK_25 : ∀ (x1y : Int32), K_25 x1y → ∀ (H : Heap) (locs : List Loc) (ls : Array Slot), wd D A s (ww_X0_total cI cC oT oT_held oT_quarters oT_led oT_logDays oT_logMinutes oT_logLeaders T_minutes T_held) H locs → lv_has ls 3 [(1, .int x1y)] → W p l e (headSpec wsX0_total rm_X0_total).room s m args below meth c H locs 0 0 Z (F0 m 25 ls [])) : ∀ (n : Nat) (x1 : Int32) (x2 : Int32), wb_X0_total_4 T_held K_25 n x1 x2 → ∀ (H : Heap) (locs : List Loc) (ls : Array Slot), wd D A s (ww_X0_total cI cC oT oT_held oT_quarters oT_led oT_logDays oT_logMinutes oT_logLeaders T_minutes T_held) H locs → lv_has ls 3 [(0, .ref oT), (1, .int x1), (2, .int x2)] → W p l e (headSpec wsX0_total rm_X0_total).room s m args below meth c H locs 0 0 Z (F0 m 4 ls []) := by
  obtain ⟨hx, hb, hr, hml, hts, hown, hlocks, hKw, hA⟩ := id CX
  intro n
  induction n with
  | zero => intro x1 x2 hw; exact False.elim hw
  | succ n ih =>
    intro x1 x2 hw H locs ls hwd hl
    rw [wb_X0_total_4] at hw
    refine lv_iload_n hx hb dX0_total_4 rfl (lv_at hl 2 rfl) ?_
    refine lv_bipush (v := (nI 10)) hx hb dX0_total_5 rfl ?_
    refine lv_icmp_ge (tgt := 25) hx hb dX0_total_7 (by decide) (fun c1 => ?_) (fun c1 => ?_)
    · replace hw := hw.1 c1
      exact HK_25 x1 hw _ _ _ hwd (lv_sub hl [1] rfl)
    · replace hw := hw.2 c1
      refine lv_iload_n hx hb dX0_total_10 rfl (lv_at hl 1 rfl) ?_
      refine lv_aload_n hx hb dX0_total_11 rfl (lv_at hl 0 rfl) ?_
      refine va_get (D := D) (ci := 0) (v := .ref oT_held) (C := RX0) (T := TX0) (N := 7) hx hb hts ic_X0_total_X0 hown hKw.1 hwd.1 0 rfl rfl 1 (by decide) (hts (.fieldLink RX0 9 "DrillWardens$Drills" "held" "[I") (List.mem_of_getElem? (i := 1) rfl)) (fun _ h9 => h9) rfl dX0_total_12 ?_
      refine lv_iload_n hx hb dX0_total_15 rfl (lv_at hl 2 rfl) ?_
      refine va_iald hx hb hKw.1 hwd.1 1 0 rfl rfl hw.1 dX0_total_16 ?_
      replace hw := hw.2
      refine lv_iadd hx hb dX0_total_17 ?_
      refine lv_topi (fun x1_2 e_x1_2 => ?_)
      replace hw := hw x1_2 e_x1_2
      refine lv_istore_n (lv' := [(1, .int x1_2), (0, .ref oT), (2, .int x2)]) hx hb dX0_total_18 rfl hl (by decide) rfl (fun ls hl => ?_)
      obtain ⟨x2_3, e_x2_3⟩ : ∃ y : Int32, y = x2 + (nI 1) := ⟨_, rfl⟩
      replace hw := hw x2_3 e_x2_3
      refine lv_iinc (v := x2_3) (lv' := [(2, .int x2_3), (1, .int x1_2), (0, .ref oT)]) hx hb dX0_total_19 hl (k := 2) rfl (by rw [e_x2_3]; rfl) (by decide) rfl (fun ls hl => ?_)
      refine lv_goto (tgt := 4) hx hb dX0_total_22 (by decide) ?_
      exact ih x1_2 x2_3 hw _ _ _ hwd (lv_sub hl [2, 1, 0] rfl)
def wp_X0_total (T_held : Nat → Int32) (Q : Int32 → Prop) : Prop := (∃ n1, wb_X0_total_4 T_held (fun x1_2 => Q x1_2) n1 (nI 0) (nI 0))
set_option maxRecDepth 100000 in
set_option maxHeartbeats 4000000 in
theorem c_X0_total (l : Launch) {D : va_G} {cI cC cR : ClassId} (oT oT_held oT_quarters oT_led oT_logDays oT_logMinutes oT_logLeaders : Nat) (sz : Nat) (T_minutes : Int32) (T_held : Nat → Int32) {Q : Int32 → Prop} (hw : wp_X0_total T_held Q) : Met l yX0_total wsX0_total rm_X0_total (PcW D cI cC cR [.ref oT] (ww_X0_total cI cC oT oT_held oT_quarters oT_led oT_logDays oT_logMinutes oT_logLeaders T_minutes T_held) sz) (QiW D (fun (r : Int32) (u : Unit) => Q r ) (fun u => (ww_X0_total cI cC oT oT_held oT_quarters oT_led oT_logDays oT_logMinutes oT_logLeaders T_minutes T_held)) (ww_X0_total cI cC oT oT_held oT_quarters oT_led oT_logDays oT_logMinutes oT_logLeaders T_minutes T_held) sz) 0 0 (va_A (ww_X0_total cI cC oT oT_held oT_quarters oT_led oT_logDays oT_logMinutes oT_logLeaders T_minutes T_held) sz) := by
  refine Met.ofW (cc := cX0_total) (maxL := 3) (ret := (some .int)) (by decide) rfl ?_
  intro p e s m args below meth c s₁ B hml hv
  obtain ⟨rfl, hsz, hP, hKw, hD0⟩ := hv
  have hlocks := B.notSynchronized
  subst hsz
  have hD := hD0.self (sz := s.heap.size)
  have CX : cx cX0_total (some .int) 3 RX0 wsX0_total p m meth c s ([.ref oT] : List Value).toArray D cI cC cR (va_A (ww_X0_total cI cC oT oT_held oT_quarters oT_led oT_logDays oT_logMinutes oT_logLeaders T_minutes T_held) s.heap.size) := ⟨B.exec, B.bytes, B.returns, hml, atoms_spec (ws := wsX0_total) B.pre, findClass_of_methodNamed B.named, hlocks, hKw, fun q h => Or.inr h⟩
  obtain ⟨hx, hb, hr, -, hts, hown, -, -, hA⟩ := id CX
  have hwd : wd D (va_A (ww_X0_total cI cC oT oT_held oT_quarters oT_led oT_logDays oT_logMinutes oT_logLeaders T_minutes T_held) s.heap.size) s (ww_X0_total cI cC oT oT_held oT_quarters oT_led oT_logDays oT_logMinutes oT_logLeaders T_minutes T_held) s.heap [] := ⟨hP, hD, va_S.rf⟩
  have hl := lv_entry ([.ref oT]) (n := 3) (Nat.le_of_ble_eq_true rfl)
  rw [lg_entry_eq]
  generalize (lg_sl ([.ref oT]) ++ List.replicate (3 - (lg_sl ([.ref oT])).length) Slot.unset).toArray = ls at hl ⊢
  have hl : lv_has ls 3 [(0, .ref oT)] := hl
  have HR : ∀ (r : Int32) {H : Heap} {locs : List Loc} {ls : Array Slot} {pc : Nat}, Q r → wd D (va_A (ww_X0_total cI cC oT oT_held oT_quarters oT_led oT_logDays oT_logMinutes oT_logLeaders T_minutes T_held) s.heap.size) s (ww_X0_total cI cC oT oT_held oT_quarters oT_led oT_logDays oT_logMinutes oT_logLeaders T_minutes T_held) H locs → decode cX0_total pc = .ok (.ireturn, 1) → W p l e (headSpec wsX0_total rm_X0_total).room s m ([.ref oT] : List Value).toArray below meth c H locs 0 0 (MQ below (QiW D (fun (r : Int32) (u : Unit) => Q r ) (fun u => (ww_X0_total cI cC oT oT_held oT_quarters oT_led oT_logDays oT_logMinutes oT_logLeaders T_minutes T_held)) (ww_X0_total cI cC oT oT_held oT_quarters oT_led oT_logDays oT_logMinutes oT_logLeaders T_minutes T_held) s.heap.size) ([.ref oT] : List Value).toArray s 0 0 (va_A (ww_X0_total cI cC oT oT_held oT_quarters oT_led oT_logDays oT_logMinutes oT_logLeaders T_minutes T_held) s.heap.size)) (F0 m pc ls [.int r]) := by
    intro r H locs ls pc hq hw9 hd9
    exact W.iret (v := r) hx hb hr (fun t ht hW => ⟨⟨r, (), rfl, hq, by rw [ht]; exact hw9.1, hw9.2.1⟩, hw9.2.2.F ht⟩) hw9.2.2.2.2 hd9
  unfold wp_X0_total at hw
  refine lv_iconst (v := (nI 0)) hx hb dX0_total_0 rfl ?_
  refine lv_istore_n (lv' := [(1, .int (nI 0)), (0, .ref oT)]) hx hb dX0_total_1 rfl hl (by decide) rfl (fun ls hl => ?_)
  refine lv_iconst (v := (nI 0)) hx hb dX0_total_2 rfl ?_
  refine lv_istore_n (lv' := [(2, .int (nI 0)), (1, .int (nI 0)), (0, .ref oT)]) hx hb dX0_total_3 rfl hl (by decide) rfl (fun ls hl => ?_)
  obtain ⟨n1, hw⟩ := hw
  refine blk_X0_total_4 (CX := CX) (oT := oT) (oT_held := oT_held) (oT_quarters := oT_quarters) (oT_led := oT_led) (oT_logDays := oT_logDays) (oT_logMinutes := oT_logMinutes) (oT_logLeaders := oT_logLeaders) (T_minutes := T_minutes) (T_held := T_held) (HR := HR) (HK_25 := fun x1_2 hw H locs ls hwd hl => ?_) n1 (nI 0) (nI 0) hw _ _ _ hwd (lv_sub hl [2, 1, 0] rfl)
  try dsimp only at hw
  refine lv_iload_n hx hb dX0_total_25 rfl (lv_at hl 0 rfl) ?_
  exact HR x1_2 hw hwd dX0_total_26
abbrev ww_X2_copyFrom (cI cC : ClassId) (oT oT_persons oT_firstDays oT_lastDays oa1 oa1_persons oa1_firstDays oa1_lastDays : Nat) (T_granted : Int32) (T_persons : Nat → Int32) (T_firstDays : Nat → Int32) (T_lastDays : Nat → Int32) (a1_granted : Int32) (a1_persons : Nat → Int32) (a1_firstDays : Nat → Int32) (a1_lastDays : Nat → Int32) : va_W := [(oT, .inr (2, [.int T_granted, .ref oT_persons, .ref oT_firstDays, .ref oT_lastDays])), (oT_persons, .inl (cI, 40, .inl T_persons)), (oT_firstDays, .inl (cI, 40, .inl T_firstDays)), (oT_lastDays, .inl (cI, 40, .inl T_lastDays)), (oa1, .inr (2, [.int a1_granted, .ref oa1_persons, .ref oa1_firstDays, .ref oa1_lastDays])), (oa1_persons, .inl (cI, 40, .inl a1_persons)), (oa1_firstDays, .inl (cI, 40, .inl a1_firstDays)), (oa1_lastDays, .inl (cI, 40, .inl a1_lastDays))]
abbrev rm_X2_copyFrom : Room := { frames := 2, cells := 0, slots := 0, locals := 81 }
theorem ic_X2_copyFrom_X2 : ∀ w ∈ u_ws RX2 TX2 4, w ∈ wsX2_copyFrom := by
  intro w h
  simp only [wsX2_copyFrom, List.mem_cons, List.mem_append]
  simp only [h, or_true, true_or]
def wp_X2_copyFrom (T_granted : Int32) (T_persons : Nat → Int32) (T_firstDays : Nat → Int32) (T_lastDays : Nat → Int32) (a1_granted : Int32) (a1_persons : Nat → Int32) (a1_firstDays : Nat → Int32) (a1_lastDays : Nat → Int32) (Q : Int32 → (Nat → Int32) → (Nat → Int32) → (Nat → Int32) → Prop) : Prop := wp_X6_copy 40 a1_persons T_persons (fun T_persons1 => wp_X6_copy 40 a1_firstDays T_firstDays (fun T_firstDays2 => wp_X6_copy 40 a1_lastDays T_lastDays (fun T_lastDays3 => Q a1_granted T_persons1 T_firstDays2 T_lastDays3)))
set_option maxRecDepth 100000 in
set_option maxHeartbeats 4000000 in
theorem c_X2_copyFrom (l : Launch) {D : va_G} {cI cC cR : ClassId} (oT oT_persons oT_firstDays oT_lastDays oa1 oa1_persons oa1_firstDays oa1_lastDays : Nat) (sz : Nat) (T_granted : Int32) (T_persons : Nat → Int32) (T_firstDays : Nat → Int32) (T_lastDays : Nat → Int32) (a1_granted : Int32) (a1_persons : Nat → Int32) (a1_firstDays : Nat → Int32) (a1_lastDays : Nat → Int32) {Q : Int32 → (Nat → Int32) → (Nat → Int32) → (Nat → Int32) → Prop} (hw : wp_X2_copyFrom T_granted T_persons T_firstDays T_lastDays a1_granted a1_persons a1_firstDays a1_lastDays Q) : Met l yX2_copyFrom wsX2_copyFrom rm_X2_copyFrom (PcW D cI cC cR [.ref oT, .ref oa1] (ww_X2_copyFrom cI cC oT oT_persons oT_firstDays oT_lastDays oa1 oa1_persons oa1_firstDays oa1_lastDays T_granted T_persons T_firstDays T_lastDays a1_granted a1_persons a1_firstDays a1_lastDays) sz) (QvW D (fun (u : Int32 × (Nat → Int32) × (Nat → Int32) × (Nat → Int32)) => Q u.1 u.2.1 u.2.2.1 u.2.2.2) (fun u => (ww_X2_copyFrom cI cC oT oT_persons oT_firstDays oT_lastDays oa1 oa1_persons oa1_firstDays oa1_lastDays (u.1) (u.2.1) (u.2.2.1) (u.2.2.2) a1_granted a1_persons a1_firstDays a1_lastDays)) (ww_X2_copyFrom cI cC oT oT_persons oT_firstDays oT_lastDays oa1 oa1_persons oa1_firstDays oa1_lastDays T_granted T_persons T_firstDays T_lastDays a1_granted a1_persons a1_firstDays a1_lastDays) sz) 0 0 (va_A (ww_X2_copyFrom cI cC oT oT_persons oT_firstDays oT_lastDays oa1 oa1_persons oa1_firstDays oa1_lastDays T_granted T_persons T_firstDays T_lastDays a1_granted a1_persons a1_firstDays a1_lastDays) sz) := by
  refine Met.ofW (cc := cX2_copyFrom) (maxL := 2) (ret := none) (by decide) rfl ?_
  intro p e s m args below meth c s₁ B hml hv
  obtain ⟨rfl, hsz, hP, hKw, hD0⟩ := hv
  have hlocks := B.notSynchronized
  subst hsz
  have hD := hD0.self (sz := s.heap.size)
  have CX : cx cX2_copyFrom none 2 RX2 wsX2_copyFrom p m meth c s ([.ref oT, .ref oa1] : List Value).toArray D cI cC cR (va_A (ww_X2_copyFrom cI cC oT oT_persons oT_firstDays oT_lastDays oa1 oa1_persons oa1_firstDays oa1_lastDays T_granted T_persons T_firstDays T_lastDays a1_granted a1_persons a1_firstDays a1_lastDays) s.heap.size) := ⟨B.exec, B.bytes, B.returns, hml, atoms_spec (ws := wsX2_copyFrom) B.pre, findClass_of_methodNamed B.named, hlocks, hKw, fun q h => Or.inr h⟩
  obtain ⟨hx, hb, hr, -, hts, hown, -, -, hA⟩ := id CX
  have hwd : wd D (va_A (ww_X2_copyFrom cI cC oT oT_persons oT_firstDays oT_lastDays oa1 oa1_persons oa1_firstDays oa1_lastDays T_granted T_persons T_firstDays T_lastDays a1_granted a1_persons a1_firstDays a1_lastDays) s.heap.size) s (ww_X2_copyFrom cI cC oT oT_persons oT_firstDays oT_lastDays oa1 oa1_persons oa1_firstDays oa1_lastDays T_granted T_persons T_firstDays T_lastDays a1_granted a1_persons a1_firstDays a1_lastDays) s.heap [] := ⟨hP, hD, va_S.rf⟩
  have hl := lv_entry ([.ref oT, .ref oa1]) (n := 2) (Nat.le_of_ble_eq_true rfl)
  rw [lg_entry_eq]
  generalize (lg_sl ([.ref oT, .ref oa1]) ++ List.replicate (2 - (lg_sl ([.ref oT, .ref oa1])).length) Slot.unset).toArray = ls at hl ⊢
  have hl : lv_has ls 2 [(0, .ref oT), (1, .ref oa1)] := hl
  have HR : ∀ (u0 : Int32) (u1 : Nat → Int32) (u2 : Nat → Int32) (u3 : Nat → Int32) {H : Heap} {locs : List Loc} {ls : Array Slot} {pc : Nat}, Q u0 u1 u2 u3 → wd D (va_A (ww_X2_copyFrom cI cC oT oT_persons oT_firstDays oT_lastDays oa1 oa1_persons oa1_firstDays oa1_lastDays T_granted T_persons T_firstDays T_lastDays a1_granted a1_persons a1_firstDays a1_lastDays) s.heap.size) s (ww_X2_copyFrom cI cC oT oT_persons oT_firstDays oT_lastDays oa1 oa1_persons oa1_firstDays oa1_lastDays u0 u1 u2 u3 a1_granted a1_persons a1_firstDays a1_lastDays) H locs → decode cX2_copyFrom pc = .ok (.return_, 1) → W p l e (headSpec wsX2_copyFrom rm_X2_copyFrom).room s m ([.ref oT, .ref oa1] : List Value).toArray below meth c H locs 0 0 (MQ below (QvW D (fun (u : Int32 × (Nat → Int32) × (Nat → Int32) × (Nat → Int32)) => Q u.1 u.2.1 u.2.2.1 u.2.2.2) (fun u => (ww_X2_copyFrom cI cC oT oT_persons oT_firstDays oT_lastDays oa1 oa1_persons oa1_firstDays oa1_lastDays (u.1) (u.2.1) (u.2.2.1) (u.2.2.2) a1_granted a1_persons a1_firstDays a1_lastDays)) (ww_X2_copyFrom cI cC oT oT_persons oT_firstDays oT_lastDays oa1 oa1_persons oa1_firstDays oa1_lastDays T_granted T_persons T_firstDays T_lastDays a1_granted a1_persons a1_firstDays a1_lastDays) s.heap.size) ([.ref oT, .ref oa1] : List Value).toArray s 0 0 (va_A (ww_X2_copyFrom cI cC oT oT_persons oT_firstDays oT_lastDays oa1 oa1_persons oa1_firstDays oa1_lastDays T_granted T_persons T_firstDays T_lastDays a1_granted a1_persons a1_firstDays a1_lastDays) s.heap.size)) (F0 m pc ls []) := by
    intro u0 u1 u2 u3 H locs ls pc hq hw9 hd9
    exact W.vret hx hb hr (fun t ht hW => ⟨⟨(u0, u1, u2, u3), rfl, hq, by rw [ht]; exact hw9.1, hw9.2.1⟩, hw9.2.2.F ht⟩) hw9.2.2.2.2 hd9
  unfold wp_X2_copyFrom at hw
  refine lv_aload_n hx hb dX2_copyFrom_0 rfl (lv_at hl 0 rfl) ?_
  refine lv_aload_n hx hb dX2_copyFrom_1 rfl (lv_at hl 1 rfl) ?_
  refine va_get (D := D) (ci := 2) (v := .int a1_granted) (C := RX2) (T := TX2) (N := 4) hx hb hts ic_X2_copyFrom_X2 hown hKw.1 hwd.1 4 rfl rfl 0 (by decide) (hts (.fieldLink RX2 21 "DrillWardens$Leaves" "granted" "I") (List.mem_of_getElem? (i := 1) rfl)) (fun _ h9 => h9) rfl dX2_copyFrom_2 ?_
  refine va_put (D := D) (ci := 2) (v := .int a1_granted) (ty := .int) (C := RX2) (T := TX2) (N := 4) hx hb hts ic_X2_copyFrom_X2 tyX2 tyX2_ok nmX2 hown hKw.1 hwd.1 hwd.2.1 hwd.2.2 0 rfl rfl 0 (by decide) (hts (.fieldLink RX2 21 "DrillWardens$Leaves" "granted" "I") (List.mem_of_getElem? (i := 1) rfl)) (fun _ h9 => h9) rfl (tyX2_ok 0 (by decide)) rfl rfl (Nat.le_of_ble_eq_true rfl) dX2_copyFrom_5 (fun H locs h1 h2 h3 => ?_)
  replace hwd : wd D (va_A (ww_X2_copyFrom cI cC oT oT_persons oT_firstDays oT_lastDays oa1 oa1_persons oa1_firstDays oa1_lastDays T_granted T_persons T_firstDays T_lastDays a1_granted a1_persons a1_firstDays a1_lastDays) s.heap.size) s (ww_X2_copyFrom cI cC oT oT_persons oT_firstDays oT_lastDays oa1 oa1_persons oa1_firstDays oa1_lastDays a1_granted T_persons T_firstDays T_lastDays a1_granted a1_persons a1_firstDays a1_lastDays) H locs := ⟨h1, h2, h3⟩
  clear h1 h2 h3
  refine lv_aload_n hx hb dX2_copyFrom_8 rfl (lv_at hl 1 rfl) ?_
  refine va_get (D := D) (ci := 2) (v := .ref oa1_persons) (C := RX2) (T := TX2) (N := 4) hx hb hts ic_X2_copyFrom_X2 hown hKw.1 hwd.1 4 rfl rfl 1 (by decide) (hts (.fieldLink RX2 9 "DrillWardens$Leaves" "persons" "[I") (List.mem_of_getElem? (i := 2) rfl)) (fun _ h9 => h9) rfl dX2_copyFrom_9 ?_
  refine lv_aload_n hx hb dX2_copyFrom_12 rfl (lv_at hl 0 rfl) ?_
  refine va_get (D := D) (ci := 2) (v := .ref oT_persons) (C := RX2) (T := TX2) (N := 4) hx hb hts ic_X2_copyFrom_X2 hown hKw.1 hwd.1 0 rfl rfl 1 (by decide) (hts (.fieldLink RX2 9 "DrillWardens$Leaves" "persons" "[I") (List.mem_of_getElem? (i := 2) rfl)) (fun _ h9 => h9) rfl dX2_copyFrom_13 ?_
  refine kcNv (W1 := (fun u => (ww_X2_copyFrom cI cC oT oT_persons oT_firstDays oT_lastDays oa1 oa1_persons oa1_firstDays oa1_lastDays a1_granted u T_firstDays T_lastDays a1_granted a1_persons a1_firstDays a1_lastDays))) (rest := []) (As := [.ref oa1_persons, .ref oT_persons]) ⟨Nat.le_of_ble_eq_true rfl, Nat.le_of_ble_eq_true rfl⟩ ⟨hx, hb, hml, hown, hts⟩ (c_X6_copy l 40 oa1_persons oT_persons H.size a1_persons T_persons hw) ⟨va_cnB 2 hts gX2_copyFrom_X6_copy_n25 rfl rfl rfl (nwm_2 hKw.2) (hts (.initialized RX6) (List.mem_of_getElem? (i := 6) rfl)) hd_X6_copy ⟨Nat.le_of_ble_eq_true rfl, Nat.le_of_ble_eq_true rfl⟩, hts (.static yX6_copy) (List.mem_of_getElem? (i := 5) rfl), trivial⟩ hKw hA hwd [5, 1] [0, 2, 3, 4, 6, 7] [0, 7, 1, 2, 3, 6, 4, 5] [(oT, .inr (2, [.int a1_granted, .ref oT_persons, .ref oT_firstDays, .ref oT_lastDays])), (oT_firstDays, .inl (cI, 40, .inl T_firstDays)), (oT_lastDays, .inl (cI, 40, .inl T_lastDays)), (oa1, .inr (2, [.int a1_granted, .ref oa1_persons, .ref oa1_firstDays, .ref oa1_lastDays])), (oa1_firstDays, .inl (cI, 40, .inl a1_firstDays)), (oa1_lastDays, .inl (cI, 40, .inl a1_lastDays))] rfl rfl rfl rfl (by decide) rfl (fun _ => rfl) rfl hl.1 rfl (lv_room (Nat.le_of_ble_eq_true rfl)) dX2_copyFrom_16 (fun u H locs hw hwd => ?_)
  obtain ⟨T_persons1, rfl⟩ : ∃ z, z = u := ⟨_, rfl⟩
  try dsimp only at hw
  replace hwd : wd D (va_A (ww_X2_copyFrom cI cC oT oT_persons oT_firstDays oT_lastDays oa1 oa1_persons oa1_firstDays oa1_lastDays T_granted T_persons T_firstDays T_lastDays a1_granted a1_persons a1_firstDays a1_lastDays) s.heap.size) s (ww_X2_copyFrom cI cC oT oT_persons oT_firstDays oT_lastDays oa1 oa1_persons oa1_firstDays oa1_lastDays a1_granted T_persons1 T_firstDays T_lastDays a1_granted a1_persons a1_firstDays a1_lastDays) H locs := hwd
  refine lv_aload_n hx hb dX2_copyFrom_19 rfl (lv_at hl 1 rfl) ?_
  refine va_get (D := D) (ci := 2) (v := .ref oa1_firstDays) (C := RX2) (T := TX2) (N := 4) hx hb hts ic_X2_copyFrom_X2 hown hKw.1 hwd.1 4 rfl rfl 2 (by decide) (hts (.fieldLink RX2 15 "DrillWardens$Leaves" "firstDays" "[I") (List.mem_of_getElem? (i := 3) rfl)) (fun _ h9 => h9) rfl dX2_copyFrom_20 ?_
  refine lv_aload_n hx hb dX2_copyFrom_23 rfl (lv_at hl 0 rfl) ?_
  refine va_get (D := D) (ci := 2) (v := .ref oT_firstDays) (C := RX2) (T := TX2) (N := 4) hx hb hts ic_X2_copyFrom_X2 hown hKw.1 hwd.1 0 rfl rfl 2 (by decide) (hts (.fieldLink RX2 15 "DrillWardens$Leaves" "firstDays" "[I") (List.mem_of_getElem? (i := 3) rfl)) (fun _ h9 => h9) rfl dX2_copyFrom_24 ?_
  refine kcNv (W1 := (fun u => (ww_X2_copyFrom cI cC oT oT_persons oT_firstDays oT_lastDays oa1 oa1_persons oa1_firstDays oa1_lastDays a1_granted T_persons1 u T_lastDays a1_granted a1_persons a1_firstDays a1_lastDays))) (rest := []) (As := [.ref oa1_firstDays, .ref oT_firstDays]) ⟨Nat.le_of_ble_eq_true rfl, Nat.le_of_ble_eq_true rfl⟩ ⟨hx, hb, hml, hown, hts⟩ (c_X6_copy l 40 oa1_firstDays oT_firstDays H.size a1_firstDays T_firstDays hw) ⟨va_cnB 2 hts gX2_copyFrom_X6_copy_n25 rfl rfl rfl (nwm_2 hKw.2) (hts (.initialized RX6) (List.mem_of_getElem? (i := 6) rfl)) hd_X6_copy ⟨Nat.le_of_ble_eq_true rfl, Nat.le_of_ble_eq_true rfl⟩, hts (.static yX6_copy) (List.mem_of_getElem? (i := 5) rfl), trivial⟩ hKw hA hwd [6, 2] [0, 1, 3, 4, 5, 7] [0, 1, 7, 2, 3, 4, 6, 5] [(oT, .inr (2, [.int a1_granted, .ref oT_persons, .ref oT_firstDays, .ref oT_lastDays])), (oT_persons, .inl (cI, 40, .inl T_persons1)), (oT_lastDays, .inl (cI, 40, .inl T_lastDays)), (oa1, .inr (2, [.int a1_granted, .ref oa1_persons, .ref oa1_firstDays, .ref oa1_lastDays])), (oa1_persons, .inl (cI, 40, .inl a1_persons)), (oa1_lastDays, .inl (cI, 40, .inl a1_lastDays))] rfl rfl rfl rfl (by decide) rfl (fun _ => rfl) rfl hl.1 rfl (lv_room (Nat.le_of_ble_eq_true rfl)) dX2_copyFrom_27 (fun u H locs hw hwd => ?_)
  obtain ⟨T_firstDays2, rfl⟩ : ∃ z, z = u := ⟨_, rfl⟩
  try dsimp only at hw
  replace hwd : wd D (va_A (ww_X2_copyFrom cI cC oT oT_persons oT_firstDays oT_lastDays oa1 oa1_persons oa1_firstDays oa1_lastDays T_granted T_persons T_firstDays T_lastDays a1_granted a1_persons a1_firstDays a1_lastDays) s.heap.size) s (ww_X2_copyFrom cI cC oT oT_persons oT_firstDays oT_lastDays oa1 oa1_persons oa1_firstDays oa1_lastDays a1_granted T_persons1 T_firstDays2 T_lastDays a1_granted a1_persons a1_firstDays a1_lastDays) H locs := hwd
  refine lv_aload_n hx hb dX2_copyFrom_30 rfl (lv_at hl 1 rfl) ?_
  refine va_get (D := D) (ci := 2) (v := .ref oa1_lastDays) (C := RX2) (T := TX2) (N := 4) hx hb hts ic_X2_copyFrom_X2 hown hKw.1 hwd.1 4 rfl rfl 3 (by decide) (hts (.fieldLink RX2 18 "DrillWardens$Leaves" "lastDays" "[I") (List.mem_of_getElem? (i := 4) rfl)) (fun _ h9 => h9) rfl dX2_copyFrom_31 ?_
  refine lv_aload_n hx hb dX2_copyFrom_34 rfl (lv_at hl 0 rfl) ?_
  refine va_get (D := D) (ci := 2) (v := .ref oT_lastDays) (C := RX2) (T := TX2) (N := 4) hx hb hts ic_X2_copyFrom_X2 hown hKw.1 hwd.1 0 rfl rfl 3 (by decide) (hts (.fieldLink RX2 18 "DrillWardens$Leaves" "lastDays" "[I") (List.mem_of_getElem? (i := 4) rfl)) (fun _ h9 => h9) rfl dX2_copyFrom_35 ?_
  refine kcNv (W1 := (fun u => (ww_X2_copyFrom cI cC oT oT_persons oT_firstDays oT_lastDays oa1 oa1_persons oa1_firstDays oa1_lastDays a1_granted T_persons1 T_firstDays2 u a1_granted a1_persons a1_firstDays a1_lastDays))) (rest := []) (As := [.ref oa1_lastDays, .ref oT_lastDays]) ⟨Nat.le_of_ble_eq_true rfl, Nat.le_of_ble_eq_true rfl⟩ ⟨hx, hb, hml, hown, hts⟩ (c_X6_copy l 40 oa1_lastDays oT_lastDays H.size a1_lastDays T_lastDays hw) ⟨va_cnB 2 hts gX2_copyFrom_X6_copy_n25 rfl rfl rfl (nwm_2 hKw.2) (hts (.initialized RX6) (List.mem_of_getElem? (i := 6) rfl)) hd_X6_copy ⟨Nat.le_of_ble_eq_true rfl, Nat.le_of_ble_eq_true rfl⟩, hts (.static yX6_copy) (List.mem_of_getElem? (i := 5) rfl), trivial⟩ hKw hA hwd [7, 3] [0, 1, 2, 4, 5, 6] [0, 1, 2, 7, 3, 4, 5, 6] [(oT, .inr (2, [.int a1_granted, .ref oT_persons, .ref oT_firstDays, .ref oT_lastDays])), (oT_persons, .inl (cI, 40, .inl T_persons1)), (oT_firstDays, .inl (cI, 40, .inl T_firstDays2)), (oa1, .inr (2, [.int a1_granted, .ref oa1_persons, .ref oa1_firstDays, .ref oa1_lastDays])), (oa1_persons, .inl (cI, 40, .inl a1_persons)), (oa1_firstDays, .inl (cI, 40, .inl a1_firstDays))] rfl rfl rfl rfl (by decide) rfl (fun _ => rfl) rfl hl.1 rfl (lv_room (Nat.le_of_ble_eq_true rfl)) dX2_copyFrom_38 (fun u H locs hw hwd => ?_)
  obtain ⟨T_lastDays3, rfl⟩ : ∃ z, z = u := ⟨_, rfl⟩
  try dsimp only at hw
  replace hwd : wd D (va_A (ww_X2_copyFrom cI cC oT oT_persons oT_firstDays oT_lastDays oa1 oa1_persons oa1_firstDays oa1_lastDays T_granted T_persons T_firstDays T_lastDays a1_granted a1_persons a1_firstDays a1_lastDays) s.heap.size) s (ww_X2_copyFrom cI cC oT oT_persons oT_firstDays oT_lastDays oa1 oa1_persons oa1_firstDays oa1_lastDays a1_granted T_persons1 T_firstDays2 T_lastDays3 a1_granted a1_persons a1_firstDays a1_lastDays) H locs := hwd
  exact HR a1_granted T_persons1 T_firstDays2 T_lastDays3 hw hwd dX2_copyFrom_41
abbrev ww_X2_find (cI cC : ClassId) (oT oT_persons oT_firstDays oT_lastDays : Nat) (T_granted : Int32) (T_persons : Nat → Int32) (T_firstDays : Nat → Int32) (T_lastDays : Nat → Int32) : va_W := [(oT, .inr (2, [.int T_granted, .ref oT_persons, .ref oT_firstDays, .ref oT_lastDays])), (oT_persons, .inl (cI, 40, .inl T_persons)), (oT_firstDays, .inl (cI, 40, .inl T_firstDays)), (oT_lastDays, .inl (cI, 40, .inl T_lastDays))]
abbrev rm_X2_find : Room := { frames := 0, cells := 0, slots := 0, locals := 0 }
theorem ic_X2_find_X2 : ∀ w ∈ u_ws RX2 TX2 4, w ∈ wsX2_find := by
  intro w h
  simp only [wsX2_find, List.mem_cons, List.mem_append]
  simp only [h, or_true, true_or]
def wb_X2_find_3 (T_granted : Int32) (T_persons : Nat → Int32) (T_firstDays : Nat → Int32) (T_lastDays : Nat → Int32) (x1 : Int32) (x2 : Int32) (x3 : Int32) (K_61 : Prop) (Q : Int32 → Prop) : Nat → Int32 → Prop
  | 0, _ => False
  | n + 1, x4 => ((T_granted ≤ x4 → K_61) ∧ (¬ T_granted ≤ x4 → (((nI 40) ≤ x4 → K_61) ∧ (¬ (nI 40) ≤ x4 → vp_in x4 40 ∧ ((¬ (T_persons x4.toNatClampNeg) = x1 → ∀ x4_4, x4_4 = x4 + (nI 1) → wb_X2_find_3 T_granted T_persons T_firstDays T_lastDays x1 x2 x3 K_61 Q n x4_4) ∧ ((T_persons x4.toNatClampNeg) = x1 → vp_in x4 40 ∧ ((x3 < (T_firstDays x4.toNatClampNeg) → ∀ x4_6, x4_6 = x4 + (nI 1) → wb_X2_find_3 T_granted T_persons T_firstDays T_lastDays x1 x2 x3 K_61 Q n x4_6) ∧ (¬ x3 < (T_firstDays x4.toNatClampNeg) → vp_in x4 40 ∧ (((T_lastDays x4.toNatClampNeg) < x2 → ∀ x4_8, x4_8 = x4 + (nI 1) → wb_X2_find_3 T_granted T_persons T_firstDays T_lastDays x1 x2 x3 K_61 Q n x4_8) ∧ (¬ (T_lastDays x4.toNatClampNeg) < x2 → Q x4))))))))))
set_option maxRecDepth 100000 in
set_option maxHeartbeats 4000000 in
theorem blk_X2_find_3 {p : Program} {l : Launch} {e : Env} {s : State} {m : MethodId} {args : Array Value} {below : List Frame} {meth : Method} {c : Code} {D : va_G} {cI cC cR : ClassId} {A : Nat → Prop} {Z : State → Prop} (CX : cx cX2_find (some .int) 5 RX2 wsX2_find p m meth c s args D cI cC cR A) (oT oT_persons oT_firstDays oT_lastDays : Nat) (T_granted : Int32) (T_persons : Nat → Int32) (T_firstDays : Nat → Int32) (T_lastDays : Nat → Int32) (x1 : Int32) (x2 : Int32) (x3 : Int32) {K_61 : Prop} {Q : Int32 → Prop} (HR : ∀ (r : Int32) {H : Heap} {locs : List Loc} {ls : Array Slot} {pc : Nat}, Q r → wd D A s (ww_X2_find cI cC oT oT_persons oT_firstDays oT_lastDays T_granted T_persons T_firstDays T_lastDays) H locs → decode cX2_find pc = .ok (.ireturn, 1) → W p l e (headSpec wsX2_find rm_X2_find).room s m args below meth c H locs 0 0 Z (F0 m pc ls [.int r])) (HK_61 : K_61 → ∀ (H : Heap) (locs : List Loc) (ls : Array Slot), wd D A s (ww_X2_find cI cC oT oT_persons oT_firstDays oT_lastDays T_granted T_persons T_firstDays T_lastDays) H locs → lv_has ls 5 [] → W p l e (headSpec wsX2_find rm_X2_find).room s m args below meth c H locs 0 0 Z (F0 m 61 ls [])) : ∀ (n : Nat) (x4 : Int32), wb_X2_find_3 T_granted T_persons T_firstDays T_lastDays x1 x2 x3 K_61 Q n x4 → ∀ (H : Heap) (locs : List Loc) (ls : Array Slot), wd D A s (ww_X2_find cI cC oT oT_persons oT_firstDays oT_lastDays T_granted T_persons T_firstDays T_lastDays) H locs → lv_has ls 5 [(0, .ref oT), (1, .int x1), (2, .int x2), (3, .int x3), (4, .int x4)] → W p l e (headSpec wsX2_find rm_X2_find).room s m args below meth c H locs 0 0 Z (F0 m 3 ls []) := by
  obtain ⟨hx, hb, hr, hml, hts, hown, hlocks, hKw, hA⟩ := id CX
  intro n
  induction n with
  | zero => intro x4 hw; exact False.elim hw
  | succ n ih =>
    intro x4 hw H locs ls hwd hl
    rw [wb_X2_find_3] at hw
    refine lv_iload hx hb dX2_find_3 (lv_at hl 4 rfl) ?_
    refine lv_aload_n hx hb dX2_find_5 rfl (lv_at hl 0 rfl) ?_
    refine va_get (D := D) (ci := 2) (v := .int T_granted) (C := RX2) (T := TX2) (N := 4) hx hb hts ic_X2_find_X2 hown hKw.1 hwd.1 0 rfl rfl 0 (by decide) (hts (.fieldLink RX2 21 "DrillWardens$Leaves" "granted" "I") (List.mem_of_getElem? (i := 1) rfl)) (fun _ h9 => h9) rfl dX2_find_6 ?_
    refine lv_icmp_ge (tgt := 61) hx hb dX2_find_9 (by decide) (fun c1 => ?_) (fun c1 => ?_)
    · replace hw := hw.1 c1
      exact HK_61  hw _ _ _ hwd (lv_sub hl [] rfl)
    · replace hw := hw.2 c1
      refine lv_iload hx hb dX2_find_12 (lv_at hl 4 rfl) ?_
      refine lv_bipush (v := (nI 40)) hx hb dX2_find_14 rfl ?_
      refine lv_icmp_ge (tgt := 61) hx hb dX2_find_16 (by decide) (fun c2 => ?_) (fun c2 => ?_)
      · replace hw := hw.1 c2
        exact HK_61  hw _ _ _ hwd (lv_sub hl [] rfl)
      · replace hw := hw.2 c2
        refine lv_aload_n hx hb dX2_find_19 rfl (lv_at hl 0 rfl) ?_
        refine va_get (D := D) (ci := 2) (v := .ref oT_persons) (C := RX2) (T := TX2) (N := 4) hx hb hts ic_X2_find_X2 hown hKw.1 hwd.1 0 rfl rfl 1 (by decide) (hts (.fieldLink RX2 9 "DrillWardens$Leaves" "persons" "[I") (List.mem_of_getElem? (i := 2) rfl)) (fun _ h9 => h9) rfl dX2_find_20 ?_
        refine lv_iload hx hb dX2_find_23 (lv_at hl 4 rfl) ?_
        refine va_iald hx hb hKw.1 hwd.1 1 0 rfl rfl hw.1 dX2_find_25 ?_
        replace hw := hw.2
        refine lv_iload_n hx hb dX2_find_26 rfl (lv_at hl 1 rfl) ?_
        refine lv_icmp_ne (tgt := 55) hx hb dX2_find_27 (by decide) (fun c3 => ?_) (fun c3 => ?_)
        · replace hw := hw.1 c3
          obtain ⟨x4_4, e_x4_4⟩ : ∃ y : Int32, y = x4 + (nI 1) := ⟨_, rfl⟩
          replace hw := hw x4_4 e_x4_4
          refine lv_iinc (v := x4_4) (lv' := [(4, .int x4_4), (0, .ref oT), (1, .int x1), (2, .int x2), (3, .int x3)]) hx hb dX2_find_55 hl (k := 4) rfl (by rw [e_x4_4]; rfl) (by decide) rfl (fun ls hl => ?_)
          refine lv_goto (tgt := 3) hx hb dX2_find_58 (by decide) ?_
          exact ih x4_4 hw _ _ _ hwd (lv_sub hl [1, 2, 3, 4, 0] rfl)
        · replace hw := hw.2 c3
          refine lv_aload_n hx hb dX2_find_30 rfl (lv_at hl 0 rfl) ?_
          refine va_get (D := D) (ci := 2) (v := .ref oT_firstDays) (C := RX2) (T := TX2) (N := 4) hx hb hts ic_X2_find_X2 hown hKw.1 hwd.1 0 rfl rfl 2 (by decide) (hts (.fieldLink RX2 15 "DrillWardens$Leaves" "firstDays" "[I") (List.mem_of_getElem? (i := 3) rfl)) (fun _ h9 => h9) rfl dX2_find_31 ?_
          refine lv_iload hx hb dX2_find_34 (lv_at hl 4 rfl) ?_
          refine va_iald hx hb hKw.1 hwd.1 2 0 rfl rfl hw.1 dX2_find_36 ?_
          replace hw := hw.2
          refine lv_iload_n hx hb dX2_find_37 rfl (lv_at hl 3 rfl) ?_
          refine lv_icmp_gt (tgt := 55) hx hb dX2_find_38 (by decide) (fun c5 => ?_) (fun c5 => ?_)
          · replace hw := hw.1 c5
            obtain ⟨x4_6, e_x4_6⟩ : ∃ y : Int32, y = x4 + (nI 1) := ⟨_, rfl⟩
            replace hw := hw x4_6 e_x4_6
            refine lv_iinc (v := x4_6) (lv' := [(4, .int x4_6), (0, .ref oT), (1, .int x1), (2, .int x2), (3, .int x3)]) hx hb dX2_find_55 hl (k := 4) rfl (by rw [e_x4_6]; rfl) (by decide) rfl (fun ls hl => ?_)
            refine lv_goto (tgt := 3) hx hb dX2_find_58 (by decide) ?_
            exact ih x4_6 hw _ _ _ hwd (lv_sub hl [1, 2, 3, 4, 0] rfl)
          · replace hw := hw.2 c5
            refine lv_iload_n hx hb dX2_find_41 rfl (lv_at hl 2 rfl) ?_
            refine lv_aload_n hx hb dX2_find_42 rfl (lv_at hl 0 rfl) ?_
            refine va_get (D := D) (ci := 2) (v := .ref oT_lastDays) (C := RX2) (T := TX2) (N := 4) hx hb hts ic_X2_find_X2 hown hKw.1 hwd.1 0 rfl rfl 3 (by decide) (hts (.fieldLink RX2 18 "DrillWardens$Leaves" "lastDays" "[I") (List.mem_of_getElem? (i := 4) rfl)) (fun _ h9 => h9) rfl dX2_find_43 ?_
            refine lv_iload hx hb dX2_find_46 (lv_at hl 4 rfl) ?_
            refine va_iald hx hb hKw.1 hwd.1 3 0 rfl rfl hw.1 dX2_find_48 ?_
            replace hw := hw.2
            refine lv_icmp_gt (tgt := 55) hx hb dX2_find_49 (by decide) (fun c7 => ?_) (fun c7 => ?_)
            · replace hw := hw.1 c7
              obtain ⟨x4_8, e_x4_8⟩ : ∃ y : Int32, y = x4 + (nI 1) := ⟨_, rfl⟩
              replace hw := hw x4_8 e_x4_8
              refine lv_iinc (v := x4_8) (lv' := [(4, .int x4_8), (0, .ref oT), (1, .int x1), (2, .int x2), (3, .int x3)]) hx hb dX2_find_55 hl (k := 4) rfl (by rw [e_x4_8]; rfl) (by decide) rfl (fun ls hl => ?_)
              refine lv_goto (tgt := 3) hx hb dX2_find_58 (by decide) ?_
              exact ih x4_8 hw _ _ _ hwd (lv_sub hl [1, 2, 3, 4, 0] rfl)
            · replace hw := hw.2 c7
              refine lv_iload hx hb dX2_find_52 (lv_at hl 4 rfl) ?_
              exact HR x4 hw hwd dX2_find_54
def wp_X2_find (T_granted : Int32) (T_persons : Nat → Int32) (T_firstDays : Nat → Int32) (T_lastDays : Nat → Int32) (x1 : Int32) (x2 : Int32) (x3 : Int32) (Q : Int32 → Prop) : Prop := (∃ n1, wb_X2_find_3 T_granted T_persons T_firstDays T_lastDays x1 x2 x3 (Q (-5)) Q n1 (nI 0))
set_option maxRecDepth 100000 in
set_option maxHeartbeats 4000000 in
theorem c_X2_find (l : Launch) {D : va_G} {cI cC cR : ClassId} (oT oT_persons oT_firstDays oT_lastDays : Nat) (sz : Nat) (T_granted : Int32) (T_persons : Nat → Int32) (T_firstDays : Nat → Int32) (T_lastDays : Nat → Int32) (x1 : Int32) (x2 : Int32) (x3 : Int32) {Q : Int32 → Prop} (hw : wp_X2_find T_granted T_persons T_firstDays T_lastDays x1 x2 x3 Q) : Met l yX2_find wsX2_find rm_X2_find (PcW D cI cC cR [.ref oT, .int x1, .int x2, .int x3] (ww_X2_find cI cC oT oT_persons oT_firstDays oT_lastDays T_granted T_persons T_firstDays T_lastDays) sz) (QiW D (fun (r : Int32) (u : Unit) => Q r ) (fun u => (ww_X2_find cI cC oT oT_persons oT_firstDays oT_lastDays T_granted T_persons T_firstDays T_lastDays)) (ww_X2_find cI cC oT oT_persons oT_firstDays oT_lastDays T_granted T_persons T_firstDays T_lastDays) sz) 0 0 (va_A (ww_X2_find cI cC oT oT_persons oT_firstDays oT_lastDays T_granted T_persons T_firstDays T_lastDays) sz) := by
  refine Met.ofW (cc := cX2_find) (maxL := 5) (ret := (some .int)) (by decide) rfl ?_
  intro p e s m args below meth c s₁ B hml hv
  obtain ⟨rfl, hsz, hP, hKw, hD0⟩ := hv
  have hlocks := B.notSynchronized
  subst hsz
  have hD := hD0.self (sz := s.heap.size)
  have CX : cx cX2_find (some .int) 5 RX2 wsX2_find p m meth c s ([.ref oT, .int x1, .int x2, .int x3] : List Value).toArray D cI cC cR (va_A (ww_X2_find cI cC oT oT_persons oT_firstDays oT_lastDays T_granted T_persons T_firstDays T_lastDays) s.heap.size) := ⟨B.exec, B.bytes, B.returns, hml, atoms_spec (ws := wsX2_find) B.pre, findClass_of_methodNamed B.named, hlocks, hKw, fun q h => Or.inr h⟩
  obtain ⟨hx, hb, hr, -, hts, hown, -, -, hA⟩ := id CX
  have hwd : wd D (va_A (ww_X2_find cI cC oT oT_persons oT_firstDays oT_lastDays T_granted T_persons T_firstDays T_lastDays) s.heap.size) s (ww_X2_find cI cC oT oT_persons oT_firstDays oT_lastDays T_granted T_persons T_firstDays T_lastDays) s.heap [] := ⟨hP, hD, va_S.rf⟩
  have hl := lv_entry ([.ref oT, .int x1, .int x2, .int x3]) (n := 5) (Nat.le_of_ble_eq_true rfl)
  rw [lg_entry_eq]
  generalize (lg_sl ([.ref oT, .int x1, .int x2, .int x3]) ++ List.replicate (5 - (lg_sl ([.ref oT, .int x1, .int x2, .int x3])).length) Slot.unset).toArray = ls at hl ⊢
  have hl : lv_has ls 5 [(0, .ref oT), (1, .int x1), (2, .int x2), (3, .int x3)] := hl
  have HR : ∀ (r : Int32) {H : Heap} {locs : List Loc} {ls : Array Slot} {pc : Nat}, Q r → wd D (va_A (ww_X2_find cI cC oT oT_persons oT_firstDays oT_lastDays T_granted T_persons T_firstDays T_lastDays) s.heap.size) s (ww_X2_find cI cC oT oT_persons oT_firstDays oT_lastDays T_granted T_persons T_firstDays T_lastDays) H locs → decode cX2_find pc = .ok (.ireturn, 1) → W p l e (headSpec wsX2_find rm_X2_find).room s m ([.ref oT, .int x1, .int x2, .int x3] : List Value).toArray below meth c H locs 0 0 (MQ below (QiW D (fun (r : Int32) (u : Unit) => Q r ) (fun u => (ww_X2_find cI cC oT oT_persons oT_firstDays oT_lastDays T_granted T_persons T_firstDays T_lastDays)) (ww_X2_find cI cC oT oT_persons oT_firstDays oT_lastDays T_granted T_persons T_firstDays T_lastDays) s.heap.size) ([.ref oT, .int x1, .int x2, .int x3] : List Value).toArray s 0 0 (va_A (ww_X2_find cI cC oT oT_persons oT_firstDays oT_lastDays T_granted T_persons T_firstDays T_lastDays) s.heap.size)) (F0 m pc ls [.int r]) := by
    intro r H locs ls pc hq hw9 hd9
    exact W.iret (v := r) hx hb hr (fun t ht hW => ⟨⟨r, (), rfl, hq, by rw [ht]; exact hw9.1, hw9.2.1⟩, hw9.2.2.F ht⟩) hw9.2.2.2.2 hd9
  unfold wp_X2_find at hw
  refine lv_iconst (v := (nI 0)) hx hb dX2_find_0 rfl ?_
  refine lv_istore (lv' := [(4, .int (nI 0)), (0, .ref oT), (1, .int x1), (2, .int x2), (3, .int x3)]) hx hb dX2_find_1 hl (by decide) rfl (fun ls hl => ?_)
  obtain ⟨n1, hw⟩ := hw
  refine blk_X2_find_3 (CX := CX) (oT := oT) (oT_persons := oT_persons) (oT_firstDays := oT_firstDays) (oT_lastDays := oT_lastDays) (T_granted := T_granted) (T_persons := T_persons) (T_firstDays := T_firstDays) (T_lastDays := T_lastDays) (x1 := x1) (x2 := x2) (x3 := x3) (HR := HR) (HK_61 := fun  hw H locs ls hwd hl => ?_) n1 (nI 0) hw _ _ _ hwd (lv_sub hl [1, 2, 3, 4, 0] rfl)
  try dsimp only at hw
  refine lv_bipush (v := (-5)) hx hb dX2_find_61 rfl ?_
  exact HR (-5) hw hwd dX2_find_63
abbrev ww_X2_awayOn (cI cC : ClassId) (oT oT_persons oT_firstDays oT_lastDays : Nat) (T_granted : Int32) (T_persons : Nat → Int32) (T_firstDays : Nat → Int32) (T_lastDays : Nat → Int32) : va_W := [(oT, .inr (2, [.int T_granted, .ref oT_persons, .ref oT_firstDays, .ref oT_lastDays])), (oT_persons, .inl (cI, 40, .inl T_persons)), (oT_firstDays, .inl (cI, 40, .inl T_firstDays)), (oT_lastDays, .inl (cI, 40, .inl T_lastDays))]
abbrev rm_X2_awayOn : Room := { frames := 0, cells := 0, slots := 0, locals := 0 }
theorem ic_X2_awayOn_X2 : ∀ w ∈ u_ws RX2 TX2 4, w ∈ wsX2_awayOn := by
  intro w h
  simp only [wsX2_awayOn, List.mem_cons, List.mem_append]
  simp only [h, or_true, true_or]
def wb_X2_awayOn_4 (T_granted : Int32) (T_persons : Nat → Int32) (T_firstDays : Nat → Int32) (T_lastDays : Nat → Int32) (x1 : Int32) (K_55 : Int32 → Prop) : Nat → Int32 → Int32 → Prop
  | 0, _, _ => False
  | n + 1, x2, x3 => ((T_granted ≤ x3 → K_55 x2) ∧ (¬ T_granted ≤ x3 → (((nI 40) ≤ x3 → K_55 x2) ∧ (¬ (nI 40) ≤ x3 → vp_in x3 40 ∧ ((x1 < (T_firstDays x3.toNatClampNeg) → ∀ x3_4, x3_4 = x3 + (nI 1) → wb_X2_awayOn_4 T_granted T_persons T_firstDays T_lastDays x1 K_55 n x2 x3_4) ∧ (¬ x1 < (T_firstDays x3.toNatClampNeg) → vp_in x3 40 ∧ (((T_lastDays x3.toNatClampNeg) < x1 → ∀ x3_6, x3_6 = x3 + (nI 1) → wb_X2_awayOn_4 T_granted T_persons T_firstDays T_lastDays x1 K_55 n x2 x3_6) ∧ (¬ (T_lastDays x3.toNatClampNeg) < x1 → vp_in x3 40 ∧ ∀ x2_7, x2_7 = x2 ||| ((nI 1) <<< ((T_persons x3.toNatClampNeg) &&& 31)) → ∀ x3_8, x3_8 = x3 + (nI 1) → wb_X2_awayOn_4 T_granted T_persons T_firstDays T_lastDays x1 K_55 n x2_7 x3_8))))))))
set_option maxRecDepth 100000 in
set_option maxHeartbeats 4000000 in
theorem blk_X2_awayOn_4 {p : Program} {l : Launch} {e : Env} {s : State} {m : MethodId} {args : Array Value} {below : List Frame} {meth : Method} {c : Code} {D : va_G} {cI cC cR : ClassId} {A : Nat → Prop} {Z : State → Prop} (CX : cx cX2_awayOn (some .int) 4 RX2 wsX2_awayOn p m meth c s args D cI cC cR A) (oT oT_persons oT_firstDays oT_lastDays : Nat) (T_granted : Int32) (T_persons : Nat → Int32) (T_firstDays : Nat → Int32) (T_lastDays : Nat → Int32) (x1 : Int32) {K_55 : Int32 → Prop} {Q : Int32 → Prop} (HR : ∀ (r : Int32) {H : Heap} {locs : List Loc} {ls : Array Slot} {pc : Nat}, Q r → wd D A s (ww_X2_awayOn cI cC oT oT_persons oT_firstDays oT_lastDays T_granted T_persons T_firstDays T_lastDays) H locs → decode cX2_awayOn pc = .ok (.ireturn, 1) → W p l e (headSpec wsX2_awayOn rm_X2_awayOn).room s m args below meth c H locs 0 0 Z (F0 m pc ls [.int r])) (HK_55 : ∀ (x2y : Int32), K_55 x2y → ∀ (H : Heap) (locs : List Loc) (ls : Array Slot), wd D A s (ww_X2_awayOn cI cC oT oT_persons oT_firstDays oT_lastDays T_granted T_persons T_firstDays T_lastDays) H locs → lv_has ls 4 [(2, .int x2y)] → W p l e (headSpec wsX2_awayOn rm_X2_awayOn).room s m args below meth c H locs 0 0 Z (F0 m 55 ls [])) : ∀ (n : Nat) (x2 : Int32) (x3 : Int32), wb_X2_awayOn_4 T_granted T_persons T_firstDays T_lastDays x1 K_55 n x2 x3 → ∀ (H : Heap) (locs : List Loc) (ls : Array Slot), wd D A s (ww_X2_awayOn cI cC oT oT_persons oT_firstDays oT_lastDays T_granted T_persons T_firstDays T_lastDays) H locs → lv_has ls 4 [(0, .ref oT), (1, .int x1), (2, .int x2), (3, .int x3)] → W p l e (headSpec wsX2_awayOn rm_X2_awayOn).room s m args below meth c H locs 0 0 Z (F0 m 4 ls []) := by
  obtain ⟨hx, hb, hr, hml, hts, hown, hlocks, hKw, hA⟩ := id CX
  intro n
  induction n with
  | zero => intro x2 x3 hw; exact False.elim hw
  | succ n ih =>
    intro x2 x3 hw H locs ls hwd hl
    rw [wb_X2_awayOn_4] at hw
    refine lv_iload_n hx hb dX2_awayOn_4 rfl (lv_at hl 3 rfl) ?_
    refine lv_aload_n hx hb dX2_awayOn_5 rfl (lv_at hl 0 rfl) ?_
    refine va_get (D := D) (ci := 2) (v := .int T_granted) (C := RX2) (T := TX2) (N := 4) hx hb hts ic_X2_awayOn_X2 hown hKw.1 hwd.1 0 rfl rfl 0 (by decide) (hts (.fieldLink RX2 21 "DrillWardens$Leaves" "granted" "I") (List.mem_of_getElem? (i := 1) rfl)) (fun _ h9 => h9) rfl dX2_awayOn_6 ?_
    refine lv_icmp_ge (tgt := 55) hx hb dX2_awayOn_9 (by decide) (fun c1 => ?_) (fun c1 => ?_)
    · replace hw := hw.1 c1
      exact HK_55 x2 hw _ _ _ hwd (lv_sub hl [2] rfl)
    · replace hw := hw.2 c1
      refine lv_iload_n hx hb dX2_awayOn_12 rfl (lv_at hl 3 rfl) ?_
      refine lv_bipush (v := (nI 40)) hx hb dX2_awayOn_13 rfl ?_
      refine lv_icmp_ge (tgt := 55) hx hb dX2_awayOn_15 (by decide) (fun c2 => ?_) (fun c2 => ?_)
      · replace hw := hw.1 c2
        exact HK_55 x2 hw _ _ _ hwd (lv_sub hl [2] rfl)
      · replace hw := hw.2 c2
        refine lv_aload_n hx hb dX2_awayOn_18 rfl (lv_at hl 0 rfl) ?_
        refine va_get (D := D) (ci := 2) (v := .ref oT_firstDays) (C := RX2) (T := TX2) (N := 4) hx hb hts ic_X2_awayOn_X2 hown hKw.1 hwd.1 0 rfl rfl 2 (by decide) (hts (.fieldLink RX2 15 "DrillWardens$Leaves" "firstDays" "[I") (List.mem_of_getElem? (i := 2) rfl)) (fun _ h9 => h9) rfl dX2_awayOn_19 ?_
        refine lv_iload_n hx hb dX2_awayOn_22 rfl (lv_at hl 3 rfl) ?_
        refine va_iald hx hb hKw.1 hwd.1 2 0 rfl rfl hw.1 dX2_awayOn_23 ?_
        replace hw := hw.2
        refine lv_iload_n hx hb dX2_awayOn_24 rfl (lv_at hl 1 rfl) ?_
        refine lv_icmp_gt (tgt := 49) hx hb dX2_awayOn_25 (by decide) (fun c3 => ?_) (fun c3 => ?_)
        · replace hw := hw.1 c3
          obtain ⟨x3_4, e_x3_4⟩ : ∃ y : Int32, y = x3 + (nI 1) := ⟨_, rfl⟩
          replace hw := hw x3_4 e_x3_4
          refine lv_iinc (v := x3_4) (lv' := [(3, .int x3_4), (0, .ref oT), (1, .int x1), (2, .int x2)]) hx hb dX2_awayOn_49 hl (k := 3) rfl (by rw [e_x3_4]; rfl) (by decide) rfl (fun ls hl => ?_)
          refine lv_goto (tgt := 4) hx hb dX2_awayOn_52 (by decide) ?_
          exact ih x2 x3_4 hw _ _ _ hwd (lv_sub hl [1, 2, 3, 0] rfl)
        · replace hw := hw.2 c3
          refine lv_iload_n hx hb dX2_awayOn_28 rfl (lv_at hl 1 rfl) ?_
          refine lv_aload_n hx hb dX2_awayOn_29 rfl (lv_at hl 0 rfl) ?_
          refine va_get (D := D) (ci := 2) (v := .ref oT_lastDays) (C := RX2) (T := TX2) (N := 4) hx hb hts ic_X2_awayOn_X2 hown hKw.1 hwd.1 0 rfl rfl 3 (by decide) (hts (.fieldLink RX2 18 "DrillWardens$Leaves" "lastDays" "[I") (List.mem_of_getElem? (i := 3) rfl)) (fun _ h9 => h9) rfl dX2_awayOn_30 ?_
          refine lv_iload_n hx hb dX2_awayOn_33 rfl (lv_at hl 3 rfl) ?_
          refine va_iald hx hb hKw.1 hwd.1 3 0 rfl rfl hw.1 dX2_awayOn_34 ?_
          replace hw := hw.2
          refine lv_icmp_gt (tgt := 49) hx hb dX2_awayOn_35 (by decide) (fun c5 => ?_) (fun c5 => ?_)
          · replace hw := hw.1 c5
            obtain ⟨x3_6, e_x3_6⟩ : ∃ y : Int32, y = x3 + (nI 1) := ⟨_, rfl⟩
            replace hw := hw x3_6 e_x3_6
            refine lv_iinc (v := x3_6) (lv' := [(3, .int x3_6), (0, .ref oT), (1, .int x1), (2, .int x2)]) hx hb dX2_awayOn_49 hl (k := 3) rfl (by rw [e_x3_6]; rfl) (by decide) rfl (fun ls hl => ?_)
            refine lv_goto (tgt := 4) hx hb dX2_awayOn_52 (by decide) ?_
            exact ih x2 x3_6 hw _ _ _ hwd (lv_sub hl [1, 2, 3, 0] rfl)
          · replace hw := hw.2 c5
            refine lv_iload_n hx hb dX2_awayOn_38 rfl (lv_at hl 2 rfl) ?_
            refine lv_iconst (v := (nI 1)) hx hb dX2_awayOn_39 rfl ?_
            refine lv_aload_n hx hb dX2_awayOn_40 rfl (lv_at hl 0 rfl) ?_
            refine va_get (D := D) (ci := 2) (v := .ref oT_persons) (C := RX2) (T := TX2) (N := 4) hx hb hts ic_X2_awayOn_X2 hown hKw.1 hwd.1 0 rfl rfl 1 (by decide) (hts (.fieldLink RX2 9 "DrillWardens$Leaves" "persons" "[I") (List.mem_of_getElem? (i := 4) rfl)) (fun _ h9 => h9) rfl dX2_awayOn_41 ?_
            refine lv_iload_n hx hb dX2_awayOn_44 rfl (lv_at hl 3 rfl) ?_
            refine va_iald hx hb hKw.1 hwd.1 1 0 rfl rfl hw.1 dX2_awayOn_45 ?_
            replace hw := hw.2
            refine lv_ishl hx hb dX2_awayOn_46 ?_
            refine lv_ior hx hb dX2_awayOn_47 ?_
            refine lv_topi (fun x2_7 e_x2_7 => ?_)
            replace hw := hw x2_7 e_x2_7
            refine lv_istore_n (lv' := [(2, .int x2_7), (0, .ref oT), (1, .int x1), (3, .int x3)]) hx hb dX2_awayOn_48 rfl hl (by decide) rfl (fun ls hl => ?_)
            obtain ⟨x3_8, e_x3_8⟩ : ∃ y : Int32, y = x3 + (nI 1) := ⟨_, rfl⟩
            replace hw := hw x3_8 e_x3_8
            refine lv_iinc (v := x3_8) (lv' := [(3, .int x3_8), (2, .int x2_7), (0, .ref oT), (1, .int x1)]) hx hb dX2_awayOn_49 hl (k := 3) rfl (by rw [e_x3_8]; rfl) (by decide) rfl (fun ls hl => ?_)
            refine lv_goto (tgt := 4) hx hb dX2_awayOn_52 (by decide) ?_
            exact ih x2_7 x3_8 hw _ _ _ hwd (lv_sub hl [2, 3, 1, 0] rfl)
def wp_X2_awayOn (T_granted : Int32) (T_persons : Nat → Int32) (T_firstDays : Nat → Int32) (T_lastDays : Nat → Int32) (x1 : Int32) (Q : Int32 → Prop) : Prop := (∃ n1, wb_X2_awayOn_4 T_granted T_persons T_firstDays T_lastDays x1 (fun x2_2 => Q x2_2) n1 (nI 0) (nI 0))
set_option maxRecDepth 100000 in
set_option maxHeartbeats 4000000 in
theorem c_X2_awayOn (l : Launch) {D : va_G} {cI cC cR : ClassId} (oT oT_persons oT_firstDays oT_lastDays : Nat) (sz : Nat) (T_granted : Int32) (T_persons : Nat → Int32) (T_firstDays : Nat → Int32) (T_lastDays : Nat → Int32) (x1 : Int32) {Q : Int32 → Prop} (hw : wp_X2_awayOn T_granted T_persons T_firstDays T_lastDays x1 Q) : Met l yX2_awayOn wsX2_awayOn rm_X2_awayOn (PcW D cI cC cR [.ref oT, .int x1] (ww_X2_awayOn cI cC oT oT_persons oT_firstDays oT_lastDays T_granted T_persons T_firstDays T_lastDays) sz) (QiW D (fun (r : Int32) (u : Unit) => Q r ) (fun u => (ww_X2_awayOn cI cC oT oT_persons oT_firstDays oT_lastDays T_granted T_persons T_firstDays T_lastDays)) (ww_X2_awayOn cI cC oT oT_persons oT_firstDays oT_lastDays T_granted T_persons T_firstDays T_lastDays) sz) 0 0 (va_A (ww_X2_awayOn cI cC oT oT_persons oT_firstDays oT_lastDays T_granted T_persons T_firstDays T_lastDays) sz) := by
  refine Met.ofW (cc := cX2_awayOn) (maxL := 4) (ret := (some .int)) (by decide) rfl ?_
  intro p e s m args below meth c s₁ B hml hv
  obtain ⟨rfl, hsz, hP, hKw, hD0⟩ := hv
  have hlocks := B.notSynchronized
  subst hsz
  have hD := hD0.self (sz := s.heap.size)
  have CX : cx cX2_awayOn (some .int) 4 RX2 wsX2_awayOn p m meth c s ([.ref oT, .int x1] : List Value).toArray D cI cC cR (va_A (ww_X2_awayOn cI cC oT oT_persons oT_firstDays oT_lastDays T_granted T_persons T_firstDays T_lastDays) s.heap.size) := ⟨B.exec, B.bytes, B.returns, hml, atoms_spec (ws := wsX2_awayOn) B.pre, findClass_of_methodNamed B.named, hlocks, hKw, fun q h => Or.inr h⟩
  obtain ⟨hx, hb, hr, -, hts, hown, -, -, hA⟩ := id CX
  have hwd : wd D (va_A (ww_X2_awayOn cI cC oT oT_persons oT_firstDays oT_lastDays T_granted T_persons T_firstDays T_lastDays) s.heap.size) s (ww_X2_awayOn cI cC oT oT_persons oT_firstDays oT_lastDays T_granted T_persons T_firstDays T_lastDays) s.heap [] := ⟨hP, hD, va_S.rf⟩
  have hl := lv_entry ([.ref oT, .int x1]) (n := 4) (Nat.le_of_ble_eq_true rfl)
  rw [lg_entry_eq]
  generalize (lg_sl ([.ref oT, .int x1]) ++ List.replicate (4 - (lg_sl ([.ref oT, .int x1])).length) Slot.unset).toArray = ls at hl ⊢
  have hl : lv_has ls 4 [(0, .ref oT), (1, .int x1)] := hl
  have HR : ∀ (r : Int32) {H : Heap} {locs : List Loc} {ls : Array Slot} {pc : Nat}, Q r → wd D (va_A (ww_X2_awayOn cI cC oT oT_persons oT_firstDays oT_lastDays T_granted T_persons T_firstDays T_lastDays) s.heap.size) s (ww_X2_awayOn cI cC oT oT_persons oT_firstDays oT_lastDays T_granted T_persons T_firstDays T_lastDays) H locs → decode cX2_awayOn pc = .ok (.ireturn, 1) → W p l e (headSpec wsX2_awayOn rm_X2_awayOn).room s m ([.ref oT, .int x1] : List Value).toArray below meth c H locs 0 0 (MQ below (QiW D (fun (r : Int32) (u : Unit) => Q r ) (fun u => (ww_X2_awayOn cI cC oT oT_persons oT_firstDays oT_lastDays T_granted T_persons T_firstDays T_lastDays)) (ww_X2_awayOn cI cC oT oT_persons oT_firstDays oT_lastDays T_granted T_persons T_firstDays T_lastDays) s.heap.size) ([.ref oT, .int x1] : List Value).toArray s 0 0 (va_A (ww_X2_awayOn cI cC oT oT_persons oT_firstDays oT_lastDays T_granted T_persons T_firstDays T_lastDays) s.heap.size)) (F0 m pc ls [.int r]) := by
    intro r H locs ls pc hq hw9 hd9
    exact W.iret (v := r) hx hb hr (fun t ht hW => ⟨⟨r, (), rfl, hq, by rw [ht]; exact hw9.1, hw9.2.1⟩, hw9.2.2.F ht⟩) hw9.2.2.2.2 hd9
  unfold wp_X2_awayOn at hw
  refine lv_iconst (v := (nI 0)) hx hb dX2_awayOn_0 rfl ?_
  refine lv_istore_n (lv' := [(2, .int (nI 0)), (0, .ref oT), (1, .int x1)]) hx hb dX2_awayOn_1 rfl hl (by decide) rfl (fun ls hl => ?_)
  refine lv_iconst (v := (nI 0)) hx hb dX2_awayOn_2 rfl ?_
  refine lv_istore_n (lv' := [(3, .int (nI 0)), (2, .int (nI 0)), (0, .ref oT), (1, .int x1)]) hx hb dX2_awayOn_3 rfl hl (by decide) rfl (fun ls hl => ?_)
  obtain ⟨n1, hw⟩ := hw
  refine blk_X2_awayOn_4 (CX := CX) (oT := oT) (oT_persons := oT_persons) (oT_firstDays := oT_firstDays) (oT_lastDays := oT_lastDays) (T_granted := T_granted) (T_persons := T_persons) (T_firstDays := T_firstDays) (T_lastDays := T_lastDays) (x1 := x1) (HR := HR) (HK_55 := fun x2_2 hw H locs ls hwd hl => ?_) n1 (nI 0) (nI 0) hw _ _ _ hwd (lv_sub hl [2, 3, 1, 0] rfl)
  try dsimp only at hw
  refine lv_iload_n hx hb dX2_awayOn_55 rfl (lv_at hl 0 rfl) ?_
  exact HR x2_2 hw hwd dX2_awayOn_56
abbrev ww_X2_leavesOf (cI cC : ClassId) (oT oT_persons oT_firstDays oT_lastDays : Nat) (T_granted : Int32) (T_persons : Nat → Int32) : va_W := [(oT, .inr (2, [.int T_granted, .ref oT_persons, .ref oT_firstDays, .ref oT_lastDays])), (oT_persons, .inl (cI, 40, .inl T_persons))]
abbrev rm_X2_leavesOf : Room := { frames := 0, cells := 0, slots := 0, locals := 0 }
theorem ic_X2_leavesOf_X2 : ∀ w ∈ u_ws RX2 TX2 4, w ∈ wsX2_leavesOf := by
  intro w h
  simp only [wsX2_leavesOf, List.mem_cons, List.mem_append]
  simp only [h, or_true, true_or]
def wb_X2_leavesOf_4 (T_granted : Int32) (T_persons : Nat → Int32) (x1 : Int32) (K_37 : Int32 → Prop) : Nat → Int32 → Int32 → Prop
  | 0, _, _ => False
  | n + 1, x2, x3 => ((T_granted ≤ x3 → K_37 x2) ∧ (¬ T_granted ≤ x3 → (((nI 40) ≤ x3 → K_37 x2) ∧ (¬ (nI 40) ≤ x3 → vp_in x3 40 ∧ ((¬ (T_persons x3.toNatClampNeg) = x1 → ∀ x3_4, x3_4 = x3 + (nI 1) → wb_X2_leavesOf_4 T_granted T_persons x1 K_37 n x2 x3_4) ∧ ((T_persons x3.toNatClampNeg) = x1 → ∀ x2_5, x2_5 = x2 + (nI 1) → ∀ x3_6, x3_6 = x3 + (nI 1) → wb_X2_leavesOf_4 T_granted T_persons x1 K_37 n x2_5 x3_6))))))
set_option maxRecDepth 100000 in
set_option maxHeartbeats 4000000 in
theorem blk_X2_leavesOf_4 {p : Program} {l : Launch} {e : Env} {s : State} {m : MethodId} {args : Array Value} {below : List Frame} {meth : Method} {c : Code} {D : va_G} {cI cC cR : ClassId} {A : Nat → Prop} {Z : State → Prop} (CX : cx cX2_leavesOf (some .int) 4 RX2 wsX2_leavesOf p m meth c s args D cI cC cR A) (oT oT_persons oT_firstDays oT_lastDays : Nat) (T_granted : Int32) (T_persons : Nat → Int32) (x1 : Int32) {K_37 : Int32 → Prop} {Q : Int32 → Prop} (HR : ∀ (r : Int32) {H : Heap} {locs : List Loc} {ls : Array Slot} {pc : Nat}, Q r → wd D A s (ww_X2_leavesOf cI cC oT oT_persons oT_firstDays oT_lastDays T_granted T_persons) H locs → decode cX2_leavesOf pc = .ok (.ireturn, 1) → W p l e (headSpec wsX2_leavesOf rm_X2_leavesOf).room s m args below meth c H locs 0 0 Z (F0 m pc ls [.int r])) (HK_37 : ∀ (x2y : Int32), K_37 x2y → ∀ (H : Heap) (locs : List Loc) (ls : Array Slot), wd D A s (ww_X2_leavesOf cI cC oT oT_persons oT_firstDays oT_lastDays T_granted T_persons) H locs → lv_has ls 4 [(2, .int x2y)] → W p l e (headSpec wsX2_leavesOf rm_X2_leavesOf).room s m args below meth c H locs 0 0 Z (F0 m 37 ls [])) : ∀ (n : Nat) (x2 : Int32) (x3 : Int32), wb_X2_leavesOf_4 T_granted T_persons x1 K_37 n x2 x3 → ∀ (H : Heap) (locs : List Loc) (ls : Array Slot), wd D A s (ww_X2_leavesOf cI cC oT oT_persons oT_firstDays oT_lastDays T_granted T_persons) H locs → lv_has ls 4 [(0, .ref oT), (1, .int x1), (2, .int x2), (3, .int x3)] → W p l e (headSpec wsX2_leavesOf rm_X2_leavesOf).room s m args below meth c H locs 0 0 Z (F0 m 4 ls []) := by
  obtain ⟨hx, hb, hr, hml, hts, hown, hlocks, hKw, hA⟩ := id CX
  intro n
  induction n with
  | zero => intro x2 x3 hw; exact False.elim hw
  | succ n ih =>
    intro x2 x3 hw H locs ls hwd hl
    rw [wb_X2_leavesOf_4] at hw
    refine lv_iload_n hx hb dX2_leavesOf_4 rfl (lv_at hl 3 rfl) ?_
    refine lv_aload_n hx hb dX2_leavesOf_5 rfl (lv_at hl 0 rfl) ?_
    refine va_get (D := D) (ci := 2) (v := .int T_granted) (C := RX2) (T := TX2) (N := 4) hx hb hts ic_X2_leavesOf_X2 hown hKw.1 hwd.1 0 rfl rfl 0 (by decide) (hts (.fieldLink RX2 21 "DrillWardens$Leaves" "granted" "I") (List.mem_of_getElem? (i := 1) rfl)) (fun _ h9 => h9) rfl dX2_leavesOf_6 ?_
    refine lv_icmp_ge (tgt := 37) hx hb dX2_leavesOf_9 (by decide) (fun c1 => ?_) (fun c1 => ?_)
    · replace hw := hw.1 c1
      exact HK_37 x2 hw _ _ _ hwd (lv_sub hl [2] rfl)
    · replace hw := hw.2 c1
      refine lv_iload_n hx hb dX2_leavesOf_12 rfl (lv_at hl 3 rfl) ?_
      refine lv_bipush (v := (nI 40)) hx hb dX2_leavesOf_13 rfl ?_
      refine lv_icmp_ge (tgt := 37) hx hb dX2_leavesOf_15 (by decide) (fun c2 => ?_) (fun c2 => ?_)
      · replace hw := hw.1 c2
        exact HK_37 x2 hw _ _ _ hwd (lv_sub hl [2] rfl)
      · replace hw := hw.2 c2
        refine lv_aload_n hx hb dX2_leavesOf_18 rfl (lv_at hl 0 rfl) ?_
        refine va_get (D := D) (ci := 2) (v := .ref oT_persons) (C := RX2) (T := TX2) (N := 4) hx hb hts ic_X2_leavesOf_X2 hown hKw.1 hwd.1 0 rfl rfl 1 (by decide) (hts (.fieldLink RX2 9 "DrillWardens$Leaves" "persons" "[I") (List.mem_of_getElem? (i := 2) rfl)) (fun _ h9 => h9) rfl dX2_leavesOf_19 ?_
        refine lv_iload_n hx hb dX2_leavesOf_22 rfl (lv_at hl 3 rfl) ?_
        refine va_iald hx hb hKw.1 hwd.1 1 0 rfl rfl hw.1 dX2_leavesOf_23 ?_
        replace hw := hw.2
        refine lv_iload_n hx hb dX2_leavesOf_24 rfl (lv_at hl 1 rfl) ?_
        refine lv_icmp_ne (tgt := 31) hx hb dX2_leavesOf_25 (by decide) (fun c3 => ?_) (fun c3 => ?_)
        · replace hw := hw.1 c3
          obtain ⟨x3_4, e_x3_4⟩ : ∃ y : Int32, y = x3 + (nI 1) := ⟨_, rfl⟩
          replace hw := hw x3_4 e_x3_4
          refine lv_iinc (v := x3_4) (lv' := [(3, .int x3_4), (0, .ref oT), (1, .int x1), (2, .int x2)]) hx hb dX2_leavesOf_31 hl (k := 3) rfl (by rw [e_x3_4]; rfl) (by decide) rfl (fun ls hl => ?_)
          refine lv_goto (tgt := 4) hx hb dX2_leavesOf_34 (by decide) ?_
          exact ih x2 x3_4 hw _ _ _ hwd (lv_sub hl [1, 2, 3, 0] rfl)
        · replace hw := hw.2 c3
          obtain ⟨x2_5, e_x2_5⟩ : ∃ y : Int32, y = x2 + (nI 1) := ⟨_, rfl⟩
          replace hw := hw x2_5 e_x2_5
          refine lv_iinc (v := x2_5) (lv' := [(2, .int x2_5), (0, .ref oT), (1, .int x1), (3, .int x3)]) hx hb dX2_leavesOf_28 hl (k := 2) rfl (by rw [e_x2_5]; rfl) (by decide) rfl (fun ls hl => ?_)
          obtain ⟨x3_6, e_x3_6⟩ : ∃ y : Int32, y = x3 + (nI 1) := ⟨_, rfl⟩
          replace hw := hw x3_6 e_x3_6
          refine lv_iinc (v := x3_6) (lv' := [(3, .int x3_6), (2, .int x2_5), (0, .ref oT), (1, .int x1)]) hx hb dX2_leavesOf_31 hl (k := 3) rfl (by rw [e_x3_6]; rfl) (by decide) rfl (fun ls hl => ?_)
          refine lv_goto (tgt := 4) hx hb dX2_leavesOf_34 (by decide) ?_
          exact ih x2_5 x3_6 hw _ _ _ hwd (lv_sub hl [2, 3, 1, 0] rfl)
def wp_X2_leavesOf (T_granted : Int32) (T_persons : Nat → Int32) (x1 : Int32) (Q : Int32 → Prop) : Prop := (∃ n1, wb_X2_leavesOf_4 T_granted T_persons x1 (fun x2_2 => Q x2_2) n1 (nI 0) (nI 0))
set_option maxRecDepth 100000 in
set_option maxHeartbeats 4000000 in
theorem c_X2_leavesOf (l : Launch) {D : va_G} {cI cC cR : ClassId} (oT oT_persons oT_firstDays oT_lastDays : Nat) (sz : Nat) (T_granted : Int32) (T_persons : Nat → Int32) (x1 : Int32) {Q : Int32 → Prop} (hw : wp_X2_leavesOf T_granted T_persons x1 Q) : Met l yX2_leavesOf wsX2_leavesOf rm_X2_leavesOf (PcW D cI cC cR [.ref oT, .int x1] (ww_X2_leavesOf cI cC oT oT_persons oT_firstDays oT_lastDays T_granted T_persons) sz) (QiW D (fun (r : Int32) (u : Unit) => Q r ) (fun u => (ww_X2_leavesOf cI cC oT oT_persons oT_firstDays oT_lastDays T_granted T_persons)) (ww_X2_leavesOf cI cC oT oT_persons oT_firstDays oT_lastDays T_granted T_persons) sz) 0 0 (va_A (ww_X2_leavesOf cI cC oT oT_persons oT_firstDays oT_lastDays T_granted T_persons) sz) := by
  refine Met.ofW (cc := cX2_leavesOf) (maxL := 4) (ret := (some .int)) (by decide) rfl ?_
  intro p e s m args below meth c s₁ B hml hv
  obtain ⟨rfl, hsz, hP, hKw, hD0⟩ := hv
  have hlocks := B.notSynchronized
  subst hsz
  have hD := hD0.self (sz := s.heap.size)
  have CX : cx cX2_leavesOf (some .int) 4 RX2 wsX2_leavesOf p m meth c s ([.ref oT, .int x1] : List Value).toArray D cI cC cR (va_A (ww_X2_leavesOf cI cC oT oT_persons oT_firstDays oT_lastDays T_granted T_persons) s.heap.size) := ⟨B.exec, B.bytes, B.returns, hml, atoms_spec (ws := wsX2_leavesOf) B.pre, findClass_of_methodNamed B.named, hlocks, hKw, fun q h => Or.inr h⟩
  obtain ⟨hx, hb, hr, -, hts, hown, -, -, hA⟩ := id CX
  have hwd : wd D (va_A (ww_X2_leavesOf cI cC oT oT_persons oT_firstDays oT_lastDays T_granted T_persons) s.heap.size) s (ww_X2_leavesOf cI cC oT oT_persons oT_firstDays oT_lastDays T_granted T_persons) s.heap [] := ⟨hP, hD, va_S.rf⟩
  have hl := lv_entry ([.ref oT, .int x1]) (n := 4) (Nat.le_of_ble_eq_true rfl)
  rw [lg_entry_eq]
  generalize (lg_sl ([.ref oT, .int x1]) ++ List.replicate (4 - (lg_sl ([.ref oT, .int x1])).length) Slot.unset).toArray = ls at hl ⊢
  have hl : lv_has ls 4 [(0, .ref oT), (1, .int x1)] := hl
  have HR : ∀ (r : Int32) {H : Heap} {locs : List Loc} {ls : Array Slot} {pc : Nat}, Q r → wd D (va_A (ww_X2_leavesOf cI cC oT oT_persons oT_firstDays oT_lastDays T_granted T_persons) s.heap.size) s (ww_X2_leavesOf cI cC oT oT_persons oT_firstDays oT_lastDays T_granted T_persons) H locs → decode cX2_leavesOf pc = .ok (.ireturn, 1) → W p l e (headSpec wsX2_leavesOf rm_X2_leavesOf).room s m ([.ref oT, .int x1] : List Value).toArray below meth c H locs 0 0 (MQ below (QiW D (fun (r : Int32) (u : Unit) => Q r ) (fun u => (ww_X2_leavesOf cI cC oT oT_persons oT_firstDays oT_lastDays T_granted T_persons)) (ww_X2_leavesOf cI cC oT oT_persons oT_firstDays oT_lastDays T_granted T_persons) s.heap.size) ([.ref oT, .int x1] : List Value).toArray s 0 0 (va_A (ww_X2_leavesOf cI cC oT oT_persons oT_firstDays oT_lastDays T_granted T_persons) s.heap.size)) (F0 m pc ls [.int r]) := by
    intro r H locs ls pc hq hw9 hd9
    exact W.iret (v := r) hx hb hr (fun t ht hW => ⟨⟨r, (), rfl, hq, by rw [ht]; exact hw9.1, hw9.2.1⟩, hw9.2.2.F ht⟩) hw9.2.2.2.2 hd9
  unfold wp_X2_leavesOf at hw
  refine lv_iconst (v := (nI 0)) hx hb dX2_leavesOf_0 rfl ?_
  refine lv_istore_n (lv' := [(2, .int (nI 0)), (0, .ref oT), (1, .int x1)]) hx hb dX2_leavesOf_1 rfl hl (by decide) rfl (fun ls hl => ?_)
  refine lv_iconst (v := (nI 0)) hx hb dX2_leavesOf_2 rfl ?_
  refine lv_istore_n (lv' := [(3, .int (nI 0)), (2, .int (nI 0)), (0, .ref oT), (1, .int x1)]) hx hb dX2_leavesOf_3 rfl hl (by decide) rfl (fun ls hl => ?_)
  obtain ⟨n1, hw⟩ := hw
  refine blk_X2_leavesOf_4 (CX := CX) (oT := oT) (oT_persons := oT_persons) (oT_firstDays := oT_firstDays) (oT_lastDays := oT_lastDays) (T_granted := T_granted) (T_persons := T_persons) (x1 := x1) (HR := HR) (HK_37 := fun x2_2 hw H locs ls hwd hl => ?_) n1 (nI 0) (nI 0) hw _ _ _ hwd (lv_sub hl [2, 3, 1, 0] rfl)
  try dsimp only at hw
  refine lv_iload_n hx hb dX2_leavesOf_37 rfl (lv_at hl 0 rfl) ?_
  exact HR x2_2 hw hwd dX2_leavesOf_38
abbrev ww_X2_daysOf (cI cC : ClassId) (oT oT_persons oT_firstDays oT_lastDays : Nat) (T_granted : Int32) (T_persons : Nat → Int32) (T_firstDays : Nat → Int32) (T_lastDays : Nat → Int32) : va_W := [(oT, .inr (2, [.int T_granted, .ref oT_persons, .ref oT_firstDays, .ref oT_lastDays])), (oT_persons, .inl (cI, 40, .inl T_persons)), (oT_firstDays, .inl (cI, 40, .inl T_firstDays)), (oT_lastDays, .inl (cI, 40, .inl T_lastDays))]
abbrev rm_X2_daysOf : Room := { frames := 0, cells := 0, slots := 0, locals := 0 }
theorem ic_X2_daysOf_X2 : ∀ w ∈ u_ws RX2 TX2 4, w ∈ wsX2_daysOf := by
  intro w h
  simp only [wsX2_daysOf, List.mem_cons, List.mem_append]
  simp only [h, or_true, true_or]
def wb_X2_daysOf_4 (T_granted : Int32) (T_persons : Nat → Int32) (T_firstDays : Nat → Int32) (T_lastDays : Nat → Int32) (x1 : Int32) (K_52 : Int32 → Prop) : Nat → Int32 → Int32 → Prop
  | 0, _, _ => False
  | n + 1, x2, x3 => ((T_granted ≤ x3 → K_52 x2) ∧ (¬ T_granted ≤ x3 → (((nI 40) ≤ x3 → K_52 x2) ∧ (¬ (nI 40) ≤ x3 → vp_in x3 40 ∧ ((¬ (T_persons x3.toNatClampNeg) = x1 → ∀ x3_4, x3_4 = x3 + (nI 1) → wb_X2_daysOf_4 T_granted T_persons T_firstDays T_lastDays x1 K_52 n x2 x3_4) ∧ ((T_persons x3.toNatClampNeg) = x1 → vp_in x3 40 ∧ vp_in x3 40 ∧ ∀ x2_5, x2_5 = x2 + (((T_lastDays x3.toNatClampNeg) - (T_firstDays x3.toNatClampNeg)) + (nI 1)) → ∀ x3_6, x3_6 = x3 + (nI 1) → wb_X2_daysOf_4 T_granted T_persons T_firstDays T_lastDays x1 K_52 n x2_5 x3_6))))))
set_option maxRecDepth 100000 in
set_option maxHeartbeats 4000000 in
theorem blk_X2_daysOf_4 {p : Program} {l : Launch} {e : Env} {s : State} {m : MethodId} {args : Array Value} {below : List Frame} {meth : Method} {c : Code} {D : va_G} {cI cC cR : ClassId} {A : Nat → Prop} {Z : State → Prop} (CX : cx cX2_daysOf (some .int) 4 RX2 wsX2_daysOf p m meth c s args D cI cC cR A) (oT oT_persons oT_firstDays oT_lastDays : Nat) (T_granted : Int32) (T_persons : Nat → Int32) (T_firstDays : Nat → Int32) (T_lastDays : Nat → Int32) (x1 : Int32) {K_52 : Int32 → Prop} {Q : Int32 → Prop} (HR : ∀ (r : Int32) {H : Heap} {locs : List Loc} {ls : Array Slot} {pc : Nat}, Q r → wd D A s (ww_X2_daysOf cI cC oT oT_persons oT_firstDays oT_lastDays T_granted T_persons T_firstDays T_lastDays) H locs → decode cX2_daysOf pc = .ok (.ireturn, 1) → W p l e (headSpec wsX2_daysOf rm_X2_daysOf).room s m args below meth c H locs 0 0 Z (F0 m pc ls [.int r])) (HK_52 : ∀ (x2y : Int32), K_52 x2y → ∀ (H : Heap) (locs : List Loc) (ls : Array Slot), wd D A s (ww_X2_daysOf cI cC oT oT_persons oT_firstDays oT_lastDays T_granted T_persons T_firstDays T_lastDays) H locs → lv_has ls 4 [(2, .int x2y)] → W p l e (headSpec wsX2_daysOf rm_X2_daysOf).room s m args below meth c H locs 0 0 Z (F0 m 52 ls [])) : ∀ (n : Nat) (x2 : Int32) (x3 : Int32), wb_X2_daysOf_4 T_granted T_persons T_firstDays T_lastDays x1 K_52 n x2 x3 → ∀ (H : Heap) (locs : List Loc) (ls : Array Slot), wd D A s (ww_X2_daysOf cI cC oT oT_persons oT_firstDays oT_lastDays T_granted T_persons T_firstDays T_lastDays) H locs → lv_has ls 4 [(0, .ref oT), (1, .int x1), (2, .int x2), (3, .int x3)] → W p l e (headSpec wsX2_daysOf rm_X2_daysOf).room s m args below meth c H locs 0 0 Z (F0 m 4 ls []) := by
  obtain ⟨hx, hb, hr, hml, hts, hown, hlocks, hKw, hA⟩ := id CX
  intro n
  induction n with
  | zero => intro x2 x3 hw; exact False.elim hw
  | succ n ih =>
    intro x2 x3 hw H locs ls hwd hl
    rw [wb_X2_daysOf_4] at hw
    refine lv_iload_n hx hb dX2_daysOf_4 rfl (lv_at hl 3 rfl) ?_
    refine lv_aload_n hx hb dX2_daysOf_5 rfl (lv_at hl 0 rfl) ?_
    refine va_get (D := D) (ci := 2) (v := .int T_granted) (C := RX2) (T := TX2) (N := 4) hx hb hts ic_X2_daysOf_X2 hown hKw.1 hwd.1 0 rfl rfl 0 (by decide) (hts (.fieldLink RX2 21 "DrillWardens$Leaves" "granted" "I") (List.mem_of_getElem? (i := 1) rfl)) (fun _ h9 => h9) rfl dX2_daysOf_6 ?_
    refine lv_icmp_ge (tgt := 52) hx hb dX2_daysOf_9 (by decide) (fun c1 => ?_) (fun c1 => ?_)
    · replace hw := hw.1 c1
      exact HK_52 x2 hw _ _ _ hwd (lv_sub hl [2] rfl)
    · replace hw := hw.2 c1
      refine lv_iload_n hx hb dX2_daysOf_12 rfl (lv_at hl 3 rfl) ?_
      refine lv_bipush (v := (nI 40)) hx hb dX2_daysOf_13 rfl ?_
      refine lv_icmp_ge (tgt := 52) hx hb dX2_daysOf_15 (by decide) (fun c2 => ?_) (fun c2 => ?_)
      · replace hw := hw.1 c2
        exact HK_52 x2 hw _ _ _ hwd (lv_sub hl [2] rfl)
      · replace hw := hw.2 c2
        refine lv_aload_n hx hb dX2_daysOf_18 rfl (lv_at hl 0 rfl) ?_
        refine va_get (D := D) (ci := 2) (v := .ref oT_persons) (C := RX2) (T := TX2) (N := 4) hx hb hts ic_X2_daysOf_X2 hown hKw.1 hwd.1 0 rfl rfl 1 (by decide) (hts (.fieldLink RX2 9 "DrillWardens$Leaves" "persons" "[I") (List.mem_of_getElem? (i := 2) rfl)) (fun _ h9 => h9) rfl dX2_daysOf_19 ?_
        refine lv_iload_n hx hb dX2_daysOf_22 rfl (lv_at hl 3 rfl) ?_
        refine va_iald hx hb hKw.1 hwd.1 1 0 rfl rfl hw.1 dX2_daysOf_23 ?_
        replace hw := hw.2
        refine lv_iload_n hx hb dX2_daysOf_24 rfl (lv_at hl 1 rfl) ?_
        refine lv_icmp_ne (tgt := 46) hx hb dX2_daysOf_25 (by decide) (fun c3 => ?_) (fun c3 => ?_)
        · replace hw := hw.1 c3
          obtain ⟨x3_4, e_x3_4⟩ : ∃ y : Int32, y = x3 + (nI 1) := ⟨_, rfl⟩
          replace hw := hw x3_4 e_x3_4
          refine lv_iinc (v := x3_4) (lv' := [(3, .int x3_4), (0, .ref oT), (1, .int x1), (2, .int x2)]) hx hb dX2_daysOf_46 hl (k := 3) rfl (by rw [e_x3_4]; rfl) (by decide) rfl (fun ls hl => ?_)
          refine lv_goto (tgt := 4) hx hb dX2_daysOf_49 (by decide) ?_
          exact ih x2 x3_4 hw _ _ _ hwd (lv_sub hl [1, 2, 3, 0] rfl)
        · replace hw := hw.2 c3
          refine lv_iload_n hx hb dX2_daysOf_28 rfl (lv_at hl 2 rfl) ?_
          refine lv_aload_n hx hb dX2_daysOf_29 rfl (lv_at hl 0 rfl) ?_
          refine va_get (D := D) (ci := 2) (v := .ref oT_lastDays) (C := RX2) (T := TX2) (N := 4) hx hb hts ic_X2_daysOf_X2 hown hKw.1 hwd.1 0 rfl rfl 3 (by decide) (hts (.fieldLink RX2 18 "DrillWardens$Leaves" "lastDays" "[I") (List.mem_of_getElem? (i := 3) rfl)) (fun _ h9 => h9) rfl dX2_daysOf_30 ?_
          refine lv_iload_n hx hb dX2_daysOf_33 rfl (lv_at hl 3 rfl) ?_
          refine va_iald hx hb hKw.1 hwd.1 3 0 rfl rfl hw.1 dX2_daysOf_34 ?_
          replace hw := hw.2
          refine lv_aload_n hx hb dX2_daysOf_35 rfl (lv_at hl 0 rfl) ?_
          refine va_get (D := D) (ci := 2) (v := .ref oT_firstDays) (C := RX2) (T := TX2) (N := 4) hx hb hts ic_X2_daysOf_X2 hown hKw.1 hwd.1 0 rfl rfl 2 (by decide) (hts (.fieldLink RX2 15 "DrillWardens$Leaves" "firstDays" "[I") (List.mem_of_getElem? (i := 4) rfl)) (fun _ h9 => h9) rfl dX2_daysOf_36 ?_
          refine lv_iload_n hx hb dX2_daysOf_39 rfl (lv_at hl 3 rfl) ?_
          refine va_iald hx hb hKw.1 hwd.1 2 0 rfl rfl hw.1 dX2_daysOf_40 ?_
          replace hw := hw.2
          refine lv_isub hx hb dX2_daysOf_41 ?_
          refine lv_iconst (v := (nI 1)) hx hb dX2_daysOf_42 rfl ?_
          refine lv_iadd hx hb dX2_daysOf_43 ?_
          refine lv_iadd hx hb dX2_daysOf_44 ?_
          refine lv_topi (fun x2_5 e_x2_5 => ?_)
          replace hw := hw x2_5 e_x2_5
          refine lv_istore_n (lv' := [(2, .int x2_5), (0, .ref oT), (1, .int x1), (3, .int x3)]) hx hb dX2_daysOf_45 rfl hl (by decide) rfl (fun ls hl => ?_)
          obtain ⟨x3_6, e_x3_6⟩ : ∃ y : Int32, y = x3 + (nI 1) := ⟨_, rfl⟩
          replace hw := hw x3_6 e_x3_6
          refine lv_iinc (v := x3_6) (lv' := [(3, .int x3_6), (2, .int x2_5), (0, .ref oT), (1, .int x1)]) hx hb dX2_daysOf_46 hl (k := 3) rfl (by rw [e_x3_6]; rfl) (by decide) rfl (fun ls hl => ?_)
          refine lv_goto (tgt := 4) hx hb dX2_daysOf_49 (by decide) ?_
          exact ih x2_5 x3_6 hw _ _ _ hwd (lv_sub hl [2, 3, 1, 0] rfl)
def wp_X2_daysOf (T_granted : Int32) (T_persons : Nat → Int32) (T_firstDays : Nat → Int32) (T_lastDays : Nat → Int32) (x1 : Int32) (Q : Int32 → Prop) : Prop := (∃ n1, wb_X2_daysOf_4 T_granted T_persons T_firstDays T_lastDays x1 (fun x2_2 => Q x2_2) n1 (nI 0) (nI 0))
set_option maxRecDepth 100000 in
set_option maxHeartbeats 4000000 in
theorem c_X2_daysOf (l : Launch) {D : va_G} {cI cC cR : ClassId} (oT oT_persons oT_firstDays oT_lastDays : Nat) (sz : Nat) (T_granted : Int32) (T_persons : Nat → Int32) (T_firstDays : Nat → Int32) (T_lastDays : Nat → Int32) (x1 : Int32) {Q : Int32 → Prop} (hw : wp_X2_daysOf T_granted T_persons T_firstDays T_lastDays x1 Q) : Met l yX2_daysOf wsX2_daysOf rm_X2_daysOf (PcW D cI cC cR [.ref oT, .int x1] (ww_X2_daysOf cI cC oT oT_persons oT_firstDays oT_lastDays T_granted T_persons T_firstDays T_lastDays) sz) (QiW D (fun (r : Int32) (u : Unit) => Q r ) (fun u => (ww_X2_daysOf cI cC oT oT_persons oT_firstDays oT_lastDays T_granted T_persons T_firstDays T_lastDays)) (ww_X2_daysOf cI cC oT oT_persons oT_firstDays oT_lastDays T_granted T_persons T_firstDays T_lastDays) sz) 0 0 (va_A (ww_X2_daysOf cI cC oT oT_persons oT_firstDays oT_lastDays T_granted T_persons T_firstDays T_lastDays) sz) := by
  refine Met.ofW (cc := cX2_daysOf) (maxL := 4) (ret := (some .int)) (by decide) rfl ?_
  intro p e s m args below meth c s₁ B hml hv
  obtain ⟨rfl, hsz, hP, hKw, hD0⟩ := hv
  have hlocks := B.notSynchronized
  subst hsz
  have hD := hD0.self (sz := s.heap.size)
  have CX : cx cX2_daysOf (some .int) 4 RX2 wsX2_daysOf p m meth c s ([.ref oT, .int x1] : List Value).toArray D cI cC cR (va_A (ww_X2_daysOf cI cC oT oT_persons oT_firstDays oT_lastDays T_granted T_persons T_firstDays T_lastDays) s.heap.size) := ⟨B.exec, B.bytes, B.returns, hml, atoms_spec (ws := wsX2_daysOf) B.pre, findClass_of_methodNamed B.named, hlocks, hKw, fun q h => Or.inr h⟩
  obtain ⟨hx, hb, hr, -, hts, hown, -, -, hA⟩ := id CX
  have hwd : wd D (va_A (ww_X2_daysOf cI cC oT oT_persons oT_firstDays oT_lastDays T_granted T_persons T_firstDays T_lastDays) s.heap.size) s (ww_X2_daysOf cI cC oT oT_persons oT_firstDays oT_lastDays T_granted T_persons T_firstDays T_lastDays) s.heap [] := ⟨hP, hD, va_S.rf⟩
  have hl := lv_entry ([.ref oT, .int x1]) (n := 4) (Nat.le_of_ble_eq_true rfl)
  rw [lg_entry_eq]
  generalize (lg_sl ([.ref oT, .int x1]) ++ List.replicate (4 - (lg_sl ([.ref oT, .int x1])).length) Slot.unset).toArray = ls at hl ⊢
  have hl : lv_has ls 4 [(0, .ref oT), (1, .int x1)] := hl
  have HR : ∀ (r : Int32) {H : Heap} {locs : List Loc} {ls : Array Slot} {pc : Nat}, Q r → wd D (va_A (ww_X2_daysOf cI cC oT oT_persons oT_firstDays oT_lastDays T_granted T_persons T_firstDays T_lastDays) s.heap.size) s (ww_X2_daysOf cI cC oT oT_persons oT_firstDays oT_lastDays T_granted T_persons T_firstDays T_lastDays) H locs → decode cX2_daysOf pc = .ok (.ireturn, 1) → W p l e (headSpec wsX2_daysOf rm_X2_daysOf).room s m ([.ref oT, .int x1] : List Value).toArray below meth c H locs 0 0 (MQ below (QiW D (fun (r : Int32) (u : Unit) => Q r ) (fun u => (ww_X2_daysOf cI cC oT oT_persons oT_firstDays oT_lastDays T_granted T_persons T_firstDays T_lastDays)) (ww_X2_daysOf cI cC oT oT_persons oT_firstDays oT_lastDays T_granted T_persons T_firstDays T_lastDays) s.heap.size) ([.ref oT, .int x1] : List Value).toArray s 0 0 (va_A (ww_X2_daysOf cI cC oT oT_persons oT_firstDays oT_lastDays T_granted T_persons T_firstDays T_lastDays) s.heap.size)) (F0 m pc ls [.int r]) := by
    intro r H locs ls pc hq hw9 hd9
    exact W.iret (v := r) hx hb hr (fun t ht hW => ⟨⟨r, (), rfl, hq, by rw [ht]; exact hw9.1, hw9.2.1⟩, hw9.2.2.F ht⟩) hw9.2.2.2.2 hd9
  unfold wp_X2_daysOf at hw
  refine lv_iconst (v := (nI 0)) hx hb dX2_daysOf_0 rfl ?_
  refine lv_istore_n (lv' := [(2, .int (nI 0)), (0, .ref oT), (1, .int x1)]) hx hb dX2_daysOf_1 rfl hl (by decide) rfl (fun ls hl => ?_)
  refine lv_iconst (v := (nI 0)) hx hb dX2_daysOf_2 rfl ?_
  refine lv_istore_n (lv' := [(3, .int (nI 0)), (2, .int (nI 0)), (0, .ref oT), (1, .int x1)]) hx hb dX2_daysOf_3 rfl hl (by decide) rfl (fun ls hl => ?_)
  obtain ⟨n1, hw⟩ := hw
  refine blk_X2_daysOf_4 (CX := CX) (oT := oT) (oT_persons := oT_persons) (oT_firstDays := oT_firstDays) (oT_lastDays := oT_lastDays) (T_granted := T_granted) (T_persons := T_persons) (T_firstDays := T_firstDays) (T_lastDays := T_lastDays) (x1 := x1) (HR := HR) (HK_52 := fun x2_2 hw H locs ls hwd hl => ?_) n1 (nI 0) (nI 0) hw _ _ _ hwd (lv_sub hl [2, 3, 1, 0] rfl)
  try dsimp only at hw
  refine lv_iload_n hx hb dX2_daysOf_52 rfl (lv_at hl 0 rfl) ?_
  exact HR x2_2 hw hwd dX2_daysOf_53
abbrev ww_X0_add (cI cC : ClassId) (oT oT_held oT_quarters oT_led oT_logDays oT_logMinutes oT_logLeaders : Nat) (T_minutes : Int32) (T_held : Nat → Int32) (T_quarters : Nat → Int32) (T_led : Nat → Int32) (T_logDays : Nat → Int32) (T_logMinutes : Nat → Int32) (T_logLeaders : Nat → Int32) : va_W := [(oT, .inr (0, [.int T_minutes, .ref oT_held, .ref oT_quarters, .ref oT_led, .ref oT_logDays, .ref oT_logMinutes, .ref oT_logLeaders])), (oT_held, .inl (cI, 10, .inl T_held)), (oT_quarters, .inl (cI, 10, .inl T_quarters)), (oT_led, .inl (cI, 16, .inl T_led)), (oT_logDays, .inl (cI, 60, .inl T_logDays)), (oT_logMinutes, .inl (cI, 60, .inl T_logMinutes)), (oT_logLeaders, .inl (cI, 60, .inl T_logLeaders))]
abbrev rm_X0_add : Room := { frames := 1, cells := 0, slots := 0, locals := 20 }
theorem ic_X0_add_X0 : ∀ w ∈ u_ws RX0 TX0 7, w ∈ wsX0_add := by
  intro w h
  simp only [wsX0_add, List.mem_cons, List.mem_append]
  simp only [h, or_true, true_or]
def wb_X0_add_31 (x5 : Int32) (K_92 : (Nat → Int32) → (Nat → Int32) → (Nat → Int32) → Prop) : Nat → (Nat → Int32) → (Nat → Int32) → (Nat → Int32) → Int32 → Prop
  | 0, _, _, _, _ => False
  | n + 1, T_logDays, T_logMinutes, T_logLeaders, x6 => ((x6 ≤ x5 → K_92 T_logDays T_logMinutes T_logLeaders) ∧ (¬ x6 ≤ x5 → vp_in (x6 - (nI 1)) 60 ∧ vp_in x6 60 ∧ ∀ T_logDays2, T_logDays2 = upd T_logDays x6.toNatClampNeg (T_logDays (x6 - (nI 1)).toNatClampNeg) → vp_in (x6 - (nI 1)) 60 ∧ vp_in x6 60 ∧ ∀ T_logMinutes3, T_logMinutes3 = upd T_logMinutes x6.toNatClampNeg (T_logMinutes (x6 - (nI 1)).toNatClampNeg) → vp_in (x6 - (nI 1)) 60 ∧ vp_in x6 60 ∧ ∀ T_logLeaders4, T_logLeaders4 = upd T_logLeaders x6.toNatClampNeg (T_logLeaders (x6 - (nI 1)).toNatClampNeg) → ∀ x6_5, x6_5 = x6 + (-1) → wb_X0_add_31 x5 K_92 n T_logDays2 T_logMinutes3 T_logLeaders4 x6_5))
set_option maxRecDepth 100000 in
set_option maxHeartbeats 4000000 in
theorem blk_X0_add_31 {p : Program} {l : Launch} {e : Env} {s : State} {m : MethodId} {args : Array Value} {below : List Frame} {meth : Method} {c : Code} {D : va_G} {cI cC cR : ClassId} {A : Nat → Prop} {Z : State → Prop} (CX : cx cX0_add none 7 RX0 wsX0_add p m meth c s args D cI cC cR A) (oT oT_held oT_quarters oT_led oT_logDays oT_logMinutes oT_logLeaders : Nat) (T_minutes : Int32) (T_held : Nat → Int32) (T_quarters : Nat → Int32) (T_led : Nat → Int32) (x1 : Int32) (x2 : Int32) (x3 : Int32) (x4 : Int32) (x5 : Int32) {K_92 : (Nat → Int32) → (Nat → Int32) → (Nat → Int32) → Prop} {Q : Int32 → (Nat → Int32) → (Nat → Int32) → (Nat → Int32) → (Nat → Int32) → (Nat → Int32) → (Nat → Int32) → Prop} (HR : ∀ (u0 : Int32) (u1 : Nat → Int32) (u2 : Nat → Int32) (u3 : Nat → Int32) (u4 : Nat → Int32) (u5 : Nat → Int32) (u6 : Nat → Int32) {H : Heap} {locs : List Loc} {ls : Array Slot} {pc : Nat}, Q u0 u1 u2 u3 u4 u5 u6 → wd D A s (ww_X0_add cI cC oT oT_held oT_quarters oT_led oT_logDays oT_logMinutes oT_logLeaders u0 u1 u2 u3 u4 u5 u6) H locs → decode cX0_add pc = .ok (.return_, 1) → W p l e (headSpec wsX0_add rm_X0_add).room s m args below meth c H locs 0 0 Z (F0 m pc ls [])) (HK_92 : ∀ (T_logDaysy : Nat → Int32) (T_logMinutesy : Nat → Int32) (T_logLeadersy : Nat → Int32), K_92 T_logDaysy T_logMinutesy T_logLeadersy → ∀ (H : Heap) (locs : List Loc) (ls : Array Slot), wd D A s (ww_X0_add cI cC oT oT_held oT_quarters oT_led oT_logDays oT_logMinutes oT_logLeaders T_minutes T_held T_quarters T_led T_logDaysy T_logMinutesy T_logLeadersy) H locs → lv_has ls 7 [(0, .ref oT), (1, .int x1), (2, .int x2), (3, .int x3), (4, .int x4), (5, .int x5)] → W p l e (headSpec wsX0_add rm_X0_add).room s m args below meth c H locs 0 0 Z (F0 m 92 ls [])) : ∀ (n : Nat) (T_logDays : Nat → Int32) (T_logMinutes : Nat → Int32) (T_logLeaders : Nat → Int32) (x6 : Int32), wb_X0_add_31 x5 K_92 n T_logDays T_logMinutes T_logLeaders x6 → ∀ (H : Heap) (locs : List Loc) (ls : Array Slot), wd D A s (ww_X0_add cI cC oT oT_held oT_quarters oT_led oT_logDays oT_logMinutes oT_logLeaders T_minutes T_held T_quarters T_led T_logDays T_logMinutes T_logLeaders) H locs → lv_has ls 7 [(0, .ref oT), (1, .int x1), (2, .int x2), (3, .int x3), (4, .int x4), (5, .int x5), (6, .int x6)] → W p l e (headSpec wsX0_add rm_X0_add).room s m args below meth c H locs 0 0 Z (F0 m 31 ls []) := by
  obtain ⟨hx, hb, hr, hml, hts, hown, hlocks, hKw, hA⟩ := id CX
  intro n
  induction n with
  | zero => intro T_logDays T_logMinutes T_logLeaders x6 hw; exact False.elim hw
  | succ n ih =>
    intro T_logDays T_logMinutes T_logLeaders x6 hw H locs ls hwd hl
    rw [wb_X0_add_31] at hw
    refine lv_iload hx hb dX0_add_31 (lv_at hl 6 rfl) ?_
    refine lv_iload hx hb dX0_add_33 (lv_at hl 5 rfl) ?_
    refine lv_icmp_le (tgt := 92) hx hb dX0_add_35 (by decide) (fun c1 => ?_) (fun c1 => ?_)
    · replace hw := hw.1 c1
      exact HK_92 T_logDays T_logMinutes T_logLeaders hw _ _ _ hwd (lv_sub hl [0, 1, 2, 3, 4, 5] rfl)
    · replace hw := hw.2 c1
      refine lv_aload_n hx hb dX0_add_38 rfl (lv_at hl 0 rfl) ?_
      refine va_get (D := D) (ci := 0) (v := .ref oT_logDays) (C := RX0) (T := TX0) (N := 7) hx hb hts ic_X0_add_X0 hown hKw.1 hwd.1 0 rfl rfl 4 (by decide) (hts (.fieldLink RX0 21 "DrillWardens$Drills" "logDays" "[I") (List.mem_of_getElem? (i := 1) rfl)) (fun _ h9 => h9) rfl dX0_add_39 ?_
      refine lv_iload hx hb dX0_add_42 (lv_at hl 6 rfl) ?_
      refine lv_aload_n hx hb dX0_add_44 rfl (lv_at hl 0 rfl) ?_
      refine va_get (D := D) (ci := 0) (v := .ref oT_logDays) (C := RX0) (T := TX0) (N := 7) hx hb hts ic_X0_add_X0 hown hKw.1 hwd.1 0 rfl rfl 4 (by decide) (hts (.fieldLink RX0 21 "DrillWardens$Drills" "logDays" "[I") (List.mem_of_getElem? (i := 1) rfl)) (fun _ h9 => h9) rfl dX0_add_45 ?_
      refine lv_iload hx hb dX0_add_48 (lv_at hl 6 rfl) ?_
      refine lv_iconst (v := (nI 1)) hx hb dX0_add_50 rfl ?_
      refine lv_isub hx hb dX0_add_51 ?_
      refine va_iald hx hb hKw.1 hwd.1 4 0 rfl rfl hw.1 dX0_add_52 ?_
      replace hw := hw.2
      obtain ⟨T_logDays2, e_T_logDays2⟩ : ∃ y : Nat → Int32, y = upd T_logDays x6.toNatClampNeg (T_logDays (x6 - (nI 1)).toNatClampNeg) := ⟨_, rfl⟩
      refine va_iast hx hb hKw.1 hwd.1 hwd.2.1 hwd.2.2 4 0 rfl rfl hw.1 dX0_add_53 (fun H locs h1 h2 h3 => ?_)
      replace hw := hw.2 T_logDays2 e_T_logDays2
      rw [← e_T_logDays2] at h1 h2
      replace hwd : wd D A s (ww_X0_add cI cC oT oT_held oT_quarters oT_led oT_logDays oT_logMinutes oT_logLeaders T_minutes T_held T_quarters T_led T_logDays2 T_logMinutes T_logLeaders) H locs := ⟨h1, h2, h3⟩
      clear h1 h2 h3
      refine lv_aload_n hx hb dX0_add_54 rfl (lv_at hl 0 rfl) ?_
      refine va_get (D := D) (ci := 0) (v := .ref oT_logMinutes) (C := RX0) (T := TX0) (N := 7) hx hb hts ic_X0_add_X0 hown hKw.1 hwd.1 0 rfl rfl 5 (by decide) (hts (.fieldLink RX0 24 "DrillWardens$Drills" "logMinutes" "[I") (List.mem_of_getElem? (i := 2) rfl)) (fun _ h9 => h9) rfl dX0_add_55 ?_
      refine lv_iload hx hb dX0_add_58 (lv_at hl 6 rfl) ?_
      refine lv_aload_n hx hb dX0_add_60 rfl (lv_at hl 0 rfl) ?_
      refine va_get (D := D) (ci := 0) (v := .ref oT_logMinutes) (C := RX0) (T := TX0) (N := 7) hx hb hts ic_X0_add_X0 hown hKw.1 hwd.1 0 rfl rfl 5 (by decide) (hts (.fieldLink RX0 24 "DrillWardens$Drills" "logMinutes" "[I") (List.mem_of_getElem? (i := 2) rfl)) (fun _ h9 => h9) rfl dX0_add_61 ?_
      refine lv_iload hx hb dX0_add_64 (lv_at hl 6 rfl) ?_
      refine lv_iconst (v := (nI 1)) hx hb dX0_add_66 rfl ?_
      refine lv_isub hx hb dX0_add_67 ?_
      refine va_iald hx hb hKw.1 hwd.1 5 0 rfl rfl hw.1 dX0_add_68 ?_
      replace hw := hw.2
      obtain ⟨T_logMinutes3, e_T_logMinutes3⟩ : ∃ y : Nat → Int32, y = upd T_logMinutes x6.toNatClampNeg (T_logMinutes (x6 - (nI 1)).toNatClampNeg) := ⟨_, rfl⟩
      refine va_iast hx hb hKw.1 hwd.1 hwd.2.1 hwd.2.2 5 0 rfl rfl hw.1 dX0_add_69 (fun H locs h1 h2 h3 => ?_)
      replace hw := hw.2 T_logMinutes3 e_T_logMinutes3
      rw [← e_T_logMinutes3] at h1 h2
      replace hwd : wd D A s (ww_X0_add cI cC oT oT_held oT_quarters oT_led oT_logDays oT_logMinutes oT_logLeaders T_minutes T_held T_quarters T_led T_logDays2 T_logMinutes3 T_logLeaders) H locs := ⟨h1, h2, h3⟩
      clear h1 h2 h3
      refine lv_aload_n hx hb dX0_add_70 rfl (lv_at hl 0 rfl) ?_
      refine va_get (D := D) (ci := 0) (v := .ref oT_logLeaders) (C := RX0) (T := TX0) (N := 7) hx hb hts ic_X0_add_X0 hown hKw.1 hwd.1 0 rfl rfl 6 (by decide) (hts (.fieldLink RX0 27 "DrillWardens$Drills" "logLeaders" "[I") (List.mem_of_getElem? (i := 3) rfl)) (fun _ h9 => h9) rfl dX0_add_71 ?_
      refine lv_iload hx hb dX0_add_74 (lv_at hl 6 rfl) ?_
      refine lv_aload_n hx hb dX0_add_76 rfl (lv_at hl 0 rfl) ?_
      refine va_get (D := D) (ci := 0) (v := .ref oT_logLeaders) (C := RX0) (T := TX0) (N := 7) hx hb hts ic_X0_add_X0 hown hKw.1 hwd.1 0 rfl rfl 6 (by decide) (hts (.fieldLink RX0 27 "DrillWardens$Drills" "logLeaders" "[I") (List.mem_of_getElem? (i := 3) rfl)) (fun _ h9 => h9) rfl dX0_add_77 ?_
      refine lv_iload hx hb dX0_add_80 (lv_at hl 6 rfl) ?_
      refine lv_iconst (v := (nI 1)) hx hb dX0_add_82 rfl ?_
      refine lv_isub hx hb dX0_add_83 ?_
      refine va_iald hx hb hKw.1 hwd.1 6 0 rfl rfl hw.1 dX0_add_84 ?_
      replace hw := hw.2
      obtain ⟨T_logLeaders4, e_T_logLeaders4⟩ : ∃ y : Nat → Int32, y = upd T_logLeaders x6.toNatClampNeg (T_logLeaders (x6 - (nI 1)).toNatClampNeg) := ⟨_, rfl⟩
      refine va_iast hx hb hKw.1 hwd.1 hwd.2.1 hwd.2.2 6 0 rfl rfl hw.1 dX0_add_85 (fun H locs h1 h2 h3 => ?_)
      replace hw := hw.2 T_logLeaders4 e_T_logLeaders4
      rw [← e_T_logLeaders4] at h1 h2
      replace hwd : wd D A s (ww_X0_add cI cC oT oT_held oT_quarters oT_led oT_logDays oT_logMinutes oT_logLeaders T_minutes T_held T_quarters T_led T_logDays2 T_logMinutes3 T_logLeaders4) H locs := ⟨h1, h2, h3⟩
      clear h1 h2 h3
      obtain ⟨x6_5, e_x6_5⟩ : ∃ y : Int32, y = x6 + (-1) := ⟨_, rfl⟩
      replace hw := hw x6_5 e_x6_5
      refine lv_iinc (v := x6_5) (lv' := [(6, .int x6_5), (0, .ref oT), (1, .int x1), (2, .int x2), (3, .int x3), (4, .int x4), (5, .int x5)]) hx hb dX0_add_86 hl (k := 6) rfl (by rw [e_x6_5]; rfl) (by decide) rfl (fun ls hl => ?_)
      refine lv_goto (tgt := 31) hx hb dX0_add_89 (by decide) ?_
      exact ih T_logDays2 T_logMinutes3 T_logLeaders4 x6_5 hw _ _ _ hwd (lv_sub hl [1, 2, 3, 4, 5, 6, 0] rfl)
def wp_X0_add (T_minutes : Int32) (T_held : Nat → Int32) (T_quarters : Nat → Int32) (T_led : Nat → Int32) (T_logDays : Nat → Int32) (T_logMinutes : Nat → Int32) (T_logLeaders : Nat → Int32) (x1 : Int32) (x2 : Int32) (x3 : Int32) (x4 : Int32) (Q : Int32 → (Nat → Int32) → (Nat → Int32) → (Nat → Int32) → (Nat → Int32) → (Nat → Int32) → (Nat → Int32) → Prop) : Prop := wp_X6_isFloor x1 (fun r1 => ((r1 = 0 → Q T_minutes T_held T_quarters T_led T_logDays T_logMinutes T_logLeaders) ∧ (¬ r1 = 0 → wp_X6_isPerson x4 (fun r3 => ((¬ r3 = 0 → ∀ x5_5, x5_5 = x1 * (nI 6) → ∀ x6_6, x6_6 = (x5_5 + (nI 6)) - (nI 1) → (∃ n7, wb_X0_add_31 x5_5 (fun T_logDays8 T_logMinutes9 T_logLeaders10 => vp_in x5_5 60 ∧ ∀ T_logDays11, T_logDays11 = upd T_logDays8 x5_5.toNatClampNeg x2 → vp_in x5_5 60 ∧ ∀ T_logMinutes12, T_logMinutes12 = upd T_logMinutes9 x5_5.toNatClampNeg x3 → vp_in x5_5 60 ∧ ∀ T_logLeaders13, T_logLeaders13 = upd T_logLeaders10 x5_5.toNatClampNeg x4 → vp_in x1 10 ∧ vp_in x1 10 ∧ ∀ T_held14, T_held14 = upd T_held x1.toNatClampNeg ((T_held x1.toNatClampNeg) + (nI 1)) → vp_in x1 10 ∧ vp_in x1 10 ∧ ∀ T_quarters15, T_quarters15 = upd T_quarters x1.toNatClampNeg ((T_quarters x1.toNatClampNeg) ||| ((nI 1) <<< ((x2 / (nI 100)) &&& 31))) → vp_in x4 16 ∧ vp_in x4 16 ∧ ∀ T_led16, T_led16 = upd T_led x4.toNatClampNeg ((T_led x4.toNatClampNeg) + (nI 1)) → ∀ T_minutes17, T_minutes17 = T_minutes + x3 → Q T_minutes17 T_held14 T_quarters15 T_led16 T_logDays11 T_logMinutes12 T_logLeaders13) n7 T_logDays T_logMinutes T_logLeaders x6_6)) ∧ (r3 = 0 → Q T_minutes T_held T_quarters T_led T_logDays T_logMinutes T_logLeaders))))))
set_option maxRecDepth 100000 in
set_option maxHeartbeats 4000000 in
theorem c_X0_add (l : Launch) {D : va_G} {cI cC cR : ClassId} (oT oT_held oT_quarters oT_led oT_logDays oT_logMinutes oT_logLeaders : Nat) (sz : Nat) (T_minutes : Int32) (T_held : Nat → Int32) (T_quarters : Nat → Int32) (T_led : Nat → Int32) (T_logDays : Nat → Int32) (T_logMinutes : Nat → Int32) (T_logLeaders : Nat → Int32) (x1 : Int32) (x2 : Int32) (x3 : Int32) (x4 : Int32) {Q : Int32 → (Nat → Int32) → (Nat → Int32) → (Nat → Int32) → (Nat → Int32) → (Nat → Int32) → (Nat → Int32) → Prop} (hw : wp_X0_add T_minutes T_held T_quarters T_led T_logDays T_logMinutes T_logLeaders x1 x2 x3 x4 Q) : Met l yX0_add wsX0_add rm_X0_add (PcW D cI cC cR [.ref oT, .int x1, .int x2, .int x3, .int x4] (ww_X0_add cI cC oT oT_held oT_quarters oT_led oT_logDays oT_logMinutes oT_logLeaders T_minutes T_held T_quarters T_led T_logDays T_logMinutes T_logLeaders) sz) (QvW D (fun (u : Int32 × (Nat → Int32) × (Nat → Int32) × (Nat → Int32) × (Nat → Int32) × (Nat → Int32) × (Nat → Int32)) => Q u.1 u.2.1 u.2.2.1 u.2.2.2.1 u.2.2.2.2.1 u.2.2.2.2.2.1 u.2.2.2.2.2.2) (fun u => (ww_X0_add cI cC oT oT_held oT_quarters oT_led oT_logDays oT_logMinutes oT_logLeaders (u.1) (u.2.1) (u.2.2.1) (u.2.2.2.1) (u.2.2.2.2.1) (u.2.2.2.2.2.1) (u.2.2.2.2.2.2))) (ww_X0_add cI cC oT oT_held oT_quarters oT_led oT_logDays oT_logMinutes oT_logLeaders T_minutes T_held T_quarters T_led T_logDays T_logMinutes T_logLeaders) sz) 0 0 (va_A (ww_X0_add cI cC oT oT_held oT_quarters oT_led oT_logDays oT_logMinutes oT_logLeaders T_minutes T_held T_quarters T_led T_logDays T_logMinutes T_logLeaders) sz) := by
  refine Met.ofW (cc := cX0_add) (maxL := 7) (ret := none) (by decide) rfl ?_
  intro p e s m args below meth c s₁ B hml hv
  obtain ⟨rfl, hsz, hP, hKw, hD0⟩ := hv
  have hlocks := B.notSynchronized
  subst hsz
  have hD := hD0.self (sz := s.heap.size)
  have CX : cx cX0_add none 7 RX0 wsX0_add p m meth c s ([.ref oT, .int x1, .int x2, .int x3, .int x4] : List Value).toArray D cI cC cR (va_A (ww_X0_add cI cC oT oT_held oT_quarters oT_led oT_logDays oT_logMinutes oT_logLeaders T_minutes T_held T_quarters T_led T_logDays T_logMinutes T_logLeaders) s.heap.size) := ⟨B.exec, B.bytes, B.returns, hml, atoms_spec (ws := wsX0_add) B.pre, findClass_of_methodNamed B.named, hlocks, hKw, fun q h => Or.inr h⟩
  obtain ⟨hx, hb, hr, -, hts, hown, -, -, hA⟩ := id CX
  have hwd : wd D (va_A (ww_X0_add cI cC oT oT_held oT_quarters oT_led oT_logDays oT_logMinutes oT_logLeaders T_minutes T_held T_quarters T_led T_logDays T_logMinutes T_logLeaders) s.heap.size) s (ww_X0_add cI cC oT oT_held oT_quarters oT_led oT_logDays oT_logMinutes oT_logLeaders T_minutes T_held T_quarters T_led T_logDays T_logMinutes T_logLeaders) s.heap [] := ⟨hP, hD, va_S.rf⟩
  have hl := lv_entry ([.ref oT, .int x1, .int x2, .int x3, .int x4]) (n := 7) (Nat.le_of_ble_eq_true rfl)
  rw [lg_entry_eq]
  generalize (lg_sl ([.ref oT, .int x1, .int x2, .int x3, .int x4]) ++ List.replicate (7 - (lg_sl ([.ref oT, .int x1, .int x2, .int x3, .int x4])).length) Slot.unset).toArray = ls at hl ⊢
  have hl : lv_has ls 7 [(0, .ref oT), (1, .int x1), (2, .int x2), (3, .int x3), (4, .int x4)] := hl
  have HR : ∀ (u0 : Int32) (u1 : Nat → Int32) (u2 : Nat → Int32) (u3 : Nat → Int32) (u4 : Nat → Int32) (u5 : Nat → Int32) (u6 : Nat → Int32) {H : Heap} {locs : List Loc} {ls : Array Slot} {pc : Nat}, Q u0 u1 u2 u3 u4 u5 u6 → wd D (va_A (ww_X0_add cI cC oT oT_held oT_quarters oT_led oT_logDays oT_logMinutes oT_logLeaders T_minutes T_held T_quarters T_led T_logDays T_logMinutes T_logLeaders) s.heap.size) s (ww_X0_add cI cC oT oT_held oT_quarters oT_led oT_logDays oT_logMinutes oT_logLeaders u0 u1 u2 u3 u4 u5 u6) H locs → decode cX0_add pc = .ok (.return_, 1) → W p l e (headSpec wsX0_add rm_X0_add).room s m ([.ref oT, .int x1, .int x2, .int x3, .int x4] : List Value).toArray below meth c H locs 0 0 (MQ below (QvW D (fun (u : Int32 × (Nat → Int32) × (Nat → Int32) × (Nat → Int32) × (Nat → Int32) × (Nat → Int32) × (Nat → Int32)) => Q u.1 u.2.1 u.2.2.1 u.2.2.2.1 u.2.2.2.2.1 u.2.2.2.2.2.1 u.2.2.2.2.2.2) (fun u => (ww_X0_add cI cC oT oT_held oT_quarters oT_led oT_logDays oT_logMinutes oT_logLeaders (u.1) (u.2.1) (u.2.2.1) (u.2.2.2.1) (u.2.2.2.2.1) (u.2.2.2.2.2.1) (u.2.2.2.2.2.2))) (ww_X0_add cI cC oT oT_held oT_quarters oT_led oT_logDays oT_logMinutes oT_logLeaders T_minutes T_held T_quarters T_led T_logDays T_logMinutes T_logLeaders) s.heap.size) ([.ref oT, .int x1, .int x2, .int x3, .int x4] : List Value).toArray s 0 0 (va_A (ww_X0_add cI cC oT oT_held oT_quarters oT_led oT_logDays oT_logMinutes oT_logLeaders T_minutes T_held T_quarters T_led T_logDays T_logMinutes T_logLeaders) s.heap.size)) (F0 m pc ls []) := by
    intro u0 u1 u2 u3 u4 u5 u6 H locs ls pc hq hw9 hd9
    exact W.vret hx hb hr (fun t ht hW => ⟨⟨(u0, u1, u2, u3, u4, u5, u6), rfl, hq, by rw [ht]; exact hw9.1, hw9.2.1⟩, hw9.2.2.F ht⟩) hw9.2.2.2.2 hd9
  unfold wp_X0_add at hw
  refine lv_iload_n hx hb dX0_add_0 rfl (lv_at hl 1 rfl) ?_
  refine kcNi (rest := []) (As := [.int x1]) ⟨Nat.le_of_ble_eq_true rfl, Nat.le_of_ble_eq_true rfl⟩ ⟨hx, hb, hml, hown, hts⟩ (c_X6_isFloor l s.heap.size x1 hw) ⟨va_cnB 1 hts gX0_add_X6_isFloor_n38 rfl rfl rfl (nwm_6 hKw.2) (hts (.initialized RX6) (List.mem_of_getElem? (i := 9) rfl)) hd_X6_isFloor ⟨Nat.le_of_ble_eq_true rfl, Nat.le_of_ble_eq_true rfl⟩, hts (.static yX6_isFloor) (List.mem_of_getElem? (i := 8) rfl), trivial⟩ hKw hA hwd rfl hl.1 rfl (lv_room (Nat.le_of_ble_eq_true rfl)) dX0_add_1 (fun r1 H locs hw hwd => ?_)
  try dsimp only at hw
  refine lv_if_eq (tgt := 15) hx hb dX0_add_4 (by decide) (fun c2 => ?_) (fun c2 => ?_)
  · replace hw := hw.1 c2
    exact HR T_minutes T_held T_quarters T_led T_logDays T_logMinutes T_logLeaders hw hwd dX0_add_15
  · replace hw := hw.2 c2
    refine lv_iload hx hb dX0_add_7 (lv_at hl 4 rfl) ?_
    refine kcNi (rest := []) (As := [.int x4]) ⟨Nat.le_of_ble_eq_true rfl, Nat.le_of_ble_eq_true rfl⟩ ⟨hx, hb, hml, hown, hts⟩ (c_X6_isPerson l H.size x4 hw) ⟨va_cnB 1 hts gX0_add_X6_isPerson_n42 rfl rfl rfl (nwm_12 hKw.2) (hts (.initialized RX6) (List.mem_of_getElem? (i := 9) rfl)) hd_X6_isPerson ⟨Nat.le_of_ble_eq_true rfl, Nat.le_of_ble_eq_true rfl⟩, hts (.static yX6_isPerson) (List.mem_of_getElem? (i := 11) rfl), trivial⟩ hKw hA hwd rfl hl.1 rfl (lv_room (Nat.le_of_ble_eq_true rfl)) dX0_add_9 (fun r3 H locs hw hwd => ?_)
    try dsimp only at hw
    refine lv_if_ne (tgt := 16) hx hb dX0_add_12 (by decide) (fun c4 => ?_) (fun c4 => ?_)
    · replace hw := hw.1 c4
      refine lv_iload_n hx hb dX0_add_16 rfl (lv_at hl 1 rfl) ?_
      refine lv_bipush (v := (nI 6)) hx hb dX0_add_17 rfl ?_
      refine lv_imul hx hb dX0_add_19 ?_
      refine lv_topi (fun x5_5 e_x5_5 => ?_)
      replace hw := hw x5_5 e_x5_5
      refine lv_istore (lv' := [(5, .int x5_5), (0, .ref oT), (1, .int x1), (2, .int x2), (3, .int x3), (4, .int x4)]) hx hb dX0_add_20 hl (by decide) rfl (fun ls hl => ?_)
      refine lv_iload hx hb dX0_add_22 (lv_at hl 0 rfl) ?_
      refine lv_bipush (v := (nI 6)) hx hb dX0_add_24 rfl ?_
      refine lv_iadd hx hb dX0_add_26 ?_
      refine lv_iconst (v := (nI 1)) hx hb dX0_add_27 rfl ?_
      refine lv_isub hx hb dX0_add_28 ?_
      refine lv_topi (fun x6_6 e_x6_6 => ?_)
      replace hw := hw x6_6 e_x6_6
      refine lv_istore (lv' := [(6, .int x6_6), (5, .int x5_5), (0, .ref oT), (1, .int x1), (2, .int x2), (3, .int x3), (4, .int x4)]) hx hb dX0_add_29 hl (by decide) rfl (fun ls hl => ?_)
      obtain ⟨n7, hw⟩ := hw
      refine blk_X0_add_31 (CX := CX) (oT := oT) (oT_held := oT_held) (oT_quarters := oT_quarters) (oT_led := oT_led) (oT_logDays := oT_logDays) (oT_logMinutes := oT_logMinutes) (oT_logLeaders := oT_logLeaders) (T_minutes := T_minutes) (T_held := T_held) (T_quarters := T_quarters) (T_led := T_led) (x1 := x1) (x2 := x2) (x3 := x3) (x4 := x4) (x5 := x5_5) (HR := HR) (HK_92 := fun T_logDays8 T_logMinutes9 T_logLeaders10 hw H locs ls hwd hl => ?_) n7 T_logDays T_logMinutes T_logLeaders x6_6 hw _ _ _ hwd (lv_sub hl [2, 3, 4, 5, 6, 1, 0] rfl)
      try dsimp only at hw
      refine lv_aload_n hx hb dX0_add_92 rfl (lv_at hl 0 rfl) ?_
      refine va_get (D := D) (ci := 0) (v := .ref oT_logDays) (C := RX0) (T := TX0) (N := 7) hx hb hts ic_X0_add_X0 hown hKw.1 hwd.1 0 rfl rfl 4 (by decide) (hts (.fieldLink RX0 21 "DrillWardens$Drills" "logDays" "[I") (List.mem_of_getElem? (i := 1) rfl)) (fun _ h9 => h9) rfl dX0_add_93 ?_
      refine lv_iload hx hb dX0_add_96 (lv_at hl 5 rfl) ?_
      refine lv_iload_n hx hb dX0_add_98 rfl (lv_at hl 2 rfl) ?_
      obtain ⟨T_logDays11, e_T_logDays11⟩ : ∃ y : Nat → Int32, y = upd T_logDays8 x5_5.toNatClampNeg x2 := ⟨_, rfl⟩
      refine va_iast hx hb hKw.1 hwd.1 hwd.2.1 hwd.2.2 4 0 rfl rfl hw.1 dX0_add_99 (fun H locs h1 h2 h3 => ?_)
      replace hw := hw.2 T_logDays11 e_T_logDays11
      rw [← e_T_logDays11] at h1 h2
      replace hwd : wd D (va_A (ww_X0_add cI cC oT oT_held oT_quarters oT_led oT_logDays oT_logMinutes oT_logLeaders T_minutes T_held T_quarters T_led T_logDays T_logMinutes T_logLeaders) s.heap.size) s (ww_X0_add cI cC oT oT_held oT_quarters oT_led oT_logDays oT_logMinutes oT_logLeaders T_minutes T_held T_quarters T_led T_logDays11 T_logMinutes9 T_logLeaders10) H locs := ⟨h1, h2, h3⟩
      clear h1 h2 h3
      refine lv_aload_n hx hb dX0_add_100 rfl (lv_at hl 0 rfl) ?_
      refine va_get (D := D) (ci := 0) (v := .ref oT_logMinutes) (C := RX0) (T := TX0) (N := 7) hx hb hts ic_X0_add_X0 hown hKw.1 hwd.1 0 rfl rfl 5 (by decide) (hts (.fieldLink RX0 24 "DrillWardens$Drills" "logMinutes" "[I") (List.mem_of_getElem? (i := 2) rfl)) (fun _ h9 => h9) rfl dX0_add_101 ?_
      refine lv_iload hx hb dX0_add_104 (lv_at hl 5 rfl) ?_
      refine lv_iload_n hx hb dX0_add_106 rfl (lv_at hl 3 rfl) ?_
      obtain ⟨T_logMinutes12, e_T_logMinutes12⟩ : ∃ y : Nat → Int32, y = upd T_logMinutes9 x5_5.toNatClampNeg x3 := ⟨_, rfl⟩
      refine va_iast hx hb hKw.1 hwd.1 hwd.2.1 hwd.2.2 5 0 rfl rfl hw.1 dX0_add_107 (fun H locs h1 h2 h3 => ?_)
      replace hw := hw.2 T_logMinutes12 e_T_logMinutes12
      rw [← e_T_logMinutes12] at h1 h2
      replace hwd : wd D (va_A (ww_X0_add cI cC oT oT_held oT_quarters oT_led oT_logDays oT_logMinutes oT_logLeaders T_minutes T_held T_quarters T_led T_logDays T_logMinutes T_logLeaders) s.heap.size) s (ww_X0_add cI cC oT oT_held oT_quarters oT_led oT_logDays oT_logMinutes oT_logLeaders T_minutes T_held T_quarters T_led T_logDays11 T_logMinutes12 T_logLeaders10) H locs := ⟨h1, h2, h3⟩
      clear h1 h2 h3
      refine lv_aload_n hx hb dX0_add_108 rfl (lv_at hl 0 rfl) ?_
      refine va_get (D := D) (ci := 0) (v := .ref oT_logLeaders) (C := RX0) (T := TX0) (N := 7) hx hb hts ic_X0_add_X0 hown hKw.1 hwd.1 0 rfl rfl 6 (by decide) (hts (.fieldLink RX0 27 "DrillWardens$Drills" "logLeaders" "[I") (List.mem_of_getElem? (i := 3) rfl)) (fun _ h9 => h9) rfl dX0_add_109 ?_
      refine lv_iload hx hb dX0_add_112 (lv_at hl 5 rfl) ?_
      refine lv_iload hx hb dX0_add_114 (lv_at hl 4 rfl) ?_
      obtain ⟨T_logLeaders13, e_T_logLeaders13⟩ : ∃ y : Nat → Int32, y = upd T_logLeaders10 x5_5.toNatClampNeg x4 := ⟨_, rfl⟩
      refine va_iast hx hb hKw.1 hwd.1 hwd.2.1 hwd.2.2 6 0 rfl rfl hw.1 dX0_add_116 (fun H locs h1 h2 h3 => ?_)
      replace hw := hw.2 T_logLeaders13 e_T_logLeaders13
      rw [← e_T_logLeaders13] at h1 h2
      replace hwd : wd D (va_A (ww_X0_add cI cC oT oT_held oT_quarters oT_led oT_logDays oT_logMinutes oT_logLeaders T_minutes T_held T_quarters T_led T_logDays T_logMinutes T_logLeaders) s.heap.size) s (ww_X0_add cI cC oT oT_held oT_quarters oT_led oT_logDays oT_logMinutes oT_logLeaders T_minutes T_held T_quarters T_led T_logDays11 T_logMinutes12 T_logLeaders13) H locs := ⟨h1, h2, h3⟩
      clear h1 h2 h3
      refine lv_aload_n hx hb dX0_add_117 rfl (lv_at hl 0 rfl) ?_
      refine va_get (D := D) (ci := 0) (v := .ref oT_held) (C := RX0) (T := TX0) (N := 7) hx hb hts ic_X0_add_X0 hown hKw.1 hwd.1 0 rfl rfl 1 (by decide) (hts (.fieldLink RX0 9 "DrillWardens$Drills" "held" "[I") (List.mem_of_getElem? (i := 4) rfl)) (fun _ h9 => h9) rfl dX0_add_118 ?_
      refine lv_iload_n hx hb dX0_add_121 rfl (lv_at hl 1 rfl) ?_
      refine lv_dup2_11 hx hb dX0_add_122 rfl rfl ?_
      refine va_iald hx hb hKw.1 hwd.1 1 0 rfl rfl hw.1 dX0_add_123 ?_
      replace hw := hw.2
      refine lv_iconst (v := (nI 1)) hx hb dX0_add_124 rfl ?_
      refine lv_iadd hx hb dX0_add_125 ?_
      obtain ⟨T_held14, e_T_held14⟩ : ∃ y : Nat → Int32, y = upd T_held x1.toNatClampNeg ((T_held x1.toNatClampNeg) + (nI 1)) := ⟨_, rfl⟩
      refine va_iast hx hb hKw.1 hwd.1 hwd.2.1 hwd.2.2 1 0 rfl rfl hw.1 dX0_add_126 (fun H locs h1 h2 h3 => ?_)
      replace hw := hw.2 T_held14 e_T_held14
      rw [← e_T_held14] at h1 h2
      replace hwd : wd D (va_A (ww_X0_add cI cC oT oT_held oT_quarters oT_led oT_logDays oT_logMinutes oT_logLeaders T_minutes T_held T_quarters T_led T_logDays T_logMinutes T_logLeaders) s.heap.size) s (ww_X0_add cI cC oT oT_held oT_quarters oT_led oT_logDays oT_logMinutes oT_logLeaders T_minutes T_held14 T_quarters T_led T_logDays11 T_logMinutes12 T_logLeaders13) H locs := ⟨h1, h2, h3⟩
      clear h1 h2 h3
      refine lv_aload_n hx hb dX0_add_127 rfl (lv_at hl 0 rfl) ?_
      refine va_get (D := D) (ci := 0) (v := .ref oT_quarters) (C := RX0) (T := TX0) (N := 7) hx hb hts ic_X0_add_X0 hown hKw.1 hwd.1 0 rfl rfl 2 (by decide) (hts (.fieldLink RX0 15 "DrillWardens$Drills" "quarters" "[I") (List.mem_of_getElem? (i := 5) rfl)) (fun _ h9 => h9) rfl dX0_add_128 ?_
      refine lv_iload_n hx hb dX0_add_131 rfl (lv_at hl 1 rfl) ?_
      refine lv_dup2_11 hx hb dX0_add_132 rfl rfl ?_
      refine va_iald hx hb hKw.1 hwd.1 2 0 rfl rfl hw.1 dX0_add_133 ?_
      replace hw := hw.2
      refine lv_iconst (v := (nI 1)) hx hb dX0_add_134 rfl ?_
      refine lv_iload_n hx hb dX0_add_135 rfl (lv_at hl 2 rfl) ?_
      refine lv_bipush (v := (nI 100)) hx hb dX0_add_136 rfl ?_
      refine lv_idiv hx hb dX0_add_138 (by decide) ?_
      refine lv_ishl hx hb dX0_add_139 ?_
      refine lv_ior hx hb dX0_add_140 ?_
      obtain ⟨T_quarters15, e_T_quarters15⟩ : ∃ y : Nat → Int32, y = upd T_quarters x1.toNatClampNeg ((T_quarters x1.toNatClampNeg) ||| ((nI 1) <<< ((x2 / (nI 100)) &&& 31))) := ⟨_, rfl⟩
      refine va_iast hx hb hKw.1 hwd.1 hwd.2.1 hwd.2.2 2 0 rfl rfl hw.1 dX0_add_141 (fun H locs h1 h2 h3 => ?_)
      replace hw := hw.2 T_quarters15 e_T_quarters15
      rw [← e_T_quarters15] at h1 h2
      replace hwd : wd D (va_A (ww_X0_add cI cC oT oT_held oT_quarters oT_led oT_logDays oT_logMinutes oT_logLeaders T_minutes T_held T_quarters T_led T_logDays T_logMinutes T_logLeaders) s.heap.size) s (ww_X0_add cI cC oT oT_held oT_quarters oT_led oT_logDays oT_logMinutes oT_logLeaders T_minutes T_held14 T_quarters15 T_led T_logDays11 T_logMinutes12 T_logLeaders13) H locs := ⟨h1, h2, h3⟩
      clear h1 h2 h3
      refine lv_aload_n hx hb dX0_add_142 rfl (lv_at hl 0 rfl) ?_
      refine va_get (D := D) (ci := 0) (v := .ref oT_led) (C := RX0) (T := TX0) (N := 7) hx hb hts ic_X0_add_X0 hown hKw.1 hwd.1 0 rfl rfl 3 (by decide) (hts (.fieldLink RX0 18 "DrillWardens$Drills" "led" "[I") (List.mem_of_getElem? (i := 6) rfl)) (fun _ h9 => h9) rfl dX0_add_143 ?_
      refine lv_iload hx hb dX0_add_146 (lv_at hl 4 rfl) ?_
      refine lv_dup2_11 hx hb dX0_add_148 rfl rfl ?_
      refine va_iald hx hb hKw.1 hwd.1 3 0 rfl rfl hw.1 dX0_add_149 ?_
      replace hw := hw.2
      refine lv_iconst (v := (nI 1)) hx hb dX0_add_150 rfl ?_
      refine lv_iadd hx hb dX0_add_151 ?_
      obtain ⟨T_led16, e_T_led16⟩ : ∃ y : Nat → Int32, y = upd T_led x4.toNatClampNeg ((T_led x4.toNatClampNeg) + (nI 1)) := ⟨_, rfl⟩
      refine va_iast hx hb hKw.1 hwd.1 hwd.2.1 hwd.2.2 3 0 rfl rfl hw.1 dX0_add_152 (fun H locs h1 h2 h3 => ?_)
      replace hw := hw.2 T_led16 e_T_led16
      rw [← e_T_led16] at h1 h2
      replace hwd : wd D (va_A (ww_X0_add cI cC oT oT_held oT_quarters oT_led oT_logDays oT_logMinutes oT_logLeaders T_minutes T_held T_quarters T_led T_logDays T_logMinutes T_logLeaders) s.heap.size) s (ww_X0_add cI cC oT oT_held oT_quarters oT_led oT_logDays oT_logMinutes oT_logLeaders T_minutes T_held14 T_quarters15 T_led16 T_logDays11 T_logMinutes12 T_logLeaders13) H locs := ⟨h1, h2, h3⟩
      clear h1 h2 h3
      refine lv_aload_n hx hb dX0_add_153 rfl (lv_at hl 0 rfl) ?_
      refine lv_dup hx hb dX0_add_154 rfl ?_
      refine va_get (D := D) (ci := 0) (v := .int T_minutes) (C := RX0) (T := TX0) (N := 7) hx hb hts ic_X0_add_X0 hown hKw.1 hwd.1 0 rfl rfl 0 (by decide) (hts (.fieldLink RX0 30 "DrillWardens$Drills" "minutes" "I") (List.mem_of_getElem? (i := 7) rfl)) (fun _ h9 => h9) rfl dX0_add_155 ?_
      refine lv_iload_n hx hb dX0_add_158 rfl (lv_at hl 3 rfl) ?_
      refine lv_iadd hx hb dX0_add_159 ?_
      refine lv_topi (fun T_minutes17 e_T_minutes17 => ?_)
      replace hw := hw T_minutes17 e_T_minutes17
      refine va_put (D := D) (ci := 0) (v := .int T_minutes17) (ty := .int) (C := RX0) (T := TX0) (N := 7) hx hb hts ic_X0_add_X0 tyX0 tyX0_ok nmX0 hown hKw.1 hwd.1 hwd.2.1 hwd.2.2 0 rfl rfl 0 (by decide) (hts (.fieldLink RX0 30 "DrillWardens$Drills" "minutes" "I") (List.mem_of_getElem? (i := 7) rfl)) (fun _ h9 => h9) rfl (tyX0_ok 0 (by decide)) rfl rfl (Nat.le_of_ble_eq_true rfl) dX0_add_160 (fun H locs h1 h2 h3 => ?_)
      replace hwd : wd D (va_A (ww_X0_add cI cC oT oT_held oT_quarters oT_led oT_logDays oT_logMinutes oT_logLeaders T_minutes T_held T_quarters T_led T_logDays T_logMinutes T_logLeaders) s.heap.size) s (ww_X0_add cI cC oT oT_held oT_quarters oT_led oT_logDays oT_logMinutes oT_logLeaders T_minutes17 T_held14 T_quarters15 T_led16 T_logDays11 T_logMinutes12 T_logLeaders13) H locs := ⟨h1, h2, h3⟩
      clear h1 h2 h3
      exact HR T_minutes17 T_held14 T_quarters15 T_led16 T_logDays11 T_logMinutes12 T_logLeaders13 hw hwd dX0_add_163
    · replace hw := hw.2 c4
      exact HR T_minutes T_held T_quarters T_led T_logDays T_logMinutes T_logLeaders hw hwd dX0_add_15
abbrev ww_X0_logged (cI cC : ClassId) (oT oT_held oT_quarters oT_led oT_logDays oT_logMinutes oT_logLeaders : Nat) (T_minutes : Int32) (T_held : Nat → Int32) (T_logDays : Nat → Int32) (T_logMinutes : Nat → Int32) (T_logLeaders : Nat → Int32) : va_W := [(oT, .inr (0, [.int T_minutes, .ref oT_held, .ref oT_quarters, .ref oT_led, .ref oT_logDays, .ref oT_logMinutes, .ref oT_logLeaders])), (oT_held, .inl (cI, 10, .inl T_held)), (oT_logDays, .inl (cI, 60, .inl T_logDays)), (oT_logMinutes, .inl (cI, 60, .inl T_logMinutes)), (oT_logLeaders, .inl (cI, 60, .inl T_logLeaders))]
abbrev rm_X0_logged : Room := { frames := 1, cells := 0, slots := 0, locals := 22 }
theorem ic_X0_logged_X0 : ∀ w ∈ u_ws RX0 TX0 7, w ∈ wsX0_logged := by
  intro w h
  simp only [wsX0_logged, List.mem_cons, List.mem_append]
  simp only [h, or_true, true_or]
def wp_X0_logged (T_held : Nat → Int32) (T_logDays : Nat → Int32) (T_logMinutes : Nat → Int32) (T_logLeaders : Nat → Int32) (x1 : Int32) (x2 : Int32) (x3 : Int32) (Q : Int32 → Prop) : Prop := wp_X6_isFloor x1 (fun r1 => ((r1 = 0 → Q (-5)) ∧ (¬ r1 = 0 → wp_X6_isWithin x2 (nI 0) (nI 5) (fun r3 => ((r3 = 0 → Q (-5)) ∧ (¬ r3 = 0 → vp_in x1 10 ∧ ((x2 < (T_held x1.toNatClampNeg) → ∀ x4_6, x4_6 = (x1 * (nI 6)) + x2 → ((x3 = (nI 0) → vp_in x4_6 60 ∧ Q (T_logDays x4_6.toNatClampNeg)) ∧ (¬ x3 = (nI 0) → (x3 = (nI 1) → vp_in x4_6 60 ∧ Q (T_logMinutes x4_6.toNatClampNeg)) ∧ (¬ x3 = (nI 1) → vp_in x4_6 60 ∧ Q (T_logLeaders x4_6.toNatClampNeg))))) ∧ (¬ x2 < (T_held x1.toNatClampNeg) → Q (-5)))))))))
set_option maxRecDepth 100000 in
set_option maxHeartbeats 4000000 in
theorem c_X0_logged (l : Launch) {D : va_G} {cI cC cR : ClassId} (oT oT_held oT_quarters oT_led oT_logDays oT_logMinutes oT_logLeaders : Nat) (sz : Nat) (T_minutes : Int32) (T_held : Nat → Int32) (T_logDays : Nat → Int32) (T_logMinutes : Nat → Int32) (T_logLeaders : Nat → Int32) (x1 : Int32) (x2 : Int32) (x3 : Int32) {Q : Int32 → Prop} (hw : wp_X0_logged T_held T_logDays T_logMinutes T_logLeaders x1 x2 x3 Q) : Met l yX0_logged wsX0_logged rm_X0_logged (PcW D cI cC cR [.ref oT, .int x1, .int x2, .int x3] (ww_X0_logged cI cC oT oT_held oT_quarters oT_led oT_logDays oT_logMinutes oT_logLeaders T_minutes T_held T_logDays T_logMinutes T_logLeaders) sz) (QiW D (fun (r : Int32) (u : Unit) => Q r ) (fun u => (ww_X0_logged cI cC oT oT_held oT_quarters oT_led oT_logDays oT_logMinutes oT_logLeaders T_minutes T_held T_logDays T_logMinutes T_logLeaders)) (ww_X0_logged cI cC oT oT_held oT_quarters oT_led oT_logDays oT_logMinutes oT_logLeaders T_minutes T_held T_logDays T_logMinutes T_logLeaders) sz) 0 0 (va_A (ww_X0_logged cI cC oT oT_held oT_quarters oT_led oT_logDays oT_logMinutes oT_logLeaders T_minutes T_held T_logDays T_logMinutes T_logLeaders) sz) := by
  refine Met.ofW (cc := cX0_logged) (maxL := 5) (ret := (some .int)) (by decide) rfl ?_
  intro p e s m args below meth c s₁ B hml hv
  obtain ⟨rfl, hsz, hP, hKw, hD0⟩ := hv
  have hlocks := B.notSynchronized
  subst hsz
  have hD := hD0.self (sz := s.heap.size)
  have CX : cx cX0_logged (some .int) 5 RX0 wsX0_logged p m meth c s ([.ref oT, .int x1, .int x2, .int x3] : List Value).toArray D cI cC cR (va_A (ww_X0_logged cI cC oT oT_held oT_quarters oT_led oT_logDays oT_logMinutes oT_logLeaders T_minutes T_held T_logDays T_logMinutes T_logLeaders) s.heap.size) := ⟨B.exec, B.bytes, B.returns, hml, atoms_spec (ws := wsX0_logged) B.pre, findClass_of_methodNamed B.named, hlocks, hKw, fun q h => Or.inr h⟩
  obtain ⟨hx, hb, hr, -, hts, hown, -, -, hA⟩ := id CX
  have hwd : wd D (va_A (ww_X0_logged cI cC oT oT_held oT_quarters oT_led oT_logDays oT_logMinutes oT_logLeaders T_minutes T_held T_logDays T_logMinutes T_logLeaders) s.heap.size) s (ww_X0_logged cI cC oT oT_held oT_quarters oT_led oT_logDays oT_logMinutes oT_logLeaders T_minutes T_held T_logDays T_logMinutes T_logLeaders) s.heap [] := ⟨hP, hD, va_S.rf⟩
  have hl := lv_entry ([.ref oT, .int x1, .int x2, .int x3]) (n := 5) (Nat.le_of_ble_eq_true rfl)
  rw [lg_entry_eq]
  generalize (lg_sl ([.ref oT, .int x1, .int x2, .int x3]) ++ List.replicate (5 - (lg_sl ([.ref oT, .int x1, .int x2, .int x3])).length) Slot.unset).toArray = ls at hl ⊢
  have hl : lv_has ls 5 [(0, .ref oT), (1, .int x1), (2, .int x2), (3, .int x3)] := hl
  have HR : ∀ (r : Int32) {H : Heap} {locs : List Loc} {ls : Array Slot} {pc : Nat}, Q r → wd D (va_A (ww_X0_logged cI cC oT oT_held oT_quarters oT_led oT_logDays oT_logMinutes oT_logLeaders T_minutes T_held T_logDays T_logMinutes T_logLeaders) s.heap.size) s (ww_X0_logged cI cC oT oT_held oT_quarters oT_led oT_logDays oT_logMinutes oT_logLeaders T_minutes T_held T_logDays T_logMinutes T_logLeaders) H locs → decode cX0_logged pc = .ok (.ireturn, 1) → W p l e (headSpec wsX0_logged rm_X0_logged).room s m ([.ref oT, .int x1, .int x2, .int x3] : List Value).toArray below meth c H locs 0 0 (MQ below (QiW D (fun (r : Int32) (u : Unit) => Q r ) (fun u => (ww_X0_logged cI cC oT oT_held oT_quarters oT_led oT_logDays oT_logMinutes oT_logLeaders T_minutes T_held T_logDays T_logMinutes T_logLeaders)) (ww_X0_logged cI cC oT oT_held oT_quarters oT_led oT_logDays oT_logMinutes oT_logLeaders T_minutes T_held T_logDays T_logMinutes T_logLeaders) s.heap.size) ([.ref oT, .int x1, .int x2, .int x3] : List Value).toArray s 0 0 (va_A (ww_X0_logged cI cC oT oT_held oT_quarters oT_led oT_logDays oT_logMinutes oT_logLeaders T_minutes T_held T_logDays T_logMinutes T_logLeaders) s.heap.size)) (F0 m pc ls [.int r]) := by
    intro r H locs ls pc hq hw9 hd9
    exact W.iret (v := r) hx hb hr (fun t ht hW => ⟨⟨r, (), rfl, hq, by rw [ht]; exact hw9.1, hw9.2.1⟩, hw9.2.2.F ht⟩) hw9.2.2.2.2 hd9
  unfold wp_X0_logged at hw
  refine lv_iload_n hx hb dX0_logged_0 rfl (lv_at hl 1 rfl) ?_
  refine kcNi (rest := []) (As := [.int x1]) ⟨Nat.le_of_ble_eq_true rfl, Nat.le_of_ble_eq_true rfl⟩ ⟨hx, hb, hml, hown, hts⟩ (c_X6_isFloor l s.heap.size x1 hw) ⟨va_cnB 1 hts gX0_logged_X6_isFloor_n38 rfl rfl rfl (nwm_6 hKw.2) (hts (.initialized RX6) (List.mem_of_getElem? (i := 6) rfl)) hd_X6_isFloor ⟨Nat.le_of_ble_eq_true rfl, Nat.le_of_ble_eq_true rfl⟩, hts (.static yX6_isFloor) (List.mem_of_getElem? (i := 5) rfl), trivial⟩ hKw hA hwd rfl hl.1 rfl (lv_room (Nat.le_of_ble_eq_true rfl)) dX0_logged_1 (fun r1 H locs hw hwd => ?_)
  try dsimp only at hw
  refine lv_if_eq (tgt := 26) hx hb dX0_logged_4 (by decide) (fun c2 => ?_) (fun c2 => ?_)
  · replace hw := hw.1 c2
    refine lv_bipush (v := (-5)) hx hb dX0_logged_26 rfl ?_
    exact HR (-5) hw hwd dX0_logged_28
  · replace hw := hw.2 c2
    refine lv_iload_n hx hb dX0_logged_7 rfl (lv_at hl 2 rfl) ?_
    refine lv_iconst (v := (nI 0)) hx hb dX0_logged_8 rfl ?_
    refine lv_iconst (v := (nI 5)) hx hb dX0_logged_9 rfl ?_
    refine kcNi (rest := []) (As := [.int x2, .int (nI 0), .int (nI 5)]) ⟨Nat.le_of_ble_eq_true rfl, Nat.le_of_ble_eq_true rfl⟩ ⟨hx, hb, hml, hown, hts⟩ (c_X6_isWithin l H.size x2 (nI 0) (nI 5) hw) ⟨va_cnB 3 hts gX0_logged_X6_isWithin_n45 rfl rfl rfl (nwm_7 hKw.2) (hts (.initialized RX6) (List.mem_of_getElem? (i := 6) rfl)) hd_X6_isWithin ⟨Nat.le_of_ble_eq_true rfl, Nat.le_of_ble_eq_true rfl⟩, hts (.static yX6_isWithin) (List.mem_of_getElem? (i := 8) rfl), trivial⟩ hKw hA hwd rfl hl.1 rfl (lv_room (Nat.le_of_ble_eq_true rfl)) dX0_logged_10 (fun r3 H locs hw hwd => ?_)
    try dsimp only at hw
    refine lv_if_eq (tgt := 26) hx hb dX0_logged_13 (by decide) (fun c4 => ?_) (fun c4 => ?_)
    · replace hw := hw.1 c4
      refine lv_bipush (v := (-5)) hx hb dX0_logged_26 rfl ?_
      exact HR (-5) hw hwd dX0_logged_28
    · replace hw := hw.2 c4
      refine lv_iload_n hx hb dX0_logged_16 rfl (lv_at hl 2 rfl) ?_
      refine lv_aload_n hx hb dX0_logged_17 rfl (lv_at hl 0 rfl) ?_
      refine va_get (D := D) (ci := 0) (v := .ref oT_held) (C := RX0) (T := TX0) (N := 7) hx hb hts ic_X0_logged_X0 hown hKw.1 hwd.1 0 rfl rfl 1 (by decide) (hts (.fieldLink RX0 9 "DrillWardens$Drills" "held" "[I") (List.mem_of_getElem? (i := 1) rfl)) (fun _ h9 => h9) rfl dX0_logged_18 ?_
      refine lv_iload_n hx hb dX0_logged_21 rfl (lv_at hl 1 rfl) ?_
      refine va_iald hx hb hKw.1 hwd.1 1 0 rfl rfl hw.1 dX0_logged_22 ?_
      replace hw := hw.2
      refine lv_icmp_lt (tgt := 29) hx hb dX0_logged_23 (by decide) (fun c5 => ?_) (fun c5 => ?_)
      · replace hw := hw.1 c5
        refine lv_iload_n hx hb dX0_logged_29 rfl (lv_at hl 1 rfl) ?_
        refine lv_bipush (v := (nI 6)) hx hb dX0_logged_30 rfl ?_
        refine lv_imul hx hb dX0_logged_32 ?_
        refine lv_iload_n hx hb dX0_logged_33 rfl (lv_at hl 2 rfl) ?_
        refine lv_iadd hx hb dX0_logged_34 ?_
        refine lv_topi (fun x4_6 e_x4_6 => ?_)
        replace hw := hw x4_6 e_x4_6
        refine lv_istore (lv' := [(4, .int x4_6), (0, .ref oT), (1, .int x1), (2, .int x2), (3, .int x3)]) hx hb dX0_logged_35 hl (by decide) rfl (fun ls hl => ?_)
        refine lv_iload_n hx hb dX0_logged_37 rfl (lv_at hl 4 rfl) ?_
        rcases Classical.em (x3 = (nI 0)) with c7 | c7
        · replace hw := hw.1 c7
          refine lv_lookup (off := 26) (tgt := 64) hx hb dX0_logged_38 rfl (by rw [c7]; rfl) (by decide) ?_
          refine lv_aload_n hx hb dX0_logged_64 rfl (lv_at hl 1 rfl) ?_
          refine va_get (D := D) (ci := 0) (v := .ref oT_logDays) (C := RX0) (T := TX0) (N := 7) hx hb hts ic_X0_logged_X0 hown hKw.1 hwd.1 0 rfl rfl 4 (by decide) (hts (.fieldLink RX0 21 "DrillWardens$Drills" "logDays" "[I") (List.mem_of_getElem? (i := 2) rfl)) (fun _ h9 => h9) rfl dX0_logged_65 ?_
          refine lv_iload hx hb dX0_logged_68 (lv_at hl 0 rfl) ?_
          refine va_iald hx hb hKw.1 hwd.1 2 0 rfl rfl hw.1 dX0_logged_70 ?_
          replace hw := hw.2
          exact HR (T_logDays x4_6.toNatClampNeg) hw hwd dX0_logged_71
        · replace hw := hw.2 c7
          rcases Classical.em (x3 = (nI 1)) with c8 | c8
          · replace hw := hw.1 c8
            refine lv_lookup (off := 34) (tgt := 72) hx hb dX0_logged_38 rfl (by rw [c8]; rfl) (by decide) ?_
            refine lv_aload_n hx hb dX0_logged_72 rfl (lv_at hl 1 rfl) ?_
            refine va_get (D := D) (ci := 0) (v := .ref oT_logMinutes) (C := RX0) (T := TX0) (N := 7) hx hb hts ic_X0_logged_X0 hown hKw.1 hwd.1 0 rfl rfl 5 (by decide) (hts (.fieldLink RX0 24 "DrillWardens$Drills" "logMinutes" "[I") (List.mem_of_getElem? (i := 3) rfl)) (fun _ h9 => h9) rfl dX0_logged_73 ?_
            refine lv_iload hx hb dX0_logged_76 (lv_at hl 0 rfl) ?_
            refine va_iald hx hb hKw.1 hwd.1 3 0 rfl rfl hw.1 dX0_logged_78 ?_
            replace hw := hw.2
            exact HR (T_logMinutes x4_6.toNatClampNeg) hw hwd dX0_logged_79
          · replace hw := hw.2 c8
            refine lv_lookup (off := 42) (tgt := 80) hx hb dX0_logged_38 rfl (by have e0 : ¬ (0 : Int) = x3.toInt := lk_ne c7; have e1 : ¬ (1 : Int) = x3.toInt := lk_ne c8; show (if (0 : Int) = x3.toInt then (26 : Int) else if (1 : Int) = x3.toInt then (34 : Int) else (42 : Int)) = (42 : Int); rw [if_neg e0, if_neg e1]) (by decide) ?_
            refine lv_aload_n hx hb dX0_logged_80 rfl (lv_at hl 1 rfl) ?_
            refine va_get (D := D) (ci := 0) (v := .ref oT_logLeaders) (C := RX0) (T := TX0) (N := 7) hx hb hts ic_X0_logged_X0 hown hKw.1 hwd.1 0 rfl rfl 6 (by decide) (hts (.fieldLink RX0 27 "DrillWardens$Drills" "logLeaders" "[I") (List.mem_of_getElem? (i := 4) rfl)) (fun _ h9 => h9) rfl dX0_logged_81 ?_
            refine lv_iload hx hb dX0_logged_84 (lv_at hl 0 rfl) ?_
            refine va_iald hx hb hKw.1 hwd.1 4 0 rfl rfl hw.1 dX0_logged_86 ?_
            replace hw := hw.2
            exact HR (T_logLeaders x4_6.toNatClampNeg) hw hwd dX0_logged_87
      · replace hw := hw.2 c5
        refine lv_bipush (v := (-5)) hx hb dX0_logged_26 rfl ?_
        exact HR (-5) hw hwd dX0_logged_28
abbrev ww_X2_add (cI cC : ClassId) (oT oT_persons oT_firstDays oT_lastDays : Nat) (T_granted : Int32) (T_persons : Nat → Int32) (T_firstDays : Nat → Int32) (T_lastDays : Nat → Int32) : va_W := [(oT, .inr (2, [.int T_granted, .ref oT_persons, .ref oT_firstDays, .ref oT_lastDays])), (oT_persons, .inl (cI, 40, .inl T_persons)), (oT_firstDays, .inl (cI, 40, .inl T_firstDays)), (oT_lastDays, .inl (cI, 40, .inl T_lastDays))]
abbrev rm_X2_add : Room := { frames := 1, cells := 0, slots := 0, locals := 22 }
theorem ic_X2_add_X2 : ∀ w ∈ u_ws RX2 TX2 4, w ∈ wsX2_add := by
  intro w h
  simp only [wsX2_add, List.mem_cons, List.mem_append]
  simp only [h, or_true, true_or]
def wp_X2_add (T_granted : Int32) (T_persons : Nat → Int32) (T_firstDays : Nat → Int32) (T_lastDays : Nat → Int32) (x1 : Int32) (x2 : Int32) (x3 : Int32) (Q : Int32 → Int32 → (Nat → Int32) → (Nat → Int32) → (Nat → Int32) → Prop) : Prop := wp_X6_isWithin T_granted (nI 0) (nI 39) (fun r1 => ((¬ r1 = 0 → vp_in T_granted 40 ∧ ∀ T_persons3, T_persons3 = upd T_persons T_granted.toNatClampNeg x1 → vp_in T_granted 40 ∧ ∀ T_firstDays4, T_firstDays4 = upd T_firstDays T_granted.toNatClampNeg x2 → vp_in T_granted 40 ∧ ∀ T_lastDays5, T_lastDays5 = upd T_lastDays T_granted.toNatClampNeg x3 → ∀ T_granted6, T_granted6 = T_granted + (nI 1) → Q ((x3 - x2) + (nI 1)) T_granted6 T_persons3 T_firstDays4 T_lastDays5) ∧ (r1 = 0 → Q (-3) T_granted T_persons T_firstDays T_lastDays)))
set_option maxRecDepth 100000 in
set_option maxHeartbeats 4000000 in
theorem c_X2_add (l : Launch) {D : va_G} {cI cC cR : ClassId} (oT oT_persons oT_firstDays oT_lastDays : Nat) (sz : Nat) (T_granted : Int32) (T_persons : Nat → Int32) (T_firstDays : Nat → Int32) (T_lastDays : Nat → Int32) (x1 : Int32) (x2 : Int32) (x3 : Int32) {Q : Int32 → Int32 → (Nat → Int32) → (Nat → Int32) → (Nat → Int32) → Prop} (hw : wp_X2_add T_granted T_persons T_firstDays T_lastDays x1 x2 x3 Q) : Met l yX2_add wsX2_add rm_X2_add (PcW D cI cC cR [.ref oT, .int x1, .int x2, .int x3] (ww_X2_add cI cC oT oT_persons oT_firstDays oT_lastDays T_granted T_persons T_firstDays T_lastDays) sz) (QiW D (fun (r : Int32) (u : Int32 × (Nat → Int32) × (Nat → Int32) × (Nat → Int32)) => Q r u.1 u.2.1 u.2.2.1 u.2.2.2) (fun u => (ww_X2_add cI cC oT oT_persons oT_firstDays oT_lastDays (u.1) (u.2.1) (u.2.2.1) (u.2.2.2))) (ww_X2_add cI cC oT oT_persons oT_firstDays oT_lastDays T_granted T_persons T_firstDays T_lastDays) sz) 0 0 (va_A (ww_X2_add cI cC oT oT_persons oT_firstDays oT_lastDays T_granted T_persons T_firstDays T_lastDays) sz) := by
  refine Met.ofW (cc := cX2_add) (maxL := 4) (ret := (some .int)) (by decide) rfl ?_
  intro p e s m args below meth c s₁ B hml hv
  obtain ⟨rfl, hsz, hP, hKw, hD0⟩ := hv
  have hlocks := B.notSynchronized
  subst hsz
  have hD := hD0.self (sz := s.heap.size)
  have CX : cx cX2_add (some .int) 4 RX2 wsX2_add p m meth c s ([.ref oT, .int x1, .int x2, .int x3] : List Value).toArray D cI cC cR (va_A (ww_X2_add cI cC oT oT_persons oT_firstDays oT_lastDays T_granted T_persons T_firstDays T_lastDays) s.heap.size) := ⟨B.exec, B.bytes, B.returns, hml, atoms_spec (ws := wsX2_add) B.pre, findClass_of_methodNamed B.named, hlocks, hKw, fun q h => Or.inr h⟩
  obtain ⟨hx, hb, hr, -, hts, hown, -, -, hA⟩ := id CX
  have hwd : wd D (va_A (ww_X2_add cI cC oT oT_persons oT_firstDays oT_lastDays T_granted T_persons T_firstDays T_lastDays) s.heap.size) s (ww_X2_add cI cC oT oT_persons oT_firstDays oT_lastDays T_granted T_persons T_firstDays T_lastDays) s.heap [] := ⟨hP, hD, va_S.rf⟩
  have hl := lv_entry ([.ref oT, .int x1, .int x2, .int x3]) (n := 4) (Nat.le_of_ble_eq_true rfl)
  rw [lg_entry_eq]
  generalize (lg_sl ([.ref oT, .int x1, .int x2, .int x3]) ++ List.replicate (4 - (lg_sl ([.ref oT, .int x1, .int x2, .int x3])).length) Slot.unset).toArray = ls at hl ⊢
  have hl : lv_has ls 4 [(0, .ref oT), (1, .int x1), (2, .int x2), (3, .int x3)] := hl
  have HR : ∀ (r : Int32) (u0 : Int32) (u1 : Nat → Int32) (u2 : Nat → Int32) (u3 : Nat → Int32) {H : Heap} {locs : List Loc} {ls : Array Slot} {pc : Nat}, Q r u0 u1 u2 u3 → wd D (va_A (ww_X2_add cI cC oT oT_persons oT_firstDays oT_lastDays T_granted T_persons T_firstDays T_lastDays) s.heap.size) s (ww_X2_add cI cC oT oT_persons oT_firstDays oT_lastDays u0 u1 u2 u3) H locs → decode cX2_add pc = .ok (.ireturn, 1) → W p l e (headSpec wsX2_add rm_X2_add).room s m ([.ref oT, .int x1, .int x2, .int x3] : List Value).toArray below meth c H locs 0 0 (MQ below (QiW D (fun (r : Int32) (u : Int32 × (Nat → Int32) × (Nat → Int32) × (Nat → Int32)) => Q r u.1 u.2.1 u.2.2.1 u.2.2.2) (fun u => (ww_X2_add cI cC oT oT_persons oT_firstDays oT_lastDays (u.1) (u.2.1) (u.2.2.1) (u.2.2.2))) (ww_X2_add cI cC oT oT_persons oT_firstDays oT_lastDays T_granted T_persons T_firstDays T_lastDays) s.heap.size) ([.ref oT, .int x1, .int x2, .int x3] : List Value).toArray s 0 0 (va_A (ww_X2_add cI cC oT oT_persons oT_firstDays oT_lastDays T_granted T_persons T_firstDays T_lastDays) s.heap.size)) (F0 m pc ls [.int r]) := by
    intro r u0 u1 u2 u3 H locs ls pc hq hw9 hd9
    exact W.iret (v := r) hx hb hr (fun t ht hW => ⟨⟨r, (u0, u1, u2, u3), rfl, hq, by rw [ht]; exact hw9.1, hw9.2.1⟩, hw9.2.2.F ht⟩) hw9.2.2.2.2 hd9
  unfold wp_X2_add at hw
  refine lv_aload_n hx hb dX2_add_0 rfl (lv_at hl 0 rfl) ?_
  refine va_get (D := D) (ci := 2) (v := .int T_granted) (C := RX2) (T := TX2) (N := 4) hx hb hts ic_X2_add_X2 hown hKw.1 hwd.1 0 rfl rfl 0 (by decide) (hts (.fieldLink RX2 21 "DrillWardens$Leaves" "granted" "I") (List.mem_of_getElem? (i := 1) rfl)) (fun _ h9 => h9) rfl dX2_add_1 ?_
  refine lv_iconst (v := (nI 0)) hx hb dX2_add_4 rfl ?_
  refine lv_bipush (v := (nI 39)) hx hb dX2_add_5 rfl ?_
  refine kcNi (rest := []) (As := [.int T_granted, .int (nI 0), .int (nI 39)]) ⟨Nat.le_of_ble_eq_true rfl, Nat.le_of_ble_eq_true rfl⟩ ⟨hx, hb, hml, hown, hts⟩ (c_X6_isWithin l s.heap.size T_granted (nI 0) (nI 39) hw) ⟨va_cnB 3 hts gX2_add_X6_isWithin_n29 rfl rfl rfl (nwm_11 hKw.2) (hts (.initialized RX6) (List.mem_of_getElem? (i := 6) rfl)) hd_X6_isWithin ⟨Nat.le_of_ble_eq_true rfl, Nat.le_of_ble_eq_true rfl⟩, hts (.static yX6_isWithin) (List.mem_of_getElem? (i := 5) rfl), trivial⟩ hKw hA hwd rfl hl.1 rfl (lv_room (Nat.le_of_ble_eq_true rfl)) dX2_add_7 (fun r1 H locs hw hwd => ?_)
  try dsimp only at hw
  refine lv_if_ne (tgt := 16) hx hb dX2_add_10 (by decide) (fun c2 => ?_) (fun c2 => ?_)
  · replace hw := hw.1 c2
    refine lv_aload_n hx hb dX2_add_16 rfl (lv_at hl 0 rfl) ?_
    refine va_get (D := D) (ci := 2) (v := .ref oT_persons) (C := RX2) (T := TX2) (N := 4) hx hb hts ic_X2_add_X2 hown hKw.1 hwd.1 0 rfl rfl 1 (by decide) (hts (.fieldLink RX2 9 "DrillWardens$Leaves" "persons" "[I") (List.mem_of_getElem? (i := 2) rfl)) (fun _ h9 => h9) rfl dX2_add_17 ?_
    refine lv_aload_n hx hb dX2_add_20 rfl (lv_at hl 0 rfl) ?_
    refine va_get (D := D) (ci := 2) (v := .int T_granted) (C := RX2) (T := TX2) (N := 4) hx hb hts ic_X2_add_X2 hown hKw.1 hwd.1 0 rfl rfl 0 (by decide) (hts (.fieldLink RX2 21 "DrillWardens$Leaves" "granted" "I") (List.mem_of_getElem? (i := 1) rfl)) (fun _ h9 => h9) rfl dX2_add_21 ?_
    refine lv_iload_n hx hb dX2_add_24 rfl (lv_at hl 1 rfl) ?_
    obtain ⟨T_persons3, e_T_persons3⟩ : ∃ y : Nat → Int32, y = upd T_persons T_granted.toNatClampNeg x1 := ⟨_, rfl⟩
    refine va_iast hx hb hKw.1 hwd.1 hwd.2.1 hwd.2.2 1 0 rfl rfl hw.1 dX2_add_25 (fun H locs h1 h2 h3 => ?_)
    replace hw := hw.2 T_persons3 e_T_persons3
    rw [← e_T_persons3] at h1 h2
    replace hwd : wd D (va_A (ww_X2_add cI cC oT oT_persons oT_firstDays oT_lastDays T_granted T_persons T_firstDays T_lastDays) s.heap.size) s (ww_X2_add cI cC oT oT_persons oT_firstDays oT_lastDays T_granted T_persons3 T_firstDays T_lastDays) H locs := ⟨h1, h2, h3⟩
    clear h1 h2 h3
    refine lv_aload_n hx hb dX2_add_26 rfl (lv_at hl 0 rfl) ?_
    refine va_get (D := D) (ci := 2) (v := .ref oT_firstDays) (C := RX2) (T := TX2) (N := 4) hx hb hts ic_X2_add_X2 hown hKw.1 hwd.1 0 rfl rfl 2 (by decide) (hts (.fieldLink RX2 15 "DrillWardens$Leaves" "firstDays" "[I") (List.mem_of_getElem? (i := 3) rfl)) (fun _ h9 => h9) rfl dX2_add_27 ?_
    refine lv_aload_n hx hb dX2_add_30 rfl (lv_at hl 0 rfl) ?_
    refine va_get (D := D) (ci := 2) (v := .int T_granted) (C := RX2) (T := TX2) (N := 4) hx hb hts ic_X2_add_X2 hown hKw.1 hwd.1 0 rfl rfl 0 (by decide) (hts (.fieldLink RX2 21 "DrillWardens$Leaves" "granted" "I") (List.mem_of_getElem? (i := 1) rfl)) (fun _ h9 => h9) rfl dX2_add_31 ?_
    refine lv_iload_n hx hb dX2_add_34 rfl (lv_at hl 2 rfl) ?_
    obtain ⟨T_firstDays4, e_T_firstDays4⟩ : ∃ y : Nat → Int32, y = upd T_firstDays T_granted.toNatClampNeg x2 := ⟨_, rfl⟩
    refine va_iast hx hb hKw.1 hwd.1 hwd.2.1 hwd.2.2 2 0 rfl rfl hw.1 dX2_add_35 (fun H locs h1 h2 h3 => ?_)
    replace hw := hw.2 T_firstDays4 e_T_firstDays4
    rw [← e_T_firstDays4] at h1 h2
    replace hwd : wd D (va_A (ww_X2_add cI cC oT oT_persons oT_firstDays oT_lastDays T_granted T_persons T_firstDays T_lastDays) s.heap.size) s (ww_X2_add cI cC oT oT_persons oT_firstDays oT_lastDays T_granted T_persons3 T_firstDays4 T_lastDays) H locs := ⟨h1, h2, h3⟩
    clear h1 h2 h3
    refine lv_aload_n hx hb dX2_add_36 rfl (lv_at hl 0 rfl) ?_
    refine va_get (D := D) (ci := 2) (v := .ref oT_lastDays) (C := RX2) (T := TX2) (N := 4) hx hb hts ic_X2_add_X2 hown hKw.1 hwd.1 0 rfl rfl 3 (by decide) (hts (.fieldLink RX2 18 "DrillWardens$Leaves" "lastDays" "[I") (List.mem_of_getElem? (i := 4) rfl)) (fun _ h9 => h9) rfl dX2_add_37 ?_
    refine lv_aload_n hx hb dX2_add_40 rfl (lv_at hl 0 rfl) ?_
    refine va_get (D := D) (ci := 2) (v := .int T_granted) (C := RX2) (T := TX2) (N := 4) hx hb hts ic_X2_add_X2 hown hKw.1 hwd.1 0 rfl rfl 0 (by decide) (hts (.fieldLink RX2 21 "DrillWardens$Leaves" "granted" "I") (List.mem_of_getElem? (i := 1) rfl)) (fun _ h9 => h9) rfl dX2_add_41 ?_
    refine lv_iload_n hx hb dX2_add_44 rfl (lv_at hl 3 rfl) ?_
    obtain ⟨T_lastDays5, e_T_lastDays5⟩ : ∃ y : Nat → Int32, y = upd T_lastDays T_granted.toNatClampNeg x3 := ⟨_, rfl⟩
    refine va_iast hx hb hKw.1 hwd.1 hwd.2.1 hwd.2.2 3 0 rfl rfl hw.1 dX2_add_45 (fun H locs h1 h2 h3 => ?_)
    replace hw := hw.2 T_lastDays5 e_T_lastDays5
    rw [← e_T_lastDays5] at h1 h2
    replace hwd : wd D (va_A (ww_X2_add cI cC oT oT_persons oT_firstDays oT_lastDays T_granted T_persons T_firstDays T_lastDays) s.heap.size) s (ww_X2_add cI cC oT oT_persons oT_firstDays oT_lastDays T_granted T_persons3 T_firstDays4 T_lastDays5) H locs := ⟨h1, h2, h3⟩
    clear h1 h2 h3
    refine lv_aload_n hx hb dX2_add_46 rfl (lv_at hl 0 rfl) ?_
    refine lv_dup hx hb dX2_add_47 rfl ?_
    refine va_get (D := D) (ci := 2) (v := .int T_granted) (C := RX2) (T := TX2) (N := 4) hx hb hts ic_X2_add_X2 hown hKw.1 hwd.1 0 rfl rfl 0 (by decide) (hts (.fieldLink RX2 21 "DrillWardens$Leaves" "granted" "I") (List.mem_of_getElem? (i := 1) rfl)) (fun _ h9 => h9) rfl dX2_add_48 ?_
    refine lv_iconst (v := (nI 1)) hx hb dX2_add_51 rfl ?_
    refine lv_iadd hx hb dX2_add_52 ?_
    refine lv_topi (fun T_granted6 e_T_granted6 => ?_)
    replace hw := hw T_granted6 e_T_granted6
    refine va_put (D := D) (ci := 2) (v := .int T_granted6) (ty := .int) (C := RX2) (T := TX2) (N := 4) hx hb hts ic_X2_add_X2 tyX2 tyX2_ok nmX2 hown hKw.1 hwd.1 hwd.2.1 hwd.2.2 0 rfl rfl 0 (by decide) (hts (.fieldLink RX2 21 "DrillWardens$Leaves" "granted" "I") (List.mem_of_getElem? (i := 1) rfl)) (fun _ h9 => h9) rfl (tyX2_ok 0 (by decide)) rfl rfl (Nat.le_of_ble_eq_true rfl) dX2_add_53 (fun H locs h1 h2 h3 => ?_)
    replace hwd : wd D (va_A (ww_X2_add cI cC oT oT_persons oT_firstDays oT_lastDays T_granted T_persons T_firstDays T_lastDays) s.heap.size) s (ww_X2_add cI cC oT oT_persons oT_firstDays oT_lastDays T_granted6 T_persons3 T_firstDays4 T_lastDays5) H locs := ⟨h1, h2, h3⟩
    clear h1 h2 h3
    refine lv_iload_n hx hb dX2_add_56 rfl (lv_at hl 3 rfl) ?_
    refine lv_iload_n hx hb dX2_add_57 rfl (lv_at hl 2 rfl) ?_
    refine lv_isub hx hb dX2_add_58 ?_
    refine lv_iconst (v := (nI 1)) hx hb dX2_add_59 rfl ?_
    refine lv_iadd hx hb dX2_add_60 ?_
    exact HR ((x3 - x2) + (nI 1)) T_granted6 T_persons3 T_firstDays4 T_lastDays5 hw hwd dX2_add_61
  · replace hw := hw.2 c2
    refine lv_bipush (v := (-3)) hx hb dX2_add_13 rfl ?_
    exact HR (-3) T_granted T_persons T_firstDays T_lastDays hw hwd dX2_add_15
abbrev ww_X2_removeAt (cI cC : ClassId) (oT oT_persons oT_firstDays oT_lastDays : Nat) (T_granted : Int32) (T_persons : Nat → Int32) (T_firstDays : Nat → Int32) (T_lastDays : Nat → Int32) : va_W := [(oT, .inr (2, [.int T_granted, .ref oT_persons, .ref oT_firstDays, .ref oT_lastDays])), (oT_persons, .inl (cI, 40, .inl T_persons)), (oT_firstDays, .inl (cI, 40, .inl T_firstDays)), (oT_lastDays, .inl (cI, 40, .inl T_lastDays))]
abbrev rm_X2_removeAt : Room := { frames := 1, cells := 0, slots := 0, locals := 22 }
theorem ic_X2_removeAt_X2 : ∀ w ∈ u_ws RX2 TX2 4, w ∈ wsX2_removeAt := by
  intro w h
  simp only [wsX2_removeAt, List.mem_cons, List.mem_append]
  simp only [h, or_true, true_or]
def wp_X2_removeAt (T_granted : Int32) (T_persons : Nat → Int32) (T_firstDays : Nat → Int32) (T_lastDays : Nat → Int32) (x1 : Int32) (Q : Int32 → Int32 → (Nat → Int32) → (Nat → Int32) → (Nat → Int32) → Prop) : Prop := ∀ x2_1, x2_1 = T_granted - (nI 1) → wp_X6_isWithin x2_1 (nI 0) (nI 39) (fun r2 => ((r2 = 0 → Q (-5) T_granted T_persons T_firstDays T_lastDays) ∧ (¬ r2 = 0 → wp_X6_isWithin x1 (nI 0) x2_1 (fun r4 => ((¬ r4 = 0 → vp_in x1 40 ∧ vp_in x1 40 ∧ ∀ x3_6, x3_6 = ((T_lastDays x1.toNatClampNeg) - (T_firstDays x1.toNatClampNeg)) + (nI 1) → vp_in x2_1 40 ∧ vp_in x1 40 ∧ ∀ T_persons7, T_persons7 = upd T_persons x1.toNatClampNeg (T_persons x2_1.toNatClampNeg) → vp_in x2_1 40 ∧ vp_in x1 40 ∧ ∀ T_firstDays8, T_firstDays8 = upd T_firstDays x1.toNatClampNeg (T_firstDays x2_1.toNatClampNeg) → vp_in x2_1 40 ∧ vp_in x1 40 ∧ ∀ T_lastDays9, T_lastDays9 = upd T_lastDays x1.toNatClampNeg (T_lastDays x2_1.toNatClampNeg) → Q x3_6 x2_1 T_persons7 T_firstDays8 T_lastDays9) ∧ (r4 = 0 → Q (-5) T_granted T_persons T_firstDays T_lastDays))))))
set_option maxRecDepth 100000 in
set_option maxHeartbeats 4000000 in
theorem c_X2_removeAt (l : Launch) {D : va_G} {cI cC cR : ClassId} (oT oT_persons oT_firstDays oT_lastDays : Nat) (sz : Nat) (T_granted : Int32) (T_persons : Nat → Int32) (T_firstDays : Nat → Int32) (T_lastDays : Nat → Int32) (x1 : Int32) {Q : Int32 → Int32 → (Nat → Int32) → (Nat → Int32) → (Nat → Int32) → Prop} (hw : wp_X2_removeAt T_granted T_persons T_firstDays T_lastDays x1 Q) : Met l yX2_removeAt wsX2_removeAt rm_X2_removeAt (PcW D cI cC cR [.ref oT, .int x1] (ww_X2_removeAt cI cC oT oT_persons oT_firstDays oT_lastDays T_granted T_persons T_firstDays T_lastDays) sz) (QiW D (fun (r : Int32) (u : Int32 × (Nat → Int32) × (Nat → Int32) × (Nat → Int32)) => Q r u.1 u.2.1 u.2.2.1 u.2.2.2) (fun u => (ww_X2_removeAt cI cC oT oT_persons oT_firstDays oT_lastDays (u.1) (u.2.1) (u.2.2.1) (u.2.2.2))) (ww_X2_removeAt cI cC oT oT_persons oT_firstDays oT_lastDays T_granted T_persons T_firstDays T_lastDays) sz) 0 0 (va_A (ww_X2_removeAt cI cC oT oT_persons oT_firstDays oT_lastDays T_granted T_persons T_firstDays T_lastDays) sz) := by
  refine Met.ofW (cc := cX2_removeAt) (maxL := 4) (ret := (some .int)) (by decide) rfl ?_
  intro p e s m args below meth c s₁ B hml hv
  obtain ⟨rfl, hsz, hP, hKw, hD0⟩ := hv
  have hlocks := B.notSynchronized
  subst hsz
  have hD := hD0.self (sz := s.heap.size)
  have CX : cx cX2_removeAt (some .int) 4 RX2 wsX2_removeAt p m meth c s ([.ref oT, .int x1] : List Value).toArray D cI cC cR (va_A (ww_X2_removeAt cI cC oT oT_persons oT_firstDays oT_lastDays T_granted T_persons T_firstDays T_lastDays) s.heap.size) := ⟨B.exec, B.bytes, B.returns, hml, atoms_spec (ws := wsX2_removeAt) B.pre, findClass_of_methodNamed B.named, hlocks, hKw, fun q h => Or.inr h⟩
  obtain ⟨hx, hb, hr, -, hts, hown, -, -, hA⟩ := id CX
  have hwd : wd D (va_A (ww_X2_removeAt cI cC oT oT_persons oT_firstDays oT_lastDays T_granted T_persons T_firstDays T_lastDays) s.heap.size) s (ww_X2_removeAt cI cC oT oT_persons oT_firstDays oT_lastDays T_granted T_persons T_firstDays T_lastDays) s.heap [] := ⟨hP, hD, va_S.rf⟩
  have hl := lv_entry ([.ref oT, .int x1]) (n := 4) (Nat.le_of_ble_eq_true rfl)
  rw [lg_entry_eq]
  generalize (lg_sl ([.ref oT, .int x1]) ++ List.replicate (4 - (lg_sl ([.ref oT, .int x1])).length) Slot.unset).toArray = ls at hl ⊢
  have hl : lv_has ls 4 [(0, .ref oT), (1, .int x1)] := hl
  have HR : ∀ (r : Int32) (u0 : Int32) (u1 : Nat → Int32) (u2 : Nat → Int32) (u3 : Nat → Int32) {H : Heap} {locs : List Loc} {ls : Array Slot} {pc : Nat}, Q r u0 u1 u2 u3 → wd D (va_A (ww_X2_removeAt cI cC oT oT_persons oT_firstDays oT_lastDays T_granted T_persons T_firstDays T_lastDays) s.heap.size) s (ww_X2_removeAt cI cC oT oT_persons oT_firstDays oT_lastDays u0 u1 u2 u3) H locs → decode cX2_removeAt pc = .ok (.ireturn, 1) → W p l e (headSpec wsX2_removeAt rm_X2_removeAt).room s m ([.ref oT, .int x1] : List Value).toArray below meth c H locs 0 0 (MQ below (QiW D (fun (r : Int32) (u : Int32 × (Nat → Int32) × (Nat → Int32) × (Nat → Int32)) => Q r u.1 u.2.1 u.2.2.1 u.2.2.2) (fun u => (ww_X2_removeAt cI cC oT oT_persons oT_firstDays oT_lastDays (u.1) (u.2.1) (u.2.2.1) (u.2.2.2))) (ww_X2_removeAt cI cC oT oT_persons oT_firstDays oT_lastDays T_granted T_persons T_firstDays T_lastDays) s.heap.size) ([.ref oT, .int x1] : List Value).toArray s 0 0 (va_A (ww_X2_removeAt cI cC oT oT_persons oT_firstDays oT_lastDays T_granted T_persons T_firstDays T_lastDays) s.heap.size)) (F0 m pc ls [.int r]) := by
    intro r u0 u1 u2 u3 H locs ls pc hq hw9 hd9
    exact W.iret (v := r) hx hb hr (fun t ht hW => ⟨⟨r, (u0, u1, u2, u3), rfl, hq, by rw [ht]; exact hw9.1, hw9.2.1⟩, hw9.2.2.F ht⟩) hw9.2.2.2.2 hd9
  unfold wp_X2_removeAt at hw
  refine lv_aload_n hx hb dX2_removeAt_0 rfl (lv_at hl 0 rfl) ?_
  refine va_get (D := D) (ci := 2) (v := .int T_granted) (C := RX2) (T := TX2) (N := 4) hx hb hts ic_X2_removeAt_X2 hown hKw.1 hwd.1 0 rfl rfl 0 (by decide) (hts (.fieldLink RX2 21 "DrillWardens$Leaves" "granted" "I") (List.mem_of_getElem? (i := 1) rfl)) (fun _ h9 => h9) rfl dX2_removeAt_1 ?_
  refine lv_iconst (v := (nI 1)) hx hb dX2_removeAt_4 rfl ?_
  refine lv_isub hx hb dX2_removeAt_5 ?_
  refine lv_topi (fun x2_1 e_x2_1 => ?_)
  replace hw := hw x2_1 e_x2_1
  refine lv_istore_n (lv' := [(2, .int x2_1), (0, .ref oT), (1, .int x1)]) hx hb dX2_removeAt_6 rfl hl (by decide) rfl (fun ls hl => ?_)
  refine lv_iload_n hx hb dX2_removeAt_7 rfl (lv_at hl 0 rfl) ?_
  refine lv_iconst (v := (nI 0)) hx hb dX2_removeAt_8 rfl ?_
  refine lv_bipush (v := (nI 39)) hx hb dX2_removeAt_9 rfl ?_
  refine kcNi (rest := []) (As := [.int x2_1, .int (nI 0), .int (nI 39)]) ⟨Nat.le_of_ble_eq_true rfl, Nat.le_of_ble_eq_true rfl⟩ ⟨hx, hb, hml, hown, hts⟩ (c_X6_isWithin l s.heap.size x2_1 (nI 0) (nI 39) hw) ⟨va_cnB 3 hts gX2_removeAt_X6_isWithin_n29 rfl rfl rfl (nwm_11 hKw.2) (hts (.initialized RX6) (List.mem_of_getElem? (i := 6) rfl)) hd_X6_isWithin ⟨Nat.le_of_ble_eq_true rfl, Nat.le_of_ble_eq_true rfl⟩, hts (.static yX6_isWithin) (List.mem_of_getElem? (i := 5) rfl), trivial⟩ hKw hA hwd rfl hl.1 rfl (lv_room (Nat.le_of_ble_eq_true rfl)) dX2_removeAt_11 (fun r2 H locs hw hwd => ?_)
  try dsimp only at hw
  refine lv_if_eq (tgt := 26) hx hb dX2_removeAt_14 (by decide) (fun c3 => ?_) (fun c3 => ?_)
  · replace hw := hw.1 c3
    refine lv_bipush (v := (-5)) hx hb dX2_removeAt_26 rfl ?_
    exact HR (-5) T_granted T_persons T_firstDays T_lastDays hw hwd dX2_removeAt_28
  · replace hw := hw.2 c3
    refine lv_iload_n hx hb dX2_removeAt_17 rfl (lv_at hl 2 rfl) ?_
    refine lv_iconst (v := (nI 0)) hx hb dX2_removeAt_18 rfl ?_
    refine lv_iload_n hx hb dX2_removeAt_19 rfl (lv_at hl 0 rfl) ?_
    refine kcNi (rest := []) (As := [.int x1, .int (nI 0), .int x2_1]) ⟨Nat.le_of_ble_eq_true rfl, Nat.le_of_ble_eq_true rfl⟩ ⟨hx, hb, hml, hown, hts⟩ (c_X6_isWithin l H.size x1 (nI 0) x2_1 hw) ⟨va_cnB 3 hts gX2_removeAt_X6_isWithin_n29 rfl rfl rfl (nwm_11 hKw.2) (hts (.initialized RX6) (List.mem_of_getElem? (i := 6) rfl)) hd_X6_isWithin ⟨Nat.le_of_ble_eq_true rfl, Nat.le_of_ble_eq_true rfl⟩, hts (.static yX6_isWithin) (List.mem_of_getElem? (i := 5) rfl), trivial⟩ hKw hA hwd rfl hl.1 rfl (lv_room (Nat.le_of_ble_eq_true rfl)) dX2_removeAt_20 (fun r4 H locs hw hwd => ?_)
    try dsimp only at hw
    refine lv_if_ne (tgt := 29) hx hb dX2_removeAt_23 (by decide) (fun c5 => ?_) (fun c5 => ?_)
    · replace hw := hw.1 c5
      refine lv_aload_n hx hb dX2_removeAt_29 rfl (lv_at hl 1 rfl) ?_
      refine va_get (D := D) (ci := 2) (v := .ref oT_lastDays) (C := RX2) (T := TX2) (N := 4) hx hb hts ic_X2_removeAt_X2 hown hKw.1 hwd.1 0 rfl rfl 3 (by decide) (hts (.fieldLink RX2 18 "DrillWardens$Leaves" "lastDays" "[I") (List.mem_of_getElem? (i := 2) rfl)) (fun _ h9 => h9) rfl dX2_removeAt_30 ?_
      refine lv_iload_n hx hb dX2_removeAt_33 rfl (lv_at hl 2 rfl) ?_
      refine va_iald hx hb hKw.1 hwd.1 3 0 rfl rfl hw.1 dX2_removeAt_34 ?_
      replace hw := hw.2
      refine lv_aload_n hx hb dX2_removeAt_35 rfl (lv_at hl 1 rfl) ?_
      refine va_get (D := D) (ci := 2) (v := .ref oT_firstDays) (C := RX2) (T := TX2) (N := 4) hx hb hts ic_X2_removeAt_X2 hown hKw.1 hwd.1 0 rfl rfl 2 (by decide) (hts (.fieldLink RX2 15 "DrillWardens$Leaves" "firstDays" "[I") (List.mem_of_getElem? (i := 3) rfl)) (fun _ h9 => h9) rfl dX2_removeAt_36 ?_
      refine lv_iload_n hx hb dX2_removeAt_39 rfl (lv_at hl 2 rfl) ?_
      refine va_iald hx hb hKw.1 hwd.1 2 0 rfl rfl hw.1 dX2_removeAt_40 ?_
      replace hw := hw.2
      refine lv_isub hx hb dX2_removeAt_41 ?_
      refine lv_iconst (v := (nI 1)) hx hb dX2_removeAt_42 rfl ?_
      refine lv_iadd hx hb dX2_removeAt_43 ?_
      refine lv_topi (fun x3_6 e_x3_6 => ?_)
      replace hw := hw x3_6 e_x3_6
      refine lv_istore_n (lv' := [(3, .int x3_6), (2, .int x2_1), (0, .ref oT), (1, .int x1)]) hx hb dX2_removeAt_44 rfl hl (by decide) rfl (fun ls hl => ?_)
      refine lv_aload_n hx hb dX2_removeAt_45 rfl (lv_at hl 2 rfl) ?_
      refine va_get (D := D) (ci := 2) (v := .ref oT_persons) (C := RX2) (T := TX2) (N := 4) hx hb hts ic_X2_removeAt_X2 hown hKw.1 hwd.1 0 rfl rfl 1 (by decide) (hts (.fieldLink RX2 9 "DrillWardens$Leaves" "persons" "[I") (List.mem_of_getElem? (i := 4) rfl)) (fun _ h9 => h9) rfl dX2_removeAt_46 ?_
      refine lv_iload_n hx hb dX2_removeAt_49 rfl (lv_at hl 3 rfl) ?_
      refine lv_aload_n hx hb dX2_removeAt_50 rfl (lv_at hl 2 rfl) ?_
      refine va_get (D := D) (ci := 2) (v := .ref oT_persons) (C := RX2) (T := TX2) (N := 4) hx hb hts ic_X2_removeAt_X2 hown hKw.1 hwd.1 0 rfl rfl 1 (by decide) (hts (.fieldLink RX2 9 "DrillWardens$Leaves" "persons" "[I") (List.mem_of_getElem? (i := 4) rfl)) (fun _ h9 => h9) rfl dX2_removeAt_51 ?_
      refine lv_iload_n hx hb dX2_removeAt_54 rfl (lv_at hl 1 rfl) ?_
      refine va_iald hx hb hKw.1 hwd.1 1 0 rfl rfl hw.1 dX2_removeAt_55 ?_
      replace hw := hw.2
      obtain ⟨T_persons7, e_T_persons7⟩ : ∃ y : Nat → Int32, y = upd T_persons x1.toNatClampNeg (T_persons x2_1.toNatClampNeg) := ⟨_, rfl⟩
      refine va_iast hx hb hKw.1 hwd.1 hwd.2.1 hwd.2.2 1 0 rfl rfl hw.1 dX2_removeAt_56 (fun H locs h1 h2 h3 => ?_)
      replace hw := hw.2 T_persons7 e_T_persons7
      rw [← e_T_persons7] at h1 h2
      replace hwd : wd D (va_A (ww_X2_removeAt cI cC oT oT_persons oT_firstDays oT_lastDays T_granted T_persons T_firstDays T_lastDays) s.heap.size) s (ww_X2_removeAt cI cC oT oT_persons oT_firstDays oT_lastDays T_granted T_persons7 T_firstDays T_lastDays) H locs := ⟨h1, h2, h3⟩
      clear h1 h2 h3
      refine lv_aload_n hx hb dX2_removeAt_57 rfl (lv_at hl 2 rfl) ?_
      refine va_get (D := D) (ci := 2) (v := .ref oT_firstDays) (C := RX2) (T := TX2) (N := 4) hx hb hts ic_X2_removeAt_X2 hown hKw.1 hwd.1 0 rfl rfl 2 (by decide) (hts (.fieldLink RX2 15 "DrillWardens$Leaves" "firstDays" "[I") (List.mem_of_getElem? (i := 3) rfl)) (fun _ h9 => h9) rfl dX2_removeAt_58 ?_
      refine lv_iload_n hx hb dX2_removeAt_61 rfl (lv_at hl 3 rfl) ?_
      refine lv_aload_n hx hb dX2_removeAt_62 rfl (lv_at hl 2 rfl) ?_
      refine va_get (D := D) (ci := 2) (v := .ref oT_firstDays) (C := RX2) (T := TX2) (N := 4) hx hb hts ic_X2_removeAt_X2 hown hKw.1 hwd.1 0 rfl rfl 2 (by decide) (hts (.fieldLink RX2 15 "DrillWardens$Leaves" "firstDays" "[I") (List.mem_of_getElem? (i := 3) rfl)) (fun _ h9 => h9) rfl dX2_removeAt_63 ?_
      refine lv_iload_n hx hb dX2_removeAt_66 rfl (lv_at hl 1 rfl) ?_
      refine va_iald hx hb hKw.1 hwd.1 2 0 rfl rfl hw.1 dX2_removeAt_67 ?_
      replace hw := hw.2
      obtain ⟨T_firstDays8, e_T_firstDays8⟩ : ∃ y : Nat → Int32, y = upd T_firstDays x1.toNatClampNeg (T_firstDays x2_1.toNatClampNeg) := ⟨_, rfl⟩
      refine va_iast hx hb hKw.1 hwd.1 hwd.2.1 hwd.2.2 2 0 rfl rfl hw.1 dX2_removeAt_68 (fun H locs h1 h2 h3 => ?_)
      replace hw := hw.2 T_firstDays8 e_T_firstDays8
      rw [← e_T_firstDays8] at h1 h2
      replace hwd : wd D (va_A (ww_X2_removeAt cI cC oT oT_persons oT_firstDays oT_lastDays T_granted T_persons T_firstDays T_lastDays) s.heap.size) s (ww_X2_removeAt cI cC oT oT_persons oT_firstDays oT_lastDays T_granted T_persons7 T_firstDays8 T_lastDays) H locs := ⟨h1, h2, h3⟩
      clear h1 h2 h3
      refine lv_aload_n hx hb dX2_removeAt_69 rfl (lv_at hl 2 rfl) ?_
      refine va_get (D := D) (ci := 2) (v := .ref oT_lastDays) (C := RX2) (T := TX2) (N := 4) hx hb hts ic_X2_removeAt_X2 hown hKw.1 hwd.1 0 rfl rfl 3 (by decide) (hts (.fieldLink RX2 18 "DrillWardens$Leaves" "lastDays" "[I") (List.mem_of_getElem? (i := 2) rfl)) (fun _ h9 => h9) rfl dX2_removeAt_70 ?_
      refine lv_iload_n hx hb dX2_removeAt_73 rfl (lv_at hl 3 rfl) ?_
      refine lv_aload_n hx hb dX2_removeAt_74 rfl (lv_at hl 2 rfl) ?_
      refine va_get (D := D) (ci := 2) (v := .ref oT_lastDays) (C := RX2) (T := TX2) (N := 4) hx hb hts ic_X2_removeAt_X2 hown hKw.1 hwd.1 0 rfl rfl 3 (by decide) (hts (.fieldLink RX2 18 "DrillWardens$Leaves" "lastDays" "[I") (List.mem_of_getElem? (i := 2) rfl)) (fun _ h9 => h9) rfl dX2_removeAt_75 ?_
      refine lv_iload_n hx hb dX2_removeAt_78 rfl (lv_at hl 1 rfl) ?_
      refine va_iald hx hb hKw.1 hwd.1 3 0 rfl rfl hw.1 dX2_removeAt_79 ?_
      replace hw := hw.2
      obtain ⟨T_lastDays9, e_T_lastDays9⟩ : ∃ y : Nat → Int32, y = upd T_lastDays x1.toNatClampNeg (T_lastDays x2_1.toNatClampNeg) := ⟨_, rfl⟩
      refine va_iast hx hb hKw.1 hwd.1 hwd.2.1 hwd.2.2 3 0 rfl rfl hw.1 dX2_removeAt_80 (fun H locs h1 h2 h3 => ?_)
      replace hw := hw.2 T_lastDays9 e_T_lastDays9
      rw [← e_T_lastDays9] at h1 h2
      replace hwd : wd D (va_A (ww_X2_removeAt cI cC oT oT_persons oT_firstDays oT_lastDays T_granted T_persons T_firstDays T_lastDays) s.heap.size) s (ww_X2_removeAt cI cC oT oT_persons oT_firstDays oT_lastDays T_granted T_persons7 T_firstDays8 T_lastDays9) H locs := ⟨h1, h2, h3⟩
      clear h1 h2 h3
      refine lv_aload_n hx hb dX2_removeAt_81 rfl (lv_at hl 2 rfl) ?_
      refine lv_iload_n hx hb dX2_removeAt_82 rfl (lv_at hl 1 rfl) ?_
      refine va_put (D := D) (ci := 2) (v := .int x2_1) (ty := .int) (C := RX2) (T := TX2) (N := 4) hx hb hts ic_X2_removeAt_X2 tyX2 tyX2_ok nmX2 hown hKw.1 hwd.1 hwd.2.1 hwd.2.2 0 rfl rfl 0 (by decide) (hts (.fieldLink RX2 21 "DrillWardens$Leaves" "granted" "I") (List.mem_of_getElem? (i := 1) rfl)) (fun _ h9 => h9) rfl (tyX2_ok 0 (by decide)) rfl rfl (Nat.le_of_ble_eq_true rfl) dX2_removeAt_83 (fun H locs h1 h2 h3 => ?_)
      replace hwd : wd D (va_A (ww_X2_removeAt cI cC oT oT_persons oT_firstDays oT_lastDays T_granted T_persons T_firstDays T_lastDays) s.heap.size) s (ww_X2_removeAt cI cC oT oT_persons oT_firstDays oT_lastDays x2_1 T_persons7 T_firstDays8 T_lastDays9) H locs := ⟨h1, h2, h3⟩
      clear h1 h2 h3
      refine lv_iload_n hx hb dX2_removeAt_86 rfl (lv_at hl 0 rfl) ?_
      exact HR x3_6 x2_1 T_persons7 T_firstDays8 T_lastDays9 hw hwd dX2_removeAt_87
    · replace hw := hw.2 c5
      refine lv_bipush (v := (-5)) hx hb dX2_removeAt_26 rfl ?_
      exact HR (-5) T_granted T_persons T_firstDays T_lastDays hw hwd dX2_removeAt_28
