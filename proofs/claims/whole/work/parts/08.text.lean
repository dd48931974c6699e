abbrev ww_X3_empty (cI cC : ClassId) (oT oT_characters oT_kinds oT_numbers : Nat) (T_length : Int32) (T_at : Int32) (T_orders : Int32) : va_W := [(oT, .inr (3, [.ref oT_characters, .int T_length, .int T_at, .int T_orders, .ref oT_kinds, .ref oT_numbers]))]
abbrev rm_X3_empty : Room := { frames := 0, cells := 0, slots := 0, locals := 0 }
theorem ic_X3_empty_X3 : ∀ w ∈ u_ws RX3 TX3 6, w ∈ wsX3_empty := by
  intro w h
  simp only [wsX3_empty, List.mem_cons, List.mem_append]
  simp only [h, or_true, true_or]
def wp_X3_empty (T_length : Int32) (Q : Int32 → Int32 → Prop) : Prop := Q T_length (nI 0)
set_option maxRecDepth 100000 in
set_option maxHeartbeats 4000000 in
theorem c_X3_empty (l : Launch) {D : va_G} {cI cC cR : ClassId} (oT oT_characters oT_kinds oT_numbers : Nat) (sz : Nat) (T_length : Int32) (T_at : Int32) (T_orders : Int32) {Q : Int32 → Int32 → Prop} (hw : wp_X3_empty T_length Q) : Met l yX3_empty wsX3_empty rm_X3_empty (PcW D cI cC cR [.ref oT] (ww_X3_empty cI cC oT oT_characters oT_kinds oT_numbers T_length T_at T_orders) sz) (QiW D (fun (r : Int32) (u : Int32) => Q r u) (fun u => (ww_X3_empty cI cC oT oT_characters oT_kinds oT_numbers u T_at T_orders)) (ww_X3_empty cI cC oT oT_characters oT_kinds oT_numbers T_length T_at T_orders) sz) 0 0 (va_A (ww_X3_empty cI cC oT oT_characters oT_kinds oT_numbers T_length T_at T_orders) sz) := by
  refine Met.ofW (cc := cX3_empty) (maxL := 2) (ret := (some .int)) (by decide) rfl ?_
  intro p e s m args below meth c s₁ B hml hv
  obtain ⟨rfl, hsz, hP, hKw, hD0⟩ := hv
  have hlocks := B.notSynchronized
  subst hsz
  have hD := hD0.self (sz := s.heap.size)
  have CX : cx cX3_empty (some .int) 2 RX3 wsX3_empty p m meth c s ([.ref oT] : List Value).toArray D cI cC cR (va_A (ww_X3_empty cI cC oT oT_characters oT_kinds oT_numbers T_length T_at T_orders) s.heap.size) := ⟨B.exec, B.bytes, B.returns, hml, atoms_spec (ws := wsX3_empty) B.pre, findClass_of_methodNamed B.named, hlocks, hKw, fun q h => Or.inr h⟩
  obtain ⟨hx, hb, hr, -, hts, hown, -, -, hA⟩ := id CX
  have hwd : wd D (va_A (ww_X3_empty cI cC oT oT_characters oT_kinds oT_numbers T_length T_at T_orders) s.heap.size) s (ww_X3_empty cI cC oT oT_characters oT_kinds oT_numbers T_length T_at T_orders) s.heap [] := ⟨hP, hD, va_S.rf⟩
  have hl := lv_entry ([.ref oT]) (n := 2) (Nat.le_of_ble_eq_true rfl)
  rw [lg_entry_eq]
  generalize (lg_sl ([.ref oT]) ++ List.replicate (2 - (lg_sl ([.ref oT])).length) Slot.unset).toArray = ls at hl ⊢
  have hl : lv_has ls 2 [(0, .ref oT)] := hl
  have HR : ∀ (r : Int32) (u0 : Int32) {H : Heap} {locs : List Loc} {ls : Array Slot} {pc : Nat}, Q r u0 → wd D (va_A (ww_X3_empty cI cC oT oT_characters oT_kinds oT_numbers T_length T_at T_orders) s.heap.size) s (ww_X3_empty cI cC oT oT_characters oT_kinds oT_numbers u0 T_at T_orders) H locs → decode cX3_empty pc = .ok (.ireturn, 1) → W p l e (headSpec wsX3_empty rm_X3_empty).room s m ([.ref oT] : List Value).toArray below meth c H locs 0 0 (MQ below (QiW D (fun (r : Int32) (u : Int32) => Q r u) (fun u => (ww_X3_empty cI cC oT oT_characters oT_kinds oT_numbers u T_at T_orders)) (ww_X3_empty cI cC oT oT_characters oT_kinds oT_numbers T_length T_at T_orders) s.heap.size) ([.ref oT] : List Value).toArray s 0 0 (va_A (ww_X3_empty cI cC oT oT_characters oT_kinds oT_numbers T_length T_at T_orders) s.heap.size)) (F0 m pc ls [.int r]) := by
    intro r u0 H locs ls pc hq hw9 hd9
    exact W.iret (v := r) hx hb hr (fun t ht hW => ⟨⟨r, u0, rfl, hq, by rw [ht]; exact hw9.1, hw9.2.1⟩, hw9.2.2.F ht⟩) hw9.2.2.2.2 hd9
  unfold wp_X3_empty at hw
  refine lv_aload_n hx hb dX3_empty_0 rfl (lv_at hl 0 rfl) ?_
  refine va_get (D := D) (ci := 3) (v := .int T_length) (C := RX3) (T := TX3) (N := 6) hx hb hts ic_X3_empty_X3 hown hKw.1 hwd.1 0 rfl rfl 1 (by decide) (hts (.fieldLink RX3 22 "DrillWardens$OrderText" "length" "I") (List.mem_of_getElem? (i := 1) rfl)) (fun _ h9 => h9) rfl dX3_empty_1 ?_
  refine lv_istore_n (lv' := [(1, .int T_length), (0, .ref oT)]) hx hb dX3_empty_4 rfl hl (by decide) rfl (fun ls hl => ?_)
  refine lv_aload_n hx hb dX3_empty_5 rfl (lv_at hl 1 rfl) ?_
  refine lv_iconst (v := (nI 0)) hx hb dX3_empty_6 rfl ?_
  refine va_put (D := D) (ci := 3) (v := .int (nI 0)) (ty := .int) (C := RX3) (T := TX3) (N := 6) hx hb hts ic_X3_empty_X3 tyX3 tyX3_ok nmX3 hown hKw.1 hwd.1 hwd.2.1 hwd.2.2 0 rfl rfl 1 (by decide) (hts (.fieldLink RX3 22 "DrillWardens$OrderText" "length" "I") (List.mem_of_getElem? (i := 1) rfl)) (fun _ h9 => h9) rfl (tyX3_ok 1 (by decide)) rfl rfl (Nat.le_of_ble_eq_true rfl) dX3_empty_7 (fun H locs h1 h2 h3 => ?_)
  replace hwd : wd D (va_A (ww_X3_empty cI cC oT oT_characters oT_kinds oT_numbers T_length T_at T_orders) s.heap.size) s (ww_X3_empty cI cC oT oT_characters oT_kinds oT_numbers (nI 0) T_at T_orders) H locs := ⟨h1, h2, h3⟩
  clear h1 h2 h3
  refine lv_iload_n hx hb dX3_empty_10 rfl (lv_at hl 0 rfl) ?_
  exact HR T_length (nI 0) hw hwd dX3_empty_11
abbrev ww_X3_orders (cI cC : ClassId) (oT oT_characters oT_kinds oT_numbers : Nat) (T_length : Int32) (T_at : Int32) (T_orders : Int32) : va_W := [(oT, .inr (3, [.ref oT_characters, .int T_length, .int T_at, .int T_orders, .ref oT_kinds, .ref oT_numbers]))]
abbrev rm_X3_orders : Room := { frames := 0, cells := 0, slots := 0, locals := 0 }
theorem ic_X3_orders_X3 : ∀ w ∈ u_ws RX3 TX3 6, w ∈ wsX3_orders := by
  intro w h
  simp only [wsX3_orders, List.mem_cons, List.mem_append]
  simp only [h, or_true, true_or]
def wp_X3_orders (T_orders : Int32) (Q : Int32 → Prop) : Prop := Q T_orders
set_option maxRecDepth 100000 in
set_option maxHeartbeats 4000000 in
theorem c_X3_orders (l : Launch) {D : va_G} {cI cC cR : ClassId} (oT oT_characters oT_kinds oT_numbers : Nat) (sz : Nat) (T_length : Int32) (T_at : Int32) (T_orders : Int32) {Q : Int32 → Prop} (hw : wp_X3_orders T_orders Q) : Met l yX3_orders wsX3_orders rm_X3_orders (PcW D cI cC cR [.ref oT] (ww_X3_orders cI cC oT oT_characters oT_kinds oT_numbers T_length T_at T_orders) sz) (QiW D (fun (r : Int32) (u : Unit) => Q r ) (fun u => (ww_X3_orders cI cC oT oT_characters oT_kinds oT_numbers T_length T_at T_orders)) (ww_X3_orders cI cC oT oT_characters oT_kinds oT_numbers T_length T_at T_orders) sz) 0 0 (va_A (ww_X3_orders cI cC oT oT_characters oT_kinds oT_numbers T_length T_at T_orders) sz) := by
  refine Met.ofW (cc := cX3_orders) (maxL := 1) (ret := (some .int)) (by decide) rfl ?_
  intro p e s m args below meth c s₁ B hml hv
  obtain ⟨rfl, hsz, hP, hKw, hD0⟩ := hv
  have hlocks := B.notSynchronized
  subst hsz
  have hD := hD0.self (sz := s.heap.size)
  have CX : cx cX3_orders (some .int) 1 RX3 wsX3_orders p m meth c s ([.ref oT] : List Value).toArray D cI cC cR (va_A (ww_X3_orders cI cC oT oT_characters oT_kinds oT_numbers T_length T_at T_orders) s.heap.size) := ⟨B.exec, B.bytes, B.returns, hml, atoms_spec (ws := wsX3_orders) B.pre, findClass_of_methodNamed B.named, hlocks, hKw, fun q h => Or.inr h⟩
  obtain ⟨hx, hb, hr, -, hts, hown, -, -, hA⟩ := id CX
  have hwd : wd D (va_A (ww_X3_orders cI cC oT oT_characters oT_kinds oT_numbers T_length T_at T_orders) s.heap.size) s (ww_X3_orders cI cC oT oT_characters oT_kinds oT_numbers T_length T_at T_orders) s.heap [] := ⟨hP, hD, va_S.rf⟩
  have hl := lv_entry ([.ref oT]) (n := 1) (Nat.le_of_ble_eq_true rfl)
  rw [lg_entry_eq]
  generalize (lg_sl ([.ref oT]) ++ List.replicate (1 - (lg_sl ([.ref oT])).length) Slot.unset).toArray = ls at hl ⊢
  have hl : lv_has ls 1 [(0, .ref oT)] := hl
  have HR : ∀ (r : Int32) {H : Heap} {locs : List Loc} {ls : Array Slot} {pc : Nat}, Q r → wd D (va_A (ww_X3_orders cI cC oT oT_characters oT_kinds oT_numbers T_length T_at T_orders) s.heap.size) s (ww_X3_orders cI cC oT oT_characters oT_kinds oT_numbers T_length T_at T_orders) H locs → decode cX3_orders pc = .ok (.ireturn, 1) → W p l e (headSpec wsX3_orders rm_X3_orders).room s m ([.ref oT] : List Value).toArray below meth c H locs 0 0 (MQ below (QiW D (fun (r : Int32) (u : Unit) => Q r ) (fun u => (ww_X3_orders cI cC oT oT_characters oT_kinds oT_numbers T_length T_at T_orders)) (ww_X3_orders cI cC oT oT_characters oT_kinds oT_numbers T_length T_at T_orders) s.heap.size) ([.ref oT] : List Value).toArray s 0 0 (va_A (ww_X3_orders cI cC oT oT_characters oT_kinds oT_numbers T_length T_at T_orders) s.heap.size)) (F0 m pc ls [.int r]) := by
    intro r H locs ls pc hq hw9 hd9
    exact W.iret (v := r) hx hb hr (fun t ht hW => ⟨⟨r, (), rfl, hq, by rw [ht]; exact hw9.1, hw9.2.1⟩, hw9.2.2.F ht⟩) hw9.2.2.2.2 hd9
  unfold wp_X3_orders at hw
  refine lv_aload_n hx hb dX3_orders_0 rfl (lv_at hl 0 rfl) ?_
  refine va_get (D := D) (ci := 3) (v := .int T_orders) (C := RX3) (T := TX3) (N := 6) hx hb hts ic_X3_orders_X3 hown hKw.1 hwd.1 0 rfl rfl 3 (by decide) (hts (.fieldLink RX3 30 "DrillWardens$OrderText" "orders" "I") (List.mem_of_getElem? (i := 1) rfl)) (fun _ h9 => h9) rfl dX3_orders_1 ?_
  exact HR T_orders hw hwd dX3_orders_4
abbrev ww_X3_fault (cI cC : ClassId) (oT oT_characters oT_kinds oT_numbers : Nat) (T_length : Int32) (T_at : Int32) (T_orders : Int32) : va_W := [(oT, .inr (3, [.ref oT_characters, .int T_length, .int T_at, .int T_orders, .ref oT_kinds, .ref oT_numbers]))]
abbrev rm_X3_fault : Room := { frames := 0, cells := 0, slots := 0, locals := 0 }
theorem ic_X3_fault_X3 : ∀ w ∈ u_ws RX3 TX3 6, w ∈ wsX3_fault := by
  intro w h
  simp only [wsX3_fault, List.mem_cons, List.mem_append]
  simp only [h, or_true, true_or]
def wp_X3_fault (T_at : Int32) (Q : Int32 → Prop) : Prop := Q T_at
set_option maxRecDepth 100000 in
set_option maxHeartbeats 4000000 in
theorem c_X3_fault (l : Launch) {D : va_G} {cI cC cR : ClassId} (oT oT_characters oT_kinds oT_numbers : Nat) (sz : Nat) (T_length : Int32) (T_at : Int32) (T_orders : Int32) {Q : Int32 → Prop} (hw : wp_X3_fault T_at Q) : Met l yX3_fault wsX3_fault rm_X3_fault (PcW D cI cC cR [.ref oT] (ww_X3_fault cI cC oT oT_characters oT_kinds oT_numbers T_length T_at T_orders) sz) (QiW D (fun (r : Int32) (u : Unit) => Q r ) (fun u => (ww_X3_fault cI cC oT oT_characters oT_kinds oT_numbers T_length T_at T_orders)) (ww_X3_fault cI cC oT oT_characters oT_kinds oT_numbers T_length T_at T_orders) sz) 0 0 (va_A (ww_X3_fault cI cC oT oT_characters oT_kinds oT_numbers T_length T_at T_orders) sz) := by
  refine Met.ofW (cc := cX3_fault) (maxL := 1) (ret := (some .int)) (by decide) rfl ?_
  intro p e s m args below meth c s₁ B hml hv
  obtain ⟨rfl, hsz, hP, hKw, hD0⟩ := hv
  have hlocks := B.notSynchronized
  subst hsz
  have hD := hD0.self (sz := s.heap.size)
  have CX : cx cX3_fault (some .int) 1 RX3 wsX3_fault p m meth c s ([.ref oT] : List Value).toArray D cI cC cR (va_A (ww_X3_fault cI cC oT oT_characters oT_kinds oT_numbers T_length T_at T_orders) s.heap.size) := ⟨B.exec, B.bytes, B.returns, hml, atoms_spec (ws := wsX3_fault) B.pre, findClass_of_methodNamed B.named, hlocks, hKw, fun q h => Or.inr h⟩
  obtain ⟨hx, hb, hr, -, hts, hown, -, -, hA⟩ := id CX
  have hwd : wd D (va_A (ww_X3_fault cI cC oT oT_characters oT_kinds oT_numbers T_length T_at T_orders) s.heap.size) s (ww_X3_fault cI cC oT oT_characters oT_kinds oT_numbers T_length T_at T_orders) s.heap [] := ⟨hP, hD, va_S.rf⟩
  have hl := lv_entry ([.ref oT]) (n := 1) (Nat.le_of_ble_eq_true rfl)
  rw [lg_entry_eq]
  generalize (lg_sl ([.ref oT]) ++ List.replicate (1 - (lg_sl ([.ref oT])).length) Slot.unset).toArray = ls at hl ⊢
  have hl : lv_has ls 1 [(0, .ref oT)] := hl
  have HR : ∀ (r : Int32) {H : Heap} {locs : List Loc} {ls : Array Slot} {pc : Nat}, Q r → wd D (va_A (ww_X3_fault cI cC oT oT_characters oT_kinds oT_numbers T_length T_at T_orders) s.heap.size) s (ww_X3_fault cI cC oT oT_characters oT_kinds oT_numbers T_length T_at T_orders) H locs → decode cX3_fault pc = .ok (.ireturn, 1) → W p l e (headSpec wsX3_fault rm_X3_fault).room s m ([.ref oT] : List Value).toArray below meth c H locs 0 0 (MQ below (QiW D (fun (r : Int32) (u : Unit) => Q r ) (fun u => (ww_X3_fault cI cC oT oT_characters oT_kinds oT_numbers T_length T_at T_orders)) (ww_X3_fault cI cC oT oT_characters oT_kinds oT_numbers T_length T_at T_orders) s.heap.size) ([.ref oT] : List Value).toArray s 0 0 (va_A (ww_X3_fault cI cC oT oT_characters oT_kinds oT_numbers T_length T_at T_orders) s.heap.size)) (F0 m pc ls [.int r]) := by
    intro r H locs ls pc hq hw9 hd9
    exact W.iret (v := r) hx hb hr (fun t ht hW => ⟨⟨r, (), rfl, hq, by rw [ht]; exact hw9.1, hw9.2.1⟩, hw9.2.2.F ht⟩) hw9.2.2.2.2 hd9
  unfold wp_X3_fault at hw
  refine lv_aload_n hx hb dX3_fault_0 rfl (lv_at hl 0 rfl) ?_
  refine va_get (D := D) (ci := 3) (v := .int T_at) (C := RX3) (T := TX3) (N := 6) hx hb hts ic_X3_fault_X3 hown hKw.1 hwd.1 0 rfl rfl 2 (by decide) (hts (.fieldLink RX3 33 "DrillWardens$OrderText" "at" "I") (List.mem_of_getElem? (i := 1) rfl)) (fun _ h9 => h9) rfl dX3_fault_1 ?_
  exact HR T_at hw hwd dX3_fault_4
abbrev rm_X3_lowestOf : Room := { frames := 0, cells := 0, slots := 0, locals := 0 }
def wb_X3_lowestOf_15 (x0 : Int32) (Q : Int32 → Prop) (st0 : Int32) : Prop := ((¬ st0 = 0 → Q (nI 1)) ∧ (st0 = 0 → ((¬ x0 = (nI 4) → Q (nI 0)) ∧ (x0 = (nI 4) → Q (nI 1)))))
set_option maxRecDepth 100000 in
set_option maxHeartbeats 4000000 in
theorem blk_X3_lowestOf_15 {p : Program} {l : Launch} {e : Env} {s : State} {m : MethodId} {args : Array Value} {below : List Frame} {meth : Method} {c : Code} {D : va_G} {cI cC cR : ClassId} {A : Nat → Prop} {Z : State → Prop} (CX : cx cX3_lowestOf (some .int) 3 RX3 wsX3_lowestOf p m meth c s args D cI cC cR A) (x0 : Int32) {Q : Int32 → Prop} (HR : ∀ (r : Int32) {H : Heap} {locs : List Loc} {ls : Array Slot} {pc : Nat}, Q r → wd D A s [] H locs → decode cX3_lowestOf pc = .ok (.ireturn, 1) → W p l e (headSpec wsX3_lowestOf rm_X3_lowestOf).room s m args below meth c H locs 0 0 Z (F0 m pc ls [.int r])) : ∀ (st0 : Int32), wb_X3_lowestOf_15 x0 Q st0 → ∀ (H : Heap) (locs : List Loc) (ls : Array Slot), wd D A s [] H locs → lv_has ls 3 [(0, .int x0)] → W p l e (headSpec wsX3_lowestOf rm_X3_lowestOf).room s m args below meth c H locs 0 0 Z (F0 m 15 ls [.int st0]) := by
  obtain ⟨hx, hb, hr, hml, hts, hown, hlocks, hKw, hA⟩ := id CX
  intro st0 hw H locs ls hwd hl
  unfold wb_X3_lowestOf_15 at hw
  refine lv_istore_n (lv' := [(2, .int st0), (0, .int x0)]) hx hb dX3_lowestOf_15 rfl hl (by decide) rfl (fun ls hl => ?_)
  refine lv_iload_n hx hb dX3_lowestOf_16 rfl (lv_at hl 0 rfl) ?_
  refine lv_if_ne (tgt := 25) hx hb dX3_lowestOf_17 (by decide) (fun c1 => ?_) (fun c1 => ?_)
  · replace hw := hw.1 c1
    refine lv_iconst (v := (nI 1)) hx hb dX3_lowestOf_25 rfl ?_
    refine lv_goto (tgt := 30) hx hb dX3_lowestOf_26 (by decide) ?_
    exact HR (nI 1) hw hwd dX3_lowestOf_30
  · replace hw := hw.2 c1
    refine lv_iload_n hx hb dX3_lowestOf_20 rfl (lv_at hl 1 rfl) ?_
    refine lv_iconst (v := (nI 4)) hx hb dX3_lowestOf_21 rfl ?_
    refine lv_icmp_ne (tgt := 29) hx hb dX3_lowestOf_22 (by decide) (fun c2 => ?_) (fun c2 => ?_)
    · replace hw := hw.1 c2
      refine lv_iconst (v := (nI 0)) hx hb dX3_lowestOf_29 rfl ?_
      exact HR (nI 0) hw hwd dX3_lowestOf_30
    · replace hw := hw.2 c2
      refine lv_iconst (v := (nI 1)) hx hb dX3_lowestOf_25 rfl ?_
      refine lv_goto (tgt := 30) hx hb dX3_lowestOf_26 (by decide) ?_
      exact HR (nI 1) hw hwd dX3_lowestOf_30
def wp_X3_lowestOf  (x0 : Int32) (x1 : Int32) (Q : Int32 → Prop) : Prop := ((¬ x0 = (nI 3) → wb_X3_lowestOf_15 x0 Q (nI 0)) ∧ (x0 = (nI 3) → ((¬ x1 = (nI 1) → wb_X3_lowestOf_15 x0 Q (nI 0)) ∧ (x1 = (nI 1) → wb_X3_lowestOf_15 x0 Q (nI 1)))))
set_option maxRecDepth 100000 in
set_option maxHeartbeats 4000000 in
theorem c_X3_lowestOf (l : Launch) {D : va_G} {cI cC cR : ClassId} (sz : Nat) (x0 : Int32) (x1 : Int32) {Q : Int32 → Prop} (hw : wp_X3_lowestOf x0 x1 Q) : Met l yX3_lowestOf wsX3_lowestOf rm_X3_lowestOf (PcW D cI cC cR [.int x0, .int x1] [] sz) (QiW D (fun (r : Int32) (u : Unit) => Q r ) (fun _ => []) [] sz) 0 0 (va_A [] sz) := by
  refine Met.ofW (cc := cX3_lowestOf) (maxL := 3) (ret := (some .int)) (by decide) rfl ?_
  intro p e s m args below meth c s₁ B hml hv
  obtain ⟨rfl, hsz, hP, hKw, hD0⟩ := hv
  have hlocks := B.notSynchronized
  subst hsz
  have hD := hD0.self (sz := s.heap.size)
  have CX : cx cX3_lowestOf (some .int) 3 RX3 wsX3_lowestOf p m meth c s ([.int x0, .int x1] : List Value).toArray D cI cC cR (va_A [] s.heap.size) := ⟨B.exec, B.bytes, B.returns, hml, atoms_spec (ws := wsX3_lowestOf) B.pre, findClass_of_methodNamed B.named, hlocks, hKw, fun q h => Or.inr h⟩
  obtain ⟨hx, hb, hr, -, hts, hown, -, -, hA⟩ := id CX
  have hwd : wd D (va_A [] s.heap.size) s [] s.heap [] := ⟨hP, hD, va_S.rf⟩
  have hl := lv_entry ([.int x0, .int x1]) (n := 3) (Nat.le_of_ble_eq_true rfl)
  rw [lg_entry_eq]
  generalize (lg_sl ([.int x0, .int x1]) ++ List.replicate (3 - (lg_sl ([.int x0, .int x1])).length) Slot.unset).toArray = ls at hl ⊢
  have hl : lv_has ls 3 [(0, .int x0), (1, .int x1)] := hl
  have HR : ∀ (r : Int32) {H : Heap} {locs : List Loc} {ls : Array Slot} {pc : Nat}, Q r → wd D (va_A [] s.heap.size) s [] H locs → decode cX3_lowestOf pc = .ok (.ireturn, 1) → W p l e (headSpec wsX3_lowestOf rm_X3_lowestOf).room s m ([.int x0, .int x1] : List Value).toArray below meth c H locs 0 0 (MQ below (QiW D (fun (r : Int32) (u : Unit) => Q r ) (fun _ => []) [] s.heap.size) ([.int x0, .int x1] : List Value).toArray s 0 0 (va_A [] s.heap.size)) (F0 m pc ls [.int r]) := by
    intro r H locs ls pc hq hw9 hd9
    exact W.iret (v := r) hx hb hr (fun t ht hW => ⟨⟨r, (), rfl, hq, by rw [ht]; exact hw9.1, hw9.2.1⟩, hw9.2.2.F ht⟩) hw9.2.2.2.2 hd9
  unfold wp_X3_lowestOf at hw
  refine lv_iload_n hx hb dX3_lowestOf_0 rfl (lv_at hl 0 rfl) ?_
  refine lv_iconst (v := (nI 3)) hx hb dX3_lowestOf_1 rfl ?_
  refine lv_icmp_ne (tgt := 14) hx hb dX3_lowestOf_2 (by decide) (fun c1 => ?_) (fun c1 => ?_)
  · replace hw := hw.1 c1
    refine lv_iconst (v := (nI 0)) hx hb dX3_lowestOf_14 rfl ?_
    refine blk_X3_lowestOf_15 (CX := CX) (x0 := x0) (HR := HR) (nI 0) hw _ _ _ hwd (lv_sub hl [0] rfl)
  · replace hw := hw.2 c1
    refine lv_iload_n hx hb dX3_lowestOf_5 rfl (lv_at hl 1 rfl) ?_
    refine lv_iconst (v := (nI 1)) hx hb dX3_lowestOf_6 rfl ?_
    refine lv_icmp_ne (tgt := 14) hx hb dX3_lowestOf_7 (by decide) (fun c2 => ?_) (fun c2 => ?_)
    · replace hw := hw.1 c2
      refine lv_iconst (v := (nI 0)) hx hb dX3_lowestOf_14 rfl ?_
      refine blk_X3_lowestOf_15 (CX := CX) (x0 := x0) (HR := HR) (nI 0) hw _ _ _ hwd (lv_sub hl [0] rfl)
    · replace hw := hw.2 c2
      refine lv_iconst (v := (nI 1)) hx hb dX3_lowestOf_10 rfl ?_
      refine lv_goto (tgt := 15) hx hb dX3_lowestOf_11 (by decide) ?_
      refine blk_X3_lowestOf_15 (CX := CX) (x0 := x0) (HR := HR) (nI 1) hw _ _ _ hwd (lv_sub hl [0] rfl)
abbrev rm_X3_pick : Room := { frames := 0, cells := 0, slots := 0, locals := 0 }
def wp_X3_pick  (x0 : Int32) (x1 : Int32) (x2 : Int32) (x3 : Int32) (Q : Int32 → Prop) : Prop := ((¬ x0 = 0 → ((¬ x0 = (nI 1) → Q x3) ∧ (x0 = (nI 1) → Q x2))) ∧ (x0 = 0 → Q x1))
set_option maxRecDepth 100000 in
set_option maxHeartbeats 4000000 in
theorem c_X3_pick (l : Launch) {D : va_G} {cI cC cR : ClassId} (sz : Nat) (x0 : Int32) (x1 : Int32) (x2 : Int32) (x3 : Int32) {Q : Int32 → Prop} (hw : wp_X3_pick x0 x1 x2 x3 Q) : Met l yX3_pick wsX3_pick rm_X3_pick (PcW D cI cC cR [.int x0, .int x1, .int x2, .int x3] [] sz) (QiW D (fun (r : Int32) (u : Unit) => Q r ) (fun _ => []) [] sz) 0 0 (va_A [] sz) := by
  refine Met.ofW (cc := cX3_pick) (maxL := 4) (ret := (some .int)) (by decide) rfl ?_
  intro p e s m args below meth c s₁ B hml hv
  obtain ⟨rfl, hsz, hP, hKw, hD0⟩ := hv
  have hlocks := B.notSynchronized
  subst hsz
  have hD := hD0.self (sz := s.heap.size)
  have CX : cx cX3_pick (some .int) 4 RX3 wsX3_pick p m meth c s ([.int x0, .int x1, .int x2, .int x3] : List Value).toArray D cI cC cR (va_A [] s.heap.size) := ⟨B.exec, B.bytes, B.returns, hml, atoms_spec (ws := wsX3_pick) B.pre, findClass_of_methodNamed B.named, hlocks, hKw, fun q h => Or.inr h⟩
  obtain ⟨hx, hb, hr, -, hts, hown, -, -, hA⟩ := id CX
  have hwd : wd D (va_A [] s.heap.size) s [] s.heap [] := ⟨hP, hD, va_S.rf⟩
  have hl := lv_entry ([.int x0, .int x1, .int x2, .int x3]) (n := 4) (Nat.le_of_ble_eq_true rfl)
  rw [lg_entry_eq]
  generalize (lg_sl ([.int x0, .int x1, .int x2, .int x3]) ++ List.replicate (4 - (lg_sl ([.int x0, .int x1, .int x2, .int x3])).length) Slot.unset).toArray = ls at hl ⊢
  have hl : lv_has ls 4 [(0, .int x0), (1, .int x1), (2, .int x2), (3, .int x3)] := hl
  have HR : ∀ (r : Int32) {H : Heap} {locs : List Loc} {ls : Array Slot} {pc : Nat}, Q r → wd D (va_A [] s.heap.size) s [] H locs → decode cX3_pick pc = .ok (.ireturn, 1) → W p l e (headSpec wsX3_pick rm_X3_pick).room s m ([.int x0, .int x1, .int x2, .int x3] : List Value).toArray below meth c H locs 0 0 (MQ below (QiW D (fun (r : Int32) (u : Unit) => Q r ) (fun _ => []) [] s.heap.size) ([.int x0, .int x1, .int x2, .int x3] : List Value).toArray s 0 0 (va_A [] s.heap.size)) (F0 m pc ls [.int r]) := by
    intro r H locs ls pc hq hw9 hd9
    exact W.iret (v := r) hx hb hr (fun t ht hW => ⟨⟨r, (), rfl, hq, by rw [ht]; exact hw9.1, hw9.2.1⟩, hw9.2.2.F ht⟩) hw9.2.2.2.2 hd9
  unfold wp_X3_pick at hw
  refine lv_iload_n hx hb dX3_pick_0 rfl (lv_at hl 0 rfl) ?_
  refine lv_if_ne (tgt := 6) hx hb dX3_pick_1 (by decide) (fun c1 => ?_) (fun c1 => ?_)
  · replace hw := hw.1 c1
    refine lv_iload_n hx hb dX3_pick_6 rfl (lv_at hl 0 rfl) ?_
    refine lv_iconst (v := (nI 1)) hx hb dX3_pick_7 rfl ?_
    refine lv_icmp_ne (tgt := 15) hx hb dX3_pick_8 (by decide) (fun c2 => ?_) (fun c2 => ?_)
    · replace hw := hw.1 c2
      refine lv_iload_n hx hb dX3_pick_15 rfl (lv_at hl 3 rfl) ?_
      exact HR x3 hw hwd dX3_pick_16
    · replace hw := hw.2 c2
      refine lv_iload_n hx hb dX3_pick_11 rfl (lv_at hl 2 rfl) ?_
      refine lv_goto (tgt := 16) hx hb dX3_pick_12 (by decide) ?_
      exact HR x2 hw hwd dX3_pick_16
  · replace hw := hw.2 c1
    refine lv_iload_n hx hb dX3_pick_4 rfl (lv_at hl 1 rfl) ?_
    exact HR x1 hw hwd dX3_pick_5
abbrev ww_X3_append (cI cC : ClassId) (oT oT_characters oT_kinds oT_numbers : Nat) (T_length : Int32) (T_at : Int32) (T_orders : Int32) (T_characters : Nat → Int32) : va_W := [(oT, .inr (3, [.ref oT_characters, .int T_length, .int T_at, .int T_orders, .ref oT_kinds, .ref oT_numbers])), (oT_characters, .inl (cC, 80, .inl T_characters))]
abbrev rm_X3_append : Room := { frames := 1, cells := 0, slots := 0, locals := 22 }
theorem ic_X3_append_X3 : ∀ w ∈ u_ws RX3 TX3 6, w ∈ wsX3_append := by
  intro w h
  simp only [wsX3_append, List.mem_cons, List.mem_append]
  simp only [h, or_true, true_or]
def wp_X3_append (T_length : Int32) (T_characters : Nat → Int32) (x1 : Int32) (Q : Int32 → Int32 → (Nat → Int32) → Prop) : Prop := wp_X6_isWithin T_length (nI 0) (nI 79) (fun r1 => ((¬ r1 = 0 → vp_in T_length 80 ∧ ∀ T_characters3, T_characters3 = upd T_characters T_length.toNatClampNeg (vp_nar .char x1) → ∀ T_length4, T_length4 = T_length + (nI 1) → Q T_length4 T_length4 T_characters3) ∧ (r1 = 0 → Q (-3) T_length T_characters)))
set_option maxRecDepth 100000 in
set_option maxHeartbeats 4000000 in
theorem c_X3_append (l : Launch) {D : va_G} {cI cC cR : ClassId} (oT oT_characters oT_kinds oT_numbers : Nat) (sz : Nat) (T_length : Int32) (T_at : Int32) (T_orders : Int32) (T_characters : Nat → Int32) (x1 : Int32) {Q : Int32 → Int32 → (Nat → Int32) → Prop} (hw : wp_X3_append T_length T_characters x1 Q) : Met l yX3_append wsX3_append rm_X3_append (PcW D cI cC cR [.ref oT, .int x1] (ww_X3_append cI cC oT oT_characters oT_kinds oT_numbers T_length T_at T_orders T_characters) sz) (QiW D (fun (r : Int32) (u : Int32 × (Nat → Int32)) => Q r u.1 u.2) (fun u => (ww_X3_append cI cC oT oT_characters oT_kinds oT_numbers (u.1) T_at T_orders (u.2))) (ww_X3_append cI cC oT oT_characters oT_kinds oT_numbers T_length T_at T_orders T_characters) sz) 0 0 (va_A (ww_X3_append cI cC oT oT_characters oT_kinds oT_numbers T_length T_at T_orders T_characters) sz) := by
  refine Met.ofW (cc := cX3_append) (maxL := 2) (ret := (some .int)) (by decide) rfl ?_
  intro p e s m args below meth c s₁ B hml hv
  obtain ⟨rfl, hsz, hP, hKw, hD0⟩ := hv
  have hlocks := B.notSynchronized
  subst hsz
  have hD := hD0.self (sz := s.heap.size)
  have CX : cx cX3_append (some .int) 2 RX3 wsX3_append p m meth c s ([.ref oT, .int x1] : List Value).toArray D cI cC cR (va_A (ww_X3_append cI cC oT oT_characters oT_kinds oT_numbers T_length T_at T_orders T_characters) s.heap.size) := ⟨B.exec, B.bytes, B.returns, hml, atoms_spec (ws := wsX3_append) B.pre, findClass_of_methodNamed B.named, hlocks, hKw, fun q h => Or.inr h⟩
  obtain ⟨hx, hb, hr, -, hts, hown, -, -, hA⟩ := id CX
  have hwd : wd D (va_A (ww_X3_append cI cC oT oT_characters oT_kinds oT_numbers T_length T_at T_orders T_characters) s.heap.size) s (ww_X3_append cI cC oT oT_characters oT_kinds oT_numbers T_length T_at T_orders T_characters) s.heap [] := ⟨hP, hD, va_S.rf⟩
  have hl := lv_entry ([.ref oT, .int x1]) (n := 2) (Nat.le_of_ble_eq_true rfl)
  rw [lg_entry_eq]
  generalize (lg_sl ([.ref oT, .int x1]) ++ List.replicate (2 - (lg_sl ([.ref oT, .int x1])).length) Slot.unset).toArray = ls at hl ⊢
  have hl : lv_has ls 2 [(0, .ref oT), (1, .int x1)] := hl
  have HR : ∀ (r : Int32) (u0 : Int32) (u1 : Nat → Int32) {H : Heap} {locs : List Loc} {ls : Array Slot} {pc : Nat}, Q r u0 u1 → wd D (va_A (ww_X3_append cI cC oT oT_characters oT_kinds oT_numbers T_length T_at T_orders T_characters) s.heap.size) s (ww_X3_append cI cC oT oT_characters oT_kinds oT_numbers u0 T_at T_orders u1) H locs → decode cX3_append pc = .ok (.ireturn, 1) → W p l e (headSpec wsX3_append rm_X3_append).room s m ([.ref oT, .int x1] : List Value).toArray below meth c H locs 0 0 (MQ below (QiW D (fun (r : Int32) (u : Int32 × (Nat → Int32)) => Q r u.1 u.2) (fun u => (ww_X3_append cI cC oT oT_characters oT_kinds oT_numbers (u.1) T_at T_orders (u.2))) (ww_X3_append cI cC oT oT_characters oT_kinds oT_numbers T_length T_at T_orders T_characters) s.heap.size) ([.ref oT, .int x1] : List Value).toArray s 0 0 (va_A (ww_X3_append cI cC oT oT_characters oT_kinds oT_numbers T_length T_at T_orders T_characters) s.heap.size)) (F0 m pc ls [.int r]) := by
    intro r u0 u1 H locs ls pc hq hw9 hd9
    exact W.iret (v := r) hx hb hr (fun t ht hW => ⟨⟨r, (u0, u1), rfl, hq, by rw [ht]; exact hw9.1, hw9.2.1⟩, hw9.2.2.F ht⟩) hw9.2.2.2.2 hd9
  unfold wp_X3_append at hw
  refine lv_aload_n hx hb dX3_append_0 rfl (lv_at hl 0 rfl) ?_
  refine va_get (D := D) (ci := 3) (v := .int T_length) (C := RX3) (T := TX3) (N := 6) hx hb hts ic_X3_append_X3 hown hKw.1 hwd.1 0 rfl rfl 1 (by decide) (hts (.fieldLink RX3 22 "DrillWardens$OrderText" "length" "I") (List.mem_of_getElem? (i := 1) rfl)) (fun _ h9 => h9) rfl dX3_append_1 ?_
  refine lv_iconst (v := (nI 0)) hx hb dX3_append_4 rfl ?_
  refine lv_bipush (v := (nI 79)) hx hb dX3_append_5 rfl ?_
  refine kcNi (rest := []) (As := [.int T_length, .int (nI 0), .int (nI 79)]) ⟨Nat.le_of_ble_eq_true rfl, Nat.le_of_ble_eq_true rfl⟩ ⟨hx, hb, hml, hown, hts⟩ (c_X6_isWithin l s.heap.size T_length (nI 0) (nI 79) hw) ⟨va_cnB 3 hts gX3_append_X6_isWithin_n26 rfl rfl rfl (nwm_11 hKw.2) (hts (.initialized RX6) (List.mem_of_getElem? (i := 4) rfl)) hd_X6_isWithin ⟨Nat.le_of_ble_eq_true rfl, Nat.le_of_ble_eq_true rfl⟩, hts (.static yX6_isWithin) (List.mem_of_getElem? (i := 3) rfl), trivial⟩ hKw hA hwd rfl hl.1 rfl (lv_room (Nat.le_of_ble_eq_true rfl)) dX3_append_7 (fun r1 H locs hw hwd => ?_)
  try dsimp only at hw
  refine lv_if_ne (tgt := 16) hx hb dX3_append_10 (by decide) (fun c2 => ?_) (fun c2 => ?_)
  · replace hw := hw.1 c2
    refine lv_aload_n hx hb dX3_append_16 rfl (lv_at hl 0 rfl) ?_
    refine va_get (D := D) (ci := 3) (v := .ref oT_characters) (C := RX3) (T := TX3) (N := 6) hx hb hts ic_X3_append_X3 hown hKw.1 hwd.1 0 rfl rfl 0 (by decide) (hts (.fieldLink RX3 9 "DrillWardens$OrderText" "characters" "[C") (List.mem_of_getElem? (i := 2) rfl)) (fun _ h9 => h9) rfl dX3_append_17 ?_
    refine lv_aload_n hx hb dX3_append_20 rfl (lv_at hl 0 rfl) ?_
    refine va_get (D := D) (ci := 3) (v := .int T_length) (C := RX3) (T := TX3) (N := 6) hx hb hts ic_X3_append_X3 hown hKw.1 hwd.1 0 rfl rfl 1 (by decide) (hts (.fieldLink RX3 22 "DrillWardens$OrderText" "length" "I") (List.mem_of_getElem? (i := 1) rfl)) (fun _ h9 => h9) rfl dX3_append_21 ?_
    refine lv_iload_n hx hb dX3_append_24 rfl (lv_at hl 1 rfl) ?_
    obtain ⟨T_characters3, e_T_characters3⟩ : ∃ y : Nat → Int32, y = upd T_characters T_length.toNatClampNeg (vp_nar .char x1) := ⟨_, rfl⟩
    refine va_cast hx hb hKw.1 hwd.1 hwd.2.1 hwd.2.2 1 1 rfl rfl hw.1 dX3_append_25 (fun H locs h1 h2 h3 => ?_)
    replace hw := hw.2 T_characters3 e_T_characters3
    rw [← e_T_characters3] at h1 h2
    replace hwd : wd D (va_A (ww_X3_append cI cC oT oT_characters oT_kinds oT_numbers T_length T_at T_orders T_characters) s.heap.size) s (ww_X3_append cI cC oT oT_characters oT_kinds oT_numbers T_length T_at T_orders T_characters3) H locs := ⟨h1, h2, h3⟩
    clear h1 h2 h3
    refine lv_aload_n hx hb dX3_append_26 rfl (lv_at hl 0 rfl) ?_
    refine lv_dup hx hb dX3_append_27 rfl ?_
    refine va_get (D := D) (ci := 3) (v := .int T_length) (C := RX3) (T := TX3) (N := 6) hx hb hts ic_X3_append_X3 hown hKw.1 hwd.1 0 rfl rfl 1 (by decide) (hts (.fieldLink RX3 22 "DrillWardens$OrderText" "length" "I") (List.mem_of_getElem? (i := 1) rfl)) (fun _ h9 => h9) rfl dX3_append_28 ?_
    refine lv_iconst (v := (nI 1)) hx hb dX3_append_31 rfl ?_
    refine lv_iadd hx hb dX3_append_32 ?_
    refine lv_topi (fun T_length4 e_T_length4 => ?_)
    replace hw := hw T_length4 e_T_length4
    refine va_put (D := D) (ci := 3) (v := .int T_length4) (ty := .int) (C := RX3) (T := TX3) (N := 6) hx hb hts ic_X3_append_X3 tyX3 tyX3_ok nmX3 hown hKw.1 hwd.1 hwd.2.1 hwd.2.2 0 rfl rfl 1 (by decide) (hts (.fieldLink RX3 22 "DrillWardens$OrderText" "length" "I") (List.mem_of_getElem? (i := 1) rfl)) (fun _ h9 => h9) rfl (tyX3_ok 1 (by decide)) rfl rfl (Nat.le_of_ble_eq_true rfl) dX3_append_33 (fun H locs h1 h2 h3 => ?_)
    replace hwd : wd D (va_A (ww_X3_append cI cC oT oT_characters oT_kinds oT_numbers T_length T_at T_orders T_characters) s.heap.size) s (ww_X3_append cI cC oT oT_characters oT_kinds oT_numbers T_length4 T_at T_orders T_characters3) H locs := ⟨h1, h2, h3⟩
    clear h1 h2 h3
    refine lv_aload_n hx hb dX3_append_36 rfl (lv_at hl 0 rfl) ?_
    refine va_get (D := D) (ci := 3) (v := .int T_length4) (C := RX3) (T := TX3) (N := 6) hx hb hts ic_X3_append_X3 hown hKw.1 hwd.1 0 rfl rfl 1 (by decide) (hts (.fieldLink RX3 22 "DrillWardens$OrderText" "length" "I") (List.mem_of_getElem? (i := 1) rfl)) (fun _ h9 => h9) rfl dX3_append_37 ?_
    exact HR T_length4 T_length4 T_characters3 hw hwd dX3_append_40
  · replace hw := hw.2 c2
    refine lv_bipush (v := (-3)) hx hb dX3_append_13 rfl ?_
    exact HR (-3) T_length T_characters hw hwd dX3_append_15
abbrev ww_X3_kind (cI cC : ClassId) (oT oT_characters oT_kinds oT_numbers : Nat) (T_length : Int32) (T_at : Int32) (T_orders : Int32) (T_kinds : Nat → Int32) : va_W := [(oT, .inr (3, [.ref oT_characters, .int T_length, .int T_at, .int T_orders, .ref oT_kinds, .ref oT_numbers])), (oT_kinds, .inl (cI, 12, .inl T_kinds))]
abbrev rm_X3_kind : Room := { frames := 1, cells := 0, slots := 0, locals := 22 }
theorem ic_X3_kind_X3 : ∀ w ∈ u_ws RX3 TX3 6, w ∈ wsX3_kind := by
  intro w h
  simp only [wsX3_kind, List.mem_cons, List.mem_append]
  simp only [h, or_true, true_or]
def wp_X3_kind (T_kinds : Nat → Int32) (x1 : Int32) (Q : Int32 → Prop) : Prop := wp_X6_isWithin x1 (nI 0) (nI 11) (fun r1 => ((r1 = 0 → Q (-5)) ∧ (¬ r1 = 0 → vp_in x1 12 ∧ Q (T_kinds x1.toNatClampNeg))))
set_option maxRecDepth 100000 in
set_option maxHeartbeats 4000000 in
theorem c_X3_kind (l : Launch) {D : va_G} {cI cC cR : ClassId} (oT oT_characters oT_kinds oT_numbers : Nat) (sz : Nat) (T_length : Int32) (T_at : Int32) (T_orders : Int32) (T_kinds : Nat → Int32) (x1 : Int32) {Q : Int32 → Prop} (hw : wp_X3_kind T_kinds x1 Q) : Met l yX3_kind wsX3_kind rm_X3_kind (PcW D cI cC cR [.ref oT, .int x1] (ww_X3_kind cI cC oT oT_characters oT_kinds oT_numbers T_length T_at T_orders T_kinds) sz) (QiW D (fun (r : Int32) (u : Unit) => Q r ) (fun u => (ww_X3_kind cI cC oT oT_characters oT_kinds oT_numbers T_length T_at T_orders T_kinds)) (ww_X3_kind cI cC oT oT_characters oT_kinds oT_numbers T_length T_at T_orders T_kinds) sz) 0 0 (va_A (ww_X3_kind cI cC oT oT_characters oT_kinds oT_numbers T_length T_at T_orders T_kinds) sz) := by
  refine Met.ofW (cc := cX3_kind) (maxL := 2) (ret := (some .int)) (by decide) rfl ?_
  intro p e s m args below meth c s₁ B hml hv
  obtain ⟨rfl, hsz, hP, hKw, hD0⟩ := hv
  have hlocks := B.notSynchronized
  subst hsz
  have hD := hD0.self (sz := s.heap.size)
  have CX : cx cX3_kind (some .int) 2 RX3 wsX3_kind p m meth c s ([.ref oT, .int x1] : List Value).toArray D cI cC cR (va_A (ww_X3_kind cI cC oT oT_characters oT_kinds oT_numbers T_length T_at T_orders T_kinds) s.heap.size) := ⟨B.exec, B.bytes, B.returns, hml, atoms_spec (ws := wsX3_kind) B.pre, findClass_of_methodNamed B.named, hlocks, hKw, fun q h => Or.inr h⟩
  obtain ⟨hx, hb, hr, -, hts, hown, -, -, hA⟩ := id CX
  have hwd : wd D (va_A (ww_X3_kind cI cC oT oT_characters oT_kinds oT_numbers T_length T_at T_orders T_kinds) s.heap.size) s (ww_X3_kind cI cC oT oT_characters oT_kinds oT_numbers T_length T_at T_orders T_kinds) s.heap [] := ⟨hP, hD, va_S.rf⟩
  have hl := lv_entry ([.ref oT, .int x1]) (n := 2) (Nat.le_of_ble_eq_true rfl)
  rw [lg_entry_eq]
  generalize (lg_sl ([.ref oT, .int x1]) ++ List.replicate (2 - (lg_sl ([.ref oT, .int x1])).length) Slot.unset).toArray = ls at hl ⊢
  have hl : lv_has ls 2 [(0, .ref oT), (1, .int x1)] := hl
  have HR : ∀ (r : Int32) {H : Heap} {locs : List Loc} {ls : Array Slot} {pc : Nat}, Q r → wd D (va_A (ww_X3_kind cI cC oT oT_characters oT_kinds oT_numbers T_length T_at T_orders T_kinds) s.heap.size) s (ww_X3_kind cI cC oT oT_characters oT_kinds oT_numbers T_length T_at T_orders T_kinds) H locs → decode cX3_kind pc = .ok (.ireturn, 1) → W p l e (headSpec wsX3_kind rm_X3_kind).room s m ([.ref oT, .int x1] : List Value).toArray below meth c H locs 0 0 (MQ below (QiW D (fun (r : Int32) (u : Unit) => Q r ) (fun u => (ww_X3_kind cI cC oT oT_characters oT_kinds oT_numbers T_length T_at T_orders T_kinds)) (ww_X3_kind cI cC oT oT_characters oT_kinds oT_numbers T_length T_at T_orders T_kinds) s.heap.size) ([.ref oT, .int x1] : List Value).toArray s 0 0 (va_A (ww_X3_kind cI cC oT oT_characters oT_kinds oT_numbers T_length T_at T_orders T_kinds) s.heap.size)) (F0 m pc ls [.int r]) := by
    intro r H locs ls pc hq hw9 hd9
    exact W.iret (v := r) hx hb hr (fun t ht hW => ⟨⟨r, (), rfl, hq, by rw [ht]; exact hw9.1, hw9.2.1⟩, hw9.2.2.F ht⟩) hw9.2.2.2.2 hd9
  unfold wp_X3_kind at hw
  refine lv_iload_n hx hb dX3_kind_0 rfl (lv_at hl 1 rfl) ?_
  refine lv_iconst (v := (nI 0)) hx hb dX3_kind_1 rfl ?_
  refine lv_bipush (v := (nI 11)) hx hb dX3_kind_2 rfl ?_
  refine kcNi (rest := []) (As := [.int x1, .int (nI 0), .int (nI 11)]) ⟨Nat.le_of_ble_eq_true rfl, Nat.le_of_ble_eq_true rfl⟩ ⟨hx, hb, hml, hown, hts⟩ (c_X6_isWithin l s.heap.size x1 (nI 0) (nI 11) hw) ⟨va_cnB 3 hts gX3_kind_X6_isWithin_n26 rfl rfl rfl (nwm_11 hKw.2) (hts (.initialized RX6) (List.mem_of_getElem? (i := 3) rfl)) hd_X6_isWithin ⟨Nat.le_of_ble_eq_true rfl, Nat.le_of_ble_eq_true rfl⟩, hts (.static yX6_isWithin) (List.mem_of_getElem? (i := 2) rfl), trivial⟩ hKw hA hwd rfl hl.1 rfl (lv_room (Nat.le_of_ble_eq_true rfl)) dX3_kind_4 (fun r1 H locs hw hwd => ?_)
  try dsimp only at hw
  refine lv_if_eq (tgt := 19) hx hb dX3_kind_7 (by decide) (fun c2 => ?_) (fun c2 => ?_)
  · replace hw := hw.1 c2
    refine lv_bipush (v := (-5)) hx hb dX3_kind_19 rfl ?_
    exact HR (-5) hw hwd dX3_kind_21
  · replace hw := hw.2 c2
    refine lv_aload_n hx hb dX3_kind_10 rfl (lv_at hl 0 rfl) ?_
    refine va_get (D := D) (ci := 3) (v := .ref oT_kinds) (C := RX3) (T := TX3) (N := 6) hx hb hts ic_X3_kind_X3 hown hKw.1 hwd.1 0 rfl rfl 4 (by decide) (hts (.fieldLink RX3 15 "DrillWardens$OrderText" "kinds" "[I") (List.mem_of_getElem? (i := 1) rfl)) (fun _ h9 => h9) rfl dX3_kind_11 ?_
    refine lv_iload_n hx hb dX3_kind_14 rfl (lv_at hl 1 rfl) ?_
    refine va_iald hx hb hKw.1 hwd.1 1 0 rfl rfl hw.1 dX3_kind_15 ?_
    replace hw := hw.2
    refine lv_goto (tgt := 21) hx hb dX3_kind_16 (by decide) ?_
    exact HR (T_kinds x1.toNatClampNeg) hw hwd dX3_kind_21
abbrev ww_X3_number (cI cC : ClassId) (oT oT_characters oT_kinds oT_numbers : Nat) (T_length : Int32) (T_at : Int32) (T_orders : Int32) (T_numbers : Nat → Int32) : va_W := [(oT, .inr (3, [.ref oT_characters, .int T_length, .int T_at, .int T_orders, .ref oT_kinds, .ref oT_numbers])), (oT_numbers, .inl (cI, 36, .inl T_numbers))]
abbrev rm_X3_number : Room := { frames := 1, cells := 0, slots := 0, locals := 22 }
theorem ic_X3_number_X3 : ∀ w ∈ u_ws RX3 TX3 6, w ∈ wsX3_number := by
  intro w h
  simp only [wsX3_number, List.mem_cons, List.mem_append]
  simp only [h, or_true, true_or]
def wp_X3_number (T_numbers : Nat → Int32) (x1 : Int32) (x2 : Int32) (Q : Int32 → Prop) : Prop := wp_X6_isWithin x1 (nI 0) (nI 11) (fun r1 => ((r1 = 0 → Q (-5)) ∧ (¬ r1 = 0 → wp_X6_isWithin x2 (nI 0) (nI 2) (fun r3 => ((¬ r3 = 0 → vp_in ((x1 * (nI 3)) + x2) 36 ∧ Q (T_numbers ((x1 * (nI 3)) + x2).toNatClampNeg)) ∧ (r3 = 0 → Q (-5)))))))
set_option maxRecDepth 100000 in
set_option maxHeartbeats 4000000 in
theorem c_X3_number (l : Launch) {D : va_G} {cI cC cR : ClassId} (oT oT_characters oT_kinds oT_numbers : Nat) (sz : Nat) (T_length : Int32) (T_at : Int32) (T_orders : Int32) (T_numbers : Nat → Int32) (x1 : Int32) (x2 : Int32) {Q : Int32 → Prop} (hw : wp_X3_number T_numbers x1 x2 Q) : Met l yX3_number wsX3_number rm_X3_number (PcW D cI cC cR [.ref oT, .int x1, .int x2] (ww_X3_number cI cC oT oT_characters oT_kinds oT_numbers T_length T_at T_orders T_numbers) sz) (QiW D (fun (r : Int32) (u : Unit) => Q r ) (fun u => (ww_X3_number cI cC oT oT_characters oT_kinds oT_numbers T_length T_at T_orders T_numbers)) (ww_X3_number cI cC oT oT_characters oT_kinds oT_numbers T_length T_at T_orders T_numbers) sz) 0 0 (va_A (ww_X3_number cI cC oT oT_characters oT_kinds oT_numbers T_length T_at T_orders T_numbers) sz) := by
  refine Met.ofW (cc := cX3_number) (maxL := 3) (ret := (some .int)) (by decide) rfl ?_
  intro p e s m args below meth c s₁ B hml hv
  obtain ⟨rfl, hsz, hP, hKw, hD0⟩ := hv
  have hlocks := B.notSynchronized
  subst hsz
  have hD := hD0.self (sz := s.heap.size)
  have CX : cx cX3_number (some .int) 3 RX3 wsX3_number p m meth c s ([.ref oT, .int x1, .int x2] : List Value).toArray D cI cC cR (va_A (ww_X3_number cI cC oT oT_characters oT_kinds oT_numbers T_length T_at T_orders T_numbers) s.heap.size) := ⟨B.exec, B.bytes, B.returns, hml, atoms_spec (ws := wsX3_number) B.pre, findClass_of_methodNamed B.named, hlocks, hKw, fun q h => Or.inr h⟩
  obtain ⟨hx, hb, hr, -, hts, hown, -, -, hA⟩ := id CX
  have hwd : wd D (va_A (ww_X3_number cI cC oT oT_characters oT_kinds oT_numbers T_length T_at T_orders T_numbers) s.heap.size) s (ww_X3_number cI cC oT oT_characters oT_kinds oT_numbers T_length T_at T_orders T_numbers) s.heap [] := ⟨hP, hD, va_S.rf⟩
  have hl := lv_entry ([.ref oT, .int x1, .int x2]) (n := 3) (Nat.le_of_ble_eq_true rfl)
  rw [lg_entry_eq]
  generalize (lg_sl ([.ref oT, .int x1, .int x2]) ++ List.replicate (3 - (lg_sl ([.ref oT, .int x1, .int x2])).length) Slot.unset).toArray = ls at hl ⊢
  have hl : lv_has ls 3 [(0, .ref oT), (1, .int x1), (2, .int x2)] := hl
  have HR : ∀ (r : Int32) {H : Heap} {locs : List Loc} {ls : Array Slot} {pc : Nat}, Q r → wd D (va_A (ww_X3_number cI cC oT oT_characters oT_kinds oT_numbers T_length T_at T_orders T_numbers) s.heap.size) s (ww_X3_number cI cC oT oT_characters oT_kinds oT_numbers T_length T_at T_orders T_numbers) H locs → decode cX3_number pc = .ok (.ireturn, 1) → W p l e (headSpec wsX3_number rm_X3_number).room s m ([.ref oT, .int x1, .int x2] : List Value).toArray below meth c H locs 0 0 (MQ below (QiW D (fun (r : Int32) (u : Unit) => Q r ) (fun u => (ww_X3_number cI cC oT oT_characters oT_kinds oT_numbers T_length T_at T_orders T_numbers)) (ww_X3_number cI cC oT oT_characters oT_kinds oT_numbers T_length T_at T_orders T_numbers) s.heap.size) ([.ref oT, .int x1, .int x2] : List Value).toArray s 0 0 (va_A (ww_X3_number cI cC oT oT_characters oT_kinds oT_numbers T_length T_at T_orders T_numbers) s.heap.size)) (F0 m pc ls [.int r]) := by
    intro r H locs ls pc hq hw9 hd9
    exact W.iret (v := r) hx hb hr (fun t ht hW => ⟨⟨r, (), rfl, hq, by rw [ht]; exact hw9.1, hw9.2.1⟩, hw9.2.2.F ht⟩) hw9.2.2.2.2 hd9
  unfold wp_X3_number at hw
  refine lv_iload_n hx hb dX3_number_0 rfl (lv_at hl 1 rfl) ?_
  refine lv_iconst (v := (nI 0)) hx hb dX3_number_1 rfl ?_
  refine lv_bipush (v := (nI 11)) hx hb dX3_number_2 rfl ?_
  refine kcNi (rest := []) (As := [.int x1, .int (nI 0), .int (nI 11)]) ⟨Nat.le_of_ble_eq_true rfl, Nat.le_of_ble_eq_true rfl⟩ ⟨hx, hb, hml, hown, hts⟩ (c_X6_isWithin l s.heap.size x1 (nI 0) (nI 11) hw) ⟨va_cnB 3 hts gX3_number_X6_isWithin_n26 rfl rfl rfl (nwm_11 hKw.2) (hts (.initialized RX6) (List.mem_of_getElem? (i := 3) rfl)) hd_X6_isWithin ⟨Nat.le_of_ble_eq_true rfl, Nat.le_of_ble_eq_true rfl⟩, hts (.static yX6_isWithin) (List.mem_of_getElem? (i := 2) rfl), trivial⟩ hKw hA hwd rfl hl.1 rfl (lv_room (Nat.le_of_ble_eq_true rfl)) dX3_number_4 (fun r1 H locs hw hwd => ?_)
  try dsimp only at hw
  refine lv_if_eq (tgt := 19) hx hb dX3_number_7 (by decide) (fun c2 => ?_) (fun c2 => ?_)
  · replace hw := hw.1 c2
    refine lv_bipush (v := (-5)) hx hb dX3_number_19 rfl ?_
    exact HR (-5) hw hwd dX3_number_21
  · replace hw := hw.2 c2
    refine lv_iload_n hx hb dX3_number_10 rfl (lv_at hl 2 rfl) ?_
    refine lv_iconst (v := (nI 0)) hx hb dX3_number_11 rfl ?_
    refine lv_iconst (v := (nI 2)) hx hb dX3_number_12 rfl ?_
    refine kcNi (rest := []) (As := [.int x2, .int (nI 0), .int (nI 2)]) ⟨Nat.le_of_ble_eq_true rfl, Nat.le_of_ble_eq_true rfl⟩ ⟨hx, hb, hml, hown, hts⟩ (c_X6_isWithin l H.size x2 (nI 0) (nI 2) hw) ⟨va_cnB 3 hts gX3_number_X6_isWithin_n26 rfl rfl rfl (nwm_11 hKw.2) (hts (.initialized RX6) (List.mem_of_getElem? (i := 3) rfl)) hd_X6_isWithin ⟨Nat.le_of_ble_eq_true rfl, Nat.le_of_ble_eq_true rfl⟩, hts (.static yX6_isWithin) (List.mem_of_getElem? (i := 2) rfl), trivial⟩ hKw hA hwd rfl hl.1 rfl (lv_room (Nat.le_of_ble_eq_true rfl)) dX3_number_13 (fun r3 H locs hw hwd => ?_)
    try dsimp only at hw
    refine lv_if_ne (tgt := 22) hx hb dX3_number_16 (by decide) (fun c4 => ?_) (fun c4 => ?_)
    · replace hw := hw.1 c4
      refine lv_aload_n hx hb dX3_number_22 rfl (lv_at hl 0 rfl) ?_
      refine va_get (D := D) (ci := 3) (v := .ref oT_numbers) (C := RX3) (T := TX3) (N := 6) hx hb hts ic_X3_number_X3 hown hKw.1 hwd.1 0 rfl rfl 5 (by decide) (hts (.fieldLink RX3 19 "DrillWardens$OrderText" "numbers" "[I") (List.mem_of_getElem? (i := 1) rfl)) (fun _ h9 => h9) rfl dX3_number_23 ?_
      refine lv_iload_n hx hb dX3_number_26 rfl (lv_at hl 1 rfl) ?_
      refine lv_iconst (v := (nI 3)) hx hb dX3_number_27 rfl ?_
      refine lv_imul hx hb dX3_number_28 ?_
      refine lv_iload_n hx hb dX3_number_29 rfl (lv_at hl 2 rfl) ?_
      refine lv_iadd hx hb dX3_number_30 ?_
      refine va_iald hx hb hKw.1 hwd.1 1 0 rfl rfl hw.1 dX3_number_31 ?_
      replace hw := hw.2
      exact HR (T_numbers ((x1 * (nI 3)) + x2).toNatClampNeg) hw hwd dX3_number_32
    · replace hw := hw.2 c4
      refine lv_bipush (v := (-5)) hx hb dX3_number_19 rfl ?_
      exact HR (-5) hw hwd dX3_number_21
abbrev ww_X3_next (cI cC : ClassId) (oT oT_characters oT_kinds oT_numbers : Nat) (T_length : Int32) (T_at : Int32) (T_orders : Int32) (T_characters : Nat → Int32) : va_W := [(oT, .inr (3, [.ref oT_characters, .int T_length, .int T_at, .int T_orders, .ref oT_kinds, .ref oT_numbers])), (oT_characters, .inl (cC, 80, .inl T_characters))]
abbrev rm_X3_next : Room := { frames := 1, cells := 0, slots := 0, locals := 22 }
theorem ic_X3_next_X3 : ∀ w ∈ u_ws RX3 TX3 6, w ∈ wsX3_next := by
  intro w h
  simp only [wsX3_next, List.mem_cons, List.mem_append]
  simp only [h, or_true, true_or]
def wp_X3_next (T_length : Int32) (T_at : Int32) (T_characters : Nat → Int32) (Q : Int32 → Prop) : Prop := wp_X6_isWithin T_at (nI 0) (nI 79) (fun r1 => ((r1 = 0 → Q (-1)) ∧ (¬ r1 = 0 → ((T_length ≤ T_at → Q (-1)) ∧ (¬ T_length ≤ T_at → vp_in T_at 80 ∧ Q (T_characters T_at.toNatClampNeg))))))
set_option maxRecDepth 100000 in
set_option maxHeartbeats 4000000 in
theorem c_X3_next (l : Launch) {D : va_G} {cI cC cR : ClassId} (oT oT_characters oT_kinds oT_numbers : Nat) (sz : Nat) (T_length : Int32) (T_at : Int32) (T_orders : Int32) (T_characters : Nat → Int32) {Q : Int32 → Prop} (hw : wp_X3_next T_length T_at T_characters Q) : Met l yX3_next wsX3_next rm_X3_next (PcW D cI cC cR [.ref oT] (ww_X3_next cI cC oT oT_characters oT_kinds oT_numbers T_length T_at T_orders T_characters) sz) (QiW D (fun (r : Int32) (u : Unit) => Q r ) (fun u => (ww_X3_next cI cC oT oT_characters oT_kinds oT_numbers T_length T_at T_orders T_characters)) (ww_X3_next cI cC oT oT_characters oT_kinds oT_numbers T_length T_at T_orders T_characters) sz) 0 0 (va_A (ww_X3_next cI cC oT oT_characters oT_kinds oT_numbers T_length T_at T_orders T_characters) sz) := by
  refine Met.ofW (cc := cX3_next) (maxL := 1) (ret := (some .int)) (by decide) rfl ?_
  intro p e s m args below meth c s₁ B hml hv
  obtain ⟨rfl, hsz, hP, hKw, hD0⟩ := hv
  have hlocks := B.notSynchronized
  subst hsz
  have hD := hD0.self (sz := s.heap.size)
  have CX : cx cX3_next (some .int) 1 RX3 wsX3_next p m meth c s ([.ref oT] : List Value).toArray D cI cC cR (va_A (ww_X3_next cI cC oT oT_characters oT_kinds oT_numbers T_length T_at T_orders T_characters) s.heap.size) := ⟨B.exec, B.bytes, B.returns, hml, atoms_spec (ws := wsX3_next) B.pre, findClass_of_methodNamed B.named, hlocks, hKw, fun q h => Or.inr h⟩
  obtain ⟨hx, hb, hr, -, hts, hown, -, -, hA⟩ := id CX
  have hwd : wd D (va_A (ww_X3_next cI cC oT oT_characters oT_kinds oT_numbers T_length T_at T_orders T_characters) s.heap.size) s (ww_X3_next cI cC oT oT_characters oT_kinds oT_numbers T_length T_at T_orders T_characters) s.heap [] := ⟨hP, hD, va_S.rf⟩
  have hl := lv_entry ([.ref oT]) (n := 1) (Nat.le_of_ble_eq_true rfl)
  rw [lg_entry_eq]
  generalize (lg_sl ([.ref oT]) ++ List.replicate (1 - (lg_sl ([.ref oT])).length) Slot.unset).toArray = ls at hl ⊢
  have hl : lv_has ls 1 [(0, .ref oT)] := hl
  have HR : ∀ (r : Int32) {H : Heap} {locs : List Loc} {ls : Array Slot} {pc : Nat}, Q r → wd D (va_A (ww_X3_next cI cC oT oT_characters oT_kinds oT_numbers T_length T_at T_orders T_characters) s.heap.size) s (ww_X3_next cI cC oT oT_characters oT_kinds oT_numbers T_length T_at T_orders T_characters) H locs → decode cX3_next pc = .ok (.ireturn, 1) → W p l e (headSpec wsX3_next rm_X3_next).room s m ([.ref oT] : List Value).toArray below meth c H locs 0 0 (MQ below (QiW D (fun (r : Int32) (u : Unit) => Q r ) (fun u => (ww_X3_next cI cC oT oT_characters oT_kinds oT_numbers T_length T_at T_orders T_characters)) (ww_X3_next cI cC oT oT_characters oT_kinds oT_numbers T_length T_at T_orders T_characters) s.heap.size) ([.ref oT] : List Value).toArray s 0 0 (va_A (ww_X3_next cI cC oT oT_characters oT_kinds oT_numbers T_length T_at T_orders T_characters) s.heap.size)) (F0 m pc ls [.int r]) := by
    intro r H locs ls pc hq hw9 hd9
    exact W.iret (v := r) hx hb hr (fun t ht hW => ⟨⟨r, (), rfl, hq, by rw [ht]; exact hw9.1, hw9.2.1⟩, hw9.2.2.F ht⟩) hw9.2.2.2.2 hd9
  unfold wp_X3_next at hw
  refine lv_aload_n hx hb dX3_next_0 rfl (lv_at hl 0 rfl) ?_
  refine va_get (D := D) (ci := 3) (v := .int T_at) (C := RX3) (T := TX3) (N := 6) hx hb hts ic_X3_next_X3 hown hKw.1 hwd.1 0 rfl rfl 2 (by decide) (hts (.fieldLink RX3 33 "DrillWardens$OrderText" "at" "I") (List.mem_of_getElem? (i := 1) rfl)) (fun _ h9 => h9) rfl dX3_next_1 ?_
  refine lv_iconst (v := (nI 0)) hx hb dX3_next_4 rfl ?_
  refine lv_bipush (v := (nI 79)) hx hb dX3_next_5 rfl ?_
  refine kcNi (rest := []) (As := [.int T_at, .int (nI 0), .int (nI 79)]) ⟨Nat.le_of_ble_eq_true rfl, Nat.le_of_ble_eq_true rfl⟩ ⟨hx, hb, hml, hown, hts⟩ (c_X6_isWithin l s.heap.size T_at (nI 0) (nI 79) hw) ⟨va_cnB 3 hts gX3_next_X6_isWithin_n26 rfl rfl rfl (nwm_11 hKw.2) (hts (.initialized RX6) (List.mem_of_getElem? (i := 5) rfl)) hd_X6_isWithin ⟨Nat.le_of_ble_eq_true rfl, Nat.le_of_ble_eq_true rfl⟩, hts (.static yX6_isWithin) (List.mem_of_getElem? (i := 4) rfl), trivial⟩ hKw hA hwd rfl hl.1 rfl (lv_room (Nat.le_of_ble_eq_true rfl)) dX3_next_7 (fun r1 H locs hw hwd => ?_)
  try dsimp only at hw
  refine lv_if_eq (tgt := 36) hx hb dX3_next_10 (by decide) (fun c2 => ?_) (fun c2 => ?_)
  · replace hw := hw.1 c2
    refine lv_iconst (v := (-1)) hx hb dX3_next_36 rfl ?_
    exact HR (-1) hw hwd dX3_next_37
  · replace hw := hw.2 c2
    refine lv_aload_n hx hb dX3_next_13 rfl (lv_at hl 0 rfl) ?_
    refine va_get (D := D) (ci := 3) (v := .int T_at) (C := RX3) (T := TX3) (N := 6) hx hb hts ic_X3_next_X3 hown hKw.1 hwd.1 0 rfl rfl 2 (by decide) (hts (.fieldLink RX3 33 "DrillWardens$OrderText" "at" "I") (List.mem_of_getElem? (i := 1) rfl)) (fun _ h9 => h9) rfl dX3_next_14 ?_
    refine lv_aload_n hx hb dX3_next_17 rfl (lv_at hl 0 rfl) ?_
    refine va_get (D := D) (ci := 3) (v := .int T_length) (C := RX3) (T := TX3) (N := 6) hx hb hts ic_X3_next_X3 hown hKw.1 hwd.1 0 rfl rfl 1 (by decide) (hts (.fieldLink RX3 22 "DrillWardens$OrderText" "length" "I") (List.mem_of_getElem? (i := 2) rfl)) (fun _ h9 => h9) rfl dX3_next_18 ?_
    refine lv_icmp_ge (tgt := 36) hx hb dX3_next_21 (by decide) (fun c3 => ?_) (fun c3 => ?_)
    · replace hw := hw.1 c3
      refine lv_iconst (v := (-1)) hx hb dX3_next_36 rfl ?_
      exact HR (-1) hw hwd dX3_next_37
    · replace hw := hw.2 c3
      refine lv_aload_n hx hb dX3_next_24 rfl (lv_at hl 0 rfl) ?_
      refine va_get (D := D) (ci := 3) (v := .ref oT_characters) (C := RX3) (T := TX3) (N := 6) hx hb hts ic_X3_next_X3 hown hKw.1 hwd.1 0 rfl rfl 0 (by decide) (hts (.fieldLink RX3 9 "DrillWardens$OrderText" "characters" "[C") (List.mem_of_getElem? (i := 3) rfl)) (fun _ h9 => h9) rfl dX3_next_25 ?_
      refine lv_aload_n hx hb dX3_next_28 rfl (lv_at hl 0 rfl) ?_
      refine va_get (D := D) (ci := 3) (v := .int T_at) (C := RX3) (T := TX3) (N := 6) hx hb hts ic_X3_next_X3 hown hKw.1 hwd.1 0 rfl rfl 2 (by decide) (hts (.fieldLink RX3 33 "DrillWardens$OrderText" "at" "I") (List.mem_of_getElem? (i := 1) rfl)) (fun _ h9 => h9) rfl dX3_next_29 ?_
      refine va_cald hx hb hKw.1 hwd.1 1 1 rfl rfl hw.1 dX3_next_32 ?_
      replace hw := hw.2
      refine lv_goto (tgt := 37) hx hb dX3_next_33 (by decide) ?_
      exact HR (T_characters T_at.toNatClampNeg) hw hwd dX3_next_37
abbrev ww_X3_readSign (cI cC : ClassId) (oT oT_characters oT_kinds oT_numbers : Nat) (T_length : Int32) (T_at : Int32) (T_orders : Int32) (T_characters : Nat → Int32) : va_W := [(oT, .inr (3, [.ref oT_characters, .int T_length, .int T_at, .int T_orders, .ref oT_kinds, .ref oT_numbers])), (oT_characters, .inl (cC, 80, .inl T_characters))]
abbrev rm_X3_readSign : Room := { frames := 2, cells := 0, slots := 0, locals := 42 }
theorem ic_X3_readSign_X3 : ∀ w ∈ u_ws RX3 TX3 6, w ∈ wsX3_readSign := by
  intro w h
  simp only [wsX3_readSign, List.mem_cons, List.mem_append]
  simp only [h, or_true, true_or]
def wp_X3_readSign (T_length : Int32) (T_at : Int32) (T_characters : Nat → Int32) (x1 : Int32) (Q : Int32 → Int32 → Prop) : Prop := wp_X3_next T_length T_at T_characters (fun r1 => ((r1 = x1 → ∀ T_at3, T_at3 = T_at + (nI 1) → Q (nI 1) T_at3) ∧ (¬ r1 = x1 → Q (nI 0) T_at)))
set_option maxRecDepth 100000 in
set_option maxHeartbeats 4000000 in
theorem c_X3_readSign (l : Launch) {D : va_G} {cI cC cR : ClassId} (oT oT_characters oT_kinds oT_numbers : Nat) (sz : Nat) (T_length : Int32) (T_at : Int32) (T_orders : Int32) (T_characters : Nat → Int32) (x1 : Int32) {Q : Int32 → Int32 → Prop} (hw : wp_X3_readSign T_length T_at T_characters x1 Q) : Met l yX3_readSign wsX3_readSign rm_X3_readSign (PcW D cI cC cR [.ref oT, .int x1] (ww_X3_readSign cI cC oT oT_characters oT_kinds oT_numbers T_length T_at T_orders T_characters) sz) (QiW D (fun (r : Int32) (u : Int32) => Q r u) (fun u => (ww_X3_readSign cI cC oT oT_characters oT_kinds oT_numbers T_length u T_orders T_characters)) (ww_X3_readSign cI cC oT oT_characters oT_kinds oT_numbers T_length T_at T_orders T_characters) sz) 0 0 (va_A (ww_X3_readSign cI cC oT oT_characters oT_kinds oT_numbers T_length T_at T_orders T_characters) sz) := by
  refine Met.ofW (cc := cX3_readSign) (maxL := 2) (ret := (some .boolean)) (by decide) rfl ?_
  intro p e s m args below meth c s₁ B hml hv
  obtain ⟨rfl, hsz, hP, hKw, hD0⟩ := hv
  have hlocks := B.notSynchronized
  subst hsz
  have hD := hD0.self (sz := s.heap.size)
  have CX : cx cX3_readSign (some .boolean) 2 RX3 wsX3_readSign p m meth c s ([.ref oT, .int x1] : List Value).toArray D cI cC cR (va_A (ww_X3_readSign cI cC oT oT_characters oT_kinds oT_numbers T_length T_at T_orders T_characters) s.heap.size) := ⟨B.exec, B.bytes, B.returns, hml, atoms_spec (ws := wsX3_readSign) B.pre, findClass_of_methodNamed B.named, hlocks, hKw, fun q h => Or.inr h⟩
  obtain ⟨hx, hb, hr, -, hts, hown, -, -, hA⟩ := id CX
  have hwd : wd D (va_A (ww_X3_readSign cI cC oT oT_characters oT_kinds oT_numbers T_length T_at T_orders T_characters) s.heap.size) s (ww_X3_readSign cI cC oT oT_characters oT_kinds oT_numbers T_length T_at T_orders T_characters) s.heap [] := ⟨hP, hD, va_S.rf⟩
  have hl := lv_entry ([.ref oT, .int x1]) (n := 2) (Nat.le_of_ble_eq_true rfl)
  rw [lg_entry_eq]
  generalize (lg_sl ([.ref oT, .int x1]) ++ List.replicate (2 - (lg_sl ([.ref oT, .int x1])).length) Slot.unset).toArray = ls at hl ⊢
  have hl : lv_has ls 2 [(0, .ref oT), (1, .int x1)] := hl
  have HR : ∀ (r : Int32) (u0 : Int32) {H : Heap} {locs : List Loc} {ls : Array Slot} {pc : Nat}, Q r u0 → wd D (va_A (ww_X3_readSign cI cC oT oT_characters oT_kinds oT_numbers T_length T_at T_orders T_characters) s.heap.size) s (ww_X3_readSign cI cC oT oT_characters oT_kinds oT_numbers T_length u0 T_orders T_characters) H locs → narrow .boolean (.int r) = .int r → decode cX3_readSign pc = .ok (.ireturn, 1) → W p l e (headSpec wsX3_readSign rm_X3_readSign).room s m ([.ref oT, .int x1] : List Value).toArray below meth c H locs 0 0 (MQ below (QiW D (fun (r : Int32) (u : Int32) => Q r u) (fun u => (ww_X3_readSign cI cC oT oT_characters oT_kinds oT_numbers T_length u T_orders T_characters)) (ww_X3_readSign cI cC oT oT_characters oT_kinds oT_numbers T_length T_at T_orders T_characters) s.heap.size) ([.ref oT, .int x1] : List Value).toArray s 0 0 (va_A (ww_X3_readSign cI cC oT oT_characters oT_kinds oT_numbers T_length T_at T_orders T_characters) s.heap.size)) (F0 m pc ls [.int r]) := by
    intro r u0 H locs ls pc hq hw9 hn9 hd9
    exact W.zret (v := r) hx hb hr hn9 (fun t ht hW => ⟨⟨r, u0, rfl, hq, by rw [ht]; exact hw9.1, hw9.2.1⟩, hw9.2.2.F ht⟩) hw9.2.2.2.2 hd9
  unfold wp_X3_readSign at hw
  refine lv_aload_n hx hb dX3_readSign_0 rfl (lv_at hl 0 rfl) ?_
  refine kcVi (W1 := (fun u => (ww_X3_readSign cI cC oT oT_characters oT_kinds oT_numbers T_length T_at T_orders T_characters))) (rest := []) (As := []) ⟨Nat.le_of_ble_eq_true rfl, Nat.le_of_ble_eq_true rfl⟩ ⟨hx, hb, hml, hown, hts⟩ (c_X3_next l oT oT_characters oT_kinds oT_numbers s.heap.size T_length T_at T_orders T_characters hw) (cwV 0 hts gX3_readSign_X3_next rfl rfl rfl ⟨rfl, hd_X3_next⟩ ⟨Nat.le_of_ble_eq_true rfl, Nat.le_of_ble_eq_true rfl⟩) hKw hA hwd [0, 1] [] [0, 1] [] rfl rfl rfl rfl (by decide) rfl (fun _ => rfl) 0 3 rfl rfl rfl rfl hl.1 rfl (lv_room (Nat.le_of_ble_eq_true rfl)) dX3_readSign_1 (fun r1 u H locs hw hwd => ?_)
  try dsimp only at hw
  replace hwd : wd D (va_A (ww_X3_readSign cI cC oT oT_characters oT_kinds oT_numbers T_length T_at T_orders T_characters) s.heap.size) s (ww_X3_readSign cI cC oT oT_characters oT_kinds oT_numbers T_length T_at T_orders T_characters) H locs := hwd
  refine lv_iload_n hx hb dX3_readSign_4 rfl (lv_at hl 1 rfl) ?_
  refine lv_icmp_eq (tgt := 10) hx hb dX3_readSign_5 (by decide) (fun c2 => ?_) (fun c2 => ?_)
  · replace hw := hw.1 c2
    refine lv_aload_n hx hb dX3_readSign_10 rfl (lv_at hl 0 rfl) ?_
    refine lv_dup hx hb dX3_readSign_11 rfl ?_
    refine va_get (D := D) (ci := 3) (v := .int T_at) (C := RX3) (T := TX3) (N := 6) hx hb hts ic_X3_readSign_X3 hown hKw.1 hwd.1 0 rfl rfl 2 (by decide) (hts (.fieldLink RX3 33 "DrillWardens$OrderText" "at" "I") (List.mem_of_getElem? (i := 1) rfl)) (fun _ h9 => h9) rfl dX3_readSign_12 ?_
    refine lv_iconst (v := (nI 1)) hx hb dX3_readSign_15 rfl ?_
    refine lv_iadd hx hb dX3_readSign_16 ?_
    refine lv_topi (fun T_at3 e_T_at3 => ?_)
    replace hw := hw T_at3 e_T_at3
    refine va_put (D := D) (ci := 3) (v := .int T_at3) (ty := .int) (C := RX3) (T := TX3) (N := 6) hx hb hts ic_X3_readSign_X3 tyX3 tyX3_ok nmX3 hown hKw.1 hwd.1 hwd.2.1 hwd.2.2 0 rfl rfl 2 (by decide) (hts (.fieldLink RX3 33 "DrillWardens$OrderText" "at" "I") (List.mem_of_getElem? (i := 1) rfl)) (fun _ h9 => h9) rfl (tyX3_ok 2 (by decide)) rfl rfl (Nat.le_of_ble_eq_true rfl) dX3_readSign_17 (fun H locs h1 h2 h3 => ?_)
    replace hwd : wd D (va_A (ww_X3_readSign cI cC oT oT_characters oT_kinds oT_numbers T_length T_at T_orders T_characters) s.heap.size) s (ww_X3_readSign cI cC oT oT_characters oT_kinds oT_numbers T_length T_at3 T_orders T_characters) H locs := ⟨h1, h2, h3⟩
    clear h1 h2 h3
    refine lv_iconst (v := (nI 1)) hx hb dX3_readSign_20 rfl ?_
    exact HR (nI 1) T_at3 hw hwd rfl dX3_readSign_21
  · replace hw := hw.2 c2
    refine lv_iconst (v := (nI 0)) hx hb dX3_readSign_8 rfl ?_
    exact HR (nI 0) T_at hw hwd rfl dX3_readSign_9
abbrev ww_X3_nextDigit (cI cC : ClassId) (oT oT_characters oT_kinds oT_numbers : Nat) (T_length : Int32) (T_at : Int32) (T_orders : Int32) (T_characters : Nat → Int32) : va_W := [(oT, .inr (3, [.ref oT_characters, .int T_length, .int T_at, .int T_orders, .ref oT_kinds, .ref oT_numbers])), (oT_characters, .inl (cC, 80, .inl T_characters))]
abbrev rm_X3_nextDigit : Room := { frames := 2, cells := 0, slots := 0, locals := 42 }
def wp_X3_nextDigit (T_length : Int32) (T_at : Int32) (T_characters : Nat → Int32) (Q : Int32 → Prop) : Prop := wp_X3_next T_length T_at T_characters (fun r1 => wp_X6_isWithin r1 (nI 48) (nI 57) (fun r2 => ((r2 = 0 → Q (-5)) ∧ (¬ r2 = 0 → Q (r1 - (nI 48))))))
set_option maxRecDepth 100000 in
set_option maxHeartbeats 4000000 in
theorem c_X3_nextDigit (l : Launch) {D : va_G} {cI cC cR : ClassId} (oT oT_characters oT_kinds oT_numbers : Nat) (sz : Nat) (T_length : Int32) (T_at : Int32) (T_orders : Int32) (T_characters : Nat → Int32) {Q : Int32 → Prop} (hw : wp_X3_nextDigit T_length T_at T_characters Q) : Met l yX3_nextDigit wsX3_nextDigit rm_X3_nextDigit (PcW D cI cC cR [.ref oT] (ww_X3_nextDigit cI cC oT oT_characters oT_kinds oT_numbers T_length T_at T_orders T_characters) sz) (QiW D (fun (r : Int32) (u : Unit) => Q r ) (fun u => (ww_X3_nextDigit cI cC oT oT_characters oT_kinds oT_numbers T_length T_at T_orders T_characters)) (ww_X3_nextDigit cI cC oT oT_characters oT_kinds oT_numbers T_length T_at T_orders T_characters) sz) 0 0 (va_A (ww_X3_nextDigit cI cC oT oT_characters oT_kinds oT_numbers T_length T_at T_orders T_characters) sz) := by
  refine Met.ofW (cc := cX3_nextDigit) (maxL := 2) (ret := (some .int)) (by decide) rfl ?_
  intro p e s m args below meth c s₁ B hml hv
  obtain ⟨rfl, hsz, hP, hKw, hD0⟩ := hv
  have hlocks := B.notSynchronized
  subst hsz
  have hD := hD0.self (sz := s.heap.size)
  have CX : cx cX3_nextDigit (some .int) 2 RX3 wsX3_nextDigit p m meth c s ([.ref oT] : List Value).toArray D cI cC cR (va_A (ww_X3_nextDigit cI cC oT oT_characters oT_kinds oT_numbers T_length T_at T_orders T_characters) s.heap.size) := ⟨B.exec, B.bytes, B.returns, hml, atoms_spec (ws := wsX3_nextDigit) B.pre, findClass_of_methodNamed B.named, hlocks, hKw, fun q h => Or.inr h⟩
  obtain ⟨hx, hb, hr, -, hts, hown, -, -, hA⟩ := id CX
  have hwd : wd D (va_A (ww_X3_nextDigit cI cC oT oT_characters oT_kinds oT_numbers T_length T_at T_orders T_characters) s.heap.size) s (ww_X3_nextDigit cI cC oT oT_characters oT_kinds oT_numbers T_length T_at T_orders T_characters) s.heap [] := ⟨hP, hD, va_S.rf⟩
  have hl := lv_entry ([.ref oT]) (n := 2) (Nat.le_of_ble_eq_true rfl)
  rw [lg_entry_eq]
  generalize (lg_sl ([.ref oT]) ++ List.replicate (2 - (lg_sl ([.ref oT])).length) Slot.unset).toArray = ls at hl ⊢
  have hl : lv_has ls 2 [(0, .ref oT)] := hl
  have HR : ∀ (r : Int32) {H : Heap} {locs : List Loc} {ls : Array Slot} {pc : Nat}, Q r → wd D (va_A (ww_X3_nextDigit cI cC oT oT_characters oT_kinds oT_numbers T_length T_at T_orders T_characters) s.heap.size) s (ww_X3_nextDigit cI cC oT oT_characters oT_kinds oT_numbers T_length T_at T_orders T_characters) H locs → decode cX3_nextDigit pc = .ok (.ireturn, 1) → W p l e (headSpec wsX3_nextDigit rm_X3_nextDigit).room s m ([.ref oT] : List Value).toArray below meth c H locs 0 0 (MQ below (QiW D (fun (r : Int32) (u : Unit) => Q r ) (fun u => (ww_X3_nextDigit cI cC oT oT_characters oT_kinds oT_numbers T_length T_at T_orders T_characters)) (ww_X3_nextDigit cI cC oT oT_characters oT_kinds oT_numbers T_length T_at T_orders T_characters) s.heap.size) ([.ref oT] : List Value).toArray s 0 0 (va_A (ww_X3_nextDigit cI cC oT oT_characters oT_kinds oT_numbers T_length T_at T_orders T_characters) s.heap.size)) (F0 m pc ls [.int r]) := by
    intro r H locs ls pc hq hw9 hd9
    exact W.iret (v := r) hx hb hr (fun t ht hW => ⟨⟨r, (), rfl, hq, by rw [ht]; exact hw9.1, hw9.2.1⟩, hw9.2.2.F ht⟩) hw9.2.2.2.2 hd9
  unfold wp_X3_nextDigit at hw
  refine lv_aload_n hx hb dX3_nextDigit_0 rfl (lv_at hl 0 rfl) ?_
  refine kcVi (W1 := (fun u => (ww_X3_nextDigit cI cC oT oT_characters oT_kinds oT_numbers T_length T_at T_orders T_characters))) (rest := []) (As := []) ⟨Nat.le_of_ble_eq_true rfl, Nat.le_of_ble_eq_true rfl⟩ ⟨hx, hb, hml, hown, hts⟩ (c_X3_next l oT oT_characters oT_kinds oT_numbers s.heap.size T_length T_at T_orders T_characters hw) (cwV 0 hts gX3_nextDigit_X3_next rfl rfl rfl ⟨rfl, hd_X3_next⟩ ⟨Nat.le_of_ble_eq_true rfl, Nat.le_of_ble_eq_true rfl⟩) hKw hA hwd [0, 1] [] [0, 1] [] rfl rfl rfl rfl (by decide) rfl (fun _ => rfl) 0 3 rfl rfl rfl rfl hl.1 rfl (lv_room (Nat.le_of_ble_eq_true rfl)) dX3_nextDigit_1 (fun r1 u H locs hw hwd => ?_)
  try dsimp only at hw
  replace hwd : wd D (va_A (ww_X3_nextDigit cI cC oT oT_characters oT_kinds oT_numbers T_length T_at T_orders T_characters) s.heap.size) s (ww_X3_nextDigit cI cC oT oT_characters oT_kinds oT_numbers T_length T_at T_orders T_characters) H locs := hwd
  refine lv_istore_n (lv' := [(1, .int r1), (0, .ref oT)]) hx hb dX3_nextDigit_4 rfl hl (by decide) rfl (fun ls hl => ?_)
  refine lv_iload_n hx hb dX3_nextDigit_5 rfl (lv_at hl 0 rfl) ?_
  refine lv_bipush (v := (nI 48)) hx hb dX3_nextDigit_6 rfl ?_
  refine lv_bipush (v := (nI 57)) hx hb dX3_nextDigit_8 rfl ?_
  refine kcNi (rest := []) (As := [.int r1, .int (nI 48), .int (nI 57)]) ⟨Nat.le_of_ble_eq_true rfl, Nat.le_of_ble_eq_true rfl⟩ ⟨hx, hb, hml, hown, hts⟩ (c_X6_isWithin l H.size r1 (nI 48) (nI 57) hw) ⟨va_cnB 3 hts gX3_nextDigit_X6_isWithin_n26 rfl rfl rfl (nwm_11 hKw.2) (hts (.initialized RX6) (List.mem_of_getElem? (i := 10) rfl)) hd_X6_isWithin ⟨Nat.le_of_ble_eq_true rfl, Nat.le_of_ble_eq_true rfl⟩, hts (.static yX6_isWithin) (List.mem_of_getElem? (i := 9) rfl), trivial⟩ hKw hA hwd rfl hl.1 rfl (lv_room (Nat.le_of_ble_eq_true rfl)) dX3_nextDigit_10 (fun r2 H locs hw hwd => ?_)
  try dsimp only at hw
  refine lv_if_eq (tgt := 23) hx hb dX3_nextDigit_13 (by decide) (fun c3 => ?_) (fun c3 => ?_)
  · replace hw := hw.1 c3
    refine lv_bipush (v := (-5)) hx hb dX3_nextDigit_23 rfl ?_
    exact HR (-5) hw hwd dX3_nextDigit_25
  · replace hw := hw.2 c3
    refine lv_iload_n hx hb dX3_nextDigit_16 rfl (lv_at hl 0 rfl) ?_
    refine lv_bipush (v := (nI 48)) hx hb dX3_nextDigit_17 rfl ?_
    refine lv_isub hx hb dX3_nextDigit_19 ?_
    refine lv_goto (tgt := 25) hx hb dX3_nextDigit_20 (by decide) ?_
    exact HR (r1 - (nI 48)) hw hwd dX3_nextDigit_25
abbrev rm_X3_highestOf : Room := { frames := 1, cells := 0, slots := 0, locals := 23 }
def wp_X3_highestOf  (x0 : Int32) (x1 : Int32) (Q : Int32 → Prop) : Prop := ((x0 = (nI 0) → wp_X3_pick x1 (nI 9) (nI 15) (-5) (fun r2 => Q r2)) ∧ (¬ x0 = (nI 0) → (x0 = (nI 1) → wp_X3_pick x1 (nI 9) (nI 15) (-5) (fun r4 => Q r4)) ∧ (¬ x0 = (nI 1) → (x0 = (nI 2) → wp_X3_pick x1 (nI 15) (nI 399) (nI 399) (fun r6 => Q r6)) ∧ (¬ x0 = (nI 2) → (x0 = (nI 3) → wp_X3_pick x1 (nI 9) (nI 60) (-5) (fun r8 => Q r8)) ∧ (¬ x0 = (nI 3) → wp_X3_pick x1 (nI 99) (-5) (-5) (fun r9 => Q r9))))))
set_option maxRecDepth 100000 in
set_option maxHeartbeats 4000000 in
theorem c_X3_highestOf (l : Launch) {D : va_G} {cI cC cR : ClassId} (sz : Nat) (x0 : Int32) (x1 : Int32) {Q : Int32 → Prop} (hw : wp_X3_highestOf x0 x1 Q) : Met l yX3_highestOf wsX3_highestOf rm_X3_highestOf (PcW D cI cC cR [.int x0, .int x1] [] sz) (QiW D (fun (r : Int32) (u : Unit) => Q r ) (fun _ => []) [] sz) 0 0 (va_A [] sz) := by
  refine Met.ofW (cc := cX3_highestOf) (maxL := 2) (ret := (some .int)) (by decide) rfl ?_
  intro p e s m args below meth c s₁ B hml hv
  obtain ⟨rfl, hsz, hP, hKw, hD0⟩ := hv
  have hlocks := B.notSynchronized
  subst hsz
  have hD := hD0.self (sz := s.heap.size)
  have CX : cx cX3_highestOf (some .int) 2 RX3 wsX3_highestOf p m meth c s ([.int x0, .int x1] : List Value).toArray D cI cC cR (va_A [] s.heap.size) := ⟨B.exec, B.bytes, B.returns, hml, atoms_spec (ws := wsX3_highestOf) B.pre, findClass_of_methodNamed B.named, hlocks, hKw, fun q h => Or.inr h⟩
  obtain ⟨hx, hb, hr, -, hts, hown, -, -, hA⟩ := id CX
  have hwd : wd D (va_A [] s.heap.size) s [] s.heap [] := ⟨hP, hD, va_S.rf⟩
  have hl := lv_entry ([.int x0, .int x1]) (n := 2) (Nat.le_of_ble_eq_true rfl)
  rw [lg_entry_eq]
  generalize (lg_sl ([.int x0, .int x1]) ++ List.replicate (2 - (lg_sl ([.int x0, .int x1])).length) Slot.unset).toArray = ls at hl ⊢
  have hl : lv_has ls 2 [(0, .int x0), (1, .int x1)] := hl
  have HR : ∀ (r : Int32) {H : Heap} {locs : List Loc} {ls : Array Slot} {pc : Nat}, Q r → wd D (va_A [] s.heap.size) s [] H locs → decode cX3_highestOf pc = .ok (.ireturn, 1) → W p l e (headSpec wsX3_highestOf rm_X3_highestOf).room s m ([.int x0, .int x1] : List Value).toArray below meth c H locs 0 0 (MQ below (QiW D (fun (r : Int32) (u : Unit) => Q r ) (fun _ => []) [] s.heap.size) ([.int x0, .int x1] : List Value).toArray s 0 0 (va_A [] s.heap.size)) (F0 m pc ls [.int r]) := by
    intro r H locs ls pc hq hw9 hd9
    exact W.iret (v := r) hx hb hr (fun t ht hW => ⟨⟨r, (), rfl, hq, by rw [ht]; exact hw9.1, hw9.2.1⟩, hw9.2.2.F ht⟩) hw9.2.2.2.2 hd9
  unfold wp_X3_highestOf at hw
  refine lv_iload_n hx hb dX3_highestOf_0 rfl (lv_at hl 0 rfl) ?_
  rcases Classical.em (x0 = (nI 0)) with c1 | c1
  · replace hw := hw.1 c1
    refine lv_tableIn (off := 31) (tgt := 32) hx hb dX3_highestOf_1 (by rw [c1]; decide) (by rw [c1]; decide) (by rw [c1]; rfl) (by decide) ?_
    refine lv_iload_n hx hb dX3_highestOf_32 rfl (lv_at hl 1 rfl) ?_
    refine lv_bipush (v := (nI 9)) hx hb dX3_highestOf_33 rfl ?_
    refine lv_bipush (v := (nI 15)) hx hb dX3_highestOf_35 rfl ?_
    refine lv_bipush (v := (-5)) hx hb dX3_highestOf_37 rfl ?_
    refine kcSi (rest := []) (As := [.int x1, .int (nI 9), .int (nI 15), .int (-5)]) ⟨Nat.le_of_ble_eq_true rfl, Nat.le_of_ble_eq_true rfl⟩ ⟨hx, hb, hml, hown, hts⟩ (c_X3_pick l s.heap.size x1 (nI 9) (nI 15) (-5) hw) (va_cwS 4 hts gX3_highestOf_X3_pick rfl rfl rfl hd_X3_pick ⟨Nat.le_of_ble_eq_true rfl, Nat.le_of_ble_eq_true rfl⟩) hKw hA hwd rfl hl.1 rfl (lv_room (Nat.le_of_ble_eq_true rfl)) dX3_highestOf_39 (fun r2 H locs hw hwd => ?_)
    try dsimp only at hw
    exact HR r2 hw hwd dX3_highestOf_42
  · replace hw := hw.2 c1
    rcases Classical.em (x0 = (nI 1)) with c3 | c3
    · replace hw := hw.1 c3
      refine lv_tableIn (off := 31) (tgt := 32) hx hb dX3_highestOf_1 (by rw [c3]; decide) (by rw [c3]; decide) (by rw [c3]; rfl) (by decide) ?_
      refine lv_iload_n hx hb dX3_highestOf_32 rfl (lv_at hl 1 rfl) ?_
      refine lv_bipush (v := (nI 9)) hx hb dX3_highestOf_33 rfl ?_
      refine lv_bipush (v := (nI 15)) hx hb dX3_highestOf_35 rfl ?_
      refine lv_bipush (v := (-5)) hx hb dX3_highestOf_37 rfl ?_
      refine kcSi (rest := []) (As := [.int x1, .int (nI 9), .int (nI 15), .int (-5)]) ⟨Nat.le_of_ble_eq_true rfl, Nat.le_of_ble_eq_true rfl⟩ ⟨hx, hb, hml, hown, hts⟩ (c_X3_pick l s.heap.size x1 (nI 9) (nI 15) (-5) hw) (va_cwS 4 hts gX3_highestOf_X3_pick rfl rfl rfl hd_X3_pick ⟨Nat.le_of_ble_eq_true rfl, Nat.le_of_ble_eq_true rfl⟩) hKw hA hwd rfl hl.1 rfl (lv_room (Nat.le_of_ble_eq_true rfl)) dX3_highestOf_39 (fun r4 H locs hw hwd => ?_)
      try dsimp only at hw
      exact HR r4 hw hwd dX3_highestOf_42
    · replace hw := hw.2 c3
      rcases Classical.em (x0 = (nI 2)) with c5 | c5
      · replace hw := hw.1 c5
        refine lv_tableIn (off := 42) (tgt := 43) hx hb dX3_highestOf_1 (by rw [c5]; decide) (by rw [c5]; decide) (by rw [c5]; rfl) (by decide) ?_
        refine lv_iload_n hx hb dX3_highestOf_43 rfl (lv_at hl 1 rfl) ?_
        refine lv_bipush (v := (nI 15)) hx hb dX3_highestOf_44 rfl ?_
        refine lv_sipush (v := (nI 399)) hx hb dX3_highestOf_46 rfl ?_
        refine lv_sipush (v := (nI 399)) hx hb dX3_highestOf_49 rfl ?_
        refine kcSi (rest := []) (As := [.int x1, .int (nI 15), .int (nI 399), .int (nI 399)]) ⟨Nat.le_of_ble_eq_true rfl, Nat.le_of_ble_eq_true rfl⟩ ⟨hx, hb, hml, hown, hts⟩ (c_X3_pick l s.heap.size x1 (nI 15) (nI 399) (nI 399) hw) (va_cwS 4 hts gX3_highestOf_X3_pick rfl rfl rfl hd_X3_pick ⟨Nat.le_of_ble_eq_true rfl, Nat.le_of_ble_eq_true rfl⟩) hKw hA hwd rfl hl.1 rfl (lv_room (Nat.le_of_ble_eq_true rfl)) dX3_highestOf_52 (fun r6 H locs hw hwd => ?_)
        try dsimp only at hw
        exact HR r6 hw hwd dX3_highestOf_55
      · replace hw := hw.2 c5
        rcases Classical.em (x0 = (nI 3)) with c7 | c7
        · replace hw := hw.1 c7
          refine lv_tableIn (off := 55) (tgt := 56) hx hb dX3_highestOf_1 (by rw [c7]; decide) (by rw [c7]; decide) (by rw [c7]; rfl) (by decide) ?_
          refine lv_iload_n hx hb dX3_highestOf_56 rfl (lv_at hl 1 rfl) ?_
          refine lv_bipush (v := (nI 9)) hx hb dX3_highestOf_57 rfl ?_
          refine lv_bipush (v := (nI 60)) hx hb dX3_highestOf_59 rfl ?_
          refine lv_bipush (v := (-5)) hx hb dX3_highestOf_61 rfl ?_
          refine kcSi (rest := []) (As := [.int x1, .int (nI 9), .int (nI 60), .int (-5)]) ⟨Nat.le_of_ble_eq_true rfl, Nat.le_of_ble_eq_true rfl⟩ ⟨hx, hb, hml, hown, hts⟩ (c_X3_pick l s.heap.size x1 (nI 9) (nI 60) (-5) hw) (va_cwS 4 hts gX3_highestOf_X3_pick rfl rfl rfl hd_X3_pick ⟨Nat.le_of_ble_eq_true rfl, Nat.le_of_ble_eq_true rfl⟩) hKw hA hwd rfl hl.1 rfl (lv_room (Nat.le_of_ble_eq_true rfl)) dX3_highestOf_63 (fun r8 H locs hw hwd => ?_)
          try dsimp only at hw
          exact HR r8 hw hwd dX3_highestOf_66
        · replace hw := hw.2 c7
          refine lv_tableOut (tgt := 67) hx hb dX3_highestOf_1 (sw_out (fun j h1 h2 => by rcases (show j = 0 ∨ j = 1 ∨ j = 2 ∨ j = 3 by omega) with rfl | rfl | rfl | rfl <;> first | exact c1 | exact c3 | exact c5 | exact c7)) (by decide) ?_
          refine lv_iload_n hx hb dX3_highestOf_67 rfl (lv_at hl 1 rfl) ?_
          refine lv_bipush (v := (nI 99)) hx hb dX3_highestOf_68 rfl ?_
          refine lv_bipush (v := (-5)) hx hb dX3_highestOf_70 rfl ?_
          refine lv_bipush (v := (-5)) hx hb dX3_highestOf_72 rfl ?_
          refine kcSi (rest := []) (As := [.int x1, .int (nI 99), .int (-5), .int (-5)]) ⟨Nat.le_of_ble_eq_true rfl, Nat.le_of_ble_eq_true rfl⟩ ⟨hx, hb, hml, hown, hts⟩ (c_X3_pick l s.heap.size x1 (nI 99) (-5) (-5) hw) (va_cwS 4 hts gX3_highestOf_X3_pick rfl rfl rfl hd_X3_pick ⟨Nat.le_of_ble_eq_true rfl, Nat.le_of_ble_eq_true rfl⟩) hKw hA hwd rfl hl.1 rfl (lv_room (Nat.le_of_ble_eq_true rfl)) dX3_highestOf_74 (fun r9 H locs hw hwd => ?_)
          try dsimp only at hw
          exact HR r9 hw hwd dX3_highestOf_77
abbrev ww_X3_readNumber (cI cC : ClassId) (oT oT_characters oT_kinds oT_numbers : Nat) (T_length : Int32) (T_at : Int32) (T_orders : Int32) (T_characters : Nat → Int32) (T_numbers : Nat → Int32) : va_W := [(oT, .inr (3, [.ref oT_characters, .int T_length, .int T_at, .int T_orders, .ref oT_kinds, .ref oT_numbers])), (oT_characters, .inl (cC, 80, .inl T_characters)), (oT_numbers, .inl (cI, 36, .inl T_numbers))]
abbrev rm_X3_readNumber : Room := { frames := 3, cells := 0, slots := 0, locals := 63 }
theorem ic_X3_readNumber_X3 : ∀ w ∈ u_ws RX3 TX3 6, w ∈ wsX3_readNumber := by
  intro w h
  simp only [wsX3_readNumber, List.mem_cons, List.mem_append]
  simp only [h, or_true, true_or]
def wb_X3_readNumber_46 (T_length : Int32) (T_characters : Nat → Int32) (T_numbers : Nat → Int32) (x2 : Int32) (x3 : Int32) (K_111 : Int32 → Int32 → Prop) (Q : Int32 → Int32 → (Nat → Int32) → Prop) : Nat → Int32 → Int32 → Int32 → Prop
  | 0, _, _, _ => False
  | n + 1, T_at, x4, x5 => (((nI 80) ≤ x5 → K_111 T_at x4) ∧ (¬ (nI 80) ≤ x5 → wp_X3_nextDigit T_length T_at T_characters (fun r2 => ((r2 = (-5) → K_111 T_at x4) ∧ (¬ r2 = (-5) → wp_X3_nextDigit T_length T_at T_characters (fun r4 => ∀ x6_5, x6_5 = (x4 * (nI 10)) + r4 → ((x4 = 0 → Q (nI 0) T_at T_numbers) ∧ (¬ x4 = 0 → wp_X3_highestOf x2 x3 (fun r7 => ((x6_5 ≤ r7 → ∀ T_at9, T_at9 = T_at + (nI 1) → ∀ x5_10, x5_10 = x5 + (nI 1) → wb_X3_readNumber_46 T_length T_characters T_numbers x2 x3 K_111 Q n T_at9 x6_5 x5_10) ∧ (¬ x6_5 ≤ r7 → Q (nI 0) T_at T_numbers)))))))))))
set_option maxRecDepth 100000 in
set_option maxHeartbeats 4000000 in
theorem blk_X3_readNumber_46 {p : Program} {l : Launch} {e : Env} {s : State} {m : MethodId} {args : Array Value} {below : List Frame} {meth : Method} {c : Code} {D : va_G} {cI cC cR : ClassId} {A : Nat → Prop} {Z : State → Prop} (CX : cx cX3_readNumber (some .boolean) 7 RX3 wsX3_readNumber p m meth c s args D cI cC cR A) (oT oT_characters oT_kinds oT_numbers : Nat) (T_length : Int32) (T_orders : Int32) (T_characters : Nat → Int32) (T_numbers : Nat → Int32) (x1 : Int32) (x2 : Int32) (x3 : Int32) {K_111 : Int32 → Int32 → Prop} {Q : Int32 → Int32 → (Nat → Int32) → Prop} (HR : ∀ (r : Int32) (u0 : Int32) (u1 : Nat → Int32) {H : Heap} {locs : List Loc} {ls : Array Slot} {pc : Nat}, Q r u0 u1 → wd D A s (ww_X3_readNumber cI cC oT oT_characters oT_kinds oT_numbers T_length u0 T_orders T_characters u1) H locs → narrow .boolean (.int r) = .int r → decode cX3_readNumber pc = .ok (.ireturn, 1) → W p l e (headSpec wsX3_readNumber rm_X3_readNumber).room s m args below meth c H locs 0 0 Z (F0 m pc ls [.int r])) (HK_111 : ∀ (T_aty : Int32) (x4y : Int32), K_111 T_aty x4y → ∀ (H : Heap) (locs : List Loc) (ls : Array Slot), wd D A s (ww_X3_readNumber cI cC oT oT_characters oT_kinds oT_numbers T_length T_aty T_orders T_characters T_numbers) H locs → lv_has ls 7 [(0, .ref oT), (1, .int x1), (4, .int x4y)] → W p l e (headSpec wsX3_readNumber rm_X3_readNumber).room s m args below meth c H locs 0 0 Z (F0 m 111 ls [])) : ∀ (n : Nat) (T_at : Int32) (x4 : Int32) (x5 : Int32), wb_X3_readNumber_46 T_length T_characters T_numbers x2 x3 K_111 Q n T_at x4 x5 → ∀ (H : Heap) (locs : List Loc) (ls : Array Slot), wd D A s (ww_X3_readNumber cI cC oT oT_characters oT_kinds oT_numbers T_length T_at T_orders T_characters T_numbers) H locs → lv_has ls 7 [(0, .ref oT), (1, .int x1), (2, .int x2), (3, .int x3), (4, .int x4), (5, .int x5)] → W p l e (headSpec wsX3_readNumber rm_X3_readNumber).room s m args below meth c H locs 0 0 Z (F0 m 46 ls []) := by
  obtain ⟨hx, hb, hr, hml, hts, hown, hlocks, hKw, hA⟩ := id CX
  intro n
  induction n with
  | zero => intro T_at x4 x5 hw; exact False.elim hw
  | succ n ih =>
    intro T_at x4 x5 hw H locs ls hwd hl
    rw [wb_X3_readNumber_46] at hw
    refine lv_iload hx hb dX3_readNumber_46 (lv_at hl 5 rfl) ?_
    refine lv_bipush (v := (nI 80)) hx hb dX3_readNumber_48 rfl ?_
    refine lv_icmp_ge (tgt := 111) hx hb dX3_readNumber_50 (by decide) (fun c1 => ?_) (fun c1 => ?_)
    · replace hw := hw.1 c1
      exact HK_111 T_at x4 hw _ _ _ hwd (lv_sub hl [0, 1, 4] rfl)
    · replace hw := hw.2 c1
      refine lv_aload_n hx hb dX3_readNumber_53 rfl (lv_at hl 0 rfl) ?_
      refine kcVi (W1 := (fun u => (ww_X3_readNumber cI cC oT oT_characters oT_kinds oT_numbers T_length T_at T_orders T_characters T_numbers))) (rest := []) (As := []) ⟨Nat.le_of_ble_eq_true rfl, Nat.le_of_ble_eq_true rfl⟩ ⟨hx, hb, hml, hown, hts⟩ (c_X3_nextDigit l oT oT_characters oT_kinds oT_numbers H.size T_length T_at T_orders T_characters hw) (cwV 0 hts gX3_readNumber_X3_nextDigit rfl rfl rfl ⟨rfl, hd_X3_nextDigit⟩ ⟨Nat.le_of_ble_eq_true rfl, Nat.le_of_ble_eq_true rfl⟩) hKw hA hwd [0, 1] [2] [1, 2, 0] [(oT_numbers, .inl (cI, 36, .inl T_numbers))] rfl rfl rfl rfl (by decide) rfl (fun _ => rfl) 0 3 rfl rfl rfl rfl hl.1 rfl (lv_room (Nat.le_of_ble_eq_true rfl)) dX3_readNumber_54 (fun r2 u H locs hw hwd => ?_)
      try dsimp only at hw
      replace hwd : wd D A s (ww_X3_readNumber cI cC oT oT_characters oT_kinds oT_numbers T_length T_at T_orders T_characters T_numbers) H locs := hwd
      refine lv_bipush (v := (-5)) hx hb dX3_readNumber_57 rfl ?_
      refine lv_icmp_eq (tgt := 111) hx hb dX3_readNumber_59 (by decide) (fun c3 => ?_) (fun c3 => ?_)
      · replace hw := hw.1 c3
        exact HK_111 T_at x4 hw _ _ _ hwd (lv_sub hl [0, 1, 4] rfl)
      · replace hw := hw.2 c3
        refine lv_iload hx hb dX3_readNumber_62 (lv_at hl 4 rfl) ?_
        refine lv_bipush (v := (nI 10)) hx hb dX3_readNumber_64 rfl ?_
        refine lv_imul hx hb dX3_readNumber_66 ?_
        refine lv_aload_n hx hb dX3_readNumber_67 rfl (lv_at hl 0 rfl) ?_
        refine kcVi (W1 := (fun u => (ww_X3_readNumber cI cC oT oT_characters oT_kinds oT_numbers T_length T_at T_orders T_characters T_numbers))) (rest := [.int (x4 * (nI 10))]) (As := []) ⟨Nat.le_of_ble_eq_true rfl, Nat.le_of_ble_eq_true rfl⟩ ⟨hx, hb, hml, hown, hts⟩ (c_X3_nextDigit l oT oT_characters oT_kinds oT_numbers H.size T_length T_at T_orders T_characters hw) (cwV 0 hts gX3_readNumber_X3_nextDigit rfl rfl rfl ⟨rfl, hd_X3_nextDigit⟩ ⟨Nat.le_of_ble_eq_true rfl, Nat.le_of_ble_eq_true rfl⟩) hKw hA hwd [0, 1] [2] [1, 2, 0] [(oT_numbers, .inl (cI, 36, .inl T_numbers))] rfl rfl rfl rfl (by decide) rfl (fun _ => rfl) 0 3 rfl rfl rfl rfl hl.1 rfl (lv_room (Nat.le_of_ble_eq_true rfl)) dX3_readNumber_68 (fun r4 u H locs hw hwd => ?_)
        try dsimp only at hw
        replace hwd : wd D A s (ww_X3_readNumber cI cC oT oT_characters oT_kinds oT_numbers T_length T_at T_orders T_characters T_numbers) H locs := hwd
        refine lv_iadd hx hb dX3_readNumber_71 ?_
        refine lv_topi (fun x6_5 e_x6_5 => ?_)
        replace hw := hw x6_5 e_x6_5
        refine lv_istore (lv' := [(6, .int x6_5), (0, .ref oT), (1, .int x1), (2, .int x2), (3, .int x3), (4, .int x4), (5, .int x5)]) hx hb dX3_readNumber_72 hl (by decide) rfl (fun ls hl => ?_)
        refine lv_iload hx hb dX3_readNumber_74 (lv_at hl 5 rfl) ?_
        refine lv_if_eq (tgt := 89) hx hb dX3_readNumber_76 (by decide) (fun c6 => ?_) (fun c6 => ?_)
        · replace hw := hw.1 c6
          refine lv_iconst (v := (nI 0)) hx hb dX3_readNumber_89 rfl ?_
          exact HR (nI 0) T_at T_numbers hw hwd rfl dX3_readNumber_90
        · replace hw := hw.2 c6
          refine lv_iload hx hb dX3_readNumber_79 (lv_at hl 0 rfl) ?_
          refine lv_iload_n hx hb dX3_readNumber_81 rfl (lv_at hl 3 rfl) ?_
          refine lv_iload_n hx hb dX3_readNumber_82 rfl (lv_at hl 4 rfl) ?_
          refine kcSi (rest := [.int x6_5]) (As := [.int x2, .int x3]) ⟨Nat.le_of_ble_eq_true rfl, Nat.le_of_ble_eq_true rfl⟩ ⟨hx, hb, hml, hown, hts⟩ (c_X3_highestOf l H.size x2 x3 hw) (va_cwS 2 hts gX3_readNumber_X3_highestOf rfl rfl rfl hd_X3_highestOf ⟨Nat.le_of_ble_eq_true rfl, Nat.le_of_ble_eq_true rfl⟩) hKw hA hwd rfl hl.1 rfl (lv_room (Nat.le_of_ble_eq_true rfl)) dX3_readNumber_83 (fun r7 H locs hw hwd => ?_)
          try dsimp only at hw
          refine lv_icmp_le (tgt := 91) hx hb dX3_readNumber_86 (by decide) (fun c8 => ?_) (fun c8 => ?_)
          · replace hw := hw.1 c8
            refine lv_iload hx hb dX3_readNumber_91 (lv_at hl 0 rfl) ?_
            refine lv_istore (lv' := [(4, .int x6_5), (6, .int x6_5), (0, .ref oT), (1, .int x1), (2, .int x2), (3, .int x3), (5, .int x5)]) hx hb dX3_readNumber_93 hl (by decide) rfl (fun ls hl => ?_)
            refine lv_aload_n hx hb dX3_readNumber_95 rfl (lv_at hl 2 rfl) ?_
            refine lv_dup hx hb dX3_readNumber_96 rfl ?_
            refine va_get (D := D) (ci := 3) (v := .int T_at) (C := RX3) (T := TX3) (N := 6) hx hb hts ic_X3_readNumber_X3 hown hKw.1 hwd.1 0 rfl rfl 2 (by decide) (hts (.fieldLink RX3 33 "DrillWardens$OrderText" "at" "I") (List.mem_of_getElem? (i := 1) rfl)) (fun _ h9 => h9) rfl dX3_readNumber_97 ?_
            refine lv_iconst (v := (nI 1)) hx hb dX3_readNumber_100 rfl ?_
            refine lv_iadd hx hb dX3_readNumber_101 ?_
            refine lv_topi (fun T_at9 e_T_at9 => ?_)
            replace hw := hw T_at9 e_T_at9
            refine va_put (D := D) (ci := 3) (v := .int T_at9) (ty := .int) (C := RX3) (T := TX3) (N := 6) hx hb hts ic_X3_readNumber_X3 tyX3 tyX3_ok nmX3 hown hKw.1 hwd.1 hwd.2.1 hwd.2.2 0 rfl rfl 2 (by decide) (hts (.fieldLink RX3 33 "DrillWardens$OrderText" "at" "I") (List.mem_of_getElem? (i := 1) rfl)) (fun _ h9 => h9) rfl (tyX3_ok 2 (by decide)) rfl rfl (Nat.le_of_ble_eq_true rfl) dX3_readNumber_102 (fun H locs h1 h2 h3 => ?_)
            replace hwd : wd D A s (ww_X3_readNumber cI cC oT oT_characters oT_kinds oT_numbers T_length T_at9 T_orders T_characters T_numbers) H locs := ⟨h1, h2, h3⟩
            clear h1 h2 h3
            obtain ⟨x5_10, e_x5_10⟩ : ∃ y : Int32, y = x5 + (nI 1) := ⟨_, rfl⟩
            replace hw := hw x5_10 e_x5_10
            refine lv_iinc (v := x5_10) (lv' := [(5, .int x5_10), (4, .int x6_5), (6, .int x6_5), (0, .ref oT), (1, .int x1), (2, .int x2), (3, .int x3)]) hx hb dX3_readNumber_105 hl (k := 6) rfl (by rw [e_x5_10]; rfl) (by decide) rfl (fun ls hl => ?_)
            refine lv_goto (tgt := 46) hx hb dX3_readNumber_108 (by decide) ?_
            exact ih T_at9 x6_5 x5_10 hw _ _ _ hwd (lv_sub hl [3, 4, 5, 6, 1, 0] rfl)
          · replace hw := hw.2 c8
            refine lv_iconst (v := (nI 0)) hx hb dX3_readNumber_89 rfl ?_
            exact HR (nI 0) T_at T_numbers hw hwd rfl dX3_readNumber_90
def wp_X3_readNumber (T_length : Int32) (T_at : Int32) (T_characters : Nat → Int32) (T_numbers : Nat → Int32) (x1 : Int32) (x2 : Int32) (x3 : Int32) (Q : Int32 → Int32 → (Nat → Int32) → Prop) : Prop := wp_X3_nextDigit T_length T_at T_characters (fun r1 => ((r1 = (-5) → Q (nI 0) T_at T_numbers) ∧ (¬ r1 = (-5) → wp_X3_lowestOf x2 x3 (fun r3 => wp_X3_highestOf x2 x3 (fun r4 => wp_X6_isWithin r1 r3 r4 (fun r5 => ((¬ r5 = 0 → ∀ T_at7, T_at7 = T_at + (nI 1) → (∃ n8, wb_X3_readNumber_46 T_length T_characters T_numbers x2 x3 (fun T_at9 x4_10 => vp_in x1 36 ∧ ∀ T_numbers11, T_numbers11 = upd T_numbers x1.toNatClampNeg x4_10 → Q (nI 1) T_at9 T_numbers11) Q n8 T_at7 r1 (nI 0))) ∧ (r5 = 0 → Q (nI 0) T_at T_numbers))))))))
set_option maxRecDepth 100000 in
set_option maxHeartbeats 4000000 in
theorem c_X3_readNumber (l : Launch) {D : va_G} {cI cC cR : ClassId} (oT oT_characters oT_kinds oT_numbers : Nat) (sz : Nat) (T_length : Int32) (T_at : Int32) (T_orders : Int32) (T_characters : Nat → Int32) (T_numbers : Nat → Int32) (x1 : Int32) (x2 : Int32) (x3 : Int32) {Q : Int32 → Int32 → (Nat → Int32) → Prop} (hw : wp_X3_readNumber T_length T_at T_characters T_numbers x1 x2 x3 Q) : Met l yX3_readNumber wsX3_readNumber rm_X3_readNumber (PcW D cI cC cR [.ref oT, .int x1, .int x2, .int x3] (ww_X3_readNumber cI cC oT oT_characters oT_kinds oT_numbers T_length T_at T_orders T_characters T_numbers) sz) (QiW D (fun (r : Int32) (u : Int32 × (Nat → Int32)) => Q r u.1 u.2) (fun u => (ww_X3_readNumber cI cC oT oT_characters oT_kinds oT_numbers T_length (u.1) T_orders T_characters (u.2))) (ww_X3_readNumber cI cC oT oT_characters oT_kinds oT_numbers T_length T_at T_orders T_characters T_numbers) sz) 0 0 (va_A (ww_X3_readNumber cI cC oT oT_characters oT_kinds oT_numbers T_length T_at T_orders T_characters T_numbers) sz) := by
  refine Met.ofW (cc := cX3_readNumber) (maxL := 7) (ret := (some .boolean)) (by decide) rfl ?_
  intro p e s m args below meth c s₁ B hml hv
  obtain ⟨rfl, hsz, hP, hKw, hD0⟩ := hv
  have hlocks := B.notSynchronized
  subst hsz
  have hD := hD0.self (sz := s.heap.size)
  have CX : cx cX3_readNumber (some .boolean) 7 RX3 wsX3_readNumber p m meth c s ([.ref oT, .int x1, .int x2, .int x3] : List Value).toArray D cI cC cR (va_A (ww_X3_readNumber cI cC oT oT_characters oT_kinds oT_numbers T_length T_at T_orders T_characters T_numbers) s.heap.size) := ⟨B.exec, B.bytes, B.returns, hml, atoms_spec (ws := wsX3_readNumber) B.pre, findClass_of_methodNamed B.named, hlocks, hKw, fun q h => Or.inr h⟩
  obtain ⟨hx, hb, hr, -, hts, hown, -, -, hA⟩ := id CX
  have hwd : wd D (va_A (ww_X3_readNumber cI cC oT oT_characters oT_kinds oT_numbers T_length T_at T_orders T_characters T_numbers) s.heap.size) s (ww_X3_readNumber cI cC oT oT_characters oT_kinds oT_numbers T_length T_at T_orders T_characters T_numbers) s.heap [] := ⟨hP, hD, va_S.rf⟩
  have hl := lv_entry ([.ref oT, .int x1, .int x2, .int x3]) (n := 7) (Nat.le_of_ble_eq_true rfl)
  rw [lg_entry_eq]
  generalize (lg_sl ([.ref oT, .int x1, .int x2, .int x3]) ++ List.replicate (7 - (lg_sl ([.ref oT, .int x1, .int x2, .int x3])).length) Slot.unset).toArray = ls at hl ⊢
  have hl : lv_has ls 7 [(0, .ref oT), (1, .int x1), (2, .int x2), (3, .int x3)] := hl
  have HR : ∀ (r : Int32) (u0 : Int32) (u1 : Nat → Int32) {H : Heap} {locs : List Loc} {ls : Array Slot} {pc : Nat}, Q r u0 u1 → wd D (va_A (ww_X3_readNumber cI cC oT oT_characters oT_kinds oT_numbers T_length T_at T_orders T_characters T_numbers) s.heap.size) s (ww_X3_readNumber cI cC oT oT_characters oT_kinds oT_numbers T_length u0 T_orders T_characters u1) H locs → narrow .boolean (.int r) = .int r → decode cX3_readNumber pc = .ok (.ireturn, 1) → W p l e (headSpec wsX3_readNumber rm_X3_readNumber).room s m ([.ref oT, .int x1, .int x2, .int x3] : List Value).toArray below meth c H locs 0 0 (MQ below (QiW D (fun (r : Int32) (u : Int32 × (Nat → Int32)) => Q r u.1 u.2) (fun u => (ww_X3_readNumber cI cC oT oT_characters oT_kinds oT_numbers T_length (u.1) T_orders T_characters (u.2))) (ww_X3_readNumber cI cC oT oT_characters oT_kinds oT_numbers T_length T_at T_orders T_characters T_numbers) s.heap.size) ([.ref oT, .int x1, .int x2, .int x3] : List Value).toArray s 0 0 (va_A (ww_X3_readNumber cI cC oT oT_characters oT_kinds oT_numbers T_length T_at T_orders T_characters T_numbers) s.heap.size)) (F0 m pc ls [.int r]) := by
    intro r u0 u1 H locs ls pc hq hw9 hn9 hd9
    exact W.zret (v := r) hx hb hr hn9 (fun t ht hW => ⟨⟨r, (u0, u1), rfl, hq, by rw [ht]; exact hw9.1, hw9.2.1⟩, hw9.2.2.F ht⟩) hw9.2.2.2.2 hd9
  unfold wp_X3_readNumber at hw
  refine lv_aload_n hx hb dX3_readNumber_0 rfl (lv_at hl 0 rfl) ?_
  refine kcVi (W1 := (fun u => (ww_X3_readNumber cI cC oT oT_characters oT_kinds oT_numbers T_length T_at T_orders T_characters T_numbers))) (rest := []) (As := []) ⟨Nat.le_of_ble_eq_true rfl, Nat.le_of_ble_eq_true rfl⟩ ⟨hx, hb, hml, hown, hts⟩ (c_X3_nextDigit l oT oT_characters oT_kinds oT_numbers s.heap.size T_length T_at T_orders T_characters hw) (cwV 0 hts gX3_readNumber_X3_nextDigit rfl rfl rfl ⟨rfl, hd_X3_nextDigit⟩ ⟨Nat.le_of_ble_eq_true rfl, Nat.le_of_ble_eq_true rfl⟩) hKw hA hwd [0, 1] [2] [1, 2, 0] [(oT_numbers, .inl (cI, 36, .inl T_numbers))] rfl rfl rfl rfl (by decide) rfl (fun _ => rfl) 0 3 rfl rfl rfl rfl hl.1 rfl (lv_room (Nat.le_of_ble_eq_true rfl)) dX3_readNumber_1 (fun r1 u H locs hw hwd => ?_)
  try dsimp only at hw
  replace hwd : wd D (va_A (ww_X3_readNumber cI cC oT oT_characters oT_kinds oT_numbers T_length T_at T_orders T_characters T_numbers) s.heap.size) s (ww_X3_readNumber cI cC oT oT_characters oT_kinds oT_numbers T_length T_at T_orders T_characters T_numbers) H locs := hwd
  refine lv_istore (lv' := [(4, .int r1), (0, .ref oT), (1, .int x1), (2, .int x2), (3, .int x3)]) hx hb dX3_readNumber_4 hl (by decide) rfl (fun ls hl => ?_)
  refine lv_iload hx hb dX3_readNumber_6 (lv_at hl 0 rfl) ?_
  refine lv_bipush (v := (-5)) hx hb dX3_readNumber_8 rfl ?_
  refine lv_icmp_eq (tgt := 31) hx hb dX3_readNumber_10 (by decide) (fun c2 => ?_) (fun c2 => ?_)
  · replace hw := hw.1 c2
    refine lv_iconst (v := (nI 0)) hx hb dX3_readNumber_31 rfl ?_
    exact HR (nI 0) T_at T_numbers hw hwd rfl dX3_readNumber_32
  · replace hw := hw.2 c2
    refine lv_iload hx hb dX3_readNumber_13 (lv_at hl 0 rfl) ?_
    refine lv_iload_n hx hb dX3_readNumber_15 rfl (lv_at hl 3 rfl) ?_
    refine lv_iload_n hx hb dX3_readNumber_16 rfl (lv_at hl 4 rfl) ?_
    refine kcSi (rest := [.int r1]) (As := [.int x2, .int x3]) ⟨Nat.le_of_ble_eq_true rfl, Nat.le_of_ble_eq_true rfl⟩ ⟨hx, hb, hml, hown, hts⟩ (c_X3_lowestOf l H.size x2 x3 hw) (va_cwS 2 hts gX3_readNumber_X3_lowestOf rfl rfl rfl hd_X3_lowestOf ⟨Nat.le_of_ble_eq_true rfl, Nat.le_of_ble_eq_true rfl⟩) hKw hA hwd rfl hl.1 rfl (lv_room (Nat.le_of_ble_eq_true rfl)) dX3_readNumber_17 (fun r3 H locs hw hwd => ?_)
    try dsimp only at hw
    refine lv_iload_n hx hb dX3_readNumber_20 rfl (lv_at hl 3 rfl) ?_
    refine lv_iload_n hx hb dX3_readNumber_21 rfl (lv_at hl 4 rfl) ?_
    refine kcSi (rest := [.int r3, .int r1]) (As := [.int x2, .int x3]) ⟨Nat.le_of_ble_eq_true rfl, Nat.le_of_ble_eq_true rfl⟩ ⟨hx, hb, hml, hown, hts⟩ (c_X3_highestOf l H.size x2 x3 hw) (va_cwS 2 hts gX3_readNumber_X3_highestOf rfl rfl rfl hd_X3_highestOf ⟨Nat.le_of_ble_eq_true rfl, Nat.le_of_ble_eq_true rfl⟩) hKw hA hwd rfl hl.1 rfl (lv_room (Nat.le_of_ble_eq_true rfl)) dX3_readNumber_22 (fun r4 H locs hw hwd => ?_)
    try dsimp only at hw
    refine kcNi (rest := []) (As := [.int r1, .int r3, .int r4]) ⟨Nat.le_of_ble_eq_true rfl, Nat.le_of_ble_eq_true rfl⟩ ⟨hx, hb, hml, hown, hts⟩ (c_X6_isWithin l H.size r1 r3 r4 hw) ⟨va_cnB 3 hts gX3_readNumber_X6_isWithin_n26 rfl rfl rfl (nwm_11 hKw.2) (hts (.initialized RX6) (List.mem_of_getElem? (i := 15) rfl)) hd_X6_isWithin ⟨Nat.le_of_ble_eq_true rfl, Nat.le_of_ble_eq_true rfl⟩, hts (.static yX6_isWithin) (List.mem_of_getElem? (i := 14) rfl), trivial⟩ hKw hA hwd rfl hl.1 rfl (lv_room (Nat.le_of_ble_eq_true rfl)) dX3_readNumber_25 (fun r5 H locs hw hwd => ?_)
    try dsimp only at hw
    refine lv_if_ne (tgt := 33) hx hb dX3_readNumber_28 (by decide) (fun c6 => ?_) (fun c6 => ?_)
    · replace hw := hw.1 c6
      refine lv_aload_n hx hb dX3_readNumber_33 rfl (lv_at hl 1 rfl) ?_
      refine lv_dup hx hb dX3_readNumber_34 rfl ?_
      refine va_get (D := D) (ci := 3) (v := .int T_at) (C := RX3) (T := TX3) (N := 6) hx hb hts ic_X3_readNumber_X3 hown hKw.1 hwd.1 0 rfl rfl 2 (by decide) (hts (.fieldLink RX3 33 "DrillWardens$OrderText" "at" "I") (List.mem_of_getElem? (i := 1) rfl)) (fun _ h9 => h9) rfl dX3_readNumber_35 ?_
      refine lv_iconst (v := (nI 1)) hx hb dX3_readNumber_38 rfl ?_
      refine lv_iadd hx hb dX3_readNumber_39 ?_
      refine lv_topi (fun T_at7 e_T_at7 => ?_)
      replace hw := hw T_at7 e_T_at7
      refine va_put (D := D) (ci := 3) (v := .int T_at7) (ty := .int) (C := RX3) (T := TX3) (N := 6) hx hb hts ic_X3_readNumber_X3 tyX3 tyX3_ok nmX3 hown hKw.1 hwd.1 hwd.2.1 hwd.2.2 0 rfl rfl 2 (by decide) (hts (.fieldLink RX3 33 "DrillWardens$OrderText" "at" "I") (List.mem_of_getElem? (i := 1) rfl)) (fun _ h9 => h9) rfl (tyX3_ok 2 (by decide)) rfl rfl (Nat.le_of_ble_eq_true rfl) dX3_readNumber_40 (fun H locs h1 h2 h3 => ?_)
      replace hwd : wd D (va_A (ww_X3_readNumber cI cC oT oT_characters oT_kinds oT_numbers T_length T_at T_orders T_characters T_numbers) s.heap.size) s (ww_X3_readNumber cI cC oT oT_characters oT_kinds oT_numbers T_length T_at7 T_orders T_characters T_numbers) H locs := ⟨h1, h2, h3⟩
      clear h1 h2 h3
      refine lv_iconst (v := (nI 0)) hx hb dX3_readNumber_43 rfl ?_
      refine lv_istore (lv' := [(5, .int (nI 0)), (4, .int r1), (0, .ref oT), (1, .int x1), (2, .int x2), (3, .int x3)]) hx hb dX3_readNumber_44 hl (by decide) rfl (fun ls hl => ?_)
      obtain ⟨n8, hw⟩ := hw
      refine blk_X3_readNumber_46 (CX := CX) (oT := oT) (oT_characters := oT_characters) (oT_kinds := oT_kinds) (oT_numbers := oT_numbers) (T_length := T_length) (T_orders := T_orders) (T_characters := T_characters) (T_numbers := T_numbers) (x1 := x1) (x2 := x2) (x3 := x3) (HR := HR) (HK_111 := fun T_at9 x4_10 hw H locs ls hwd hl => ?_) n8 T_at7 r1 (nI 0) hw _ _ _ hwd (lv_sub hl [2, 3, 4, 5, 1, 0] rfl)
      try dsimp only at hw
      refine lv_aload_n hx hb dX3_readNumber_111 rfl (lv_at hl 0 rfl) ?_
      refine va_get (D := D) (ci := 3) (v := .ref oT_numbers) (C := RX3) (T := TX3) (N := 6) hx hb hts ic_X3_readNumber_X3 hown hKw.1 hwd.1 0 rfl rfl 5 (by decide) (hts (.fieldLink RX3 19 "DrillWardens$OrderText" "numbers" "[I") (List.mem_of_getElem? (i := 2) rfl)) (fun _ h9 => h9) rfl dX3_readNumber_112 ?_
      refine lv_iload_n hx hb dX3_readNumber_115 rfl (lv_at hl 1 rfl) ?_
      refine lv_iload hx hb dX3_readNumber_116 (lv_at hl 2 rfl) ?_
      obtain ⟨T_numbers11, e_T_numbers11⟩ : ∃ y : Nat → Int32, y = upd T_numbers x1.toNatClampNeg x4_10 := ⟨_, rfl⟩
      refine va_iast hx hb hKw.1 hwd.1 hwd.2.1 hwd.2.2 2 0 rfl rfl hw.1 dX3_readNumber_118 (fun H locs h1 h2 h3 => ?_)
      replace hw := hw.2 T_numbers11 e_T_numbers11
      rw [← e_T_numbers11] at h1 h2
      replace hwd : wd D (va_A (ww_X3_readNumber cI cC oT oT_characters oT_kinds oT_numbers T_length T_at T_orders T_characters T_numbers) s.heap.size) s (ww_X3_readNumber cI cC oT oT_characters oT_kinds oT_numbers T_length T_at9 T_orders T_characters T_numbers11) H locs := ⟨h1, h2, h3⟩
      clear h1 h2 h3
      refine lv_iconst (v := (nI 1)) hx hb dX3_readNumber_119 rfl ?_
      exact HR (nI 1) T_at9 T_numbers11 hw hwd rfl dX3_readNumber_120
    · replace hw := hw.2 c6
      refine lv_iconst (v := (nI 0)) hx hb dX3_readNumber_31 rfl ?_
      exact HR (nI 0) T_at T_numbers hw hwd rfl dX3_readNumber_32
