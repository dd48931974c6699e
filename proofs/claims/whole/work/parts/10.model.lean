abbrev rm_X7_in : Room := { frames := 0, cells := 0, slots := 0, locals := 0 }
def wp_X7_in  (x0 : Int32) (x1 : Int32) (x2 : Int32) (Q : Int32 → Prop) : Prop := ((x0 < x1 → Q (nI 0)) ∧ (¬ x0 < x1 → ((x2 < x0 → Q (nI 0)) ∧ (¬ x2 < x0 → Q (nI 1)))))
set_option maxRecDepth 100000 in
set_option maxHeartbeats 4000000 in
theorem c_X7_in (l : Launch) {D : va_G} {cI cC cR : ClassId} (sz : Nat) (x0 : Int32) (x1 : Int32) (x2 : Int32) {Q : Int32 → Prop} (hw : wp_X7_in x0 x1 x2 Q) : Met l yX7_in wsX7_in rm_X7_in (PcW D cI cC cR [.int x0, .int x1, .int x2] [] sz) (QiW D (fun (r : Int32) (u : Unit) => Q r ) (fun _ => []) [] sz) 0 0 (va_A [] sz) := by
  refine Met.ofW (cc := cX7_in) (maxL := 3) (ret := (some .boolean)) (by decide) rfl ?_
  intro p e s m args below meth c s₁ B hml hv
  obtain ⟨rfl, hsz, hP, hKw, hD0⟩ := hv
  have hlocks := B.notSynchronized
  subst hsz
  have hD := hD0.self (sz := s.heap.size)
  have CX : cx cX7_in (some .boolean) 3 RX7 wsX7_in p m meth c s ([.int x0, .int x1, .int x2] : List Value).toArray D cI cC cR (va_A [] s.heap.size) := ⟨B.exec, B.bytes, B.returns, hml, atoms_spec (ws := wsX7_in) B.pre, findClass_of_methodNamed B.named, hlocks, hKw, fun q h => Or.inr h⟩
  obtain ⟨hx, hb, hr, -, hts, hown, -, -, hA⟩ := id CX
  have hwd : wd D (va_A [] s.heap.size) s [] s.heap [] := ⟨hP, hD, va_S.rf⟩
  have hl := lv_entry ([.int x0, .int x1, .int x2]) (n := 3) (Nat.le_of_ble_eq_true rfl)
  rw [lg_entry_eq]
  generalize (lg_sl ([.int x0, .int x1, .int x2]) ++ List.replicate (3 - (lg_sl ([.int x0, .int x1, .int x2])).length) Slot.unset).toArray = ls at hl ⊢
  have hl : lv_has ls 3 [(0, .int x0), (1, .int x1), (2, .int x2)] := hl
  have HR : ∀ (r : Int32) {H : Heap} {locs : List Loc} {ls : Array Slot} {pc : Nat}, Q r → wd D (va_A [] s.heap.size) s [] H locs → narrow .boolean (.int r) = .int r → decode cX7_in pc = .ok (.ireturn, 1) → W p l e (headSpec wsX7_in rm_X7_in).room s m ([.int x0, .int x1, .int x2] : List Value).toArray below meth c H locs 0 0 (MQ below (QiW D (fun (r : Int32) (u : Unit) => Q r ) (fun _ => []) [] s.heap.size) ([.int x0, .int x1, .int x2] : List Value).toArray s 0 0 (va_A [] s.heap.size)) (F0 m pc ls [.int r]) := by
    intro r H locs ls pc hq hw9 hn9 hd9
    exact W.zret (v := r) hx hb hr hn9 (fun t ht hW => ⟨⟨r, (), rfl, hq, by rw [ht]; exact hw9.1, hw9.2.1⟩, hw9.2.2.F ht⟩) hw9.2.2.2.2 hd9
  unfold wp_X7_in at hw
  refine lv_iload_n hx hb dX7_in_0 rfl (lv_at hl 0 rfl) ?_
  refine lv_iload_n hx hb dX7_in_1 rfl (lv_at hl 1 rfl) ?_
  refine lv_icmp_lt (tgt := 14) hx hb dX7_in_2 (by decide) (fun c1 => ?_) (fun c1 => ?_)
  · replace hw := hw.1 c1
    refine lv_iconst (v := (nI 0)) hx hb dX7_in_14 rfl ?_
    exact HR (nI 0) hw hwd rfl dX7_in_15
  · replace hw := hw.2 c1
    refine lv_iload_n hx hb dX7_in_5 rfl (lv_at hl 0 rfl) ?_
    refine lv_iload_n hx hb dX7_in_6 rfl (lv_at hl 2 rfl) ?_
    refine lv_icmp_gt (tgt := 14) hx hb dX7_in_7 (by decide) (fun c2 => ?_) (fun c2 => ?_)
    · replace hw := hw.1 c2
      refine lv_iconst (v := (nI 0)) hx hb dX7_in_14 rfl ?_
      exact HR (nI 0) hw hwd rfl dX7_in_15
    · replace hw := hw.2 c2
      refine lv_iconst (v := (nI 1)) hx hb dX7_in_10 rfl ?_
      refine lv_goto (tgt := 15) hx hb dX7_in_11 (by decide) ?_
      exact HR (nI 1) hw hwd rfl dX7_in_15
abbrev rm_X7_isFloor : Room := { frames := 1, cells := 0, slots := 0, locals := 22 }
def wp_X7_isFloor  (x0 : Int32) (Q : Int32 → Prop) : Prop := wp_X7_in x0 (nI 0) (nI 9) (fun r1 => (narrow .boolean (.int r1) = .int r1 ∧ Q r1))
set_option maxRecDepth 100000 in
set_option maxHeartbeats 4000000 in
theorem c_X7_isFloor (l : Launch) {D : va_G} {cI cC cR : ClassId} (sz : Nat) (x0 : Int32) {Q : Int32 → Prop} (hw : wp_X7_isFloor x0 Q) : Met l yX7_isFloor wsX7_isFloor rm_X7_isFloor (PcW D cI cC cR [.int x0] [] sz) (QiW D (fun (r : Int32) (u : Unit) => Q r ) (fun _ => []) [] sz) 0 0 (va_A [] sz) := by
  refine Met.ofW (cc := cX7_isFloor) (maxL := 1) (ret := (some .boolean)) (by decide) rfl ?_
  intro p e s m args below meth c s₁ B hml hv
  obtain ⟨rfl, hsz, hP, hKw, hD0⟩ := hv
  have hlocks := B.notSynchronized
  subst hsz
  have hD := hD0.self (sz := s.heap.size)
  have CX : cx cX7_isFloor (some .boolean) 1 RX7 wsX7_isFloor p m meth c s ([.int x0] : List Value).toArray D cI cC cR (va_A [] s.heap.size) := ⟨B.exec, B.bytes, B.returns, hml, atoms_spec (ws := wsX7_isFloor) B.pre, findClass_of_methodNamed B.named, hlocks, hKw, fun q h => Or.inr h⟩
  obtain ⟨hx, hb, hr, -, hts, hown, -, -, hA⟩ := id CX
  have hwd : wd D (va_A [] s.heap.size) s [] s.heap [] := ⟨hP, hD, va_S.rf⟩
  have hl := lv_entry ([.int x0]) (n := 1) (Nat.le_of_ble_eq_true rfl)
  rw [lg_entry_eq]
  generalize (lg_sl ([.int x0]) ++ List.replicate (1 - (lg_sl ([.int x0])).length) Slot.unset).toArray = ls at hl ⊢
  have hl : lv_has ls 1 [(0, .int x0)] := hl
  have HR : ∀ (r : Int32) {H : Heap} {locs : List Loc} {ls : Array Slot} {pc : Nat}, Q r → wd D (va_A [] s.heap.size) s [] H locs → narrow .boolean (.int r) = .int r → decode cX7_isFloor pc = .ok (.ireturn, 1) → W p l e (headSpec wsX7_isFloor rm_X7_isFloor).room s m ([.int x0] : List Value).toArray below meth c H locs 0 0 (MQ below (QiW D (fun (r : Int32) (u : Unit) => Q r ) (fun _ => []) [] s.heap.size) ([.int x0] : List Value).toArray s 0 0 (va_A [] s.heap.size)) (F0 m pc ls [.int r]) := by
    intro r H locs ls pc hq hw9 hn9 hd9
    exact W.zret (v := r) hx hb hr hn9 (fun t ht hW => ⟨⟨r, (), rfl, hq, by rw [ht]; exact hw9.1, hw9.2.1⟩, hw9.2.2.F ht⟩) hw9.2.2.2.2 hd9
  unfold wp_X7_isFloor at hw
  refine lv_iload_n hx hb dX7_isFloor_0 rfl (lv_at hl 0 rfl) ?_
  refine lv_iconst (v := (nI 0)) hx hb dX7_isFloor_1 rfl ?_
  refine lv_bipush (v := (nI 9)) hx hb dX7_isFloor_2 rfl ?_
  refine kcSi (rest := []) (As := [.int x0, .int (nI 0), .int (nI 9)]) ⟨Nat.le_of_ble_eq_true rfl, Nat.le_of_ble_eq_true rfl⟩ ⟨hx, hb, hml, hown, hts⟩ (c_X7_in l s.heap.size x0 (nI 0) (nI 9) hw) (va_cwS 3 hts gX7_isFloor_X7_in rfl rfl rfl hd_X7_in ⟨Nat.le_of_ble_eq_true rfl, Nat.le_of_ble_eq_true rfl⟩) hKw hA hwd rfl hl.1 rfl (lv_room (Nat.le_of_ble_eq_true rfl)) dX7_isFloor_4 (fun r1 H locs hw hwd => ?_)
  try dsimp only at hw
  exact HR r1 hw.2 hwd hw.1 dX7_isFloor_7
abbrev rm_X7_isPerson : Room := { frames := 1, cells := 0, slots := 0, locals := 22 }
def wp_X7_isPerson  (x0 : Int32) (Q : Int32 → Prop) : Prop := wp_X7_in x0 (nI 0) (nI 15) (fun r1 => (narrow .boolean (.int r1) = .int r1 ∧ Q r1))
set_option maxRecDepth 100000 in
set_option maxHeartbeats 4000000 in
theorem c_X7_isPerson (l : Launch) {D : va_G} {cI cC cR : ClassId} (sz : Nat) (x0 : Int32) {Q : Int32 → Prop} (hw : wp_X7_isPerson x0 Q) : Met l yX7_isPerson wsX7_isPerson rm_X7_isPerson (PcW D cI cC cR [.int x0] [] sz) (QiW D (fun (r : Int32) (u : Unit) => Q r ) (fun _ => []) [] sz) 0 0 (va_A [] sz) := by
  refine Met.ofW (cc := cX7_isPerson) (maxL := 1) (ret := (some .boolean)) (by decide) rfl ?_
  intro p e s m args below meth c s₁ B hml hv
  obtain ⟨rfl, hsz, hP, hKw, hD0⟩ := hv
  have hlocks := B.notSynchronized
  subst hsz
  have hD := hD0.self (sz := s.heap.size)
  have CX : cx cX7_isPerson (some .boolean) 1 RX7 wsX7_isPerson p m meth c s ([.int x0] : List Value).toArray D cI cC cR (va_A [] s.heap.size) := ⟨B.exec, B.bytes, B.returns, hml, atoms_spec (ws := wsX7_isPerson) B.pre, findClass_of_methodNamed B.named, hlocks, hKw, fun q h => Or.inr h⟩
  obtain ⟨hx, hb, hr, -, hts, hown, -, -, hA⟩ := id CX
  have hwd : wd D (va_A [] s.heap.size) s [] s.heap [] := ⟨hP, hD, va_S.rf⟩
  have hl := lv_entry ([.int x0]) (n := 1) (Nat.le_of_ble_eq_true rfl)
  rw [lg_entry_eq]
  generalize (lg_sl ([.int x0]) ++ List.replicate (1 - (lg_sl ([.int x0])).length) Slot.unset).toArray = ls at hl ⊢
  have hl : lv_has ls 1 [(0, .int x0)] := hl
  have HR : ∀ (r : Int32) {H : Heap} {locs : List Loc} {ls : Array Slot} {pc : Nat}, Q r → wd D (va_A [] s.heap.size) s [] H locs → narrow .boolean (.int r) = .int r → decode cX7_isPerson pc = .ok (.ireturn, 1) → W p l e (headSpec wsX7_isPerson rm_X7_isPerson).room s m ([.int x0] : List Value).toArray below meth c H locs 0 0 (MQ below (QiW D (fun (r : Int32) (u : Unit) => Q r ) (fun _ => []) [] s.heap.size) ([.int x0] : List Value).toArray s 0 0 (va_A [] s.heap.size)) (F0 m pc ls [.int r]) := by
    intro r H locs ls pc hq hw9 hn9 hd9
    exact W.zret (v := r) hx hb hr hn9 (fun t ht hW => ⟨⟨r, (), rfl, hq, by rw [ht]; exact hw9.1, hw9.2.1⟩, hw9.2.2.F ht⟩) hw9.2.2.2.2 hd9
  unfold wp_X7_isPerson at hw
  refine lv_iload_n hx hb dX7_isPerson_0 rfl (lv_at hl 0 rfl) ?_
  refine lv_iconst (v := (nI 0)) hx hb dX7_isPerson_1 rfl ?_
  refine lv_bipush (v := (nI 15)) hx hb dX7_isPerson_2 rfl ?_
  refine kcSi (rest := []) (As := [.int x0, .int (nI 0), .int (nI 15)]) ⟨Nat.le_of_ble_eq_true rfl, Nat.le_of_ble_eq_true rfl⟩ ⟨hx, hb, hml, hown, hts⟩ (c_X7_in l s.heap.size x0 (nI 0) (nI 15) hw) (va_cwS 3 hts gX7_isPerson_X7_in rfl rfl rfl hd_X7_in ⟨Nat.le_of_ble_eq_true rfl, Nat.le_of_ble_eq_true rfl⟩) hKw hA hwd rfl hl.1 rfl (lv_room (Nat.le_of_ble_eq_true rfl)) dX7_isPerson_4 (fun r1 H locs hw hwd => ?_)
  try dsimp only at hw
  exact HR r1 hw.2 hwd hw.1 dX7_isPerson_7
abbrev rm_X7_isDay : Room := { frames := 1, cells := 0, slots := 0, locals := 22 }
def wp_X7_isDay  (x0 : Int32) (Q : Int32 → Prop) : Prop := wp_X7_in x0 (nI 0) (nI 399) (fun r1 => (narrow .boolean (.int r1) = .int r1 ∧ Q r1))
set_option maxRecDepth 100000 in
set_option maxHeartbeats 4000000 in
theorem c_X7_isDay (l : Launch) {D : va_G} {cI cC cR : ClassId} (sz : Nat) (x0 : Int32) {Q : Int32 → Prop} (hw : wp_X7_isDay x0 Q) : Met l yX7_isDay wsX7_isDay rm_X7_isDay (PcW D cI cC cR [.int x0] [] sz) (QiW D (fun (r : Int32) (u : Unit) => Q r ) (fun _ => []) [] sz) 0 0 (va_A [] sz) := by
  refine Met.ofW (cc := cX7_isDay) (maxL := 1) (ret := (some .boolean)) (by decide) rfl ?_
  intro p e s m args below meth c s₁ B hml hv
  obtain ⟨rfl, hsz, hP, hKw, hD0⟩ := hv
  have hlocks := B.notSynchronized
  subst hsz
  have hD := hD0.self (sz := s.heap.size)
  have CX : cx cX7_isDay (some .boolean) 1 RX7 wsX7_isDay p m meth c s ([.int x0] : List Value).toArray D cI cC cR (va_A [] s.heap.size) := ⟨B.exec, B.bytes, B.returns, hml, atoms_spec (ws := wsX7_isDay) B.pre, findClass_of_methodNamed B.named, hlocks, hKw, fun q h => Or.inr h⟩
  obtain ⟨hx, hb, hr, -, hts, hown, -, -, hA⟩ := id CX
  have hwd : wd D (va_A [] s.heap.size) s [] s.heap [] := ⟨hP, hD, va_S.rf⟩
  have hl := lv_entry ([.int x0]) (n := 1) (Nat.le_of_ble_eq_true rfl)
  rw [lg_entry_eq]
  generalize (lg_sl ([.int x0]) ++ List.replicate (1 - (lg_sl ([.int x0])).length) Slot.unset).toArray = ls at hl ⊢
  have hl : lv_has ls 1 [(0, .int x0)] := hl
  have HR : ∀ (r : Int32) {H : Heap} {locs : List Loc} {ls : Array Slot} {pc : Nat}, Q r → wd D (va_A [] s.heap.size) s [] H locs → narrow .boolean (.int r) = .int r → decode cX7_isDay pc = .ok (.ireturn, 1) → W p l e (headSpec wsX7_isDay rm_X7_isDay).room s m ([.int x0] : List Value).toArray below meth c H locs 0 0 (MQ below (QiW D (fun (r : Int32) (u : Unit) => Q r ) (fun _ => []) [] s.heap.size) ([.int x0] : List Value).toArray s 0 0 (va_A [] s.heap.size)) (F0 m pc ls [.int r]) := by
    intro r H locs ls pc hq hw9 hn9 hd9
    exact W.zret (v := r) hx hb hr hn9 (fun t ht hW => ⟨⟨r, (), rfl, hq, by rw [ht]; exact hw9.1, hw9.2.1⟩, hw9.2.2.F ht⟩) hw9.2.2.2.2 hd9
  unfold wp_X7_isDay at hw
  refine lv_iload_n hx hb dX7_isDay_0 rfl (lv_at hl 0 rfl) ?_
  refine lv_iconst (v := (nI 0)) hx hb dX7_isDay_1 rfl ?_
  refine lv_sipush (v := (nI 399)) hx hb dX7_isDay_2 rfl ?_
  refine kcSi (rest := []) (As := [.int x0, .int (nI 0), .int (nI 399)]) ⟨Nat.le_of_ble_eq_true rfl, Nat.le_of_ble_eq_true rfl⟩ ⟨hx, hb, hml, hown, hts⟩ (c_X7_in l s.heap.size x0 (nI 0) (nI 399) hw) (va_cwS 3 hts gX7_isDay_X7_in rfl rfl rfl hd_X7_in ⟨Nat.le_of_ble_eq_true rfl, Nat.le_of_ble_eq_true rfl⟩) hKw hA hwd rfl hl.1 rfl (lv_room (Nat.le_of_ble_eq_true rfl)) dX7_isDay_5 (fun r1 H locs hw hwd => ?_)
  try dsimp only at hw
  exact HR r1 hw.2 hwd hw.1 dX7_isDay_8
abbrev ww_X7_of (cI cC : ClassId) (oT oT_s oT_aside oT_states oT_snapshot oT_text oT_serves oT_took oT_tookMany oT_helps oT_before oT_read : Nat) (T_thrown : Int32) (T_stateMany : Int32) (T_hasSnapshot : Int32) (T_length : Int32) (T_stopNumber : Int32) (T_stopError : Int32) (T_at : Int32) (T_isWell : Int32) (T_readMany : Int32) (T_s : Nat → Int32) : va_W := [(oT, .inr (7, [.int T_thrown, .ref oT_s, .ref oT_aside, .ref oT_states, .int T_stateMany, .ref oT_snapshot, .int T_hasSnapshot, .ref oT_text, .int T_length, .int T_stopNumber, .int T_stopError, .ref oT_serves, .ref oT_took, .ref oT_tookMany, .ref oT_helps, .ref oT_before, .int T_at, .int T_isWell, .ref oT_read, .int T_readMany])), (oT_s, .inl (cI, 474, .inl T_s))]
abbrev rm_X7_of : Room := { frames := 0, cells := 0, slots := 0, locals := 0 }
theorem ic_X7_of_X7 : ∀ w ∈ u_ws RX7 TX7 20, w ∈ wsX7_of := by
  intro w h
  simp only [wsX7_of, List.mem_cons, List.mem_append]
  simp only [h, or_true, true_or]
def wp_X7_of (T_s : Nat → Int32) (x1 : Int32) (x2 : Int32) (Q : Int32 → Prop) : Prop := vp_in (((nI 8) + ((nI 31) * x1)) + x2) 474 ∧ Q (T_s (((nI 8) + ((nI 31) * x1)) + x2).toNatClampNeg)
set_option maxRecDepth 100000 in
set_option maxHeartbeats 4000000 in
theorem c_X7_of (l : Launch) {D : va_G} {cI cC cR : ClassId} (oT oT_s oT_aside oT_states oT_snapshot oT_text oT_serves oT_took oT_tookMany oT_helps oT_before oT_read : Nat) (sz : Nat) (T_thrown : Int32) (T_stateMany : Int32) (T_hasSnapshot : Int32) (T_length : Int32) (T_stopNumber : Int32) (T_stopError : Int32) (T_at : Int32) (T_isWell : Int32) (T_readMany : Int32) (T_s : Nat → Int32) (x1 : Int32) (x2 : Int32) {Q : Int32 → Prop} (hw : wp_X7_of T_s x1 x2 Q) : Met l yX7_of wsX7_of rm_X7_of (PcW D cI cC cR [.ref oT, .int x1, .int x2] (ww_X7_of cI cC oT oT_s oT_aside oT_states oT_snapshot oT_text oT_serves oT_took oT_tookMany oT_helps oT_before oT_read T_thrown T_stateMany T_hasSnapshot T_length T_stopNumber T_stopError T_at T_isWell T_readMany T_s) sz) (QiW D (fun (r : Int32) (u : Unit) => Q r ) (fun u => (ww_X7_of cI cC oT oT_s oT_aside oT_states oT_snapshot oT_text oT_serves oT_took oT_tookMany oT_helps oT_before oT_read T_thrown T_stateMany T_hasSnapshot T_length T_stopNumber T_stopError T_at T_isWell T_readMany T_s)) (ww_X7_of cI cC oT oT_s oT_aside oT_states oT_snapshot oT_text oT_serves oT_took oT_tookMany oT_helps oT_before oT_read T_thrown T_stateMany T_hasSnapshot T_length T_stopNumber T_stopError T_at T_isWell T_readMany T_s) sz) 0 0 (va_A (ww_X7_of cI cC oT oT_s oT_aside oT_states oT_snapshot oT_text oT_serves oT_took oT_tookMany oT_helps oT_before oT_read T_thrown T_stateMany T_hasSnapshot T_length T_stopNumber T_stopError T_at T_isWell T_readMany T_s) sz) := by
  refine Met.ofW (cc := cX7_of) (maxL := 3) (ret := (some .int)) (by decide) rfl ?_
  intro p e s m args below meth c s₁ B hml hv
  obtain ⟨rfl, hsz, hP, hKw, hD0⟩ := hv
  have hlocks := B.notSynchronized
  subst hsz
  have hD := hD0.self (sz := s.heap.size)
  have CX : cx cX7_of (some .int) 3 RX7 wsX7_of p m meth c s ([.ref oT, .int x1, .int x2] : List Value).toArray D cI cC cR (va_A (ww_X7_of cI cC oT oT_s oT_aside oT_states oT_snapshot oT_text oT_serves oT_took oT_tookMany oT_helps oT_before oT_read T_thrown T_stateMany T_hasSnapshot T_length T_stopNumber T_stopError T_at T_isWell T_readMany T_s) s.heap.size) := ⟨B.exec, B.bytes, B.returns, hml, atoms_spec (ws := wsX7_of) B.pre, findClass_of_methodNamed B.named, hlocks, hKw, fun q h => Or.inr h⟩
  obtain ⟨hx, hb, hr, -, hts, hown, -, -, hA⟩ := id CX
  have hwd : wd D (va_A (ww_X7_of cI cC oT oT_s oT_aside oT_states oT_snapshot oT_text oT_serves oT_took oT_tookMany oT_helps oT_before oT_read T_thrown T_stateMany T_hasSnapshot T_length T_stopNumber T_stopError T_at T_isWell T_readMany T_s) s.heap.size) s (ww_X7_of cI cC oT oT_s oT_aside oT_states oT_snapshot oT_text oT_serves oT_took oT_tookMany oT_helps oT_before oT_read T_thrown T_stateMany T_hasSnapshot T_length T_stopNumber T_stopError T_at T_isWell T_readMany T_s) s.heap [] := ⟨hP, hD, va_S.rf⟩
  have hl := lv_entry ([.ref oT, .int x1, .int x2]) (n := 3) (Nat.le_of_ble_eq_true rfl)
  rw [lg_entry_eq]
  generalize (lg_sl ([.ref oT, .int x1, .int x2]) ++ List.replicate (3 - (lg_sl ([.ref oT, .int x1, .int x2])).length) Slot.unset).toArray = ls at hl ⊢
  have hl : lv_has ls 3 [(0, .ref oT), (1, .int x1), (2, .int x2)] := hl
  have HR : ∀ (r : Int32) {H : Heap} {locs : List Loc} {ls : Array Slot} {pc : Nat}, Q r → wd D (va_A (ww_X7_of cI cC oT oT_s oT_aside oT_states oT_snapshot oT_text oT_serves oT_took oT_tookMany oT_helps oT_before oT_read T_thrown T_stateMany T_hasSnapshot T_length T_stopNumber T_stopError T_at T_isWell T_readMany T_s) s.heap.size) s (ww_X7_of cI cC oT oT_s oT_aside oT_states oT_snapshot oT_text oT_serves oT_took oT_tookMany oT_helps oT_before oT_read T_thrown T_stateMany T_hasSnapshot T_length T_stopNumber T_stopError T_at T_isWell T_readMany T_s) H locs → decode cX7_of pc = .ok (.ireturn, 1) → W p l e (headSpec wsX7_of rm_X7_of).room s m ([.ref oT, .int x1, .int x2] : List Value).toArray below meth c H locs 0 0 (MQ below (QiW D (fun (r : Int32) (u : Unit) => Q r ) (fun u => (ww_X7_of cI cC oT oT_s oT_aside oT_states oT_snapshot oT_text oT_serves oT_took oT_tookMany oT_helps oT_before oT_read T_thrown T_stateMany T_hasSnapshot T_length T_stopNumber T_stopError T_at T_isWell T_readMany T_s)) (ww_X7_of cI cC oT oT_s oT_aside oT_states oT_snapshot oT_text oT_serves oT_took oT_tookMany oT_helps oT_before oT_read T_thrown T_stateMany T_hasSnapshot T_length T_stopNumber T_stopError T_at T_isWell T_readMany T_s) s.heap.size) ([.ref oT, .int x1, .int x2] : List Value).toArray s 0 0 (va_A (ww_X7_of cI cC oT oT_s oT_aside oT_states oT_snapshot oT_text oT_serves oT_took oT_tookMany oT_helps oT_before oT_read T_thrown T_stateMany T_hasSnapshot T_length T_stopNumber T_stopError T_at T_isWell T_readMany T_s) s.heap.size)) (F0 m pc ls [.int r]) := by
    intro r H locs ls pc hq hw9 hd9
    exact W.iret (v := r) hx hb hr (fun t ht hW => ⟨⟨r, (), rfl, hq, by rw [ht]; exact hw9.1, hw9.2.1⟩, hw9.2.2.F ht⟩) hw9.2.2.2.2 hd9
  unfold wp_X7_of at hw
  refine lv_aload_n hx hb dX7_of_0 rfl (lv_at hl 0 rfl) ?_
  refine va_get (D := D) (ci := 7) (v := .ref oT_s) (C := RX7) (T := TX7) (N := 20) hx hb hts ic_X7_of_X7 hown hKw.1 hwd.1 0 rfl rfl 1 (by decide) (hts (.fieldLink RX7 7 "DrillWardensModel" "s" "[I") (List.mem_of_getElem? (i := 1) rfl)) (fun _ h9 => h9) rfl dX7_of_1 ?_
  refine lv_bipush (v := (nI 8)) hx hb dX7_of_4 rfl ?_
  refine lv_bipush (v := (nI 31)) hx hb dX7_of_6 rfl ?_
  refine lv_iload_n hx hb dX7_of_8 rfl (lv_at hl 1 rfl) ?_
  refine lv_imul hx hb dX7_of_9 ?_
  refine lv_iadd hx hb dX7_of_10 ?_
  refine lv_iload_n hx hb dX7_of_11 rfl (lv_at hl 2 rfl) ?_
  refine lv_iadd hx hb dX7_of_12 ?_
  refine va_iald hx hb hKw.1 hwd.1 1 0 rfl rfl hw.1 dX7_of_13 ?_
  replace hw := hw.2
  exact HR (T_s (((nI 8) + ((nI 31) * x1)) + x2).toNatClampNeg) hw hwd dX7_of_14
abbrev ww_X7_lay (cI cC : ClassId) (oT oT_s oT_aside oT_states oT_snapshot oT_text oT_serves oT_took oT_tookMany oT_helps oT_before oT_read : Nat) (T_thrown : Int32) (T_stateMany : Int32) (T_hasSnapshot : Int32) (T_length : Int32) (T_stopNumber : Int32) (T_stopError : Int32) (T_at : Int32) (T_isWell : Int32) (T_readMany : Int32) (T_s : Nat → Int32) : va_W := [(oT, .inr (7, [.int T_thrown, .ref oT_s, .ref oT_aside, .ref oT_states, .int T_stateMany, .ref oT_snapshot, .int T_hasSnapshot, .ref oT_text, .int T_length, .int T_stopNumber, .int T_stopError, .ref oT_serves, .ref oT_took, .ref oT_tookMany, .ref oT_helps, .ref oT_before, .int T_at, .int T_isWell, .ref oT_read, .int T_readMany])), (oT_s, .inl (cI, 474, .inl T_s))]
abbrev rm_X7_lay : Room := { frames := 0, cells := 0, slots := 0, locals := 0 }
theorem ic_X7_lay_X7 : ∀ w ∈ u_ws RX7 TX7 20, w ∈ wsX7_lay := by
  intro w h
  simp only [wsX7_lay, List.mem_cons, List.mem_append]
  simp only [h, or_true, true_or]
def wp_X7_lay (T_s : Nat → Int32) (x1 : Int32) (x2 : Int32) (x3 : Int32) (Q : (Nat → Int32) → Prop) : Prop := vp_in (((nI 8) + ((nI 31) * x1)) + x2) 474 ∧ ∀ T_s1, T_s1 = upd T_s (((nI 8) + ((nI 31) * x1)) + x2).toNatClampNeg x3 → Q T_s1
set_option maxRecDepth 100000 in
set_option maxHeartbeats 4000000 in
theorem c_X7_lay (l : Launch) {D : va_G} {cI cC cR : ClassId} (oT oT_s oT_aside oT_states oT_snapshot oT_text oT_serves oT_took oT_tookMany oT_helps oT_before oT_read : Nat) (sz : Nat) (T_thrown : Int32) (T_stateMany : Int32) (T_hasSnapshot : Int32) (T_length : Int32) (T_stopNumber : Int32) (T_stopError : Int32) (T_at : Int32) (T_isWell : Int32) (T_readMany : Int32) (T_s : Nat → Int32) (x1 : Int32) (x2 : Int32) (x3 : Int32) {Q : (Nat → Int32) → Prop} (hw : wp_X7_lay T_s x1 x2 x3 Q) : Met l yX7_lay wsX7_lay rm_X7_lay (PcW D cI cC cR [.ref oT, .int x1, .int x2, .int x3] (ww_X7_lay cI cC oT oT_s oT_aside oT_states oT_snapshot oT_text oT_serves oT_took oT_tookMany oT_helps oT_before oT_read T_thrown T_stateMany T_hasSnapshot T_length T_stopNumber T_stopError T_at T_isWell T_readMany T_s) sz) (QvW D (fun (u : (Nat → Int32)) => Q u) (fun u => (ww_X7_lay cI cC oT oT_s oT_aside oT_states oT_snapshot oT_text oT_serves oT_took oT_tookMany oT_helps oT_before oT_read T_thrown T_stateMany T_hasSnapshot T_length T_stopNumber T_stopError T_at T_isWell T_readMany u)) (ww_X7_lay cI cC oT oT_s oT_aside oT_states oT_snapshot oT_text oT_serves oT_took oT_tookMany oT_helps oT_before oT_read T_thrown T_stateMany T_hasSnapshot T_length T_stopNumber T_stopError T_at T_isWell T_readMany T_s) sz) 0 0 (va_A (ww_X7_lay cI cC oT oT_s oT_aside oT_states oT_snapshot oT_text oT_serves oT_took oT_tookMany oT_helps oT_before oT_read T_thrown T_stateMany T_hasSnapshot T_length T_stopNumber T_stopError T_at T_isWell T_readMany T_s) sz) := by
  refine Met.ofW (cc := cX7_lay) (maxL := 4) (ret := none) (by decide) rfl ?_
  intro p e s m args below meth c s₁ B hml hv
  obtain ⟨rfl, hsz, hP, hKw, hD0⟩ := hv
  have hlocks := B.notSynchronized
  subst hsz
  have hD := hD0.self (sz := s.heap.size)
  have CX : cx cX7_lay none 4 RX7 wsX7_lay p m meth c s ([.ref oT, .int x1, .int x2, .int x3] : List Value).toArray D cI cC cR (va_A (ww_X7_lay cI cC oT oT_s oT_aside oT_states oT_snapshot oT_text oT_serves oT_took oT_tookMany oT_helps oT_before oT_read T_thrown T_stateMany T_hasSnapshot T_length T_stopNumber T_stopError T_at T_isWell T_readMany T_s) s.heap.size) := ⟨B.exec, B.bytes, B.returns, hml, atoms_spec (ws := wsX7_lay) B.pre, findClass_of_methodNamed B.named, hlocks, hKw, fun q h => Or.inr h⟩
  obtain ⟨hx, hb, hr, -, hts, hown, -, -, hA⟩ := id CX
  have hwd : wd D (va_A (ww_X7_lay cI cC oT oT_s oT_aside oT_states oT_snapshot oT_text oT_serves oT_took oT_tookMany oT_helps oT_before oT_read T_thrown T_stateMany T_hasSnapshot T_length T_stopNumber T_stopError T_at T_isWell T_readMany T_s) s.heap.size) s (ww_X7_lay cI cC oT oT_s oT_aside oT_states oT_snapshot oT_text oT_serves oT_took oT_tookMany oT_helps oT_before oT_read T_thrown T_stateMany T_hasSnapshot T_length T_stopNumber T_stopError T_at T_isWell T_readMany T_s) s.heap [] := ⟨hP, hD, va_S.rf⟩
  have hl := lv_entry ([.ref oT, .int x1, .int x2, .int x3]) (n := 4) (Nat.le_of_ble_eq_true rfl)
  rw [lg_entry_eq]
  generalize (lg_sl ([.ref oT, .int x1, .int x2, .int x3]) ++ List.replicate (4 - (lg_sl ([.ref oT, .int x1, .int x2, .int x3])).length) Slot.unset).toArray = ls at hl ⊢
  have hl : lv_has ls 4 [(0, .ref oT), (1, .int x1), (2, .int x2), (3, .int x3)] := hl
  have HR : ∀ (u0 : Nat → Int32) {H : Heap} {locs : List Loc} {ls : Array Slot} {pc : Nat}, Q u0 → wd D (va_A (ww_X7_lay cI cC oT oT_s oT_aside oT_states oT_snapshot oT_text oT_serves oT_took oT_tookMany oT_helps oT_before oT_read T_thrown T_stateMany T_hasSnapshot T_length T_stopNumber T_stopError T_at T_isWell T_readMany T_s) s.heap.size) s (ww_X7_lay cI cC oT oT_s oT_aside oT_states oT_snapshot oT_text oT_serves oT_took oT_tookMany oT_helps oT_before oT_read T_thrown T_stateMany T_hasSnapshot T_length T_stopNumber T_stopError T_at T_isWell T_readMany u0) H locs → decode cX7_lay pc = .ok (.return_, 1) → W p l e (headSpec wsX7_lay rm_X7_lay).room s m ([.ref oT, .int x1, .int x2, .int x3] : List Value).toArray below meth c H locs 0 0 (MQ below (QvW D (fun (u : (Nat → Int32)) => Q u) (fun u => (ww_X7_lay cI cC oT oT_s oT_aside oT_states oT_snapshot oT_text oT_serves oT_took oT_tookMany oT_helps oT_before oT_read T_thrown T_stateMany T_hasSnapshot T_length T_stopNumber T_stopError T_at T_isWell T_readMany u)) (ww_X7_lay cI cC oT oT_s oT_aside oT_states oT_snapshot oT_text oT_serves oT_took oT_tookMany oT_helps oT_before oT_read T_thrown T_stateMany T_hasSnapshot T_length T_stopNumber T_stopError T_at T_isWell T_readMany T_s) s.heap.size) ([.ref oT, .int x1, .int x2, .int x3] : List Value).toArray s 0 0 (va_A (ww_X7_lay cI cC oT oT_s oT_aside oT_states oT_snapshot oT_text oT_serves oT_took oT_tookMany oT_helps oT_before oT_read T_thrown T_stateMany T_hasSnapshot T_length T_stopNumber T_stopError T_at T_isWell T_readMany T_s) s.heap.size)) (F0 m pc ls []) := by
    intro u0 H locs ls pc hq hw9 hd9
    exact W.vret hx hb hr (fun t ht hW => ⟨⟨u0, rfl, hq, by rw [ht]; exact hw9.1, hw9.2.1⟩, hw9.2.2.F ht⟩) hw9.2.2.2.2 hd9
  unfold wp_X7_lay at hw
  refine lv_aload_n hx hb dX7_lay_0 rfl (lv_at hl 0 rfl) ?_
  refine va_get (D := D) (ci := 7) (v := .ref oT_s) (C := RX7) (T := TX7) (N := 20) hx hb hts ic_X7_lay_X7 hown hKw.1 hwd.1 0 rfl rfl 1 (by decide) (hts (.fieldLink RX7 7 "DrillWardensModel" "s" "[I") (List.mem_of_getElem? (i := 1) rfl)) (fun _ h9 => h9) rfl dX7_lay_1 ?_
  refine lv_bipush (v := (nI 8)) hx hb dX7_lay_4 rfl ?_
  refine lv_bipush (v := (nI 31)) hx hb dX7_lay_6 rfl ?_
  refine lv_iload_n hx hb dX7_lay_8 rfl (lv_at hl 1 rfl) ?_
  refine lv_imul hx hb dX7_lay_9 ?_
  refine lv_iadd hx hb dX7_lay_10 ?_
  refine lv_iload_n hx hb dX7_lay_11 rfl (lv_at hl 2 rfl) ?_
  refine lv_iadd hx hb dX7_lay_12 ?_
  refine lv_iload_n hx hb dX7_lay_13 rfl (lv_at hl 3 rfl) ?_
  obtain ⟨T_s1, e_T_s1⟩ : ∃ y : Nat → Int32, y = upd T_s (((nI 8) + ((nI 31) * x1)) + x2).toNatClampNeg x3 := ⟨_, rfl⟩
  refine va_iast hx hb hKw.1 hwd.1 hwd.2.1 hwd.2.2 1 0 rfl rfl hw.1 dX7_lay_14 (fun H locs h1 h2 h3 => ?_)
  replace hw := hw.2 T_s1 e_T_s1
  rw [← e_T_s1] at h1 h2
  replace hwd : wd D (va_A (ww_X7_lay cI cC oT oT_s oT_aside oT_states oT_snapshot oT_text oT_serves oT_took oT_tookMany oT_helps oT_before oT_read T_thrown T_stateMany T_hasSnapshot T_length T_stopNumber T_stopError T_at T_isWell T_readMany T_s) s.heap.size) s (ww_X7_lay cI cC oT oT_s oT_aside oT_states oT_snapshot oT_text oT_serves oT_took oT_tookMany oT_helps oT_before oT_read T_thrown T_stateMany T_hasSnapshot T_length T_stopNumber T_stopError T_at T_isWell T_readMany T_s1) H locs := ⟨h1, h2, h3⟩
  clear h1 h2 h3
  exact HR T_s1 hw hwd dX7_lay_15
abbrev ww_X7_ofLeave (cI cC : ClassId) (oT oT_s oT_aside oT_states oT_snapshot oT_text oT_serves oT_took oT_tookMany oT_helps oT_before oT_read : Nat) (T_thrown : Int32) (T_stateMany : Int32) (T_hasSnapshot : Int32) (T_length : Int32) (T_stopNumber : Int32) (T_stopError : Int32) (T_at : Int32) (T_isWell : Int32) (T_readMany : Int32) (T_s : Nat → Int32) : va_W := [(oT, .inr (7, [.int T_thrown, .ref oT_s, .ref oT_aside, .ref oT_states, .int T_stateMany, .ref oT_snapshot, .int T_hasSnapshot, .ref oT_text, .int T_length, .int T_stopNumber, .int T_stopError, .ref oT_serves, .ref oT_took, .ref oT_tookMany, .ref oT_helps, .ref oT_before, .int T_at, .int T_isWell, .ref oT_read, .int T_readMany])), (oT_s, .inl (cI, 474, .inl T_s))]
abbrev rm_X7_ofLeave : Room := { frames := 0, cells := 0, slots := 0, locals := 0 }
theorem ic_X7_ofLeave_X7 : ∀ w ∈ u_ws RX7 TX7 20, w ∈ wsX7_ofLeave := by
  intro w h
  simp only [wsX7_ofLeave, List.mem_cons, List.mem_append]
  simp only [h, or_true, true_or]
def wp_X7_ofLeave (T_s : Nat → Int32) (x1 : Int32) (x2 : Int32) (Q : Int32 → Prop) : Prop := vp_in (((nI 350) + ((nI 3) * x1)) + x2) 474 ∧ Q (T_s (((nI 350) + ((nI 3) * x1)) + x2).toNatClampNeg)
set_option maxRecDepth 100000 in
set_option maxHeartbeats 4000000 in
theorem c_X7_ofLeave (l : Launch) {D : va_G} {cI cC cR : ClassId} (oT oT_s oT_aside oT_states oT_snapshot oT_text oT_serves oT_took oT_tookMany oT_helps oT_before oT_read : Nat) (sz : Nat) (T_thrown : Int32) (T_stateMany : Int32) (T_hasSnapshot : Int32) (T_length : Int32) (T_stopNumber : Int32) (T_stopError : Int32) (T_at : Int32) (T_isWell : Int32) (T_readMany : Int32) (T_s : Nat → Int32) (x1 : Int32) (x2 : Int32) {Q : Int32 → Prop} (hw : wp_X7_ofLeave T_s x1 x2 Q) : Met l yX7_ofLeave wsX7_ofLeave rm_X7_ofLeave (PcW D cI cC cR [.ref oT, .int x1, .int x2] (ww_X7_ofLeave cI cC oT oT_s oT_aside oT_states oT_snapshot oT_text oT_serves oT_took oT_tookMany oT_helps oT_before oT_read T_thrown T_stateMany T_hasSnapshot T_length T_stopNumber T_stopError T_at T_isWell T_readMany T_s) sz) (QiW D (fun (r : Int32) (u : Unit) => Q r ) (fun u => (ww_X7_ofLeave cI cC oT oT_s oT_aside oT_states oT_snapshot oT_text oT_serves oT_took oT_tookMany oT_helps oT_before oT_read T_thrown T_stateMany T_hasSnapshot T_length T_stopNumber T_stopError T_at T_isWell T_readMany T_s)) (ww_X7_ofLeave cI cC oT oT_s oT_aside oT_states oT_snapshot oT_text oT_serves oT_took oT_tookMany oT_helps oT_before oT_read T_thrown T_stateMany T_hasSnapshot T_length T_stopNumber T_stopError T_at T_isWell T_readMany T_s) sz) 0 0 (va_A (ww_X7_ofLeave cI cC oT oT_s oT_aside oT_states oT_snapshot oT_text oT_serves oT_took oT_tookMany oT_helps oT_before oT_read T_thrown T_stateMany T_hasSnapshot T_length T_stopNumber T_stopError T_at T_isWell T_readMany T_s) sz) := by
  refine Met.ofW (cc := cX7_ofLeave) (maxL := 3) (ret := (some .int)) (by decide) rfl ?_
  intro p e s m args below meth c s₁ B hml hv
  obtain ⟨rfl, hsz, hP, hKw, hD0⟩ := hv
  have hlocks := B.notSynchronized
  subst hsz
  have hD := hD0.self (sz := s.heap.size)
  have CX : cx cX7_ofLeave (some .int) 3 RX7 wsX7_ofLeave p m meth c s ([.ref oT, .int x1, .int x2] : List Value).toArray D cI cC cR (va_A (ww_X7_ofLeave cI cC oT oT_s oT_aside oT_states oT_snapshot oT_text oT_serves oT_took oT_tookMany oT_helps oT_before oT_read T_thrown T_stateMany T_hasSnapshot T_length T_stopNumber T_stopError T_at T_isWell T_readMany T_s) s.heap.size) := ⟨B.exec, B.bytes, B.returns, hml, atoms_spec (ws := wsX7_ofLeave) B.pre, findClass_of_methodNamed B.named, hlocks, hKw, fun q h => Or.inr h⟩
  obtain ⟨hx, hb, hr, -, hts, hown, -, -, hA⟩ := id CX
  have hwd : wd D (va_A (ww_X7_ofLeave cI cC oT oT_s oT_aside oT_states oT_snapshot oT_text oT_serves oT_took oT_tookMany oT_helps oT_before oT_read T_thrown T_stateMany T_hasSnapshot T_length T_stopNumber T_stopError T_at T_isWell T_readMany T_s) s.heap.size) s (ww_X7_ofLeave cI cC oT oT_s oT_aside oT_states oT_snapshot oT_text oT_serves oT_took oT_tookMany oT_helps oT_before oT_read T_thrown T_stateMany T_hasSnapshot T_length T_stopNumber T_stopError T_at T_isWell T_readMany T_s) s.heap [] := ⟨hP, hD, va_S.rf⟩
  have hl := lv_entry ([.ref oT, .int x1, .int x2]) (n := 3) (Nat.le_of_ble_eq_true rfl)
  rw [lg_entry_eq]
  generalize (lg_sl ([.ref oT, .int x1, .int x2]) ++ List.replicate (3 - (lg_sl ([.ref oT, .int x1, .int x2])).length) Slot.unset).toArray = ls at hl ⊢
  have hl : lv_has ls 3 [(0, .ref oT), (1, .int x1), (2, .int x2)] := hl
  have HR : ∀ (r : Int32) {H : Heap} {locs : List Loc} {ls : Array Slot} {pc : Nat}, Q r → wd D (va_A (ww_X7_ofLeave cI cC oT oT_s oT_aside oT_states oT_snapshot oT_text oT_serves oT_took oT_tookMany oT_helps oT_before oT_read T_thrown T_stateMany T_hasSnapshot T_length T_stopNumber T_stopError T_at T_isWell T_readMany T_s) s.heap.size) s (ww_X7_ofLeave cI cC oT oT_s oT_aside oT_states oT_snapshot oT_text oT_serves oT_took oT_tookMany oT_helps oT_before oT_read T_thrown T_stateMany T_hasSnapshot T_length T_stopNumber T_stopError T_at T_isWell T_readMany T_s) H locs → decode cX7_ofLeave pc = .ok (.ireturn, 1) → W p l e (headSpec wsX7_ofLeave rm_X7_ofLeave).room s m ([.ref oT, .int x1, .int x2] : List Value).toArray below meth c H locs 0 0 (MQ below (QiW D (fun (r : Int32) (u : Unit) => Q r ) (fun u => (ww_X7_ofLeave cI cC oT oT_s oT_aside oT_states oT_snapshot oT_text oT_serves oT_took oT_tookMany oT_helps oT_before oT_read T_thrown T_stateMany T_hasSnapshot T_length T_stopNumber T_stopError T_at T_isWell T_readMany T_s)) (ww_X7_ofLeave cI cC oT oT_s oT_aside oT_states oT_snapshot oT_text oT_serves oT_took oT_tookMany oT_helps oT_before oT_read T_thrown T_stateMany T_hasSnapshot T_length T_stopNumber T_stopError T_at T_isWell T_readMany T_s) s.heap.size) ([.ref oT, .int x1, .int x2] : List Value).toArray s 0 0 (va_A (ww_X7_ofLeave cI cC oT oT_s oT_aside oT_states oT_snapshot oT_text oT_serves oT_took oT_tookMany oT_helps oT_before oT_read T_thrown T_stateMany T_hasSnapshot T_length T_stopNumber T_stopError T_at T_isWell T_readMany T_s) s.heap.size)) (F0 m pc ls [.int r]) := by
    intro r H locs ls pc hq hw9 hd9
    exact W.iret (v := r) hx hb hr (fun t ht hW => ⟨⟨r, (), rfl, hq, by rw [ht]; exact hw9.1, hw9.2.1⟩, hw9.2.2.F ht⟩) hw9.2.2.2.2 hd9
  unfold wp_X7_ofLeave at hw
  refine lv_aload_n hx hb dX7_ofLeave_0 rfl (lv_at hl 0 rfl) ?_
  refine va_get (D := D) (ci := 7) (v := .ref oT_s) (C := RX7) (T := TX7) (N := 20) hx hb hts ic_X7_ofLeave_X7 hown hKw.1 hwd.1 0 rfl rfl 1 (by decide) (hts (.fieldLink RX7 7 "DrillWardensModel" "s" "[I") (List.mem_of_getElem? (i := 1) rfl)) (fun _ h9 => h9) rfl dX7_ofLeave_1 ?_
  refine lv_sipush (v := (nI 350)) hx hb dX7_ofLeave_4 rfl ?_
  refine lv_iconst (v := (nI 3)) hx hb dX7_ofLeave_7 rfl ?_
  refine lv_iload_n hx hb dX7_ofLeave_8 rfl (lv_at hl 1 rfl) ?_
  refine lv_imul hx hb dX7_ofLeave_9 ?_
  refine lv_iadd hx hb dX7_ofLeave_10 ?_
  refine lv_iload_n hx hb dX7_ofLeave_11 rfl (lv_at hl 2 rfl) ?_
  refine lv_iadd hx hb dX7_ofLeave_12 ?_
  refine va_iald hx hb hKw.1 hwd.1 1 0 rfl rfl hw.1 dX7_ofLeave_13 ?_
  replace hw := hw.2
  exact HR (T_s (((nI 350) + ((nI 3) * x1)) + x2).toNatClampNeg) hw hwd dX7_ofLeave_14
abbrev ww_X7_records (cI cC : ClassId) (oT oT_s oT_aside oT_states oT_snapshot oT_text oT_serves oT_took oT_tookMany oT_helps oT_before oT_read : Nat) (T_thrown : Int32) (T_stateMany : Int32) (T_hasSnapshot : Int32) (T_length : Int32) (T_stopNumber : Int32) (T_stopError : Int32) (T_at : Int32) (T_isWell : Int32) (T_readMany : Int32) (T_s : Nat → Int32) (T_states : Nat → Int32) : va_W := [(oT, .inr (7, [.int T_thrown, .ref oT_s, .ref oT_aside, .ref oT_states, .int T_stateMany, .ref oT_snapshot, .int T_hasSnapshot, .ref oT_text, .int T_length, .int T_stopNumber, .int T_stopError, .ref oT_serves, .ref oT_took, .ref oT_tookMany, .ref oT_helps, .ref oT_before, .int T_at, .int T_isWell, .ref oT_read, .int T_readMany])), (oT_s, .inl (cI, 474, .inl T_s)), (oT_states, .inl (cI, 1896, .inl T_states))]
abbrev rm_X7_records : Room := { frames := 0, cells := 0, slots := 0, locals := 0 }
theorem ic_X7_records_X7 : ∀ w ∈ u_ws RX7 TX7 20, w ∈ wsX7_records := by
  intro w h
  simp only [wsX7_records, List.mem_cons, List.mem_append]
  simp only [h, or_true, true_or]
def wb_X7_records_51 (T_stateMany : Int32) (T_s : Nat → Int32) (K_85 : (Nat → Int32) → Prop) : Nat → (Nat → Int32) → Int32 → Prop
  | 0, _, _ => False
  | n + 1, T_states, x1 => (((nI 474) ≤ x1 → K_85 T_states) ∧ (¬ (nI 474) ≤ x1 → vp_in x1 474 ∧ vp_in (((nI 474) * T_stateMany) + x1) 1896 ∧ ∀ T_states2, T_states2 = upd T_states (((nI 474) * T_stateMany) + x1).toNatClampNeg (T_s x1.toNatClampNeg) → ∀ x1_3, x1_3 = x1 + (nI 1) → wb_X7_records_51 T_stateMany T_s K_85 n T_states2 x1_3))
set_option maxRecDepth 100000 in
set_option maxHeartbeats 4000000 in
theorem blk_X7_records_51 {p : Program} {l : Launch} {e : Env} {s : State} {m : MethodId} {args : Array Value} {below : List Frame} {meth : Method} {c : Code} {D : va_G} {cI cC cR : ClassId} {A : Nat → Prop} {Z : State → Prop} (CX : cx cX7_records none 2 RX7 wsX7_records p m meth c s args D cI cC cR A) (oT oT_s oT_aside oT_states oT_snapshot oT_text oT_serves oT_took oT_tookMany oT_helps oT_before oT_read : Nat) (T_thrown : Int32) (T_stateMany : Int32) (T_hasSnapshot : Int32) (T_length : Int32) (T_stopNumber : Int32) (T_stopError : Int32) (T_at : Int32) (T_isWell : Int32) (T_readMany : Int32) (T_s : Nat → Int32) {K_85 : (Nat → Int32) → Prop} {Q : Int32 → (Nat → Int32) → Prop} (HR : ∀ (u0 : Int32) (u1 : Nat → Int32) {H : Heap} {locs : List Loc} {ls : Array Slot} {pc : Nat}, Q u0 u1 → wd D A s (ww_X7_records cI cC oT oT_s oT_aside oT_states oT_snapshot oT_text oT_serves oT_took oT_tookMany oT_helps oT_before oT_read T_thrown u0 T_hasSnapshot T_length T_stopNumber T_stopError T_at T_isWell T_readMany T_s u1) H locs → decode cX7_records pc = .ok (.return_, 1) → W p l e (headSpec wsX7_records rm_X7_records).room s m args below meth c H locs 0 0 Z (F0 m pc ls [])) (HK_85 : ∀ (T_statesy : Nat → Int32), K_85 T_statesy → ∀ (H : Heap) (locs : List Loc) (ls : Array Slot), wd D A s (ww_X7_records cI cC oT oT_s oT_aside oT_states oT_snapshot oT_text oT_serves oT_took oT_tookMany oT_helps oT_before oT_read T_thrown T_stateMany T_hasSnapshot T_length T_stopNumber T_stopError T_at T_isWell T_readMany T_s T_statesy) H locs → lv_has ls 2 [(0, .ref oT)] → W p l e (headSpec wsX7_records rm_X7_records).room s m args below meth c H locs 0 0 Z (F0 m 85 ls [])) : ∀ (n : Nat) (T_states : Nat → Int32) (x1 : Int32), wb_X7_records_51 T_stateMany T_s K_85 n T_states x1 → ∀ (H : Heap) (locs : List Loc) (ls : Array Slot), wd D A s (ww_X7_records cI cC oT oT_s oT_aside oT_states oT_snapshot oT_text oT_serves oT_took oT_tookMany oT_helps oT_before oT_read T_thrown T_stateMany T_hasSnapshot T_length T_stopNumber T_stopError T_at T_isWell T_readMany T_s T_states) H locs → lv_has ls 2 [(0, .ref oT), (1, .int x1)] → W p l e (headSpec wsX7_records rm_X7_records).room s m args below meth c H locs 0 0 Z (F0 m 51 ls []) := by
  obtain ⟨hx, hb, hr, hml, hts, hown, hlocks, hKw, hA⟩ := id CX
  intro n
  induction n with
  | zero => intro T_states x1 hw; exact False.elim hw
  | succ n ih =>
    intro T_states x1 hw H locs ls hwd hl
    rw [wb_X7_records_51] at hw
    refine lv_iload_n hx hb dX7_records_51 rfl (lv_at hl 1 rfl) ?_
    refine lv_sipush (v := (nI 474)) hx hb dX7_records_52 rfl ?_
    refine lv_icmp_ge (tgt := 85) hx hb dX7_records_55 (by decide) (fun c1 => ?_) (fun c1 => ?_)
    · replace hw := hw.1 c1
      exact HK_85 T_states hw _ _ _ hwd (lv_sub hl [0] rfl)
    · replace hw := hw.2 c1
      refine lv_aload_n hx hb dX7_records_58 rfl (lv_at hl 0 rfl) ?_
      refine va_get (D := D) (ci := 7) (v := .ref oT_states) (C := RX7) (T := TX7) (N := 20) hx hb hts ic_X7_records_X7 hown hKw.1 hwd.1 0 rfl rfl 3 (by decide) (hts (.fieldLink RX7 16 "DrillWardensModel" "states" "[I") (List.mem_of_getElem? (i := 2) rfl)) (fun _ h9 => h9) rfl dX7_records_59 ?_
      refine lv_sipush (v := (nI 474)) hx hb dX7_records_62 rfl ?_
      refine lv_aload_n hx hb dX7_records_65 rfl (lv_at hl 0 rfl) ?_
      refine va_get (D := D) (ci := 7) (v := .int T_stateMany) (C := RX7) (T := TX7) (N := 20) hx hb hts ic_X7_records_X7 hown hKw.1 hwd.1 0 rfl rfl 4 (by decide) (hts (.fieldLink RX7 58 "DrillWardensModel" "stateMany" "I") (List.mem_of_getElem? (i := 1) rfl)) (fun _ h9 => h9) rfl dX7_records_66 ?_
      refine lv_imul hx hb dX7_records_69 ?_
      refine lv_iload_n hx hb dX7_records_70 rfl (lv_at hl 1 rfl) ?_
      refine lv_iadd hx hb dX7_records_71 ?_
      refine lv_aload_n hx hb dX7_records_72 rfl (lv_at hl 0 rfl) ?_
      refine va_get (D := D) (ci := 7) (v := .ref oT_s) (C := RX7) (T := TX7) (N := 20) hx hb hts ic_X7_records_X7 hown hKw.1 hwd.1 0 rfl rfl 1 (by decide) (hts (.fieldLink RX7 7 "DrillWardensModel" "s" "[I") (List.mem_of_getElem? (i := 3) rfl)) (fun _ h9 => h9) rfl dX7_records_73 ?_
      refine lv_iload_n hx hb dX7_records_76 rfl (lv_at hl 1 rfl) ?_
      refine va_iald hx hb hKw.1 hwd.1 1 0 rfl rfl hw.1 dX7_records_77 ?_
      replace hw := hw.2
      obtain ⟨T_states2, e_T_states2⟩ : ∃ y : Nat → Int32, y = upd T_states (((nI 474) * T_stateMany) + x1).toNatClampNeg (T_s x1.toNatClampNeg) := ⟨_, rfl⟩
      refine va_iast hx hb hKw.1 hwd.1 hwd.2.1 hwd.2.2 2 0 rfl rfl hw.1 dX7_records_78 (fun H locs h1 h2 h3 => ?_)
      replace hw := hw.2 T_states2 e_T_states2
      rw [← e_T_states2] at h1 h2
      replace hwd : wd D A s (ww_X7_records cI cC oT oT_s oT_aside oT_states oT_snapshot oT_text oT_serves oT_took oT_tookMany oT_helps oT_before oT_read T_thrown T_stateMany T_hasSnapshot T_length T_stopNumber T_stopError T_at T_isWell T_readMany T_s T_states2) H locs := ⟨h1, h2, h3⟩
      clear h1 h2 h3
      obtain ⟨x1_3, e_x1_3⟩ : ∃ y : Int32, y = x1 + (nI 1) := ⟨_, rfl⟩
      replace hw := hw x1_3 e_x1_3
      refine lv_iinc (v := x1_3) (lv' := [(1, .int x1_3), (0, .ref oT)]) hx hb dX7_records_79 hl (k := 1) rfl (by rw [e_x1_3]; rfl) (by decide) rfl (fun ls hl => ?_)
      refine lv_goto (tgt := 51) hx hb dX7_records_82 (by decide) ?_
      exact ih T_states2 x1_3 hw _ _ _ hwd (lv_sub hl [1, 0] rfl)
def wb_X7_records_10  (K_39 : (Nat → Int32) → Prop) : Nat → (Nat → Int32) → Int32 → Prop
  | 0, _, _ => False
  | n + 1, T_states, x1 => (((nI 1422) ≤ x1 → K_39 T_states) ∧ (¬ (nI 1422) ≤ x1 → vp_in (x1 + (nI 474)) 1896 ∧ vp_in x1 1896 ∧ ∀ T_states2, T_states2 = upd T_states x1.toNatClampNeg (T_states (x1 + (nI 474)).toNatClampNeg) → ∀ x1_3, x1_3 = x1 + (nI 1) → wb_X7_records_10 K_39 n T_states2 x1_3))
set_option maxRecDepth 100000 in
set_option maxHeartbeats 4000000 in
theorem blk_X7_records_10 {p : Program} {l : Launch} {e : Env} {s : State} {m : MethodId} {args : Array Value} {below : List Frame} {meth : Method} {c : Code} {D : va_G} {cI cC cR : ClassId} {A : Nat → Prop} {Z : State → Prop} (CX : cx cX7_records none 2 RX7 wsX7_records p m meth c s args D cI cC cR A) (oT oT_s oT_aside oT_states oT_snapshot oT_text oT_serves oT_took oT_tookMany oT_helps oT_before oT_read : Nat) (T_thrown : Int32) (T_stateMany : Int32) (T_hasSnapshot : Int32) (T_length : Int32) (T_stopNumber : Int32) (T_stopError : Int32) (T_at : Int32) (T_isWell : Int32) (T_readMany : Int32) (T_s : Nat → Int32) {K_39 : (Nat → Int32) → Prop} {Q : Int32 → (Nat → Int32) → Prop} (HR : ∀ (u0 : Int32) (u1 : Nat → Int32) {H : Heap} {locs : List Loc} {ls : Array Slot} {pc : Nat}, Q u0 u1 → wd D A s (ww_X7_records cI cC oT oT_s oT_aside oT_states oT_snapshot oT_text oT_serves oT_took oT_tookMany oT_helps oT_before oT_read T_thrown u0 T_hasSnapshot T_length T_stopNumber T_stopError T_at T_isWell T_readMany T_s u1) H locs → decode cX7_records pc = .ok (.return_, 1) → W p l e (headSpec wsX7_records rm_X7_records).room s m args below meth c H locs 0 0 Z (F0 m pc ls [])) (HK_39 : ∀ (T_statesy : Nat → Int32), K_39 T_statesy → ∀ (H : Heap) (locs : List Loc) (ls : Array Slot), wd D A s (ww_X7_records cI cC oT oT_s oT_aside oT_states oT_snapshot oT_text oT_serves oT_took oT_tookMany oT_helps oT_before oT_read T_thrown T_stateMany T_hasSnapshot T_length T_stopNumber T_stopError T_at T_isWell T_readMany T_s T_statesy) H locs → lv_has ls 2 [(0, .ref oT)] → W p l e (headSpec wsX7_records rm_X7_records).room s m args below meth c H locs 0 0 Z (F0 m 39 ls [])) : ∀ (n : Nat) (T_states : Nat → Int32) (x1 : Int32), wb_X7_records_10 K_39 n T_states x1 → ∀ (H : Heap) (locs : List Loc) (ls : Array Slot), wd D A s (ww_X7_records cI cC oT oT_s oT_aside oT_states oT_snapshot oT_text oT_serves oT_took oT_tookMany oT_helps oT_before oT_read T_thrown T_stateMany T_hasSnapshot T_length T_stopNumber T_stopError T_at T_isWell T_readMany T_s T_states) H locs → lv_has ls 2 [(0, .ref oT), (1, .int x1)] → W p l e (headSpec wsX7_records rm_X7_records).room s m args below meth c H locs 0 0 Z (F0 m 10 ls []) := by
  obtain ⟨hx, hb, hr, hml, hts, hown, hlocks, hKw, hA⟩ := id CX
  intro n
  induction n with
  | zero => intro T_states x1 hw; exact False.elim hw
  | succ n ih =>
    intro T_states x1 hw H locs ls hwd hl
    rw [wb_X7_records_10] at hw
    refine lv_iload_n hx hb dX7_records_10 rfl (lv_at hl 1 rfl) ?_
    refine lv_sipush (v := (nI 1422)) hx hb dX7_records_11 rfl ?_
    refine lv_icmp_ge (tgt := 39) hx hb dX7_records_14 (by decide) (fun c1 => ?_) (fun c1 => ?_)
    · replace hw := hw.1 c1
      exact HK_39 T_states hw _ _ _ hwd (lv_sub hl [0] rfl)
    · replace hw := hw.2 c1
      refine lv_aload_n hx hb dX7_records_17 rfl (lv_at hl 0 rfl) ?_
      refine va_get (D := D) (ci := 7) (v := .ref oT_states) (C := RX7) (T := TX7) (N := 20) hx hb hts ic_X7_records_X7 hown hKw.1 hwd.1 0 rfl rfl 3 (by decide) (hts (.fieldLink RX7 16 "DrillWardensModel" "states" "[I") (List.mem_of_getElem? (i := 2) rfl)) (fun _ h9 => h9) rfl dX7_records_18 ?_
      refine lv_iload_n hx hb dX7_records_21 rfl (lv_at hl 1 rfl) ?_
      refine lv_aload_n hx hb dX7_records_22 rfl (lv_at hl 0 rfl) ?_
      refine va_get (D := D) (ci := 7) (v := .ref oT_states) (C := RX7) (T := TX7) (N := 20) hx hb hts ic_X7_records_X7 hown hKw.1 hwd.1 0 rfl rfl 3 (by decide) (hts (.fieldLink RX7 16 "DrillWardensModel" "states" "[I") (List.mem_of_getElem? (i := 2) rfl)) (fun _ h9 => h9) rfl dX7_records_23 ?_
      refine lv_iload_n hx hb dX7_records_26 rfl (lv_at hl 1 rfl) ?_
      refine lv_sipush (v := (nI 474)) hx hb dX7_records_27 rfl ?_
      refine lv_iadd hx hb dX7_records_30 ?_
      refine va_iald hx hb hKw.1 hwd.1 2 0 rfl rfl hw.1 dX7_records_31 ?_
      replace hw := hw.2
      obtain ⟨T_states2, e_T_states2⟩ : ∃ y : Nat → Int32, y = upd T_states x1.toNatClampNeg (T_states (x1 + (nI 474)).toNatClampNeg) := ⟨_, rfl⟩
      refine va_iast hx hb hKw.1 hwd.1 hwd.2.1 hwd.2.2 2 0 rfl rfl hw.1 dX7_records_32 (fun H locs h1 h2 h3 => ?_)
      replace hw := hw.2 T_states2 e_T_states2
      rw [← e_T_states2] at h1 h2
      replace hwd : wd D A s (ww_X7_records cI cC oT oT_s oT_aside oT_states oT_snapshot oT_text oT_serves oT_took oT_tookMany oT_helps oT_before oT_read T_thrown T_stateMany T_hasSnapshot T_length T_stopNumber T_stopError T_at T_isWell T_readMany T_s T_states2) H locs := ⟨h1, h2, h3⟩
      clear h1 h2 h3
      obtain ⟨x1_3, e_x1_3⟩ : ∃ y : Int32, y = x1 + (nI 1) := ⟨_, rfl⟩
      replace hw := hw x1_3 e_x1_3
      refine lv_iinc (v := x1_3) (lv' := [(1, .int x1_3), (0, .ref oT)]) hx hb dX7_records_33 hl (k := 1) rfl (by rw [e_x1_3]; rfl) (by decide) rfl (fun ls hl => ?_)
      refine lv_goto (tgt := 10) hx hb dX7_records_36 (by decide) ?_
      exact ih T_states2 x1_3 hw _ _ _ hwd (lv_sub hl [1, 0] rfl)
def wp_X7_records (T_stateMany : Int32) (T_s : Nat → Int32) (T_states : Nat → Int32) (Q : Int32 → (Nat → Int32) → Prop) : Prop := ((¬ T_stateMany = (nI 4) → (∃ n2, wb_X7_records_51 T_stateMany T_s (fun T_states3 => ∀ T_stateMany4, T_stateMany4 = T_stateMany + (nI 1) → Q T_stateMany4 T_states3) n2 T_states (nI 0))) ∧ (T_stateMany = (nI 4) → (∃ n5, wb_X7_records_10 (fun T_states6 => ∀ T_stateMany7, T_stateMany7 = T_stateMany - (nI 1) → (∃ n8, wb_X7_records_51 T_stateMany7 T_s (fun T_states9 => ∀ T_stateMany10, T_stateMany10 = T_stateMany7 + (nI 1) → Q T_stateMany10 T_states9) n8 T_states6 (nI 0))) n5 T_states (nI 0))))
set_option maxRecDepth 100000 in
set_option maxHeartbeats 4000000 in
theorem c_X7_records (l : Launch) {D : va_G} {cI cC cR : ClassId} (oT oT_s oT_aside oT_states oT_snapshot oT_text oT_serves oT_took oT_tookMany oT_helps oT_before oT_read : Nat) (sz : Nat) (T_thrown : Int32) (T_stateMany : Int32) (T_hasSnapshot : Int32) (T_length : Int32) (T_stopNumber : Int32) (T_stopError : Int32) (T_at : Int32) (T_isWell : Int32) (T_readMany : Int32) (T_s : Nat → Int32) (T_states : Nat → Int32) {Q : Int32 → (Nat → Int32) → Prop} (hw : wp_X7_records T_stateMany T_s T_states Q) : Met l yX7_records wsX7_records rm_X7_records (PcW D cI cC cR [.ref oT] (ww_X7_records cI cC oT oT_s oT_aside oT_states oT_snapshot oT_text oT_serves oT_took oT_tookMany oT_helps oT_before oT_read T_thrown T_stateMany T_hasSnapshot T_length T_stopNumber T_stopError T_at T_isWell T_readMany T_s T_states) sz) (QvW D (fun (u : Int32 × (Nat → Int32)) => Q u.1 u.2) (fun u => (ww_X7_records cI cC oT oT_s oT_aside oT_states oT_snapshot oT_text oT_serves oT_took oT_tookMany oT_helps oT_before oT_read T_thrown (u.1) T_hasSnapshot T_length T_stopNumber T_stopError T_at T_isWell T_readMany T_s (u.2))) (ww_X7_records cI cC oT oT_s oT_aside oT_states oT_snapshot oT_text oT_serves oT_took oT_tookMany oT_helps oT_before oT_read T_thrown T_stateMany T_hasSnapshot T_length T_stopNumber T_stopError T_at T_isWell T_readMany T_s T_states) sz) 0 0 (va_A (ww_X7_records cI cC oT oT_s oT_aside oT_states oT_snapshot oT_text oT_serves oT_took oT_tookMany oT_helps oT_before oT_read T_thrown T_stateMany T_hasSnapshot T_length T_stopNumber T_stopError T_at T_isWell T_readMany T_s T_states) sz) := by
  refine Met.ofW (cc := cX7_records) (maxL := 2) (ret := none) (by decide) rfl ?_
  intro p e s m args below meth c s₁ B hml hv
  obtain ⟨rfl, hsz, hP, hKw, hD0⟩ := hv
  have hlocks := B.notSynchronized
  subst hsz
  have hD := hD0.self (sz := s.heap.size)
  have CX : cx cX7_records none 2 RX7 wsX7_records p m meth c s ([.ref oT] : List Value).toArray D cI cC cR (va_A (ww_X7_records cI cC oT oT_s oT_aside oT_states oT_snapshot oT_text oT_serves oT_took oT_tookMany oT_helps oT_before oT_read T_thrown T_stateMany T_hasSnapshot T_length T_stopNumber T_stopError T_at T_isWell T_readMany T_s T_states) s.heap.size) := ⟨B.exec, B.bytes, B.returns, hml, atoms_spec (ws := wsX7_records) B.pre, findClass_of_methodNamed B.named, hlocks, hKw, fun q h => Or.inr h⟩
  obtain ⟨hx, hb, hr, -, hts, hown, -, -, hA⟩ := id CX
  have hwd : wd D (va_A (ww_X7_records cI cC oT oT_s oT_aside oT_states oT_snapshot oT_text oT_serves oT_took oT_tookMany oT_helps oT_before oT_read T_thrown T_stateMany T_hasSnapshot T_length T_stopNumber T_stopError T_at T_isWell T_readMany T_s T_states) s.heap.size) s (ww_X7_records cI cC oT oT_s oT_aside oT_states oT_snapshot oT_text oT_serves oT_took oT_tookMany oT_helps oT_before oT_read T_thrown T_stateMany T_hasSnapshot T_length T_stopNumber T_stopError T_at T_isWell T_readMany T_s T_states) s.heap [] := ⟨hP, hD, va_S.rf⟩
  have hl := lv_entry ([.ref oT]) (n := 2) (Nat.le_of_ble_eq_true rfl)
  rw [lg_entry_eq]
  generalize (lg_sl ([.ref oT]) ++ List.replicate (2 - (lg_sl ([.ref oT])).length) Slot.unset).toArray = ls at hl ⊢
  have hl : lv_has ls 2 [(0, .ref oT)] := hl
  have HR : ∀ (u0 : Int32) (u1 : Nat → Int32) {H : Heap} {locs : List Loc} {ls : Array Slot} {pc : Nat}, Q u0 u1 → wd D (va_A (ww_X7_records cI cC oT oT_s oT_aside oT_states oT_snapshot oT_text oT_serves oT_took oT_tookMany oT_helps oT_before oT_read T_thrown T_stateMany T_hasSnapshot T_length T_stopNumber T_stopError T_at T_isWell T_readMany T_s T_states) s.heap.size) s (ww_X7_records cI cC oT oT_s oT_aside oT_states oT_snapshot oT_text oT_serves oT_took oT_tookMany oT_helps oT_before oT_read T_thrown u0 T_hasSnapshot T_length T_stopNumber T_stopError T_at T_isWell T_readMany T_s u1) H locs → decode cX7_records pc = .ok (.return_, 1) → W p l e (headSpec wsX7_records rm_X7_records).room s m ([.ref oT] : List Value).toArray below meth c H locs 0 0 (MQ below (QvW D (fun (u : Int32 × (Nat → Int32)) => Q u.1 u.2) (fun u => (ww_X7_records cI cC oT oT_s oT_aside oT_states oT_snapshot oT_text oT_serves oT_took oT_tookMany oT_helps oT_before oT_read T_thrown (u.1) T_hasSnapshot T_length T_stopNumber T_stopError T_at T_isWell T_readMany T_s (u.2))) (ww_X7_records cI cC oT oT_s oT_aside oT_states oT_snapshot oT_text oT_serves oT_took oT_tookMany oT_helps oT_before oT_read T_thrown T_stateMany T_hasSnapshot T_length T_stopNumber T_stopError T_at T_isWell T_readMany T_s T_states) s.heap.size) ([.ref oT] : List Value).toArray s 0 0 (va_A (ww_X7_records cI cC oT oT_s oT_aside oT_states oT_snapshot oT_text oT_serves oT_took oT_tookMany oT_helps oT_before oT_read T_thrown T_stateMany T_hasSnapshot T_length T_stopNumber T_stopError T_at T_isWell T_readMany T_s T_states) s.heap.size)) (F0 m pc ls []) := by
    intro u0 u1 H locs ls pc hq hw9 hd9
    exact W.vret hx hb hr (fun t ht hW => ⟨⟨(u0, u1), rfl, hq, by rw [ht]; exact hw9.1, hw9.2.1⟩, hw9.2.2.F ht⟩) hw9.2.2.2.2 hd9
  unfold wp_X7_records at hw
  refine lv_aload_n hx hb dX7_records_0 rfl (lv_at hl 0 rfl) ?_
  refine va_get (D := D) (ci := 7) (v := .int T_stateMany) (C := RX7) (T := TX7) (N := 20) hx hb hts ic_X7_records_X7 hown hKw.1 hwd.1 0 rfl rfl 4 (by decide) (hts (.fieldLink RX7 58 "DrillWardensModel" "stateMany" "I") (List.mem_of_getElem? (i := 1) rfl)) (fun _ h9 => h9) rfl dX7_records_1 ?_
  refine lv_iconst (v := (nI 4)) hx hb dX7_records_4 rfl ?_
  refine lv_icmp_ne (tgt := 49) hx hb dX7_records_5 (by decide) (fun c1 => ?_) (fun c1 => ?_)
  · replace hw := hw.1 c1
    refine lv_iconst (v := (nI 0)) hx hb dX7_records_49 rfl ?_
    refine lv_istore_n (lv' := [(1, .int (nI 0)), (0, .ref oT)]) hx hb dX7_records_50 rfl hl (by decide) rfl (fun ls hl => ?_)
    obtain ⟨n2, hw⟩ := hw
    refine blk_X7_records_51 (CX := CX) (oT := oT) (oT_s := oT_s) (oT_aside := oT_aside) (oT_states := oT_states) (oT_snapshot := oT_snapshot) (oT_text := oT_text) (oT_serves := oT_serves) (oT_took := oT_took) (oT_tookMany := oT_tookMany) (oT_helps := oT_helps) (oT_before := oT_before) (oT_read := oT_read) (T_thrown := T_thrown) (T_stateMany := T_stateMany) (T_hasSnapshot := T_hasSnapshot) (T_length := T_length) (T_stopNumber := T_stopNumber) (T_stopError := T_stopError) (T_at := T_at) (T_isWell := T_isWell) (T_readMany := T_readMany) (T_s := T_s) (HR := HR) (HK_85 := fun T_states3 hw H locs ls hwd hl => ?_) n2 T_states (nI 0) hw _ _ _ hwd (lv_sub hl [1, 0] rfl)
    try dsimp only at hw
    refine lv_aload_n hx hb dX7_records_85 rfl (lv_at hl 0 rfl) ?_
    refine lv_dup hx hb dX7_records_86 rfl ?_
    refine va_get (D := D) (ci := 7) (v := .int T_stateMany) (C := RX7) (T := TX7) (N := 20) hx hb hts ic_X7_records_X7 hown hKw.1 hwd.1 0 rfl rfl 4 (by decide) (hts (.fieldLink RX7 58 "DrillWardensModel" "stateMany" "I") (List.mem_of_getElem? (i := 1) rfl)) (fun _ h9 => h9) rfl dX7_records_87 ?_
    refine lv_iconst (v := (nI 1)) hx hb dX7_records_90 rfl ?_
    refine lv_iadd hx hb dX7_records_91 ?_
    refine lv_topi (fun T_stateMany4 e_T_stateMany4 => ?_)
    replace hw := hw T_stateMany4 e_T_stateMany4
    refine va_put (D := D) (ci := 7) (v := .int T_stateMany4) (ty := .int) (C := RX7) (T := TX7) (N := 20) hx hb hts ic_X7_records_X7 tyX7 tyX7_ok nmX7 hown hKw.1 hwd.1 hwd.2.1 hwd.2.2 0 rfl rfl 4 (by decide) (hts (.fieldLink RX7 58 "DrillWardensModel" "stateMany" "I") (List.mem_of_getElem? (i := 1) rfl)) (fun _ h9 => h9) rfl (tyX7_ok 4 (by decide)) rfl rfl (Nat.le_of_ble_eq_true rfl) dX7_records_92 (fun H locs h1 h2 h3 => ?_)
    replace hwd : wd D (va_A (ww_X7_records cI cC oT oT_s oT_aside oT_states oT_snapshot oT_text oT_serves oT_took oT_tookMany oT_helps oT_before oT_read T_thrown T_stateMany T_hasSnapshot T_length T_stopNumber T_stopError T_at T_isWell T_readMany T_s T_states) s.heap.size) s (ww_X7_records cI cC oT oT_s oT_aside oT_states oT_snapshot oT_text oT_serves oT_took oT_tookMany oT_helps oT_before oT_read T_thrown T_stateMany4 T_hasSnapshot T_length T_stopNumber T_stopError T_at T_isWell T_readMany T_s T_states3) H locs := ⟨h1, h2, h3⟩
    clear h1 h2 h3
    exact HR T_stateMany4 T_states3 hw hwd dX7_records_95
  · replace hw := hw.2 c1
    refine lv_iconst (v := (nI 0)) hx hb dX7_records_8 rfl ?_
    refine lv_istore_n (lv' := [(1, .int (nI 0)), (0, .ref oT)]) hx hb dX7_records_9 rfl hl (by decide) rfl (fun ls hl => ?_)
    obtain ⟨n5, hw⟩ := hw
    refine blk_X7_records_10 (CX := CX) (oT := oT) (oT_s := oT_s) (oT_aside := oT_aside) (oT_states := oT_states) (oT_snapshot := oT_snapshot) (oT_text := oT_text) (oT_serves := oT_serves) (oT_took := oT_took) (oT_tookMany := oT_tookMany) (oT_helps := oT_helps) (oT_before := oT_before) (oT_read := oT_read) (T_thrown := T_thrown) (T_stateMany := T_stateMany) (T_hasSnapshot := T_hasSnapshot) (T_length := T_length) (T_stopNumber := T_stopNumber) (T_stopError := T_stopError) (T_at := T_at) (T_isWell := T_isWell) (T_readMany := T_readMany) (T_s := T_s) (HR := HR) (HK_39 := fun T_states6 hw H locs ls hwd hl => ?_) n5 T_states (nI 0) hw _ _ _ hwd (lv_sub hl [1, 0] rfl)
    try dsimp only at hw
    refine lv_aload_n hx hb dX7_records_39 rfl (lv_at hl 0 rfl) ?_
    refine lv_dup hx hb dX7_records_40 rfl ?_
    refine va_get (D := D) (ci := 7) (v := .int T_stateMany) (C := RX7) (T := TX7) (N := 20) hx hb hts ic_X7_records_X7 hown hKw.1 hwd.1 0 rfl rfl 4 (by decide) (hts (.fieldLink RX7 58 "DrillWardensModel" "stateMany" "I") (List.mem_of_getElem? (i := 1) rfl)) (fun _ h9 => h9) rfl dX7_records_41 ?_
    refine lv_iconst (v := (nI 1)) hx hb dX7_records_44 rfl ?_
    refine lv_isub hx hb dX7_records_45 ?_
    refine lv_topi (fun T_stateMany7 e_T_stateMany7 => ?_)
    replace hw := hw T_stateMany7 e_T_stateMany7
    refine va_put (D := D) (ci := 7) (v := .int T_stateMany7) (ty := .int) (C := RX7) (T := TX7) (N := 20) hx hb hts ic_X7_records_X7 tyX7 tyX7_ok nmX7 hown hKw.1 hwd.1 hwd.2.1 hwd.2.2 0 rfl rfl 4 (by decide) (hts (.fieldLink RX7 58 "DrillWardensModel" "stateMany" "I") (List.mem_of_getElem? (i := 1) rfl)) (fun _ h9 => h9) rfl (tyX7_ok 4 (by decide)) rfl rfl (Nat.le_of_ble_eq_true rfl) dX7_records_46 (fun H locs h1 h2 h3 => ?_)
    replace hwd : wd D (va_A (ww_X7_records cI cC oT oT_s oT_aside oT_states oT_snapshot oT_text oT_serves oT_took oT_tookMany oT_helps oT_before oT_read T_thrown T_stateMany T_hasSnapshot T_length T_stopNumber T_stopError T_at T_isWell T_readMany T_s T_states) s.heap.size) s (ww_X7_records cI cC oT oT_s oT_aside oT_states oT_snapshot oT_text oT_serves oT_took oT_tookMany oT_helps oT_before oT_read T_thrown T_stateMany7 T_hasSnapshot T_length T_stopNumber T_stopError T_at T_isWell T_readMany T_s T_states6) H locs := ⟨h1, h2, h3⟩
    clear h1 h2 h3
    refine lv_iconst (v := (nI 0)) hx hb dX7_records_49 rfl ?_
    refine lv_istore_n (lv' := [(1, .int (nI 0)), (0, .ref oT)]) hx hb dX7_records_50 rfl hl (by decide) rfl (fun ls hl => ?_)
    obtain ⟨n8, hw⟩ := hw
    refine blk_X7_records_51 (CX := CX) (oT := oT) (oT_s := oT_s) (oT_aside := oT_aside) (oT_states := oT_states) (oT_snapshot := oT_snapshot) (oT_text := oT_text) (oT_serves := oT_serves) (oT_took := oT_took) (oT_tookMany := oT_tookMany) (oT_helps := oT_helps) (oT_before := oT_before) (oT_read := oT_read) (T_thrown := T_thrown) (T_stateMany := T_stateMany7) (T_hasSnapshot := T_hasSnapshot) (T_length := T_length) (T_stopNumber := T_stopNumber) (T_stopError := T_stopError) (T_at := T_at) (T_isWell := T_isWell) (T_readMany := T_readMany) (T_s := T_s) (HR := HR) (HK_85 := fun T_states9 hw H locs ls hwd hl => ?_) n8 T_states6 (nI 0) hw _ _ _ hwd (lv_sub hl [1, 0] rfl)
    try dsimp only at hw
    refine lv_aload_n hx hb dX7_records_85 rfl (lv_at hl 0 rfl) ?_
    refine lv_dup hx hb dX7_records_86 rfl ?_
    refine va_get (D := D) (ci := 7) (v := .int T_stateMany7) (C := RX7) (T := TX7) (N := 20) hx hb hts ic_X7_records_X7 hown hKw.1 hwd.1 0 rfl rfl 4 (by decide) (hts (.fieldLink RX7 58 "DrillWardensModel" "stateMany" "I") (List.mem_of_getElem? (i := 1) rfl)) (fun _ h9 => h9) rfl dX7_records_87 ?_
    refine lv_iconst (v := (nI 1)) hx hb dX7_records_90 rfl ?_
    refine lv_iadd hx hb dX7_records_91 ?_
    refine lv_topi (fun T_stateMany10 e_T_stateMany10 => ?_)
    replace hw := hw T_stateMany10 e_T_stateMany10
    refine va_put (D := D) (ci := 7) (v := .int T_stateMany10) (ty := .int) (C := RX7) (T := TX7) (N := 20) hx hb hts ic_X7_records_X7 tyX7 tyX7_ok nmX7 hown hKw.1 hwd.1 hwd.2.1 hwd.2.2 0 rfl rfl 4 (by decide) (hts (.fieldLink RX7 58 "DrillWardensModel" "stateMany" "I") (List.mem_of_getElem? (i := 1) rfl)) (fun _ h9 => h9) rfl (tyX7_ok 4 (by decide)) rfl rfl (Nat.le_of_ble_eq_true rfl) dX7_records_92 (fun H locs h1 h2 h3 => ?_)
    replace hwd : wd D (va_A (ww_X7_records cI cC oT oT_s oT_aside oT_states oT_snapshot oT_text oT_serves oT_took oT_tookMany oT_helps oT_before oT_read T_thrown T_stateMany T_hasSnapshot T_length T_stopNumber T_stopError T_at T_isWell T_readMany T_s T_states) s.heap.size) s (ww_X7_records cI cC oT oT_s oT_aside oT_states oT_snapshot oT_text oT_serves oT_took oT_tookMany oT_helps oT_before oT_read T_thrown T_stateMany10 T_hasSnapshot T_length T_stopNumber T_stopError T_at T_isWell T_readMany T_s T_states9) H locs := ⟨h1, h2, h3⟩
    clear h1 h2 h3
    exact HR T_stateMany10 T_states9 hw hwd dX7_records_95
abbrev ww_X7_leaveOn (cI cC : ClassId) (oT oT_s oT_aside oT_states oT_snapshot oT_text oT_serves oT_took oT_tookMany oT_helps oT_before oT_read : Nat) (T_thrown : Int32) (T_stateMany : Int32) (T_hasSnapshot : Int32) (T_length : Int32) (T_stopNumber : Int32) (T_stopError : Int32) (T_at : Int32) (T_isWell : Int32) (T_readMany : Int32) (T_s : Nat → Int32) : va_W := [(oT, .inr (7, [.int T_thrown, .ref oT_s, .ref oT_aside, .ref oT_states, .int T_stateMany, .ref oT_snapshot, .int T_hasSnapshot, .ref oT_text, .int T_length, .int T_stopNumber, .int T_stopError, .ref oT_serves, .ref oT_took, .ref oT_tookMany, .ref oT_helps, .ref oT_before, .int T_at, .int T_isWell, .ref oT_read, .int T_readMany])), (oT_s, .inl (cI, 474, .inl T_s))]
abbrev rm_X7_leaveOn : Room := { frames := 1, cells := 0, slots := 0, locals := 22 }
theorem ic_X7_leaveOn_X7 : ∀ w ∈ u_ws RX7 TX7 20, w ∈ wsX7_leaveOn := by
  intro w h
  simp only [wsX7_leaveOn, List.mem_cons, List.mem_append]
  simp only [h, or_true, true_or]
def wb_X7_leaveOn_2 (T_s : Nat → Int32) (x1 : Int32) (x2 : Int32) (K_51 : Prop) (Q : Int32 → Prop) : Nat → Int32 → Prop
  | 0, _ => False
  | n + 1, x3 => vp_in (nI 6) 474 ∧ (((T_s (nI 6).toNatClampNeg) ≤ x3 → K_51) ∧ (¬ (T_s (nI 6).toNatClampNeg) ≤ x3 → wp_X7_ofLeave T_s x3 (nI 0) (fun r2 => ((¬ r2 = x1 → ∀ x3_4, x3_4 = x3 + (nI 1) → wb_X7_leaveOn_2 T_s x1 x2 K_51 Q n x3_4) ∧ (r2 = x1 → wp_X7_ofLeave T_s x3 (nI 1) (fun r5 => ((x2 < r5 → ∀ x3_7, x3_7 = x3 + (nI 1) → wb_X7_leaveOn_2 T_s x1 x2 K_51 Q n x3_7) ∧ (¬ x2 < r5 → wp_X7_ofLeave T_s x3 (nI 2) (fun r8 => ((r8 < x2 → ∀ x3_10, x3_10 = x3 + (nI 1) → wb_X7_leaveOn_2 T_s x1 x2 K_51 Q n x3_10) ∧ (¬ r8 < x2 → Q x3)))))))))))
set_option maxRecDepth 100000 in
set_option maxHeartbeats 4000000 in
theorem blk_X7_leaveOn_2 {p : Program} {l : Launch} {e : Env} {s : State} {m : MethodId} {args : Array Value} {below : List Frame} {meth : Method} {c : Code} {D : va_G} {cI cC cR : ClassId} {A : Nat → Prop} {Z : State → Prop} (CX : cx cX7_leaveOn (some .int) 4 RX7 wsX7_leaveOn p m meth c s args D cI cC cR A) (oT oT_s oT_aside oT_states oT_snapshot oT_text oT_serves oT_took oT_tookMany oT_helps oT_before oT_read : Nat) (T_thrown : Int32) (T_stateMany : Int32) (T_hasSnapshot : Int32) (T_length : Int32) (T_stopNumber : Int32) (T_stopError : Int32) (T_at : Int32) (T_isWell : Int32) (T_readMany : Int32) (T_s : Nat → Int32) (x1 : Int32) (x2 : Int32) {K_51 : Prop} {Q : Int32 → Prop} (HR : ∀ (r : Int32) {H : Heap} {locs : List Loc} {ls : Array Slot} {pc : Nat}, Q r → wd D A s (ww_X7_leaveOn cI cC oT oT_s oT_aside oT_states oT_snapshot oT_text oT_serves oT_took oT_tookMany oT_helps oT_before oT_read T_thrown T_stateMany T_hasSnapshot T_length T_stopNumber T_stopError T_at T_isWell T_readMany T_s) H locs → decode cX7_leaveOn pc = .ok (.ireturn, 1) → W p l e (headSpec wsX7_leaveOn rm_X7_leaveOn).room s m args below meth c H locs 0 0 Z (F0 m pc ls [.int r])) (HK_51 : K_51 → ∀ (H : Heap) (locs : List Loc) (ls : Array Slot), wd D A s (ww_X7_leaveOn cI cC oT oT_s oT_aside oT_states oT_snapshot oT_text oT_serves oT_took oT_tookMany oT_helps oT_before oT_read T_thrown T_stateMany T_hasSnapshot T_length T_stopNumber T_stopError T_at T_isWell T_readMany T_s) H locs → lv_has ls 4 [] → W p l e (headSpec wsX7_leaveOn rm_X7_leaveOn).room s m args below meth c H locs 0 0 Z (F0 m 51 ls [])) : ∀ (n : Nat) (x3 : Int32), wb_X7_leaveOn_2 T_s x1 x2 K_51 Q n x3 → ∀ (H : Heap) (locs : List Loc) (ls : Array Slot), wd D A s (ww_X7_leaveOn cI cC oT oT_s oT_aside oT_states oT_snapshot oT_text oT_serves oT_took oT_tookMany oT_helps oT_before oT_read T_thrown T_stateMany T_hasSnapshot T_length T_stopNumber T_stopError T_at T_isWell T_readMany T_s) H locs → lv_has ls 4 [(0, .ref oT), (1, .int x1), (2, .int x2), (3, .int x3)] → W p l e (headSpec wsX7_leaveOn rm_X7_leaveOn).room s m args below meth c H locs 0 0 Z (F0 m 2 ls []) := by
  obtain ⟨hx, hb, hr, hml, hts, hown, hlocks, hKw, hA⟩ := id CX
  intro n
  induction n with
  | zero => intro x3 hw; exact False.elim hw
  | succ n ih =>
    intro x3 hw H locs ls hwd hl
    rw [wb_X7_leaveOn_2] at hw
    refine lv_iload_n hx hb dX7_leaveOn_2 rfl (lv_at hl 3 rfl) ?_
    refine lv_aload_n hx hb dX7_leaveOn_3 rfl (lv_at hl 0 rfl) ?_
    refine va_get (D := D) (ci := 7) (v := .ref oT_s) (C := RX7) (T := TX7) (N := 20) hx hb hts ic_X7_leaveOn_X7 hown hKw.1 hwd.1 0 rfl rfl 1 (by decide) (hts (.fieldLink RX7 7 "DrillWardensModel" "s" "[I") (List.mem_of_getElem? (i := 1) rfl)) (fun _ h9 => h9) rfl dX7_leaveOn_4 ?_
    refine lv_bipush (v := (nI 6)) hx hb dX7_leaveOn_7 rfl ?_
    refine va_iald hx hb hKw.1 hwd.1 1 0 rfl rfl hw.1 dX7_leaveOn_9 ?_
    replace hw := hw.2
    refine lv_icmp_ge (tgt := 51) hx hb dX7_leaveOn_10 (by decide) (fun c1 => ?_) (fun c1 => ?_)
    · replace hw := hw.1 c1
      exact HK_51  hw _ _ _ hwd (lv_sub hl [] rfl)
    · replace hw := hw.2 c1
      refine lv_aload_n hx hb dX7_leaveOn_13 rfl (lv_at hl 0 rfl) ?_
      refine lv_iload_n hx hb dX7_leaveOn_14 rfl (lv_at hl 3 rfl) ?_
      refine lv_iconst (v := (nI 0)) hx hb dX7_leaveOn_15 rfl ?_
      refine kcVi (W1 := (fun u => (ww_X7_leaveOn cI cC oT oT_s oT_aside oT_states oT_snapshot oT_text oT_serves oT_took oT_tookMany oT_helps oT_before oT_read T_thrown T_stateMany T_hasSnapshot T_length T_stopNumber T_stopError T_at T_isWell T_readMany T_s))) (rest := []) (As := [.int x3, .int (nI 0)]) ⟨Nat.le_of_ble_eq_true rfl, Nat.le_of_ble_eq_true rfl⟩ ⟨hx, hb, hml, hown, hts⟩ (c_X7_ofLeave l oT oT_s oT_aside oT_states oT_snapshot oT_text oT_serves oT_took oT_tookMany oT_helps oT_before oT_read H.size T_thrown T_stateMany T_hasSnapshot T_length T_stopNumber T_stopError T_at T_isWell T_readMany T_s x3 (nI 0) hw) (cwV 2 hts gX7_leaveOn_X7_ofLeave rfl rfl rfl ⟨rfl, hd_X7_ofLeave⟩ ⟨Nat.le_of_ble_eq_true rfl, Nat.le_of_ble_eq_true rfl⟩) hKw hA hwd [0, 1] [] [0, 1] [] rfl rfl rfl rfl (by decide) rfl (fun _ => rfl) 0 7 rfl rfl rfl rfl hl.1 rfl (lv_room (Nat.le_of_ble_eq_true rfl)) dX7_leaveOn_16 (fun r2 u H locs hw hwd => ?_)
      try dsimp only at hw
      replace hwd : wd D A s (ww_X7_leaveOn cI cC oT oT_s oT_aside oT_states oT_snapshot oT_text oT_serves oT_took oT_tookMany oT_helps oT_before oT_read T_thrown T_stateMany T_hasSnapshot T_length T_stopNumber T_stopError T_at T_isWell T_readMany T_s) H locs := hwd
      refine lv_iload_n hx hb dX7_leaveOn_19 rfl (lv_at hl 1 rfl) ?_
      refine lv_icmp_ne (tgt := 45) hx hb dX7_leaveOn_20 (by decide) (fun c3 => ?_) (fun c3 => ?_)
      · replace hw := hw.1 c3
        obtain ⟨x3_4, e_x3_4⟩ : ∃ y : Int32, y = x3 + (nI 1) := ⟨_, rfl⟩
        replace hw := hw x3_4 e_x3_4
        refine lv_iinc (v := x3_4) (lv' := [(3, .int x3_4), (0, .ref oT), (1, .int x1), (2, .int x2)]) hx hb dX7_leaveOn_45 hl (k := 3) rfl (by rw [e_x3_4]; rfl) (by decide) rfl (fun ls hl => ?_)
        refine lv_goto (tgt := 2) hx hb dX7_leaveOn_48 (by decide) ?_
        exact ih x3_4 hw _ _ _ hwd (lv_sub hl [1, 2, 3, 0] rfl)
      · replace hw := hw.2 c3
        refine lv_aload_n hx hb dX7_leaveOn_23 rfl (lv_at hl 0 rfl) ?_
        refine lv_iload_n hx hb dX7_leaveOn_24 rfl (lv_at hl 3 rfl) ?_
        refine lv_iconst (v := (nI 1)) hx hb dX7_leaveOn_25 rfl ?_
        refine kcVi (W1 := (fun u => (ww_X7_leaveOn cI cC oT oT_s oT_aside oT_states oT_snapshot oT_text oT_serves oT_took oT_tookMany oT_helps oT_before oT_read T_thrown T_stateMany T_hasSnapshot T_length T_stopNumber T_stopError T_at T_isWell T_readMany T_s))) (rest := []) (As := [.int x3, .int (nI 1)]) ⟨Nat.le_of_ble_eq_true rfl, Nat.le_of_ble_eq_true rfl⟩ ⟨hx, hb, hml, hown, hts⟩ (c_X7_ofLeave l oT oT_s oT_aside oT_states oT_snapshot oT_text oT_serves oT_took oT_tookMany oT_helps oT_before oT_read H.size T_thrown T_stateMany T_hasSnapshot T_length T_stopNumber T_stopError T_at T_isWell T_readMany T_s x3 (nI 1) hw) (cwV 2 hts gX7_leaveOn_X7_ofLeave rfl rfl rfl ⟨rfl, hd_X7_ofLeave⟩ ⟨Nat.le_of_ble_eq_true rfl, Nat.le_of_ble_eq_true rfl⟩) hKw hA hwd [0, 1] [] [0, 1] [] rfl rfl rfl rfl (by decide) rfl (fun _ => rfl) 0 7 rfl rfl rfl rfl hl.1 rfl (lv_room (Nat.le_of_ble_eq_true rfl)) dX7_leaveOn_26 (fun r5 u H locs hw hwd => ?_)
        try dsimp only at hw
        replace hwd : wd D A s (ww_X7_leaveOn cI cC oT oT_s oT_aside oT_states oT_snapshot oT_text oT_serves oT_took oT_tookMany oT_helps oT_before oT_read T_thrown T_stateMany T_hasSnapshot T_length T_stopNumber T_stopError T_at T_isWell T_readMany T_s) H locs := hwd
        refine lv_iload_n hx hb dX7_leaveOn_29 rfl (lv_at hl 2 rfl) ?_
        refine lv_icmp_gt (tgt := 45) hx hb dX7_leaveOn_30 (by decide) (fun c6 => ?_) (fun c6 => ?_)
        · replace hw := hw.1 c6
          obtain ⟨x3_7, e_x3_7⟩ : ∃ y : Int32, y = x3 + (nI 1) := ⟨_, rfl⟩
          replace hw := hw x3_7 e_x3_7
          refine lv_iinc (v := x3_7) (lv' := [(3, .int x3_7), (0, .ref oT), (1, .int x1), (2, .int x2)]) hx hb dX7_leaveOn_45 hl (k := 3) rfl (by rw [e_x3_7]; rfl) (by decide) rfl (fun ls hl => ?_)
          refine lv_goto (tgt := 2) hx hb dX7_leaveOn_48 (by decide) ?_
          exact ih x3_7 hw _ _ _ hwd (lv_sub hl [1, 2, 3, 0] rfl)
        · replace hw := hw.2 c6
          refine lv_aload_n hx hb dX7_leaveOn_33 rfl (lv_at hl 0 rfl) ?_
          refine lv_iload_n hx hb dX7_leaveOn_34 rfl (lv_at hl 3 rfl) ?_
          refine lv_iconst (v := (nI 2)) hx hb dX7_leaveOn_35 rfl ?_
          refine kcVi (W1 := (fun u => (ww_X7_leaveOn cI cC oT oT_s oT_aside oT_states oT_snapshot oT_text oT_serves oT_took oT_tookMany oT_helps oT_before oT_read T_thrown T_stateMany T_hasSnapshot T_length T_stopNumber T_stopError T_at T_isWell T_readMany T_s))) (rest := []) (As := [.int x3, .int (nI 2)]) ⟨Nat.le_of_ble_eq_true rfl, Nat.le_of_ble_eq_true rfl⟩ ⟨hx, hb, hml, hown, hts⟩ (c_X7_ofLeave l oT oT_s oT_aside oT_states oT_snapshot oT_text oT_serves oT_took oT_tookMany oT_helps oT_before oT_read H.size T_thrown T_stateMany T_hasSnapshot T_length T_stopNumber T_stopError T_at T_isWell T_readMany T_s x3 (nI 2) hw) (cwV 2 hts gX7_leaveOn_X7_ofLeave rfl rfl rfl ⟨rfl, hd_X7_ofLeave⟩ ⟨Nat.le_of_ble_eq_true rfl, Nat.le_of_ble_eq_true rfl⟩) hKw hA hwd [0, 1] [] [0, 1] [] rfl rfl rfl rfl (by decide) rfl (fun _ => rfl) 0 7 rfl rfl rfl rfl hl.1 rfl (lv_room (Nat.le_of_ble_eq_true rfl)) dX7_leaveOn_36 (fun r8 u H locs hw hwd => ?_)
          try dsimp only at hw
          replace hwd : wd D A s (ww_X7_leaveOn cI cC oT oT_s oT_aside oT_states oT_snapshot oT_text oT_serves oT_took oT_tookMany oT_helps oT_before oT_read T_thrown T_stateMany T_hasSnapshot T_length T_stopNumber T_stopError T_at T_isWell T_readMany T_s) H locs := hwd
          refine lv_iload_n hx hb dX7_leaveOn_39 rfl (lv_at hl 2 rfl) ?_
          refine lv_icmp_lt (tgt := 45) hx hb dX7_leaveOn_40 (by decide) (fun c9 => ?_) (fun c9 => ?_)
          · replace hw := hw.1 c9
            obtain ⟨x3_10, e_x3_10⟩ : ∃ y : Int32, y = x3 + (nI 1) := ⟨_, rfl⟩
            replace hw := hw x3_10 e_x3_10
            refine lv_iinc (v := x3_10) (lv' := [(3, .int x3_10), (0, .ref oT), (1, .int x1), (2, .int x2)]) hx hb dX7_leaveOn_45 hl (k := 3) rfl (by rw [e_x3_10]; rfl) (by decide) rfl (fun ls hl => ?_)
            refine lv_goto (tgt := 2) hx hb dX7_leaveOn_48 (by decide) ?_
            exact ih x3_10 hw _ _ _ hwd (lv_sub hl [1, 2, 3, 0] rfl)
          · replace hw := hw.2 c9
            refine lv_iload_n hx hb dX7_leaveOn_43 rfl (lv_at hl 3 rfl) ?_
            exact HR x3 hw hwd dX7_leaveOn_44
def wp_X7_leaveOn (T_s : Nat → Int32) (x1 : Int32) (x2 : Int32) (Q : Int32 → Prop) : Prop := (∃ n1, wb_X7_leaveOn_2 T_s x1 x2 (Q (-5)) Q n1 (nI 0))
set_option maxRecDepth 100000 in
set_option maxHeartbeats 4000000 in
theorem c_X7_leaveOn (l : Launch) {D : va_G} {cI cC cR : ClassId} (oT oT_s oT_aside oT_states oT_snapshot oT_text oT_serves oT_took oT_tookMany oT_helps oT_before oT_read : Nat) (sz : Nat) (T_thrown : Int32) (T_stateMany : Int32) (T_hasSnapshot : Int32) (T_length : Int32) (T_stopNumber : Int32) (T_stopError : Int32) (T_at : Int32) (T_isWell : Int32) (T_readMany : Int32) (T_s : Nat → Int32) (x1 : Int32) (x2 : Int32) {Q : Int32 → Prop} (hw : wp_X7_leaveOn T_s x1 x2 Q) : Met l yX7_leaveOn wsX7_leaveOn rm_X7_leaveOn (PcW D cI cC cR [.ref oT, .int x1, .int x2] (ww_X7_leaveOn cI cC oT oT_s oT_aside oT_states oT_snapshot oT_text oT_serves oT_took oT_tookMany oT_helps oT_before oT_read T_thrown T_stateMany T_hasSnapshot T_length T_stopNumber T_stopError T_at T_isWell T_readMany T_s) sz) (QiW D (fun (r : Int32) (u : Unit) => Q r ) (fun u => (ww_X7_leaveOn cI cC oT oT_s oT_aside oT_states oT_snapshot oT_text oT_serves oT_took oT_tookMany oT_helps oT_before oT_read T_thrown T_stateMany T_hasSnapshot T_length T_stopNumber T_stopError T_at T_isWell T_readMany T_s)) (ww_X7_leaveOn cI cC oT oT_s oT_aside oT_states oT_snapshot oT_text oT_serves oT_took oT_tookMany oT_helps oT_before oT_read T_thrown T_stateMany T_hasSnapshot T_length T_stopNumber T_stopError T_at T_isWell T_readMany T_s) sz) 0 0 (va_A (ww_X7_leaveOn cI cC oT oT_s oT_aside oT_states oT_snapshot oT_text oT_serves oT_took oT_tookMany oT_helps oT_before oT_read T_thrown T_stateMany T_hasSnapshot T_length T_stopNumber T_stopError T_at T_isWell T_readMany T_s) sz) := by
  refine Met.ofW (cc := cX7_leaveOn) (maxL := 4) (ret := (some .int)) (by decide) rfl ?_
  intro p e s m args below meth c s₁ B hml hv
  obtain ⟨rfl, hsz, hP, hKw, hD0⟩ := hv
  have hlocks := B.notSynchronized
  subst hsz
  have hD := hD0.self (sz := s.heap.size)
  have CX : cx cX7_leaveOn (some .int) 4 RX7 wsX7_leaveOn p m meth c s ([.ref oT, .int x1, .int x2] : List Value).toArray D cI cC cR (va_A (ww_X7_leaveOn cI cC oT oT_s oT_aside oT_states oT_snapshot oT_text oT_serves oT_took oT_tookMany oT_helps oT_before oT_read T_thrown T_stateMany T_hasSnapshot T_length T_stopNumber T_stopError T_at T_isWell T_readMany T_s) s.heap.size) := ⟨B.exec, B.bytes, B.returns, hml, atoms_spec (ws := wsX7_leaveOn) B.pre, findClass_of_methodNamed B.named, hlocks, hKw, fun q h => Or.inr h⟩
  obtain ⟨hx, hb, hr, -, hts, hown, -, -, hA⟩ := id CX
  have hwd : wd D (va_A (ww_X7_leaveOn cI cC oT oT_s oT_aside oT_states oT_snapshot oT_text oT_serves oT_took oT_tookMany oT_helps oT_before oT_read T_thrown T_stateMany T_hasSnapshot T_length T_stopNumber T_stopError T_at T_isWell T_readMany T_s) s.heap.size) s (ww_X7_leaveOn cI cC oT oT_s oT_aside oT_states oT_snapshot oT_text oT_serves oT_took oT_tookMany oT_helps oT_before oT_read T_thrown T_stateMany T_hasSnapshot T_length T_stopNumber T_stopError T_at T_isWell T_readMany T_s) s.heap [] := ⟨hP, hD, va_S.rf⟩
  have hl := lv_entry ([.ref oT, .int x1, .int x2]) (n := 4) (Nat.le_of_ble_eq_true rfl)
  rw [lg_entry_eq]
  generalize (lg_sl ([.ref oT, .int x1, .int x2]) ++ List.replicate (4 - (lg_sl ([.ref oT, .int x1, .int x2])).length) Slot.unset).toArray = ls at hl ⊢
  have hl : lv_has ls 4 [(0, .ref oT), (1, .int x1), (2, .int x2)] := hl
  have HR : ∀ (r : Int32) {H : Heap} {locs : List Loc} {ls : Array Slot} {pc : Nat}, Q r → wd D (va_A (ww_X7_leaveOn cI cC oT oT_s oT_aside oT_states oT_snapshot oT_text oT_serves oT_took oT_tookMany oT_helps oT_before oT_read T_thrown T_stateMany T_hasSnapshot T_length T_stopNumber T_stopError T_at T_isWell T_readMany T_s) s.heap.size) s (ww_X7_leaveOn cI cC oT oT_s oT_aside oT_states oT_snapshot oT_text oT_serves oT_took oT_tookMany oT_helps oT_before oT_read T_thrown T_stateMany T_hasSnapshot T_length T_stopNumber T_stopError T_at T_isWell T_readMany T_s) H locs → decode cX7_leaveOn pc = .ok (.ireturn, 1) → W p l e (headSpec wsX7_leaveOn rm_X7_leaveOn).room s m ([.ref oT, .int x1, .int x2] : List Value).toArray below meth c H locs 0 0 (MQ below (QiW D (fun (r : Int32) (u : Unit) => Q r ) (fun u => (ww_X7_leaveOn cI cC oT oT_s oT_aside oT_states oT_snapshot oT_text oT_serves oT_took oT_tookMany oT_helps oT_before oT_read T_thrown T_stateMany T_hasSnapshot T_length T_stopNumber T_stopError T_at T_isWell T_readMany T_s)) (ww_X7_leaveOn cI cC oT oT_s oT_aside oT_states oT_snapshot oT_text oT_serves oT_took oT_tookMany oT_helps oT_before oT_read T_thrown T_stateMany T_hasSnapshot T_length T_stopNumber T_stopError T_at T_isWell T_readMany T_s) s.heap.size) ([.ref oT, .int x1, .int x2] : List Value).toArray s 0 0 (va_A (ww_X7_leaveOn cI cC oT oT_s oT_aside oT_states oT_snapshot oT_text oT_serves oT_took oT_tookMany oT_helps oT_before oT_read T_thrown T_stateMany T_hasSnapshot T_length T_stopNumber T_stopError T_at T_isWell T_readMany T_s) s.heap.size)) (F0 m pc ls [.int r]) := by
    intro r H locs ls pc hq hw9 hd9
    exact W.iret (v := r) hx hb hr (fun t ht hW => ⟨⟨r, (), rfl, hq, by rw [ht]; exact hw9.1, hw9.2.1⟩, hw9.2.2.F ht⟩) hw9.2.2.2.2 hd9
  unfold wp_X7_leaveOn at hw
  refine lv_iconst (v := (nI 0)) hx hb dX7_leaveOn_0 rfl ?_
  refine lv_istore_n (lv' := [(3, .int (nI 0)), (0, .ref oT), (1, .int x1), (2, .int x2)]) hx hb dX7_leaveOn_1 rfl hl (by decide) rfl (fun ls hl => ?_)
  obtain ⟨n1, hw⟩ := hw
  refine blk_X7_leaveOn_2 (CX := CX) (oT := oT) (oT_s := oT_s) (oT_aside := oT_aside) (oT_states := oT_states) (oT_snapshot := oT_snapshot) (oT_text := oT_text) (oT_serves := oT_serves) (oT_took := oT_took) (oT_tookMany := oT_tookMany) (oT_helps := oT_helps) (oT_before := oT_before) (oT_read := oT_read) (T_thrown := T_thrown) (T_stateMany := T_stateMany) (T_hasSnapshot := T_hasSnapshot) (T_length := T_length) (T_stopNumber := T_stopNumber) (T_stopError := T_stopError) (T_at := T_at) (T_isWell := T_isWell) (T_readMany := T_readMany) (T_s := T_s) (x1 := x1) (x2 := x2) (HR := HR) (HK_51 := fun  hw H locs ls hwd hl => ?_) n1 (nI 0) hw _ _ _ hwd (lv_sub hl [1, 2, 3, 0] rfl)
  try dsimp only at hw
  refine lv_bipush (v := (-5)) hx hb dX7_leaveOn_51 rfl ?_
  exact HR (-5) hw hwd dX7_leaveOn_53
abbrev ww_X7_isReady (cI cC : ClassId) (oT oT_s oT_aside oT_states oT_snapshot oT_text oT_serves oT_took oT_tookMany oT_helps oT_before oT_read : Nat) (T_thrown : Int32) (T_stateMany : Int32) (T_hasSnapshot : Int32) (T_length : Int32) (T_stopNumber : Int32) (T_stopError : Int32) (T_at : Int32) (T_isWell : Int32) (T_readMany : Int32) (T_s : Nat → Int32) (T_serves : Nat → Int32) : va_W := [(oT, .inr (7, [.int T_thrown, .ref oT_s, .ref oT_aside, .ref oT_states, .int T_stateMany, .ref oT_snapshot, .int T_hasSnapshot, .ref oT_text, .int T_length, .int T_stopNumber, .int T_stopError, .ref oT_serves, .ref oT_took, .ref oT_tookMany, .ref oT_helps, .ref oT_before, .int T_at, .int T_isWell, .ref oT_read, .int T_readMany])), (oT_s, .inl (cI, 474, .inl T_s)), (oT_serves, .inl (cI, 16, .inl T_serves))]
abbrev rm_X7_isReady : Room := { frames := 2, cells := 0, slots := 0, locals := 45 }
theorem ic_X7_isReady_X7 : ∀ w ∈ u_ws RX7 TX7 20, w ∈ wsX7_isReady := by
  intro w h
  simp only [wsX7_isReady, List.mem_cons, List.mem_append]
  simp only [h, or_true, true_or]
def wp_X7_isReady (T_s : Nat → Int32) (T_serves : Nat → Int32) (x1 : Int32) (x2 : Int32) (Q : Int32 → Prop) : Prop := vp_in (((nI 318) + ((nI 2) * x1)) + (nI 0)) 474 ∧ (((T_s (((nI 318) + ((nI 2) * x1)) + (nI 0)).toNatClampNeg) < x2 → Q (nI 0)) ∧ (¬ (T_s (((nI 318) + ((nI 2) * x1)) + (nI 0)).toNatClampNeg) < x2 → wp_X7_leaveOn T_s x1 x2 (fun r2 => ((¬ r2 = (-5) → Q (nI 0)) ∧ (r2 = (-5) → vp_in x1 16 ∧ ((¬ (T_serves x1.toNatClampNeg) = (-5) → Q (nI 0)) ∧ ((T_serves x1.toNatClampNeg) = (-5) → Q (nI 1))))))))
set_option maxRecDepth 100000 in
set_option maxHeartbeats 4000000 in
theorem c_X7_isReady (l : Launch) {D : va_G} {cI cC cR : ClassId} (oT oT_s oT_aside oT_states oT_snapshot oT_text oT_serves oT_took oT_tookMany oT_helps oT_before oT_read : Nat) (sz : Nat) (T_thrown : Int32) (T_stateMany : Int32) (T_hasSnapshot : Int32) (T_length : Int32) (T_stopNumber : Int32) (T_stopError : Int32) (T_at : Int32) (T_isWell : Int32) (T_readMany : Int32) (T_s : Nat → Int32) (T_serves : Nat → Int32) (x1 : Int32) (x2 : Int32) {Q : Int32 → Prop} (hw : wp_X7_isReady T_s T_serves x1 x2 Q) : Met l yX7_isReady wsX7_isReady rm_X7_isReady (PcW D cI cC cR [.ref oT, .int x1, .int x2] (ww_X7_isReady cI cC oT oT_s oT_aside oT_states oT_snapshot oT_text oT_serves oT_took oT_tookMany oT_helps oT_before oT_read T_thrown T_stateMany T_hasSnapshot T_length T_stopNumber T_stopError T_at T_isWell T_readMany T_s T_serves) sz) (QiW D (fun (r : Int32) (u : Unit) => Q r ) (fun u => (ww_X7_isReady cI cC oT oT_s oT_aside oT_states oT_snapshot oT_text oT_serves oT_took oT_tookMany oT_helps oT_before oT_read T_thrown T_stateMany T_hasSnapshot T_length T_stopNumber T_stopError T_at T_isWell T_readMany T_s T_serves)) (ww_X7_isReady cI cC oT oT_s oT_aside oT_states oT_snapshot oT_text oT_serves oT_took oT_tookMany oT_helps oT_before oT_read T_thrown T_stateMany T_hasSnapshot T_length T_stopNumber T_stopError T_at T_isWell T_readMany T_s T_serves) sz) 0 0 (va_A (ww_X7_isReady cI cC oT oT_s oT_aside oT_states oT_snapshot oT_text oT_serves oT_took oT_tookMany oT_helps oT_before oT_read T_thrown T_stateMany T_hasSnapshot T_length T_stopNumber T_stopError T_at T_isWell T_readMany T_s T_serves) sz) := by
  refine Met.ofW (cc := cX7_isReady) (maxL := 3) (ret := (some .boolean)) (by decide) rfl ?_
  intro p e s m args below meth c s₁ B hml hv
  obtain ⟨rfl, hsz, hP, hKw, hD0⟩ := hv
  have hlocks := B.notSynchronized
  subst hsz
  have hD := hD0.self (sz := s.heap.size)
  have CX : cx cX7_isReady (some .boolean) 3 RX7 wsX7_isReady p m meth c s ([.ref oT, .int x1, .int x2] : List Value).toArray D cI cC cR (va_A (ww_X7_isReady cI cC oT oT_s oT_aside oT_states oT_snapshot oT_text oT_serves oT_took oT_tookMany oT_helps oT_before oT_read T_thrown T_stateMany T_hasSnapshot T_length T_stopNumber T_stopError T_at T_isWell T_readMany T_s T_serves) s.heap.size) := ⟨B.exec, B.bytes, B.returns, hml, atoms_spec (ws := wsX7_isReady) B.pre, findClass_of_methodNamed B.named, hlocks, hKw, fun q h => Or.inr h⟩
  obtain ⟨hx, hb, hr, -, hts, hown, -, -, hA⟩ := id CX
  have hwd : wd D (va_A (ww_X7_isReady cI cC oT oT_s oT_aside oT_states oT_snapshot oT_text oT_serves oT_took oT_tookMany oT_helps oT_before oT_read T_thrown T_stateMany T_hasSnapshot T_length T_stopNumber T_stopError T_at T_isWell T_readMany T_s T_serves) s.heap.size) s (ww_X7_isReady cI cC oT oT_s oT_aside oT_states oT_snapshot oT_text oT_serves oT_took oT_tookMany oT_helps oT_before oT_read T_thrown T_stateMany T_hasSnapshot T_length T_stopNumber T_stopError T_at T_isWell T_readMany T_s T_serves) s.heap [] := ⟨hP, hD, va_S.rf⟩
  have hl := lv_entry ([.ref oT, .int x1, .int x2]) (n := 3) (Nat.le_of_ble_eq_true rfl)
  rw [lg_entry_eq]
  generalize (lg_sl ([.ref oT, .int x1, .int x2]) ++ List.replicate (3 - (lg_sl ([.ref oT, .int x1, .int x2])).length) Slot.unset).toArray = ls at hl ⊢
  have hl : lv_has ls 3 [(0, .ref oT), (1, .int x1), (2, .int x2)] := hl
  have HR : ∀ (r : Int32) {H : Heap} {locs : List Loc} {ls : Array Slot} {pc : Nat}, Q r → wd D (va_A (ww_X7_isReady cI cC oT oT_s oT_aside oT_states oT_snapshot oT_text oT_serves oT_took oT_tookMany oT_helps oT_before oT_read T_thrown T_stateMany T_hasSnapshot T_length T_stopNumber T_stopError T_at T_isWell T_readMany T_s T_serves) s.heap.size) s (ww_X7_isReady cI cC oT oT_s oT_aside oT_states oT_snapshot oT_text oT_serves oT_took oT_tookMany oT_helps oT_before oT_read T_thrown T_stateMany T_hasSnapshot T_length T_stopNumber T_stopError T_at T_isWell T_readMany T_s T_serves) H locs → narrow .boolean (.int r) = .int r → decode cX7_isReady pc = .ok (.ireturn, 1) → W p l e (headSpec wsX7_isReady rm_X7_isReady).room s m ([.ref oT, .int x1, .int x2] : List Value).toArray below meth c H locs 0 0 (MQ below (QiW D (fun (r : Int32) (u : Unit) => Q r ) (fun u => (ww_X7_isReady cI cC oT oT_s oT_aside oT_states oT_snapshot oT_text oT_serves oT_took oT_tookMany oT_helps oT_before oT_read T_thrown T_stateMany T_hasSnapshot T_length T_stopNumber T_stopError T_at T_isWell T_readMany T_s T_serves)) (ww_X7_isReady cI cC oT oT_s oT_aside oT_states oT_snapshot oT_text oT_serves oT_took oT_tookMany oT_helps oT_before oT_read T_thrown T_stateMany T_hasSnapshot T_length T_stopNumber T_stopError T_at T_isWell T_readMany T_s T_serves) s.heap.size) ([.ref oT, .int x1, .int x2] : List Value).toArray s 0 0 (va_A (ww_X7_isReady cI cC oT oT_s oT_aside oT_states oT_snapshot oT_text oT_serves oT_took oT_tookMany oT_helps oT_before oT_read T_thrown T_stateMany T_hasSnapshot T_length T_stopNumber T_stopError T_at T_isWell T_readMany T_s T_serves) s.heap.size)) (F0 m pc ls [.int r]) := by
    intro r H locs ls pc hq hw9 hn9 hd9
    exact W.zret (v := r) hx hb hr hn9 (fun t ht hW => ⟨⟨r, (), rfl, hq, by rw [ht]; exact hw9.1, hw9.2.1⟩, hw9.2.2.F ht⟩) hw9.2.2.2.2 hd9
  unfold wp_X7_isReady at hw
  refine lv_aload_n hx hb dX7_isReady_0 rfl (lv_at hl 0 rfl) ?_
  refine va_get (D := D) (ci := 7) (v := .ref oT_s) (C := RX7) (T := TX7) (N := 20) hx hb hts ic_X7_isReady_X7 hown hKw.1 hwd.1 0 rfl rfl 1 (by decide) (hts (.fieldLink RX7 7 "DrillWardensModel" "s" "[I") (List.mem_of_getElem? (i := 1) rfl)) (fun _ h9 => h9) rfl dX7_isReady_1 ?_
  refine lv_sipush (v := (nI 318)) hx hb dX7_isReady_4 rfl ?_
  refine lv_iconst (v := (nI 2)) hx hb dX7_isReady_7 rfl ?_
  refine lv_iload_n hx hb dX7_isReady_8 rfl (lv_at hl 1 rfl) ?_
  refine lv_imul hx hb dX7_isReady_9 ?_
  refine lv_iadd hx hb dX7_isReady_10 ?_
  refine lv_iconst (v := (nI 0)) hx hb dX7_isReady_11 rfl ?_
  refine lv_iadd hx hb dX7_isReady_12 ?_
  refine va_iald hx hb hKw.1 hwd.1 1 0 rfl rfl hw.1 dX7_isReady_13 ?_
  replace hw := hw.2
  refine lv_iload_n hx hb dX7_isReady_14 rfl (lv_at hl 2 rfl) ?_
  refine lv_icmp_lt (tgt := 44) hx hb dX7_isReady_15 (by decide) (fun c1 => ?_) (fun c1 => ?_)
  · replace hw := hw.1 c1
    refine lv_iconst (v := (nI 0)) hx hb dX7_isReady_44 rfl ?_
    exact HR (nI 0) hw hwd rfl dX7_isReady_45
  · replace hw := hw.2 c1
    refine lv_aload_n hx hb dX7_isReady_18 rfl (lv_at hl 0 rfl) ?_
    refine lv_iload_n hx hb dX7_isReady_19 rfl (lv_at hl 1 rfl) ?_
    refine lv_iload_n hx hb dX7_isReady_20 rfl (lv_at hl 2 rfl) ?_
    refine kcVi (W1 := (fun u => (ww_X7_isReady cI cC oT oT_s oT_aside oT_states oT_snapshot oT_text oT_serves oT_took oT_tookMany oT_helps oT_before oT_read T_thrown T_stateMany T_hasSnapshot T_length T_stopNumber T_stopError T_at T_isWell T_readMany T_s T_serves))) (rest := []) (As := [.int x1, .int x2]) ⟨Nat.le_of_ble_eq_true rfl, Nat.le_of_ble_eq_true rfl⟩ ⟨hx, hb, hml, hown, hts⟩ (c_X7_leaveOn l oT oT_s oT_aside oT_states oT_snapshot oT_text oT_serves oT_took oT_tookMany oT_helps oT_before oT_read s.heap.size T_thrown T_stateMany T_hasSnapshot T_length T_stopNumber T_stopError T_at T_isWell T_readMany T_s x1 x2 hw) (cwV 2 hts gX7_isReady_X7_leaveOn rfl rfl rfl ⟨rfl, hd_X7_leaveOn⟩ ⟨Nat.le_of_ble_eq_true rfl, Nat.le_of_ble_eq_true rfl⟩) hKw hA hwd [0, 1] [2] [1, 2, 0] [(oT_serves, .inl (cI, 16, .inl T_serves))] rfl rfl rfl rfl (by decide) rfl (fun _ => rfl) 0 7 rfl rfl rfl rfl hl.1 rfl (lv_room (Nat.le_of_ble_eq_true rfl)) dX7_isReady_21 (fun r2 u H locs hw hwd => ?_)
    try dsimp only at hw
    replace hwd : wd D (va_A (ww_X7_isReady cI cC oT oT_s oT_aside oT_states oT_snapshot oT_text oT_serves oT_took oT_tookMany oT_helps oT_before oT_read T_thrown T_stateMany T_hasSnapshot T_length T_stopNumber T_stopError T_at T_isWell T_readMany T_s T_serves) s.heap.size) s (ww_X7_isReady cI cC oT oT_s oT_aside oT_states oT_snapshot oT_text oT_serves oT_took oT_tookMany oT_helps oT_before oT_read T_thrown T_stateMany T_hasSnapshot T_length T_stopNumber T_stopError T_at T_isWell T_readMany T_s T_serves) H locs := hwd
    refine lv_bipush (v := (-5)) hx hb dX7_isReady_24 rfl ?_
    refine lv_icmp_ne (tgt := 44) hx hb dX7_isReady_26 (by decide) (fun c3 => ?_) (fun c3 => ?_)
    · replace hw := hw.1 c3
      refine lv_iconst (v := (nI 0)) hx hb dX7_isReady_44 rfl ?_
      exact HR (nI 0) hw hwd rfl dX7_isReady_45
    · replace hw := hw.2 c3
      refine lv_aload_n hx hb dX7_isReady_29 rfl (lv_at hl 0 rfl) ?_
      refine va_get (D := D) (ci := 7) (v := .ref oT_serves) (C := RX7) (T := TX7) (N := 20) hx hb hts ic_X7_isReady_X7 hown hKw.1 hwd.1 0 rfl rfl 11 (by decide) (hts (.fieldLink RX7 25 "DrillWardensModel" "serves" "[I") (List.mem_of_getElem? (i := 2) rfl)) (fun _ h9 => h9) rfl dX7_isReady_30 ?_
      refine lv_iload_n hx hb dX7_isReady_33 rfl (lv_at hl 1 rfl) ?_
      refine va_iald hx hb hKw.1 hwd.1 2 0 rfl rfl hw.1 dX7_isReady_34 ?_
      replace hw := hw.2
      refine lv_bipush (v := (-5)) hx hb dX7_isReady_35 rfl ?_
      refine lv_icmp_ne (tgt := 44) hx hb dX7_isReady_37 (by decide) (fun c4 => ?_) (fun c4 => ?_)
      · replace hw := hw.1 c4
        refine lv_iconst (v := (nI 0)) hx hb dX7_isReady_44 rfl ?_
        exact HR (nI 0) hw hwd rfl dX7_isReady_45
      · replace hw := hw.2 c4
        refine lv_iconst (v := (nI 1)) hx hb dX7_isReady_40 rfl ?_
        refine lv_goto (tgt := 45) hx hb dX7_isReady_41 (by decide) ?_
        exact HR (nI 1) hw hwd rfl dX7_isReady_45
abbrev ww_X7_choosing (cI cC : ClassId) (oT oT_s oT_aside oT_states oT_snapshot oT_text oT_serves oT_took oT_tookMany oT_helps oT_before oT_read : Nat) (T_thrown : Int32) (T_stateMany : Int32) (T_hasSnapshot : Int32) (T_length : Int32) (T_stopNumber : Int32) (T_stopError : Int32) (T_at : Int32) (T_isWell : Int32) (T_readMany : Int32) (T_s : Nat → Int32) : va_W := [(oT, .inr (7, [.int T_thrown, .ref oT_s, .ref oT_aside, .ref oT_states, .int T_stateMany, .ref oT_snapshot, .int T_hasSnapshot, .ref oT_text, .int T_length, .int T_stopNumber, .int T_stopError, .ref oT_serves, .ref oT_took, .ref oT_tookMany, .ref oT_helps, .ref oT_before, .int T_at, .int T_isWell, .ref oT_read, .int T_readMany])), (oT_s, .inl (cI, 474, .inl T_s))]
abbrev rm_X7_choosing : Room := { frames := 1, cells := 0, slots := 0, locals := 22 }
theorem ic_X7_choosing_X7 : ∀ w ∈ u_ws RX7 TX7 20, w ∈ wsX7_choosing := by
  intro w h
  simp only [wsX7_choosing, List.mem_cons, List.mem_append]
  simp only [h, or_true, true_or]
def wb_X7_choosing_41 (T_s : Nat → Int32) (x2 : Int32) (K_100 : Int32 → Prop) : Nat → Int32 → Int32 → Prop
  | 0, _, _ => False
  | n + 1, x3, x4 => (((nI 10) ≤ x4 → K_100 x3) ∧ (¬ (nI 10) ≤ x4 → wp_X7_of T_s x4 (nI 1) (fun r2 => wp_X7_of T_s x2 (nI 1) (fun r3 => ((r2 < r3 → ∀ x3_5, x3_5 = x3 + (nI 1) → ∀ x4_6, x4_6 = x4 + (nI 1) → wb_X7_choosing_41 T_s x2 K_100 n x3_5 x4_6) ∧ (¬ r2 < r3 → wp_X7_of T_s x4 (nI 1) (fun r7 => wp_X7_of T_s x2 (nI 1) (fun r8 => ((¬ r7 = r8 → ∀ x3_10, x3_10 = x3 + (nI 0) → ∀ x4_11, x4_11 = x4 + (nI 1) → wb_X7_choosing_41 T_s x2 K_100 n x3_10 x4_11) ∧ (r7 = r8 → ((x2 ≤ x4 → ∀ x3_13, x3_13 = x3 + (nI 0) → ∀ x4_14, x4_14 = x4 + (nI 1) → wb_X7_choosing_41 T_s x2 K_100 n x3_13 x4_14) ∧ (¬ x2 ≤ x4 → ∀ x3_15, x3_15 = x3 + (nI 1) → ∀ x4_16, x4_16 = x4 + (nI 1) → wb_X7_choosing_41 T_s x2 K_100 n x3_15 x4_16))))))))))))
set_option maxRecDepth 100000 in
set_option maxHeartbeats 4000000 in
theorem blk_X7_choosing_41 {p : Program} {l : Launch} {e : Env} {s : State} {m : MethodId} {args : Array Value} {below : List Frame} {meth : Method} {c : Code} {D : va_G} {cI cC cR : ClassId} {A : Nat → Prop} {Z : State → Prop} (CX : cx cX7_choosing (some .int) 5 RX7 wsX7_choosing p m meth c s args D cI cC cR A) (oT oT_s oT_aside oT_states oT_snapshot oT_text oT_serves oT_took oT_tookMany oT_helps oT_before oT_read : Nat) (T_thrown : Int32) (T_stateMany : Int32) (T_hasSnapshot : Int32) (T_length : Int32) (T_stopNumber : Int32) (T_stopError : Int32) (T_at : Int32) (T_isWell : Int32) (T_readMany : Int32) (T_s : Nat → Int32) (x1 : Int32) (x2 : Int32) {K_100 : Int32 → Prop} {Q : Int32 → Prop} (HR : ∀ (r : Int32) {H : Heap} {locs : List Loc} {ls : Array Slot} {pc : Nat}, Q r → wd D A s (ww_X7_choosing cI cC oT oT_s oT_aside oT_states oT_snapshot oT_text oT_serves oT_took oT_tookMany oT_helps oT_before oT_read T_thrown T_stateMany T_hasSnapshot T_length T_stopNumber T_stopError T_at T_isWell T_readMany T_s) H locs → decode cX7_choosing pc = .ok (.ireturn, 1) → W p l e (headSpec wsX7_choosing rm_X7_choosing).room s m args below meth c H locs 0 0 Z (F0 m pc ls [.int r])) (HK_100 : ∀ (x3y : Int32), K_100 x3y → ∀ (H : Heap) (locs : List Loc) (ls : Array Slot), wd D A s (ww_X7_choosing cI cC oT oT_s oT_aside oT_states oT_snapshot oT_text oT_serves oT_took oT_tookMany oT_helps oT_before oT_read T_thrown T_stateMany T_hasSnapshot T_length T_stopNumber T_stopError T_at T_isWell T_readMany T_s) H locs → lv_has ls 5 [(0, .ref oT), (1, .int x1), (2, .int x2), (3, .int x3y)] → W p l e (headSpec wsX7_choosing rm_X7_choosing).room s m args below meth c H locs 0 0 Z (F0 m 100 ls [])) : ∀ (n : Nat) (x3 : Int32) (x4 : Int32), wb_X7_choosing_41 T_s x2 K_100 n x3 x4 → ∀ (H : Heap) (locs : List Loc) (ls : Array Slot), wd D A s (ww_X7_choosing cI cC oT oT_s oT_aside oT_states oT_snapshot oT_text oT_serves oT_took oT_tookMany oT_helps oT_before oT_read T_thrown T_stateMany T_hasSnapshot T_length T_stopNumber T_stopError T_at T_isWell T_readMany T_s) H locs → lv_has ls 5 [(0, .ref oT), (1, .int x1), (2, .int x2), (3, .int x3), (4, .int x4)] → W p l e (headSpec wsX7_choosing rm_X7_choosing).room s m args below meth c H locs 0 0 Z (F0 m 41 ls []) := by
  obtain ⟨hx, hb, hr, hml, hts, hown, hlocks, hKw, hA⟩ := id CX
  intro n
  induction n with
  | zero => intro x3 x4 hw; exact False.elim hw
  | succ n ih =>
    intro x3 x4 hw H locs ls hwd hl
    rw [wb_X7_choosing_41] at hw
    refine lv_iload hx hb dX7_choosing_41 (lv_at hl 4 rfl) ?_
    refine lv_bipush (v := (nI 10)) hx hb dX7_choosing_43 rfl ?_
    refine lv_icmp_ge (tgt := 100) hx hb dX7_choosing_45 (by decide) (fun c1 => ?_) (fun c1 => ?_)
    · replace hw := hw.1 c1
      exact HK_100 x3 hw _ _ _ hwd (lv_sub hl [0, 1, 2, 3] rfl)
    · replace hw := hw.2 c1
      refine lv_iload_n hx hb dX7_choosing_48 rfl (lv_at hl 3 rfl) ?_
      refine lv_aload_n hx hb dX7_choosing_49 rfl (lv_at hl 0 rfl) ?_
      refine lv_iload hx hb dX7_choosing_50 (lv_at hl 4 rfl) ?_
      refine lv_iconst (v := (nI 1)) hx hb dX7_choosing_52 rfl ?_
      refine kcVi (W1 := (fun u => (ww_X7_choosing cI cC oT oT_s oT_aside oT_states oT_snapshot oT_text oT_serves oT_took oT_tookMany oT_helps oT_before oT_read T_thrown T_stateMany T_hasSnapshot T_length T_stopNumber T_stopError T_at T_isWell T_readMany T_s))) (rest := [.int x3]) (As := [.int x4, .int (nI 1)]) ⟨Nat.le_of_ble_eq_true rfl, Nat.le_of_ble_eq_true rfl⟩ ⟨hx, hb, hml, hown, hts⟩ (c_X7_of l oT oT_s oT_aside oT_states oT_snapshot oT_text oT_serves oT_took oT_tookMany oT_helps oT_before oT_read H.size T_thrown T_stateMany T_hasSnapshot T_length T_stopNumber T_stopError T_at T_isWell T_readMany T_s x4 (nI 1) hw) (cwV 2 hts gX7_choosing_X7_of rfl rfl rfl ⟨rfl, hd_X7_of⟩ ⟨Nat.le_of_ble_eq_true rfl, Nat.le_of_ble_eq_true rfl⟩) hKw hA hwd [0, 1] [] [0, 1] [] rfl rfl rfl rfl (by decide) rfl (fun _ => rfl) 0 7 rfl rfl rfl rfl hl.1 rfl (lv_room (Nat.le_of_ble_eq_true rfl)) dX7_choosing_53 (fun r2 u H locs hw hwd => ?_)
      try dsimp only at hw
      replace hwd : wd D A s (ww_X7_choosing cI cC oT oT_s oT_aside oT_states oT_snapshot oT_text oT_serves oT_took oT_tookMany oT_helps oT_before oT_read T_thrown T_stateMany T_hasSnapshot T_length T_stopNumber T_stopError T_at T_isWell T_readMany T_s) H locs := hwd
      refine lv_aload_n hx hb dX7_choosing_56 rfl (lv_at hl 0 rfl) ?_
      refine lv_iload_n hx hb dX7_choosing_57 rfl (lv_at hl 2 rfl) ?_
      refine lv_iconst (v := (nI 1)) hx hb dX7_choosing_58 rfl ?_
      refine kcVi (W1 := (fun u => (ww_X7_choosing cI cC oT oT_s oT_aside oT_states oT_snapshot oT_text oT_serves oT_took oT_tookMany oT_helps oT_before oT_read T_thrown T_stateMany T_hasSnapshot T_length T_stopNumber T_stopError T_at T_isWell T_readMany T_s))) (rest := [.int r2, .int x3]) (As := [.int x2, .int (nI 1)]) ⟨Nat.le_of_ble_eq_true rfl, Nat.le_of_ble_eq_true rfl⟩ ⟨hx, hb, hml, hown, hts⟩ (c_X7_of l oT oT_s oT_aside oT_states oT_snapshot oT_text oT_serves oT_took oT_tookMany oT_helps oT_before oT_read H.size T_thrown T_stateMany T_hasSnapshot T_length T_stopNumber T_stopError T_at T_isWell T_readMany T_s x2 (nI 1) hw) (cwV 2 hts gX7_choosing_X7_of rfl rfl rfl ⟨rfl, hd_X7_of⟩ ⟨Nat.le_of_ble_eq_true rfl, Nat.le_of_ble_eq_true rfl⟩) hKw hA hwd [0, 1] [] [0, 1] [] rfl rfl rfl rfl (by decide) rfl (fun _ => rfl) 0 7 rfl rfl rfl rfl hl.1 rfl (lv_room (Nat.le_of_ble_eq_true rfl)) dX7_choosing_59 (fun r3 u H locs hw hwd => ?_)
      try dsimp only at hw
      replace hwd : wd D A s (ww_X7_choosing cI cC oT oT_s oT_aside oT_states oT_snapshot oT_text oT_serves oT_took oT_tookMany oT_helps oT_before oT_read T_thrown T_stateMany T_hasSnapshot T_length T_stopNumber T_stopError T_at T_isWell T_readMany T_s) H locs := hwd
      refine lv_icmp_lt (tgt := 87) hx hb dX7_choosing_62 (by decide) (fun c4 => ?_) (fun c4 => ?_)
      · replace hw := hw.1 c4
        refine lv_iconst (v := (nI 1)) hx hb dX7_choosing_87 rfl ?_
        refine lv_goto (tgt := 92) hx hb dX7_choosing_88 (by decide) ?_
        refine lv_iadd hx hb dX7_choosing_92 ?_
        refine lv_topi (fun x3_5 e_x3_5 => ?_)
        replace hw := hw x3_5 e_x3_5
        refine lv_istore_n (lv' := [(3, .int x3_5), (0, .ref oT), (1, .int x1), (2, .int x2), (4, .int x4)]) hx hb dX7_choosing_93 rfl hl (by decide) rfl (fun ls hl => ?_)
        obtain ⟨x4_6, e_x4_6⟩ : ∃ y : Int32, y = x4 + (nI 1) := ⟨_, rfl⟩
        replace hw := hw x4_6 e_x4_6
        refine lv_iinc (v := x4_6) (lv' := [(4, .int x4_6), (3, .int x3_5), (0, .ref oT), (1, .int x1), (2, .int x2)]) hx hb dX7_choosing_94 hl (k := 4) rfl (by rw [e_x4_6]; rfl) (by decide) rfl (fun ls hl => ?_)
        refine lv_goto (tgt := 41) hx hb dX7_choosing_97 (by decide) ?_
        exact ih x3_5 x4_6 hw _ _ _ hwd (lv_sub hl [2, 3, 4, 1, 0] rfl)
      · replace hw := hw.2 c4
        refine lv_aload_n hx hb dX7_choosing_65 rfl (lv_at hl 0 rfl) ?_
        refine lv_iload hx hb dX7_choosing_66 (lv_at hl 4 rfl) ?_
        refine lv_iconst (v := (nI 1)) hx hb dX7_choosing_68 rfl ?_
        refine kcVi (W1 := (fun u => (ww_X7_choosing cI cC oT oT_s oT_aside oT_states oT_snapshot oT_text oT_serves oT_took oT_tookMany oT_helps oT_before oT_read T_thrown T_stateMany T_hasSnapshot T_length T_stopNumber T_stopError T_at T_isWell T_readMany T_s))) (rest := [.int x3]) (As := [.int x4, .int (nI 1)]) ⟨Nat.le_of_ble_eq_true rfl, Nat.le_of_ble_eq_true rfl⟩ ⟨hx, hb, hml, hown, hts⟩ (c_X7_of l oT oT_s oT_aside oT_states oT_snapshot oT_text oT_serves oT_took oT_tookMany oT_helps oT_before oT_read H.size T_thrown T_stateMany T_hasSnapshot T_length T_stopNumber T_stopError T_at T_isWell T_readMany T_s x4 (nI 1) hw) (cwV 2 hts gX7_choosing_X7_of rfl rfl rfl ⟨rfl, hd_X7_of⟩ ⟨Nat.le_of_ble_eq_true rfl, Nat.le_of_ble_eq_true rfl⟩) hKw hA hwd [0, 1] [] [0, 1] [] rfl rfl rfl rfl (by decide) rfl (fun _ => rfl) 0 7 rfl rfl rfl rfl hl.1 rfl (lv_room (Nat.le_of_ble_eq_true rfl)) dX7_choosing_69 (fun r7 u H locs hw hwd => ?_)
        try dsimp only at hw
        replace hwd : wd D A s (ww_X7_choosing cI cC oT oT_s oT_aside oT_states oT_snapshot oT_text oT_serves oT_took oT_tookMany oT_helps oT_before oT_read T_thrown T_stateMany T_hasSnapshot T_length T_stopNumber T_stopError T_at T_isWell T_readMany T_s) H locs := hwd
        refine lv_aload_n hx hb dX7_choosing_72 rfl (lv_at hl 0 rfl) ?_
        refine lv_iload_n hx hb dX7_choosing_73 rfl (lv_at hl 2 rfl) ?_
        refine lv_iconst (v := (nI 1)) hx hb dX7_choosing_74 rfl ?_
        refine kcVi (W1 := (fun u => (ww_X7_choosing cI cC oT oT_s oT_aside oT_states oT_snapshot oT_text oT_serves oT_took oT_tookMany oT_helps oT_before oT_read T_thrown T_stateMany T_hasSnapshot T_length T_stopNumber T_stopError T_at T_isWell T_readMany T_s))) (rest := [.int r7, .int x3]) (As := [.int x2, .int (nI 1)]) ⟨Nat.le_of_ble_eq_true rfl, Nat.le_of_ble_eq_true rfl⟩ ⟨hx, hb, hml, hown, hts⟩ (c_X7_of l oT oT_s oT_aside oT_states oT_snapshot oT_text oT_serves oT_took oT_tookMany oT_helps oT_before oT_read H.size T_thrown T_stateMany T_hasSnapshot T_length T_stopNumber T_stopError T_at T_isWell T_readMany T_s x2 (nI 1) hw) (cwV 2 hts gX7_choosing_X7_of rfl rfl rfl ⟨rfl, hd_X7_of⟩ ⟨Nat.le_of_ble_eq_true rfl, Nat.le_of_ble_eq_true rfl⟩) hKw hA hwd [0, 1] [] [0, 1] [] rfl rfl rfl rfl (by decide) rfl (fun _ => rfl) 0 7 rfl rfl rfl rfl hl.1 rfl (lv_room (Nat.le_of_ble_eq_true rfl)) dX7_choosing_75 (fun r8 u H locs hw hwd => ?_)
        try dsimp only at hw
        replace hwd : wd D A s (ww_X7_choosing cI cC oT oT_s oT_aside oT_states oT_snapshot oT_text oT_serves oT_took oT_tookMany oT_helps oT_before oT_read T_thrown T_stateMany T_hasSnapshot T_length T_stopNumber T_stopError T_at T_isWell T_readMany T_s) H locs := hwd
        refine lv_icmp_ne (tgt := 91) hx hb dX7_choosing_78 (by decide) (fun c9 => ?_) (fun c9 => ?_)
        · replace hw := hw.1 c9
          refine lv_iconst (v := (nI 0)) hx hb dX7_choosing_91 rfl ?_
          refine lv_iadd hx hb dX7_choosing_92 ?_
          refine lv_topi (fun x3_10 e_x3_10 => ?_)
          replace hw := hw x3_10 e_x3_10
          refine lv_istore_n (lv' := [(3, .int x3_10), (0, .ref oT), (1, .int x1), (2, .int x2), (4, .int x4)]) hx hb dX7_choosing_93 rfl hl (by decide) rfl (fun ls hl => ?_)
          obtain ⟨x4_11, e_x4_11⟩ : ∃ y : Int32, y = x4 + (nI 1) := ⟨_, rfl⟩
          replace hw := hw x4_11 e_x4_11
          refine lv_iinc (v := x4_11) (lv' := [(4, .int x4_11), (3, .int x3_10), (0, .ref oT), (1, .int x1), (2, .int x2)]) hx hb dX7_choosing_94 hl (k := 4) rfl (by rw [e_x4_11]; rfl) (by decide) rfl (fun ls hl => ?_)
          refine lv_goto (tgt := 41) hx hb dX7_choosing_97 (by decide) ?_
          exact ih x3_10 x4_11 hw _ _ _ hwd (lv_sub hl [2, 3, 4, 1, 0] rfl)
        · replace hw := hw.2 c9
          refine lv_iload hx hb dX7_choosing_81 (lv_at hl 4 rfl) ?_
          refine lv_iload_n hx hb dX7_choosing_83 rfl (lv_at hl 2 rfl) ?_
          refine lv_icmp_ge (tgt := 91) hx hb dX7_choosing_84 (by decide) (fun c12 => ?_) (fun c12 => ?_)
          · replace hw := hw.1 c12
            refine lv_iconst (v := (nI 0)) hx hb dX7_choosing_91 rfl ?_
            refine lv_iadd hx hb dX7_choosing_92 ?_
            refine lv_topi (fun x3_13 e_x3_13 => ?_)
            replace hw := hw x3_13 e_x3_13
            refine lv_istore_n (lv' := [(3, .int x3_13), (0, .ref oT), (1, .int x1), (2, .int x2), (4, .int x4)]) hx hb dX7_choosing_93 rfl hl (by decide) rfl (fun ls hl => ?_)
            obtain ⟨x4_14, e_x4_14⟩ : ∃ y : Int32, y = x4 + (nI 1) := ⟨_, rfl⟩
            replace hw := hw x4_14 e_x4_14
            refine lv_iinc (v := x4_14) (lv' := [(4, .int x4_14), (3, .int x3_13), (0, .ref oT), (1, .int x1), (2, .int x2)]) hx hb dX7_choosing_94 hl (k := 4) rfl (by rw [e_x4_14]; rfl) (by decide) rfl (fun ls hl => ?_)
            refine lv_goto (tgt := 41) hx hb dX7_choosing_97 (by decide) ?_
            exact ih x3_13 x4_14 hw _ _ _ hwd (lv_sub hl [2, 3, 4, 1, 0] rfl)
          · replace hw := hw.2 c12
            refine lv_iconst (v := (nI 1)) hx hb dX7_choosing_87 rfl ?_
            refine lv_goto (tgt := 92) hx hb dX7_choosing_88 (by decide) ?_
            refine lv_iadd hx hb dX7_choosing_92 ?_
            refine lv_topi (fun x3_15 e_x3_15 => ?_)
            replace hw := hw x3_15 e_x3_15
            refine lv_istore_n (lv' := [(3, .int x3_15), (0, .ref oT), (1, .int x1), (2, .int x2), (4, .int x4)]) hx hb dX7_choosing_93 rfl hl (by decide) rfl (fun ls hl => ?_)
            obtain ⟨x4_16, e_x4_16⟩ : ∃ y : Int32, y = x4 + (nI 1) := ⟨_, rfl⟩
            replace hw := hw x4_16 e_x4_16
            refine lv_iinc (v := x4_16) (lv' := [(4, .int x4_16), (3, .int x3_15), (0, .ref oT), (1, .int x1), (2, .int x2)]) hx hb dX7_choosing_94 hl (k := 4) rfl (by rw [e_x4_16]; rfl) (by decide) rfl (fun ls hl => ?_)
            refine lv_goto (tgt := 41) hx hb dX7_choosing_97 (by decide) ?_
            exact ih x3_15 x4_16 hw _ _ _ hwd (lv_sub hl [2, 3, 4, 1, 0] rfl)
def wb_X7_choosing_30 (T_s : Nat → Int32) (x1 : Int32) (K_113 : Prop) (Q : Int32 → Prop) : Nat → Int32 → Prop
  | 0, _ => False
  | n + 1, x2 => (((nI 10) ≤ x2 → K_113) ∧ (¬ (nI 10) ≤ x2 → (∃ n2, wb_X7_choosing_41 T_s x2 (fun x3_3 => ((¬ x3_3 = x1 → ∀ x2_5, x2_5 = x2 + (nI 1) → wb_X7_choosing_30 T_s x1 K_113 Q n x2_5) ∧ (x3_3 = x1 → Q x2))) n2 (nI 0) (nI 0))))
set_option maxRecDepth 100000 in
set_option maxHeartbeats 4000000 in
theorem blk_X7_choosing_30 {p : Program} {l : Launch} {e : Env} {s : State} {m : MethodId} {args : Array Value} {below : List Frame} {meth : Method} {c : Code} {D : va_G} {cI cC cR : ClassId} {A : Nat → Prop} {Z : State → Prop} (CX : cx cX7_choosing (some .int) 5 RX7 wsX7_choosing p m meth c s args D cI cC cR A) (oT oT_s oT_aside oT_states oT_snapshot oT_text oT_serves oT_took oT_tookMany oT_helps oT_before oT_read : Nat) (T_thrown : Int32) (T_stateMany : Int32) (T_hasSnapshot : Int32) (T_length : Int32) (T_stopNumber : Int32) (T_stopError : Int32) (T_at : Int32) (T_isWell : Int32) (T_readMany : Int32) (T_s : Nat → Int32) (x1 : Int32) {K_113 : Prop} {Q : Int32 → Prop} (HR : ∀ (r : Int32) {H : Heap} {locs : List Loc} {ls : Array Slot} {pc : Nat}, Q r → wd D A s (ww_X7_choosing cI cC oT oT_s oT_aside oT_states oT_snapshot oT_text oT_serves oT_took oT_tookMany oT_helps oT_before oT_read T_thrown T_stateMany T_hasSnapshot T_length T_stopNumber T_stopError T_at T_isWell T_readMany T_s) H locs → decode cX7_choosing pc = .ok (.ireturn, 1) → W p l e (headSpec wsX7_choosing rm_X7_choosing).room s m args below meth c H locs 0 0 Z (F0 m pc ls [.int r])) (HK_113 : K_113 → ∀ (H : Heap) (locs : List Loc) (ls : Array Slot), wd D A s (ww_X7_choosing cI cC oT oT_s oT_aside oT_states oT_snapshot oT_text oT_serves oT_took oT_tookMany oT_helps oT_before oT_read T_thrown T_stateMany T_hasSnapshot T_length T_stopNumber T_stopError T_at T_isWell T_readMany T_s) H locs → lv_has ls 5 [] → W p l e (headSpec wsX7_choosing rm_X7_choosing).room s m args below meth c H locs 0 0 Z (F0 m 113 ls [])) : ∀ (n : Nat) (x2 : Int32), wb_X7_choosing_30 T_s x1 K_113 Q n x2 → ∀ (H : Heap) (locs : List Loc) (ls : Array Slot), wd D A s (ww_X7_choosing cI cC oT oT_s oT_aside oT_states oT_snapshot oT_text oT_serves oT_took oT_tookMany oT_helps oT_before oT_read T_thrown T_stateMany T_hasSnapshot T_length T_stopNumber T_stopError T_at T_isWell T_readMany T_s) H locs → lv_has ls 5 [(0, .ref oT), (1, .int x1), (2, .int x2)] → W p l e (headSpec wsX7_choosing rm_X7_choosing).room s m args below meth c H locs 0 0 Z (F0 m 30 ls []) := by
  obtain ⟨hx, hb, hr, hml, hts, hown, hlocks, hKw, hA⟩ := id CX
  intro n
  induction n with
  | zero => intro x2 hw; exact False.elim hw
  | succ n ih =>
    intro x2 hw H locs ls hwd hl
    rw [wb_X7_choosing_30] at hw
    refine lv_iload_n hx hb dX7_choosing_30 rfl (lv_at hl 2 rfl) ?_
    refine lv_bipush (v := (nI 10)) hx hb dX7_choosing_31 rfl ?_
    refine lv_icmp_ge (tgt := 113) hx hb dX7_choosing_33 (by decide) (fun c1 => ?_) (fun c1 => ?_)
    · replace hw := hw.1 c1
      exact HK_113  hw _ _ _ hwd (lv_sub hl [] rfl)
    · replace hw := hw.2 c1
      refine lv_iconst (v := (nI 0)) hx hb dX7_choosing_36 rfl ?_
      refine lv_istore_n (lv' := [(3, .int (nI 0)), (0, .ref oT), (1, .int x1), (2, .int x2)]) hx hb dX7_choosing_37 rfl hl (by decide) rfl (fun ls hl => ?_)
      refine lv_iconst (v := (nI 0)) hx hb dX7_choosing_38 rfl ?_
      refine lv_istore (lv' := [(4, .int (nI 0)), (3, .int (nI 0)), (0, .ref oT), (1, .int x1), (2, .int x2)]) hx hb dX7_choosing_39 hl (by decide) rfl (fun ls hl => ?_)
      obtain ⟨n2, hw⟩ := hw
      refine blk_X7_choosing_41 (CX := CX) (oT := oT) (oT_s := oT_s) (oT_aside := oT_aside) (oT_states := oT_states) (oT_snapshot := oT_snapshot) (oT_text := oT_text) (oT_serves := oT_serves) (oT_took := oT_took) (oT_tookMany := oT_tookMany) (oT_helps := oT_helps) (oT_before := oT_before) (oT_read := oT_read) (T_thrown := T_thrown) (T_stateMany := T_stateMany) (T_hasSnapshot := T_hasSnapshot) (T_length := T_length) (T_stopNumber := T_stopNumber) (T_stopError := T_stopError) (T_at := T_at) (T_isWell := T_isWell) (T_readMany := T_readMany) (T_s := T_s) (x1 := x1) (x2 := x2) (HR := HR) (HK_100 := fun x3_3 hw H locs ls hwd hl => ?_) n2 (nI 0) (nI 0) hw _ _ _ hwd (lv_sub hl [2, 3, 4, 1, 0] rfl)
      try dsimp only at hw
      refine lv_iload_n hx hb dX7_choosing_100 rfl (lv_at hl 3 rfl) ?_
      refine lv_iload_n hx hb dX7_choosing_101 rfl (lv_at hl 1 rfl) ?_
      refine lv_icmp_ne (tgt := 107) hx hb dX7_choosing_102 (by decide) (fun c4 => ?_) (fun c4 => ?_)
      · replace hw := hw.1 c4
        obtain ⟨x2_5, e_x2_5⟩ : ∃ y : Int32, y = x2 + (nI 1) := ⟨_, rfl⟩
        replace hw := hw x2_5 e_x2_5
        refine lv_iinc (v := x2_5) (lv' := [(2, .int x2_5), (0, .ref oT), (1, .int x1), (3, .int x3_3)]) hx hb dX7_choosing_107 hl (k := 2) rfl (by rw [e_x2_5]; rfl) (by decide) rfl (fun ls hl => ?_)
        refine lv_goto (tgt := 30) hx hb dX7_choosing_110 (by decide) ?_
        exact ih x2_5 hw _ _ _ hwd (lv_sub hl [1, 2, 0] rfl)
      · replace hw := hw.2 c4
        refine lv_iload_n hx hb dX7_choosing_105 rfl (lv_at hl 2 rfl) ?_
        exact HR x2 hw hwd dX7_choosing_106
def wp_X7_choosing (T_s : Nat → Int32) (x1 : Int32) (Q : Int32 → Prop) : Prop := vp_in (nI 0) 474 ∧ (((nI 2) ≤ (T_s (nI 0).toNatClampNeg) → (∃ n2, wb_X7_choosing_30 T_s x1 (Q (-5)) Q n2 (nI 0))) ∧ (¬ (nI 2) ≤ (T_s (nI 0).toNatClampNeg) → vp_in (nI 0) 474 ∧ ((¬ (T_s (nI 0).toNatClampNeg) = 0 → Q ((nI 9) - x1)) ∧ ((T_s (nI 0).toNatClampNeg) = 0 → Q x1))))
set_option maxRecDepth 100000 in
set_option maxHeartbeats 4000000 in
theorem c_X7_choosing (l : Launch) {D : va_G} {cI cC cR : ClassId} (oT oT_s oT_aside oT_states oT_snapshot oT_text oT_serves oT_took oT_tookMany oT_helps oT_before oT_read : Nat) (sz : Nat) (T_thrown : Int32) (T_stateMany : Int32) (T_hasSnapshot : Int32) (T_length : Int32) (T_stopNumber : Int32) (T_stopError : Int32) (T_at : Int32) (T_isWell : Int32) (T_readMany : Int32) (T_s : Nat → Int32) (x1 : Int32) {Q : Int32 → Prop} (hw : wp_X7_choosing T_s x1 Q) : Met l yX7_choosing wsX7_choosing rm_X7_choosing (PcW D cI cC cR [.ref oT, .int x1] (ww_X7_choosing cI cC oT oT_s oT_aside oT_states oT_snapshot oT_text oT_serves oT_took oT_tookMany oT_helps oT_before oT_read T_thrown T_stateMany T_hasSnapshot T_length T_stopNumber T_stopError T_at T_isWell T_readMany T_s) sz) (QiW D (fun (r : Int32) (u : Unit) => Q r ) (fun u => (ww_X7_choosing cI cC oT oT_s oT_aside oT_states oT_snapshot oT_text oT_serves oT_took oT_tookMany oT_helps oT_before oT_read T_thrown T_stateMany T_hasSnapshot T_length T_stopNumber T_stopError T_at T_isWell T_readMany T_s)) (ww_X7_choosing cI cC oT oT_s oT_aside oT_states oT_snapshot oT_text oT_serves oT_took oT_tookMany oT_helps oT_before oT_read T_thrown T_stateMany T_hasSnapshot T_length T_stopNumber T_stopError T_at T_isWell T_readMany T_s) sz) 0 0 (va_A (ww_X7_choosing cI cC oT oT_s oT_aside oT_states oT_snapshot oT_text oT_serves oT_took oT_tookMany oT_helps oT_before oT_read T_thrown T_stateMany T_hasSnapshot T_length T_stopNumber T_stopError T_at T_isWell T_readMany T_s) sz) := by
  refine Met.ofW (cc := cX7_choosing) (maxL := 5) (ret := (some .int)) (by decide) rfl ?_
  intro p e s m args below meth c s₁ B hml hv
  obtain ⟨rfl, hsz, hP, hKw, hD0⟩ := hv
  have hlocks := B.notSynchronized
  subst hsz
  have hD := hD0.self (sz := s.heap.size)
  have CX : cx cX7_choosing (some .int) 5 RX7 wsX7_choosing p m meth c s ([.ref oT, .int x1] : List Value).toArray D cI cC cR (va_A (ww_X7_choosing cI cC oT oT_s oT_aside oT_states oT_snapshot oT_text oT_serves oT_took oT_tookMany oT_helps oT_before oT_read T_thrown T_stateMany T_hasSnapshot T_length T_stopNumber T_stopError T_at T_isWell T_readMany T_s) s.heap.size) := ⟨B.exec, B.bytes, B.returns, hml, atoms_spec (ws := wsX7_choosing) B.pre, findClass_of_methodNamed B.named, hlocks, hKw, fun q h => Or.inr h⟩
  obtain ⟨hx, hb, hr, -, hts, hown, -, -, hA⟩ := id CX
  have hwd : wd D (va_A (ww_X7_choosing cI cC oT oT_s oT_aside oT_states oT_snapshot oT_text oT_serves oT_took oT_tookMany oT_helps oT_before oT_read T_thrown T_stateMany T_hasSnapshot T_length T_stopNumber T_stopError T_at T_isWell T_readMany T_s) s.heap.size) s (ww_X7_choosing cI cC oT oT_s oT_aside oT_states oT_snapshot oT_text oT_serves oT_took oT_tookMany oT_helps oT_before oT_read T_thrown T_stateMany T_hasSnapshot T_length T_stopNumber T_stopError T_at T_isWell T_readMany T_s) s.heap [] := ⟨hP, hD, va_S.rf⟩
  have hl := lv_entry ([.ref oT, .int x1]) (n := 5) (Nat.le_of_ble_eq_true rfl)
  rw [lg_entry_eq]
  generalize (lg_sl ([.ref oT, .int x1]) ++ List.replicate (5 - (lg_sl ([.ref oT, .int x1])).length) Slot.unset).toArray = ls at hl ⊢
  have hl : lv_has ls 5 [(0, .ref oT), (1, .int x1)] := hl
  have HR : ∀ (r : Int32) {H : Heap} {locs : List Loc} {ls : Array Slot} {pc : Nat}, Q r → wd D (va_A (ww_X7_choosing cI cC oT oT_s oT_aside oT_states oT_snapshot oT_text oT_serves oT_took oT_tookMany oT_helps oT_before oT_read T_thrown T_stateMany T_hasSnapshot T_length T_stopNumber T_stopError T_at T_isWell T_readMany T_s) s.heap.size) s (ww_X7_choosing cI cC oT oT_s oT_aside oT_states oT_snapshot oT_text oT_serves oT_took oT_tookMany oT_helps oT_before oT_read T_thrown T_stateMany T_hasSnapshot T_length T_stopNumber T_stopError T_at T_isWell T_readMany T_s) H locs → decode cX7_choosing pc = .ok (.ireturn, 1) → W p l e (headSpec wsX7_choosing rm_X7_choosing).room s m ([.ref oT, .int x1] : List Value).toArray below meth c H locs 0 0 (MQ below (QiW D (fun (r : Int32) (u : Unit) => Q r ) (fun u => (ww_X7_choosing cI cC oT oT_s oT_aside oT_states oT_snapshot oT_text oT_serves oT_took oT_tookMany oT_helps oT_before oT_read T_thrown T_stateMany T_hasSnapshot T_length T_stopNumber T_stopError T_at T_isWell T_readMany T_s)) (ww_X7_choosing cI cC oT oT_s oT_aside oT_states oT_snapshot oT_text oT_serves oT_took oT_tookMany oT_helps oT_before oT_read T_thrown T_stateMany T_hasSnapshot T_length T_stopNumber T_stopError T_at T_isWell T_readMany T_s) s.heap.size) ([.ref oT, .int x1] : List Value).toArray s 0 0 (va_A (ww_X7_choosing cI cC oT oT_s oT_aside oT_states oT_snapshot oT_text oT_serves oT_took oT_tookMany oT_helps oT_before oT_read T_thrown T_stateMany T_hasSnapshot T_length T_stopNumber T_stopError T_at T_isWell T_readMany T_s) s.heap.size)) (F0 m pc ls [.int r]) := by
    intro r H locs ls pc hq hw9 hd9
    exact W.iret (v := r) hx hb hr (fun t ht hW => ⟨⟨r, (), rfl, hq, by rw [ht]; exact hw9.1, hw9.2.1⟩, hw9.2.2.F ht⟩) hw9.2.2.2.2 hd9
  unfold wp_X7_choosing at hw
  refine lv_aload_n hx hb dX7_choosing_0 rfl (lv_at hl 0 rfl) ?_
  refine va_get (D := D) (ci := 7) (v := .ref oT_s) (C := RX7) (T := TX7) (N := 20) hx hb hts ic_X7_choosing_X7 hown hKw.1 hwd.1 0 rfl rfl 1 (by decide) (hts (.fieldLink RX7 7 "DrillWardensModel" "s" "[I") (List.mem_of_getElem? (i := 1) rfl)) (fun _ h9 => h9) rfl dX7_choosing_1 ?_
  refine lv_iconst (v := (nI 0)) hx hb dX7_choosing_4 rfl ?_
  refine va_iald hx hb hKw.1 hwd.1 1 0 rfl rfl hw.1 dX7_choosing_5 ?_
  replace hw := hw.2
  refine lv_iconst (v := (nI 2)) hx hb dX7_choosing_6 rfl ?_
  refine lv_icmp_ge (tgt := 28) hx hb dX7_choosing_7 (by decide) (fun c1 => ?_) (fun c1 => ?_)
  · replace hw := hw.1 c1
    refine lv_iconst (v := (nI 0)) hx hb dX7_choosing_28 rfl ?_
    refine lv_istore_n (lv' := [(2, .int (nI 0)), (0, .ref oT), (1, .int x1)]) hx hb dX7_choosing_29 rfl hl (by decide) rfl (fun ls hl => ?_)
    obtain ⟨n2, hw⟩ := hw
    refine blk_X7_choosing_30 (CX := CX) (oT := oT) (oT_s := oT_s) (oT_aside := oT_aside) (oT_states := oT_states) (oT_snapshot := oT_snapshot) (oT_text := oT_text) (oT_serves := oT_serves) (oT_took := oT_took) (oT_tookMany := oT_tookMany) (oT_helps := oT_helps) (oT_before := oT_before) (oT_read := oT_read) (T_thrown := T_thrown) (T_stateMany := T_stateMany) (T_hasSnapshot := T_hasSnapshot) (T_length := T_length) (T_stopNumber := T_stopNumber) (T_stopError := T_stopError) (T_at := T_at) (T_isWell := T_isWell) (T_readMany := T_readMany) (T_s := T_s) (x1 := x1) (HR := HR) (HK_113 := fun  hw H locs ls hwd hl => ?_) n2 (nI 0) hw _ _ _ hwd (lv_sub hl [1, 2, 0] rfl)
    try dsimp only at hw
    refine lv_bipush (v := (-5)) hx hb dX7_choosing_113 rfl ?_
    exact HR (-5) hw hwd dX7_choosing_115
  · replace hw := hw.2 c1
    refine lv_aload_n hx hb dX7_choosing_10 rfl (lv_at hl 0 rfl) ?_
    refine va_get (D := D) (ci := 7) (v := .ref oT_s) (C := RX7) (T := TX7) (N := 20) hx hb hts ic_X7_choosing_X7 hown hKw.1 hwd.1 0 rfl rfl 1 (by decide) (hts (.fieldLink RX7 7 "DrillWardensModel" "s" "[I") (List.mem_of_getElem? (i := 1) rfl)) (fun _ h9 => h9) rfl dX7_choosing_11 ?_
    refine lv_iconst (v := (nI 0)) hx hb dX7_choosing_14 rfl ?_
    refine va_iald hx hb hKw.1 hwd.1 1 0 rfl rfl hw.1 dX7_choosing_15 ?_
    replace hw := hw.2
    refine lv_if_ne (tgt := 23) hx hb dX7_choosing_16 (by decide) (fun c3 => ?_) (fun c3 => ?_)
    · replace hw := hw.1 c3
      refine lv_bipush (v := (nI 9)) hx hb dX7_choosing_23 rfl ?_
      refine lv_iload_n hx hb dX7_choosing_25 rfl (lv_at hl 1 rfl) ?_
      refine lv_isub hx hb dX7_choosing_26 ?_
      exact HR ((nI 9) - x1) hw hwd dX7_choosing_27
    · replace hw := hw.2 c3
      refine lv_iload_n hx hb dX7_choosing_19 rfl (lv_at hl 1 rfl) ?_
      refine lv_goto (tgt := 27) hx hb dX7_choosing_20 (by decide) ?_
      exact HR x1 hw hwd dX7_choosing_27
abbrev ww_X7_takes (cI cC : ClassId) (oT oT_s oT_aside oT_states oT_snapshot oT_text oT_serves oT_took oT_tookMany oT_helps oT_before oT_read : Nat) (T_thrown : Int32) (T_stateMany : Int32) (T_hasSnapshot : Int32) (T_length : Int32) (T_stopNumber : Int32) (T_stopError : Int32) (T_at : Int32) (T_isWell : Int32) (T_readMany : Int32) (T_serves : Nat → Int32) (T_took : Nat → Int32) (T_tookMany : Nat → Int32) : va_W := [(oT, .inr (7, [.int T_thrown, .ref oT_s, .ref oT_aside, .ref oT_states, .int T_stateMany, .ref oT_snapshot, .int T_hasSnapshot, .ref oT_text, .int T_length, .int T_stopNumber, .int T_stopError, .ref oT_serves, .ref oT_took, .ref oT_tookMany, .ref oT_helps, .ref oT_before, .int T_at, .int T_isWell, .ref oT_read, .int T_readMany])), (oT_serves, .inl (cI, 16, .inl T_serves)), (oT_took, .inl (cI, 30, .inl T_took)), (oT_tookMany, .inl (cI, 10, .inl T_tookMany))]
abbrev rm_X7_takes : Room := { frames := 0, cells := 0, slots := 0, locals := 0 }
theorem ic_X7_takes_X7 : ∀ w ∈ u_ws RX7 TX7 20, w ∈ wsX7_takes := by
  intro w h
  simp only [wsX7_takes, List.mem_cons, List.mem_append]
  simp only [h, or_true, true_or]
def wp_X7_takes (T_serves : Nat → Int32) (T_took : Nat → Int32) (T_tookMany : Nat → Int32) (x1 : Int32) (x2 : Int32) (Q : (Nat → Int32) → (Nat → Int32) → (Nat → Int32) → Prop) : Prop := vp_in x2 16 ∧ ∀ T_serves1, T_serves1 = upd T_serves x2.toNatClampNeg x1 → vp_in x1 10 ∧ vp_in (((nI 3) * x1) + (T_tookMany x1.toNatClampNeg)) 30 ∧ ∀ T_took2, T_took2 = upd T_took (((nI 3) * x1) + (T_tookMany x1.toNatClampNeg)).toNatClampNeg x2 → vp_in x1 10 ∧ vp_in x1 10 ∧ ∀ T_tookMany3, T_tookMany3 = upd T_tookMany x1.toNatClampNeg ((T_tookMany x1.toNatClampNeg) + (nI 1)) → Q T_serves1 T_took2 T_tookMany3
set_option maxRecDepth 100000 in
set_option maxHeartbeats 4000000 in
theorem c_X7_takes (l : Launch) {D : va_G} {cI cC cR : ClassId} (oT oT_s oT_aside oT_states oT_snapshot oT_text oT_serves oT_took oT_tookMany oT_helps oT_before oT_read : Nat) (sz : Nat) (T_thrown : Int32) (T_stateMany : Int32) (T_hasSnapshot : Int32) (T_length : Int32) (T_stopNumber : Int32) (T_stopError : Int32) (T_at : Int32) (T_isWell : Int32) (T_readMany : Int32) (T_serves : Nat → Int32) (T_took : Nat → Int32) (T_tookMany : Nat → Int32) (x1 : Int32) (x2 : Int32) {Q : (Nat → Int32) → (Nat → Int32) → (Nat → Int32) → Prop} (hw : wp_X7_takes T_serves T_took T_tookMany x1 x2 Q) : Met l yX7_takes wsX7_takes rm_X7_takes (PcW D cI cC cR [.ref oT, .int x1, .int x2] (ww_X7_takes cI cC oT oT_s oT_aside oT_states oT_snapshot oT_text oT_serves oT_took oT_tookMany oT_helps oT_before oT_read T_thrown T_stateMany T_hasSnapshot T_length T_stopNumber T_stopError T_at T_isWell T_readMany T_serves T_took T_tookMany) sz) (QvW D (fun (u : (Nat → Int32) × (Nat → Int32) × (Nat → Int32)) => Q u.1 u.2.1 u.2.2) (fun u => (ww_X7_takes cI cC oT oT_s oT_aside oT_states oT_snapshot oT_text oT_serves oT_took oT_tookMany oT_helps oT_before oT_read T_thrown T_stateMany T_hasSnapshot T_length T_stopNumber T_stopError T_at T_isWell T_readMany (u.1) (u.2.1) (u.2.2))) (ww_X7_takes cI cC oT oT_s oT_aside oT_states oT_snapshot oT_text oT_serves oT_took oT_tookMany oT_helps oT_before oT_read T_thrown T_stateMany T_hasSnapshot T_length T_stopNumber T_stopError T_at T_isWell T_readMany T_serves T_took T_tookMany) sz) 0 0 (va_A (ww_X7_takes cI cC oT oT_s oT_aside oT_states oT_snapshot oT_text oT_serves oT_took oT_tookMany oT_helps oT_before oT_read T_thrown T_stateMany T_hasSnapshot T_length T_stopNumber T_stopError T_at T_isWell T_readMany T_serves T_took T_tookMany) sz) := by
  refine Met.ofW (cc := cX7_takes) (maxL := 3) (ret := none) (by decide) rfl ?_
  intro p e s m args below meth c s₁ B hml hv
  obtain ⟨rfl, hsz, hP, hKw, hD0⟩ := hv
  have hlocks := B.notSynchronized
  subst hsz
  have hD := hD0.self (sz := s.heap.size)
  have CX : cx cX7_takes none 3 RX7 wsX7_takes p m meth c s ([.ref oT, .int x1, .int x2] : List Value).toArray D cI cC cR (va_A (ww_X7_takes cI cC oT oT_s oT_aside oT_states oT_snapshot oT_text oT_serves oT_took oT_tookMany oT_helps oT_before oT_read T_thrown T_stateMany T_hasSnapshot T_length T_stopNumber T_stopError T_at T_isWell T_readMany T_serves T_took T_tookMany) s.heap.size) := ⟨B.exec, B.bytes, B.returns, hml, atoms_spec (ws := wsX7_takes) B.pre, findClass_of_methodNamed B.named, hlocks, hKw, fun q h => Or.inr h⟩
  obtain ⟨hx, hb, hr, -, hts, hown, -, -, hA⟩ := id CX
  have hwd : wd D (va_A (ww_X7_takes cI cC oT oT_s oT_aside oT_states oT_snapshot oT_text oT_serves oT_took oT_tookMany oT_helps oT_before oT_read T_thrown T_stateMany T_hasSnapshot T_length T_stopNumber T_stopError T_at T_isWell T_readMany T_serves T_took T_tookMany) s.heap.size) s (ww_X7_takes cI cC oT oT_s oT_aside oT_states oT_snapshot oT_text oT_serves oT_took oT_tookMany oT_helps oT_before oT_read T_thrown T_stateMany T_hasSnapshot T_length T_stopNumber T_stopError T_at T_isWell T_readMany T_serves T_took T_tookMany) s.heap [] := ⟨hP, hD, va_S.rf⟩
  have hl := lv_entry ([.ref oT, .int x1, .int x2]) (n := 3) (Nat.le_of_ble_eq_true rfl)
  rw [lg_entry_eq]
  generalize (lg_sl ([.ref oT, .int x1, .int x2]) ++ List.replicate (3 - (lg_sl ([.ref oT, .int x1, .int x2])).length) Slot.unset).toArray = ls at hl ⊢
  have hl : lv_has ls 3 [(0, .ref oT), (1, .int x1), (2, .int x2)] := hl
  have HR : ∀ (u0 : Nat → Int32) (u1 : Nat → Int32) (u2 : Nat → Int32) {H : Heap} {locs : List Loc} {ls : Array Slot} {pc : Nat}, Q u0 u1 u2 → wd D (va_A (ww_X7_takes cI cC oT oT_s oT_aside oT_states oT_snapshot oT_text oT_serves oT_took oT_tookMany oT_helps oT_before oT_read T_thrown T_stateMany T_hasSnapshot T_length T_stopNumber T_stopError T_at T_isWell T_readMany T_serves T_took T_tookMany) s.heap.size) s (ww_X7_takes cI cC oT oT_s oT_aside oT_states oT_snapshot oT_text oT_serves oT_took oT_tookMany oT_helps oT_before oT_read T_thrown T_stateMany T_hasSnapshot T_length T_stopNumber T_stopError T_at T_isWell T_readMany u0 u1 u2) H locs → decode cX7_takes pc = .ok (.return_, 1) → W p l e (headSpec wsX7_takes rm_X7_takes).room s m ([.ref oT, .int x1, .int x2] : List Value).toArray below meth c H locs 0 0 (MQ below (QvW D (fun (u : (Nat → Int32) × (Nat → Int32) × (Nat → Int32)) => Q u.1 u.2.1 u.2.2) (fun u => (ww_X7_takes cI cC oT oT_s oT_aside oT_states oT_snapshot oT_text oT_serves oT_took oT_tookMany oT_helps oT_before oT_read T_thrown T_stateMany T_hasSnapshot T_length T_stopNumber T_stopError T_at T_isWell T_readMany (u.1) (u.2.1) (u.2.2))) (ww_X7_takes cI cC oT oT_s oT_aside oT_states oT_snapshot oT_text oT_serves oT_took oT_tookMany oT_helps oT_before oT_read T_thrown T_stateMany T_hasSnapshot T_length T_stopNumber T_stopError T_at T_isWell T_readMany T_serves T_took T_tookMany) s.heap.size) ([.ref oT, .int x1, .int x2] : List Value).toArray s 0 0 (va_A (ww_X7_takes cI cC oT oT_s oT_aside oT_states oT_snapshot oT_text oT_serves oT_took oT_tookMany oT_helps oT_before oT_read T_thrown T_stateMany T_hasSnapshot T_length T_stopNumber T_stopError T_at T_isWell T_readMany T_serves T_took T_tookMany) s.heap.size)) (F0 m pc ls []) := by
    intro u0 u1 u2 H locs ls pc hq hw9 hd9
    exact W.vret hx hb hr (fun t ht hW => ⟨⟨(u0, u1, u2), rfl, hq, by rw [ht]; exact hw9.1, hw9.2.1⟩, hw9.2.2.F ht⟩) hw9.2.2.2.2 hd9
  unfold wp_X7_takes at hw
  refine lv_aload_n hx hb dX7_takes_0 rfl (lv_at hl 0 rfl) ?_
  refine va_get (D := D) (ci := 7) (v := .ref oT_serves) (C := RX7) (T := TX7) (N := 20) hx hb hts ic_X7_takes_X7 hown hKw.1 hwd.1 0 rfl rfl 11 (by decide) (hts (.fieldLink RX7 25 "DrillWardensModel" "serves" "[I") (List.mem_of_getElem? (i := 1) rfl)) (fun _ h9 => h9) rfl dX7_takes_1 ?_
  refine lv_iload_n hx hb dX7_takes_4 rfl (lv_at hl 2 rfl) ?_
  refine lv_iload_n hx hb dX7_takes_5 rfl (lv_at hl 1 rfl) ?_
  obtain ⟨T_serves1, e_T_serves1⟩ : ∃ y : Nat → Int32, y = upd T_serves x2.toNatClampNeg x1 := ⟨_, rfl⟩
  refine va_iast hx hb hKw.1 hwd.1 hwd.2.1 hwd.2.2 1 0 rfl rfl hw.1 dX7_takes_6 (fun H locs h1 h2 h3 => ?_)
  replace hw := hw.2 T_serves1 e_T_serves1
  rw [← e_T_serves1] at h1 h2
  replace hwd : wd D (va_A (ww_X7_takes cI cC oT oT_s oT_aside oT_states oT_snapshot oT_text oT_serves oT_took oT_tookMany oT_helps oT_before oT_read T_thrown T_stateMany T_hasSnapshot T_length T_stopNumber T_stopError T_at T_isWell T_readMany T_serves T_took T_tookMany) s.heap.size) s (ww_X7_takes cI cC oT oT_s oT_aside oT_states oT_snapshot oT_text oT_serves oT_took oT_tookMany oT_helps oT_before oT_read T_thrown T_stateMany T_hasSnapshot T_length T_stopNumber T_stopError T_at T_isWell T_readMany T_serves1 T_took T_tookMany) H locs := ⟨h1, h2, h3⟩
  clear h1 h2 h3
  refine lv_aload_n hx hb dX7_takes_7 rfl (lv_at hl 0 rfl) ?_
  refine va_get (D := D) (ci := 7) (v := .ref oT_took) (C := RX7) (T := TX7) (N := 20) hx hb hts ic_X7_takes_X7 hown hKw.1 hwd.1 0 rfl rfl 12 (by decide) (hts (.fieldLink RX7 28 "DrillWardensModel" "took" "[I") (List.mem_of_getElem? (i := 2) rfl)) (fun _ h9 => h9) rfl dX7_takes_8 ?_
  refine lv_iconst (v := (nI 3)) hx hb dX7_takes_11 rfl ?_
  refine lv_iload_n hx hb dX7_takes_12 rfl (lv_at hl 1 rfl) ?_
  refine lv_imul hx hb dX7_takes_13 ?_
  refine lv_aload_n hx hb dX7_takes_14 rfl (lv_at hl 0 rfl) ?_
  refine va_get (D := D) (ci := 7) (v := .ref oT_tookMany) (C := RX7) (T := TX7) (N := 20) hx hb hts ic_X7_takes_X7 hown hKw.1 hwd.1 0 rfl rfl 13 (by decide) (hts (.fieldLink RX7 31 "DrillWardensModel" "tookMany" "[I") (List.mem_of_getElem? (i := 3) rfl)) (fun _ h9 => h9) rfl dX7_takes_15 ?_
  refine lv_iload_n hx hb dX7_takes_18 rfl (lv_at hl 1 rfl) ?_
  refine va_iald hx hb hKw.1 hwd.1 3 0 rfl rfl hw.1 dX7_takes_19 ?_
  replace hw := hw.2
  refine lv_iadd hx hb dX7_takes_20 ?_
  refine lv_iload_n hx hb dX7_takes_21 rfl (lv_at hl 2 rfl) ?_
  obtain ⟨T_took2, e_T_took2⟩ : ∃ y : Nat → Int32, y = upd T_took (((nI 3) * x1) + (T_tookMany x1.toNatClampNeg)).toNatClampNeg x2 := ⟨_, rfl⟩
  refine va_iast hx hb hKw.1 hwd.1 hwd.2.1 hwd.2.2 2 0 rfl rfl hw.1 dX7_takes_22 (fun H locs h1 h2 h3 => ?_)
  replace hw := hw.2 T_took2 e_T_took2
  rw [← e_T_took2] at h1 h2
  replace hwd : wd D (va_A (ww_X7_takes cI cC oT oT_s oT_aside oT_states oT_snapshot oT_text oT_serves oT_took oT_tookMany oT_helps oT_before oT_read T_thrown T_stateMany T_hasSnapshot T_length T_stopNumber T_stopError T_at T_isWell T_readMany T_serves T_took T_tookMany) s.heap.size) s (ww_X7_takes cI cC oT oT_s oT_aside oT_states oT_snapshot oT_text oT_serves oT_took oT_tookMany oT_helps oT_before oT_read T_thrown T_stateMany T_hasSnapshot T_length T_stopNumber T_stopError T_at T_isWell T_readMany T_serves1 T_took2 T_tookMany) H locs := ⟨h1, h2, h3⟩
  clear h1 h2 h3
  refine lv_aload_n hx hb dX7_takes_23 rfl (lv_at hl 0 rfl) ?_
  refine va_get (D := D) (ci := 7) (v := .ref oT_tookMany) (C := RX7) (T := TX7) (N := 20) hx hb hts ic_X7_takes_X7 hown hKw.1 hwd.1 0 rfl rfl 13 (by decide) (hts (.fieldLink RX7 31 "DrillWardensModel" "tookMany" "[I") (List.mem_of_getElem? (i := 3) rfl)) (fun _ h9 => h9) rfl dX7_takes_24 ?_
  refine lv_iload_n hx hb dX7_takes_27 rfl (lv_at hl 1 rfl) ?_
  refine lv_dup2_11 hx hb dX7_takes_28 rfl rfl ?_
  refine va_iald hx hb hKw.1 hwd.1 3 0 rfl rfl hw.1 dX7_takes_29 ?_
  replace hw := hw.2
  refine lv_iconst (v := (nI 1)) hx hb dX7_takes_30 rfl ?_
  refine lv_iadd hx hb dX7_takes_31 ?_
  obtain ⟨T_tookMany3, e_T_tookMany3⟩ : ∃ y : Nat → Int32, y = upd T_tookMany x1.toNatClampNeg ((T_tookMany x1.toNatClampNeg) + (nI 1)) := ⟨_, rfl⟩
  refine va_iast hx hb hKw.1 hwd.1 hwd.2.1 hwd.2.2 3 0 rfl rfl hw.1 dX7_takes_32 (fun H locs h1 h2 h3 => ?_)
  replace hw := hw.2 T_tookMany3 e_T_tookMany3
  rw [← e_T_tookMany3] at h1 h2
  replace hwd : wd D (va_A (ww_X7_takes cI cC oT oT_s oT_aside oT_states oT_snapshot oT_text oT_serves oT_took oT_tookMany oT_helps oT_before oT_read T_thrown T_stateMany T_hasSnapshot T_length T_stopNumber T_stopError T_at T_isWell T_readMany T_serves T_took T_tookMany) s.heap.size) s (ww_X7_takes cI cC oT oT_s oT_aside oT_states oT_snapshot oT_text oT_serves oT_took oT_tookMany oT_helps oT_before oT_read T_thrown T_stateMany T_hasSnapshot T_length T_stopNumber T_stopError T_at T_isWell T_readMany T_serves1 T_took2 T_tookMany3) H locs := ⟨h1, h2, h3⟩
  clear h1 h2 h3
  exact HR T_serves1 T_took2 T_tookMany3 hw hwd dX7_takes_33
abbrev ww_X7_takesRow (cI cC : ClassId) (oT oT_s oT_aside oT_states oT_snapshot oT_text oT_serves oT_took oT_tookMany oT_helps oT_before oT_read : Nat) (T_thrown : Int32) (T_stateMany : Int32) (T_hasSnapshot : Int32) (T_length : Int32) (T_stopNumber : Int32) (T_stopError : Int32) (T_at : Int32) (T_isWell : Int32) (T_readMany : Int32) (T_s : Nat → Int32) (T_serves : Nat → Int32) (T_took : Nat → Int32) (T_tookMany : Nat → Int32) : va_W := [(oT, .inr (7, [.int T_thrown, .ref oT_s, .ref oT_aside, .ref oT_states, .int T_stateMany, .ref oT_snapshot, .int T_hasSnapshot, .ref oT_text, .int T_length, .int T_stopNumber, .int T_stopError, .ref oT_serves, .ref oT_took, .ref oT_tookMany, .ref oT_helps, .ref oT_before, .int T_at, .int T_isWell, .ref oT_read, .int T_readMany])), (oT_s, .inl (cI, 474, .inl T_s)), (oT_serves, .inl (cI, 16, .inl T_serves)), (oT_took, .inl (cI, 30, .inl T_took)), (oT_tookMany, .inl (cI, 10, .inl T_tookMany))]
abbrev rm_X7_takesRow : Room := { frames := 3, cells := 0, slots := 0, locals := 67 }
theorem ic_X7_takesRow_X7 : ∀ w ∈ u_ws RX7 TX7 20, w ∈ wsX7_takesRow := by
  intro w h
  simp only [wsX7_takesRow, List.mem_cons, List.mem_append]
  simp only [h, or_true, true_or]
def wb_X7_takesRow_2 (T_s : Nat → Int32) (x1 : Int32) (x2 : Int32) (K_60 : (Nat → Int32) → (Nat → Int32) → (Nat → Int32) → Prop) : Nat → (Nat → Int32) → (Nat → Int32) → (Nat → Int32) → Int32 → Prop
  | 0, _, _, _, _ => False
  | n + 1, T_serves, T_took, T_tookMany, x3 => wp_X7_of T_s x1 (nI 1) (fun r1 => ((r1 ≤ x3 → K_60 T_serves T_took T_tookMany) ∧ (¬ r1 ≤ x3 → wp_X7_of T_s x1 ((nI 2) + x3) (fun r3 => vp_in x1 10 ∧ wp_X7_of T_s x1 (nI 0) (fun r4 => ((r4 ≤ (T_tookMany x1.toNatClampNeg) → ∀ x3_6, x3_6 = x3 + (nI 1) → wb_X7_takesRow_2 T_s x1 x2 K_60 n T_serves T_took T_tookMany x3_6) ∧ (¬ r4 ≤ (T_tookMany x1.toNatClampNeg) → wp_X7_isReady T_s T_serves r3 x2 (fun r7 => ((r7 = 0 → ∀ x3_9, x3_9 = x3 + (nI 1) → wb_X7_takesRow_2 T_s x1 x2 K_60 n T_serves T_took T_tookMany x3_9) ∧ (¬ r7 = 0 → wp_X7_takes T_serves T_took T_tookMany x1 r3 (fun T_serves10 T_took11 T_tookMany12 => ∀ x3_13, x3_13 = x3 + (nI 1) → wb_X7_takesRow_2 T_s x1 x2 K_60 n T_serves10 T_took11 T_tookMany12 x3_13)))))))))))
set_option maxRecDepth 100000 in
set_option maxHeartbeats 4000000 in
theorem blk_X7_takesRow_2 {p : Program} {l : Launch} {e : Env} {s : State} {m : MethodId} {args : Array Value} {below : List Frame} {meth : Method} {c : Code} {D : va_G} {cI cC cR : ClassId} {A : Nat → Prop} {Z : State → Prop} (CX : cx cX7_takesRow none 5 RX7 wsX7_takesRow p m meth c s args D cI cC cR A) (oT oT_s oT_aside oT_states oT_snapshot oT_text oT_serves oT_took oT_tookMany oT_helps oT_before oT_read : Nat) (T_thrown : Int32) (T_stateMany : Int32) (T_hasSnapshot : Int32) (T_length : Int32) (T_stopNumber : Int32) (T_stopError : Int32) (T_at : Int32) (T_isWell : Int32) (T_readMany : Int32) (T_s : Nat → Int32) (x1 : Int32) (x2 : Int32) {K_60 : (Nat → Int32) → (Nat → Int32) → (Nat → Int32) → Prop} {Q : (Nat → Int32) → (Nat → Int32) → (Nat → Int32) → Prop} (HR : ∀ (u0 : Nat → Int32) (u1 : Nat → Int32) (u2 : Nat → Int32) {H : Heap} {locs : List Loc} {ls : Array Slot} {pc : Nat}, Q u0 u1 u2 → wd D A s (ww_X7_takesRow cI cC oT oT_s oT_aside oT_states oT_snapshot oT_text oT_serves oT_took oT_tookMany oT_helps oT_before oT_read T_thrown T_stateMany T_hasSnapshot T_length T_stopNumber T_stopError T_at T_isWell T_readMany T_s u0 u1 u2) H locs → decode cX7_takesRow pc = .ok (.return_, 1) → W p l e (headSpec wsX7_takesRow rm_X7_takesRow).room s m args below meth c H locs 0 0 Z (F0 m pc ls [])) (HK_60 : ∀ (T_servesy : Nat → Int32) (T_tooky : Nat → Int32) (T_tookManyy : Nat → Int32), K_60 T_servesy T_tooky T_tookManyy → ∀ (H : Heap) (locs : List Loc) (ls : Array Slot), wd D A s (ww_X7_takesRow cI cC oT oT_s oT_aside oT_states oT_snapshot oT_text oT_serves oT_took oT_tookMany oT_helps oT_before oT_read T_thrown T_stateMany T_hasSnapshot T_length T_stopNumber T_stopError T_at T_isWell T_readMany T_s T_servesy T_tooky T_tookManyy) H locs → lv_has ls 5 [] → W p l e (headSpec wsX7_takesRow rm_X7_takesRow).room s m args below meth c H locs 0 0 Z (F0 m 60 ls [])) : ∀ (n : Nat) (T_serves : Nat → Int32) (T_took : Nat → Int32) (T_tookMany : Nat → Int32) (x3 : Int32), wb_X7_takesRow_2 T_s x1 x2 K_60 n T_serves T_took T_tookMany x3 → ∀ (H : Heap) (locs : List Loc) (ls : Array Slot), wd D A s (ww_X7_takesRow cI cC oT oT_s oT_aside oT_states oT_snapshot oT_text oT_serves oT_took oT_tookMany oT_helps oT_before oT_read T_thrown T_stateMany T_hasSnapshot T_length T_stopNumber T_stopError T_at T_isWell T_readMany T_s T_serves T_took T_tookMany) H locs → lv_has ls 5 [(0, .ref oT), (1, .int x1), (2, .int x2), (3, .int x3)] → W p l e (headSpec wsX7_takesRow rm_X7_takesRow).room s m args below meth c H locs 0 0 Z (F0 m 2 ls []) := by
  obtain ⟨hx, hb, hr, hml, hts, hown, hlocks, hKw, hA⟩ := id CX
  intro n
  induction n with
  | zero => intro T_serves T_took T_tookMany x3 hw; exact False.elim hw
  | succ n ih =>
    intro T_serves T_took T_tookMany x3 hw H locs ls hwd hl
    rw [wb_X7_takesRow_2] at hw
    refine lv_iload_n hx hb dX7_takesRow_2 rfl (lv_at hl 3 rfl) ?_
    refine lv_aload_n hx hb dX7_takesRow_3 rfl (lv_at hl 0 rfl) ?_
    refine lv_iload_n hx hb dX7_takesRow_4 rfl (lv_at hl 1 rfl) ?_
    refine lv_iconst (v := (nI 1)) hx hb dX7_takesRow_5 rfl ?_
    refine kcVi (W1 := (fun u => (ww_X7_takesRow cI cC oT oT_s oT_aside oT_states oT_snapshot oT_text oT_serves oT_took oT_tookMany oT_helps oT_before oT_read T_thrown T_stateMany T_hasSnapshot T_length T_stopNumber T_stopError T_at T_isWell T_readMany T_s T_serves T_took T_tookMany))) (rest := [.int x3]) (As := [.int x1, .int (nI 1)]) ⟨Nat.le_of_ble_eq_true rfl, Nat.le_of_ble_eq_true rfl⟩ ⟨hx, hb, hml, hown, hts⟩ (c_X7_of l oT oT_s oT_aside oT_states oT_snapshot oT_text oT_serves oT_took oT_tookMany oT_helps oT_before oT_read H.size T_thrown T_stateMany T_hasSnapshot T_length T_stopNumber T_stopError T_at T_isWell T_readMany T_s x1 (nI 1) hw) (cwV 2 hts gX7_takesRow_X7_of rfl rfl rfl ⟨rfl, hd_X7_of⟩ ⟨Nat.le_of_ble_eq_true rfl, Nat.le_of_ble_eq_true rfl⟩) hKw hA hwd [0, 1] [2, 3, 4] [3, 4, 0, 1, 2] [(oT_serves, .inl (cI, 16, .inl T_serves)), (oT_took, .inl (cI, 30, .inl T_took)), (oT_tookMany, .inl (cI, 10, .inl T_tookMany))] rfl rfl rfl rfl (by decide) rfl (fun _ => rfl) 0 7 rfl rfl rfl rfl hl.1 rfl (lv_room (Nat.le_of_ble_eq_true rfl)) dX7_takesRow_6 (fun r1 u H locs hw hwd => ?_)
    try dsimp only at hw
    replace hwd : wd D A s (ww_X7_takesRow cI cC oT oT_s oT_aside oT_states oT_snapshot oT_text oT_serves oT_took oT_tookMany oT_helps oT_before oT_read T_thrown T_stateMany T_hasSnapshot T_length T_stopNumber T_stopError T_at T_isWell T_readMany T_s T_serves T_took T_tookMany) H locs := hwd
    refine lv_icmp_ge (tgt := 60) hx hb dX7_takesRow_9 (by decide) (fun c2 => ?_) (fun c2 => ?_)
    · replace hw := hw.1 c2
      exact HK_60 T_serves T_took T_tookMany hw _ _ _ hwd (lv_sub hl [] rfl)
    · replace hw := hw.2 c2
      refine lv_aload_n hx hb dX7_takesRow_12 rfl (lv_at hl 0 rfl) ?_
      refine lv_iload_n hx hb dX7_takesRow_13 rfl (lv_at hl 1 rfl) ?_
      refine lv_iconst (v := (nI 2)) hx hb dX7_takesRow_14 rfl ?_
      refine lv_iload_n hx hb dX7_takesRow_15 rfl (lv_at hl 3 rfl) ?_
      refine lv_iadd hx hb dX7_takesRow_16 ?_
      refine kcVi (W1 := (fun u => (ww_X7_takesRow cI cC oT oT_s oT_aside oT_states oT_snapshot oT_text oT_serves oT_took oT_tookMany oT_helps oT_before oT_read T_thrown T_stateMany T_hasSnapshot T_length T_stopNumber T_stopError T_at T_isWell T_readMany T_s T_serves T_took T_tookMany))) (rest := []) (As := [.int x1, .int ((nI 2) + x3)]) ⟨Nat.le_of_ble_eq_true rfl, Nat.le_of_ble_eq_true rfl⟩ ⟨hx, hb, hml, hown, hts⟩ (c_X7_of l oT oT_s oT_aside oT_states oT_snapshot oT_text oT_serves oT_took oT_tookMany oT_helps oT_before oT_read H.size T_thrown T_stateMany T_hasSnapshot T_length T_stopNumber T_stopError T_at T_isWell T_readMany T_s x1 ((nI 2) + x3) hw) (cwV 2 hts gX7_takesRow_X7_of rfl rfl rfl ⟨rfl, hd_X7_of⟩ ⟨Nat.le_of_ble_eq_true rfl, Nat.le_of_ble_eq_true rfl⟩) hKw hA hwd [0, 1] [2, 3, 4] [3, 4, 0, 1, 2] [(oT_serves, .inl (cI, 16, .inl T_serves)), (oT_took, .inl (cI, 30, .inl T_took)), (oT_tookMany, .inl (cI, 10, .inl T_tookMany))] rfl rfl rfl rfl (by decide) rfl (fun _ => rfl) 0 7 rfl rfl rfl rfl hl.1 rfl (lv_room (Nat.le_of_ble_eq_true rfl)) dX7_takesRow_17 (fun r3 u H locs hw hwd => ?_)
      try dsimp only at hw
      replace hwd : wd D A s (ww_X7_takesRow cI cC oT oT_s oT_aside oT_states oT_snapshot oT_text oT_serves oT_took oT_tookMany oT_helps oT_before oT_read T_thrown T_stateMany T_hasSnapshot T_length T_stopNumber T_stopError T_at T_isWell T_readMany T_s T_serves T_took T_tookMany) H locs := hwd
      refine lv_istore (lv' := [(4, .int r3), (0, .ref oT), (1, .int x1), (2, .int x2), (3, .int x3)]) hx hb dX7_takesRow_20 hl (by decide) rfl (fun ls hl => ?_)
      refine lv_aload_n hx hb dX7_takesRow_22 rfl (lv_at hl 1 rfl) ?_
      refine va_get (D := D) (ci := 7) (v := .ref oT_tookMany) (C := RX7) (T := TX7) (N := 20) hx hb hts ic_X7_takesRow_X7 hown hKw.1 hwd.1 0 rfl rfl 13 (by decide) (hts (.fieldLink RX7 31 "DrillWardensModel" "tookMany" "[I") (List.mem_of_getElem? (i := 1) rfl)) (fun _ h9 => h9) rfl dX7_takesRow_23 ?_
      refine lv_iload_n hx hb dX7_takesRow_26 rfl (lv_at hl 2 rfl) ?_
      refine va_iald hx hb hKw.1 hwd.1 4 0 rfl rfl hw.1 dX7_takesRow_27 ?_
      replace hw := hw.2
      refine lv_aload_n hx hb dX7_takesRow_28 rfl (lv_at hl 1 rfl) ?_
      refine lv_iload_n hx hb dX7_takesRow_29 rfl (lv_at hl 2 rfl) ?_
      refine lv_iconst (v := (nI 0)) hx hb dX7_takesRow_30 rfl ?_
      refine kcVi (W1 := (fun u => (ww_X7_takesRow cI cC oT oT_s oT_aside oT_states oT_snapshot oT_text oT_serves oT_took oT_tookMany oT_helps oT_before oT_read T_thrown T_stateMany T_hasSnapshot T_length T_stopNumber T_stopError T_at T_isWell T_readMany T_s T_serves T_took T_tookMany))) (rest := [.int (T_tookMany x1.toNatClampNeg)]) (As := [.int x1, .int (nI 0)]) ⟨Nat.le_of_ble_eq_true rfl, Nat.le_of_ble_eq_true rfl⟩ ⟨hx, hb, hml, hown, hts⟩ (c_X7_of l oT oT_s oT_aside oT_states oT_snapshot oT_text oT_serves oT_took oT_tookMany oT_helps oT_before oT_read H.size T_thrown T_stateMany T_hasSnapshot T_length T_stopNumber T_stopError T_at T_isWell T_readMany T_s x1 (nI 0) hw) (cwV 2 hts gX7_takesRow_X7_of rfl rfl rfl ⟨rfl, hd_X7_of⟩ ⟨Nat.le_of_ble_eq_true rfl, Nat.le_of_ble_eq_true rfl⟩) hKw hA hwd [0, 1] [2, 3, 4] [3, 4, 0, 1, 2] [(oT_serves, .inl (cI, 16, .inl T_serves)), (oT_took, .inl (cI, 30, .inl T_took)), (oT_tookMany, .inl (cI, 10, .inl T_tookMany))] rfl rfl rfl rfl (by decide) rfl (fun _ => rfl) 0 7 rfl rfl rfl rfl hl.1 rfl (lv_room (Nat.le_of_ble_eq_true rfl)) dX7_takesRow_31 (fun r4 u H locs hw hwd => ?_)
      try dsimp only at hw
      replace hwd : wd D A s (ww_X7_takesRow cI cC oT oT_s oT_aside oT_states oT_snapshot oT_text oT_serves oT_took oT_tookMany oT_helps oT_before oT_read T_thrown T_stateMany T_hasSnapshot T_length T_stopNumber T_stopError T_at T_isWell T_readMany T_s T_serves T_took T_tookMany) H locs := hwd
      refine lv_icmp_ge (tgt := 54) hx hb dX7_takesRow_34 (by decide) (fun c5 => ?_) (fun c5 => ?_)
      · replace hw := hw.1 c5
        obtain ⟨x3_6, e_x3_6⟩ : ∃ y : Int32, y = x3 + (nI 1) := ⟨_, rfl⟩
        replace hw := hw x3_6 e_x3_6
        refine lv_iinc (v := x3_6) (lv' := [(3, .int x3_6), (4, .int r3), (0, .ref oT), (1, .int x1), (2, .int x2)]) hx hb dX7_takesRow_54 hl (k := 4) rfl (by rw [e_x3_6]; rfl) (by decide) rfl (fun ls hl => ?_)
        refine lv_goto (tgt := 2) hx hb dX7_takesRow_57 (by decide) ?_
        exact ih T_serves T_took T_tookMany x3_6 hw _ _ _ hwd (lv_sub hl [2, 3, 4, 0] rfl)
      · replace hw := hw.2 c5
        refine lv_aload_n hx hb dX7_takesRow_37 rfl (lv_at hl 1 rfl) ?_
        refine lv_iload hx hb dX7_takesRow_38 (lv_at hl 0 rfl) ?_
        refine lv_iload_n hx hb dX7_takesRow_40 rfl (lv_at hl 3 rfl) ?_
        refine kcVi (W1 := (fun u => (ww_X7_takesRow cI cC oT oT_s oT_aside oT_states oT_snapshot oT_text oT_serves oT_took oT_tookMany oT_helps oT_before oT_read T_thrown T_stateMany T_hasSnapshot T_length T_stopNumber T_stopError T_at T_isWell T_readMany T_s T_serves T_took T_tookMany))) (rest := []) (As := [.int r3, .int x2]) ⟨Nat.le_of_ble_eq_true rfl, Nat.le_of_ble_eq_true rfl⟩ ⟨hx, hb, hml, hown, hts⟩ (c_X7_isReady l oT oT_s oT_aside oT_states oT_snapshot oT_text oT_serves oT_took oT_tookMany oT_helps oT_before oT_read H.size T_thrown T_stateMany T_hasSnapshot T_length T_stopNumber T_stopError T_at T_isWell T_readMany T_s T_serves r3 x2 hw) (cwV 2 hts gX7_takesRow_X7_isReady rfl rfl rfl ⟨rfl, hd_X7_isReady⟩ ⟨Nat.le_of_ble_eq_true rfl, Nat.le_of_ble_eq_true rfl⟩) hKw hA hwd [0, 1, 2] [3, 4] [2, 3, 4, 0, 1] [(oT_took, .inl (cI, 30, .inl T_took)), (oT_tookMany, .inl (cI, 10, .inl T_tookMany))] rfl rfl rfl rfl (by decide) rfl (fun _ => rfl) 0 7 rfl rfl rfl rfl hl.1 rfl (lv_room (Nat.le_of_ble_eq_true rfl)) dX7_takesRow_41 (fun r7 u H locs hw hwd => ?_)
        try dsimp only at hw
        replace hwd : wd D A s (ww_X7_takesRow cI cC oT oT_s oT_aside oT_states oT_snapshot oT_text oT_serves oT_took oT_tookMany oT_helps oT_before oT_read T_thrown T_stateMany T_hasSnapshot T_length T_stopNumber T_stopError T_at T_isWell T_readMany T_s T_serves T_took T_tookMany) H locs := hwd
        refine lv_if_eq (tgt := 54) hx hb dX7_takesRow_44 (by decide) (fun c8 => ?_) (fun c8 => ?_)
        · replace hw := hw.1 c8
          obtain ⟨x3_9, e_x3_9⟩ : ∃ y : Int32, y = x3 + (nI 1) := ⟨_, rfl⟩
          replace hw := hw x3_9 e_x3_9
          refine lv_iinc (v := x3_9) (lv' := [(3, .int x3_9), (4, .int r3), (0, .ref oT), (1, .int x1), (2, .int x2)]) hx hb dX7_takesRow_54 hl (k := 4) rfl (by rw [e_x3_9]; rfl) (by decide) rfl (fun ls hl => ?_)
          refine lv_goto (tgt := 2) hx hb dX7_takesRow_57 (by decide) ?_
          exact ih T_serves T_took T_tookMany x3_9 hw _ _ _ hwd (lv_sub hl [2, 3, 4, 0] rfl)
        · replace hw := hw.2 c8
          refine lv_aload_n hx hb dX7_takesRow_47 rfl (lv_at hl 1 rfl) ?_
          refine lv_iload_n hx hb dX7_takesRow_48 rfl (lv_at hl 2 rfl) ?_
          refine lv_iload hx hb dX7_takesRow_49 (lv_at hl 0 rfl) ?_
          refine kcVv (W1 := (fun u => (ww_X7_takesRow cI cC oT oT_s oT_aside oT_states oT_snapshot oT_text oT_serves oT_took oT_tookMany oT_helps oT_before oT_read T_thrown T_stateMany T_hasSnapshot T_length T_stopNumber T_stopError T_at T_isWell T_readMany T_s (u.1) (u.2.1) (u.2.2)))) (rest := []) (As := [.int x1, .int r3]) ⟨Nat.le_of_ble_eq_true rfl, Nat.le_of_ble_eq_true rfl⟩ ⟨hx, hb, hml, hown, hts⟩ (c_X7_takes l oT oT_s oT_aside oT_states oT_snapshot oT_text oT_serves oT_took oT_tookMany oT_helps oT_before oT_read H.size T_thrown T_stateMany T_hasSnapshot T_length T_stopNumber T_stopError T_at T_isWell T_readMany T_serves T_took T_tookMany x1 r3 hw) (cwV 2 hts gX7_takesRow_X7_takes rfl rfl rfl ⟨rfl, hd_X7_takes⟩ ⟨Nat.le_of_ble_eq_true rfl, Nat.le_of_ble_eq_true rfl⟩) hKw hA hwd [0, 2, 3, 4] [1] [1, 0, 2, 3, 4] [(oT_s, .inl (cI, 474, .inl T_s))] rfl rfl rfl rfl (by decide) rfl (fun _ => rfl) 0 7 rfl rfl rfl rfl hl.1 rfl (lv_room (Nat.le_of_ble_eq_true rfl)) dX7_takesRow_51 (fun u H locs hw hwd => ?_)
          obtain ⟨T_serves10, T_took11, T_tookMany12⟩ := u
          try dsimp only at hw
          replace hwd : wd D A s (ww_X7_takesRow cI cC oT oT_s oT_aside oT_states oT_snapshot oT_text oT_serves oT_took oT_tookMany oT_helps oT_before oT_read T_thrown T_stateMany T_hasSnapshot T_length T_stopNumber T_stopError T_at T_isWell T_readMany T_s T_serves10 T_took11 T_tookMany12) H locs := hwd
          obtain ⟨x3_13, e_x3_13⟩ : ∃ y : Int32, y = x3 + (nI 1) := ⟨_, rfl⟩
          replace hw := hw x3_13 e_x3_13
          refine lv_iinc (v := x3_13) (lv' := [(3, .int x3_13), (4, .int r3), (0, .ref oT), (1, .int x1), (2, .int x2)]) hx hb dX7_takesRow_54 hl (k := 4) rfl (by rw [e_x3_13]; rfl) (by decide) rfl (fun ls hl => ?_)
          refine lv_goto (tgt := 2) hx hb dX7_takesRow_57 (by decide) ?_
          exact ih T_serves10 T_took11 T_tookMany12 x3_13 hw _ _ _ hwd (lv_sub hl [2, 3, 4, 0] rfl)
def wp_X7_takesRow (T_s : Nat → Int32) (T_serves : Nat → Int32) (T_took : Nat → Int32) (T_tookMany : Nat → Int32) (x1 : Int32) (x2 : Int32) (Q : (Nat → Int32) → (Nat → Int32) → (Nat → Int32) → Prop) : Prop := (∃ n1, wb_X7_takesRow_2 T_s x1 x2 (fun T_serves2 T_took3 T_tookMany4 => Q T_serves2 T_took3 T_tookMany4) n1 T_serves T_took T_tookMany (nI 0))
set_option maxRecDepth 100000 in
set_option maxHeartbeats 4000000 in
theorem c_X7_takesRow (l : Launch) {D : va_G} {cI cC cR : ClassId} (oT oT_s oT_aside oT_states oT_snapshot oT_text oT_serves oT_took oT_tookMany oT_helps oT_before oT_read : Nat) (sz : Nat) (T_thrown : Int32) (T_stateMany : Int32) (T_hasSnapshot : Int32) (T_length : Int32) (T_stopNumber : Int32) (T_stopError : Int32) (T_at : Int32) (T_isWell : Int32) (T_readMany : Int32) (T_s : Nat → Int32) (T_serves : Nat → Int32) (T_took : Nat → Int32) (T_tookMany : Nat → Int32) (x1 : Int32) (x2 : Int32) {Q : (Nat → Int32) → (Nat → Int32) → (Nat → Int32) → Prop} (hw : wp_X7_takesRow T_s T_serves T_took T_tookMany x1 x2 Q) : Met l yX7_takesRow wsX7_takesRow rm_X7_takesRow (PcW D cI cC cR [.ref oT, .int x1, .int x2] (ww_X7_takesRow cI cC oT oT_s oT_aside oT_states oT_snapshot oT_text oT_serves oT_took oT_tookMany oT_helps oT_before oT_read T_thrown T_stateMany T_hasSnapshot T_length T_stopNumber T_stopError T_at T_isWell T_readMany T_s T_serves T_took T_tookMany) sz) (QvW D (fun (u : (Nat → Int32) × (Nat → Int32) × (Nat → Int32)) => Q u.1 u.2.1 u.2.2) (fun u => (ww_X7_takesRow cI cC oT oT_s oT_aside oT_states oT_snapshot oT_text oT_serves oT_took oT_tookMany oT_helps oT_before oT_read T_thrown T_stateMany T_hasSnapshot T_length T_stopNumber T_stopError T_at T_isWell T_readMany T_s (u.1) (u.2.1) (u.2.2))) (ww_X7_takesRow cI cC oT oT_s oT_aside oT_states oT_snapshot oT_text oT_serves oT_took oT_tookMany oT_helps oT_before oT_read T_thrown T_stateMany T_hasSnapshot T_length T_stopNumber T_stopError T_at T_isWell T_readMany T_s T_serves T_took T_tookMany) sz) 0 0 (va_A (ww_X7_takesRow cI cC oT oT_s oT_aside oT_states oT_snapshot oT_text oT_serves oT_took oT_tookMany oT_helps oT_before oT_read T_thrown T_stateMany T_hasSnapshot T_length T_stopNumber T_stopError T_at T_isWell T_readMany T_s T_serves T_took T_tookMany) sz) := by
  refine Met.ofW (cc := cX7_takesRow) (maxL := 5) (ret := none) (by decide) rfl ?_
  intro p e s m args below meth c s₁ B hml hv
  obtain ⟨rfl, hsz, hP, hKw, hD0⟩ := hv
  have hlocks := B.notSynchronized
  subst hsz
  have hD := hD0.self (sz := s.heap.size)
  have CX : cx cX7_takesRow none 5 RX7 wsX7_takesRow p m meth c s ([.ref oT, .int x1, .int x2] : List Value).toArray D cI cC cR (va_A (ww_X7_takesRow cI cC oT oT_s oT_aside oT_states oT_snapshot oT_text oT_serves oT_took oT_tookMany oT_helps oT_before oT_read T_thrown T_stateMany T_hasSnapshot T_length T_stopNumber T_stopError T_at T_isWell T_readMany T_s T_serves T_took T_tookMany) s.heap.size) := ⟨B.exec, B.bytes, B.returns, hml, atoms_spec (ws := wsX7_takesRow) B.pre, findClass_of_methodNamed B.named, hlocks, hKw, fun q h => Or.inr h⟩
  obtain ⟨hx, hb, hr, -, hts, hown, -, -, hA⟩ := id CX
  have hwd : wd D (va_A (ww_X7_takesRow cI cC oT oT_s oT_aside oT_states oT_snapshot oT_text oT_serves oT_took oT_tookMany oT_helps oT_before oT_read T_thrown T_stateMany T_hasSnapshot T_length T_stopNumber T_stopError T_at T_isWell T_readMany T_s T_serves T_took T_tookMany) s.heap.size) s (ww_X7_takesRow cI cC oT oT_s oT_aside oT_states oT_snapshot oT_text oT_serves oT_took oT_tookMany oT_helps oT_before oT_read T_thrown T_stateMany T_hasSnapshot T_length T_stopNumber T_stopError T_at T_isWell T_readMany T_s T_serves T_took T_tookMany) s.heap [] := ⟨hP, hD, va_S.rf⟩
  have hl := lv_entry ([.ref oT, .int x1, .int x2]) (n := 5) (Nat.le_of_ble_eq_true rfl)
  rw [lg_entry_eq]
  generalize (lg_sl ([.ref oT, .int x1, .int x2]) ++ List.replicate (5 - (lg_sl ([.ref oT, .int x1, .int x2])).length) Slot.unset).toArray = ls at hl ⊢
  have hl : lv_has ls 5 [(0, .ref oT), (1, .int x1), (2, .int x2)] := hl
  have HR : ∀ (u0 : Nat → Int32) (u1 : Nat → Int32) (u2 : Nat → Int32) {H : Heap} {locs : List Loc} {ls : Array Slot} {pc : Nat}, Q u0 u1 u2 → wd D (va_A (ww_X7_takesRow cI cC oT oT_s oT_aside oT_states oT_snapshot oT_text oT_serves oT_took oT_tookMany oT_helps oT_before oT_read T_thrown T_stateMany T_hasSnapshot T_length T_stopNumber T_stopError T_at T_isWell T_readMany T_s T_serves T_took T_tookMany) s.heap.size) s (ww_X7_takesRow cI cC oT oT_s oT_aside oT_states oT_snapshot oT_text oT_serves oT_took oT_tookMany oT_helps oT_before oT_read T_thrown T_stateMany T_hasSnapshot T_length T_stopNumber T_stopError T_at T_isWell T_readMany T_s u0 u1 u2) H locs → decode cX7_takesRow pc = .ok (.return_, 1) → W p l e (headSpec wsX7_takesRow rm_X7_takesRow).room s m ([.ref oT, .int x1, .int x2] : List Value).toArray below meth c H locs 0 0 (MQ below (QvW D (fun (u : (Nat → Int32) × (Nat → Int32) × (Nat → Int32)) => Q u.1 u.2.1 u.2.2) (fun u => (ww_X7_takesRow cI cC oT oT_s oT_aside oT_states oT_snapshot oT_text oT_serves oT_took oT_tookMany oT_helps oT_before oT_read T_thrown T_stateMany T_hasSnapshot T_length T_stopNumber T_stopError T_at T_isWell T_readMany T_s (u.1) (u.2.1) (u.2.2))) (ww_X7_takesRow cI cC oT oT_s oT_aside oT_states oT_snapshot oT_text oT_serves oT_took oT_tookMany oT_helps oT_before oT_read T_thrown T_stateMany T_hasSnapshot T_length T_stopNumber T_stopError T_at T_isWell T_readMany T_s T_serves T_took T_tookMany) s.heap.size) ([.ref oT, .int x1, .int x2] : List Value).toArray s 0 0 (va_A (ww_X7_takesRow cI cC oT oT_s oT_aside oT_states oT_snapshot oT_text oT_serves oT_took oT_tookMany oT_helps oT_before oT_read T_thrown T_stateMany T_hasSnapshot T_length T_stopNumber T_stopError T_at T_isWell T_readMany T_s T_serves T_took T_tookMany) s.heap.size)) (F0 m pc ls []) := by
    intro u0 u1 u2 H locs ls pc hq hw9 hd9
    exact W.vret hx hb hr (fun t ht hW => ⟨⟨(u0, u1, u2), rfl, hq, by rw [ht]; exact hw9.1, hw9.2.1⟩, hw9.2.2.F ht⟩) hw9.2.2.2.2 hd9
  unfold wp_X7_takesRow at hw
  refine lv_iconst (v := (nI 0)) hx hb dX7_takesRow_0 rfl ?_
  refine lv_istore_n (lv' := [(3, .int (nI 0)), (0, .ref oT), (1, .int x1), (2, .int x2)]) hx hb dX7_takesRow_1 rfl hl (by decide) rfl (fun ls hl => ?_)
  obtain ⟨n1, hw⟩ := hw
  refine blk_X7_takesRow_2 (CX := CX) (oT := oT) (oT_s := oT_s) (oT_aside := oT_aside) (oT_states := oT_states) (oT_snapshot := oT_snapshot) (oT_text := oT_text) (oT_serves := oT_serves) (oT_took := oT_took) (oT_tookMany := oT_tookMany) (oT_helps := oT_helps) (oT_before := oT_before) (oT_read := oT_read) (T_thrown := T_thrown) (T_stateMany := T_stateMany) (T_hasSnapshot := T_hasSnapshot) (T_length := T_length) (T_stopNumber := T_stopNumber) (T_stopError := T_stopError) (T_at := T_at) (T_isWell := T_isWell) (T_readMany := T_readMany) (T_s := T_s) (x1 := x1) (x2 := x2) (HR := HR) (HK_60 := fun T_serves2 T_took3 T_tookMany4 hw H locs ls hwd hl => ?_) n1 T_serves T_took T_tookMany (nI 0) hw _ _ _ hwd (lv_sub hl [1, 2, 3, 0] rfl)
  try dsimp only at hw
  exact HR T_serves2 T_took3 T_tookMany4 hw hwd dX7_takesRow_60
abbrev ww_X7_takesHelp (cI cC : ClassId) (oT oT_s oT_aside oT_states oT_snapshot oT_text oT_serves oT_took oT_tookMany oT_helps oT_before oT_read : Nat) (T_thrown : Int32) (T_stateMany : Int32) (T_hasSnapshot : Int32) (T_length : Int32) (T_stopNumber : Int32) (T_stopError : Int32) (T_at : Int32) (T_isWell : Int32) (T_readMany : Int32) (T_s : Nat → Int32) (T_serves : Nat → Int32) (T_took : Nat → Int32) (T_tookMany : Nat → Int32) (T_helps : Nat → Int32) : va_W := [(oT, .inr (7, [.int T_thrown, .ref oT_s, .ref oT_aside, .ref oT_states, .int T_stateMany, .ref oT_snapshot, .int T_hasSnapshot, .ref oT_text, .int T_length, .int T_stopNumber, .int T_stopError, .ref oT_serves, .ref oT_took, .ref oT_tookMany, .ref oT_helps, .ref oT_before, .int T_at, .int T_isWell, .ref oT_read, .int T_readMany])), (oT_s, .inl (cI, 474, .inl T_s)), (oT_serves, .inl (cI, 16, .inl T_serves)), (oT_took, .inl (cI, 30, .inl T_took)), (oT_tookMany, .inl (cI, 10, .inl T_tookMany)), (oT_helps, .inl (cI, 10, .inl T_helps))]
abbrev rm_X7_takesHelp : Room := { frames := 3, cells := 0, slots := 0, locals := 67 }
theorem ic_X7_takesHelp_X7 : ∀ w ∈ u_ws RX7 TX7 20, w ∈ wsX7_takesHelp := by
  intro w h
  simp only [wsX7_takesHelp, List.mem_cons, List.mem_append]
  simp only [h, or_true, true_or]
def wb_X7_takesHelp_2 (T_s : Nat → Int32) (x1 : Int32) (x2 : Int32) (K_54 : (Nat → Int32) → (Nat → Int32) → (Nat → Int32) → (Nat → Int32) → Prop) : Nat → (Nat → Int32) → (Nat → Int32) → (Nat → Int32) → (Nat → Int32) → Int32 → Prop
  | 0, _, _, _, _, _ => False
  | n + 1, T_serves, T_took, T_tookMany, T_helps, x3 => (((nI 16) ≤ x3 → K_54 T_serves T_took T_tookMany T_helps) ∧ (¬ (nI 16) ≤ x3 → vp_in x1 10 ∧ wp_X7_of T_s x1 (nI 0) (fun r2 => ((r2 ≤ (T_tookMany x1.toNatClampNeg) → ∀ x3_4, x3_4 = x3 + (nI 1) → wb_X7_takesHelp_2 T_s x1 x2 K_54 n T_serves T_took T_tookMany T_helps x3_4) ∧ (¬ r2 ≤ (T_tookMany x1.toNatClampNeg) → wp_X7_isReady T_s T_serves x3 x2 (fun r5 => ((r5 = 0 → ∀ x3_7, x3_7 = x3 + (nI 1) → wb_X7_takesHelp_2 T_s x1 x2 K_54 n T_serves T_took T_tookMany T_helps x3_7) ∧ (¬ r5 = 0 → wp_X7_takes T_serves T_took T_tookMany x1 x3 (fun T_serves8 T_took9 T_tookMany10 => vp_in x1 10 ∧ vp_in x1 10 ∧ ∀ T_helps11, T_helps11 = upd T_helps x1.toNatClampNeg ((T_helps x1.toNatClampNeg) + (nI 1)) → ∀ x3_12, x3_12 = x3 + (nI 1) → wb_X7_takesHelp_2 T_s x1 x2 K_54 n T_serves8 T_took9 T_tookMany10 T_helps11 x3_12)))))))))
set_option maxRecDepth 100000 in
set_option maxHeartbeats 4000000 in
theorem blk_X7_takesHelp_2 {p : Program} {l : Launch} {e : Env} {s : State} {m : MethodId} {args : Array Value} {below : List Frame} {meth : Method} {c : Code} {D : va_G} {cI cC cR : ClassId} {A : Nat → Prop} {Z : State → Prop} (CX : cx cX7_takesHelp none 4 RX7 wsX7_takesHelp p m meth c s args D cI cC cR A) (oT oT_s oT_aside oT_states oT_snapshot oT_text oT_serves oT_took oT_tookMany oT_helps oT_before oT_read : Nat) (T_thrown : Int32) (T_stateMany : Int32) (T_hasSnapshot : Int32) (T_length : Int32) (T_stopNumber : Int32) (T_stopError : Int32) (T_at : Int32) (T_isWell : Int32) (T_readMany : Int32) (T_s : Nat → Int32) (x1 : Int32) (x2 : Int32) {K_54 : (Nat → Int32) → (Nat → Int32) → (Nat → Int32) → (Nat → Int32) → Prop} {Q : (Nat → Int32) → (Nat → Int32) → (Nat → Int32) → (Nat → Int32) → Prop} (HR : ∀ (u0 : Nat → Int32) (u1 : Nat → Int32) (u2 : Nat → Int32) (u3 : Nat → Int32) {H : Heap} {locs : List Loc} {ls : Array Slot} {pc : Nat}, Q u0 u1 u2 u3 → wd D A s (ww_X7_takesHelp cI cC oT oT_s oT_aside oT_states oT_snapshot oT_text oT_serves oT_took oT_tookMany oT_helps oT_before oT_read T_thrown T_stateMany T_hasSnapshot T_length T_stopNumber T_stopError T_at T_isWell T_readMany T_s u0 u1 u2 u3) H locs → decode cX7_takesHelp pc = .ok (.return_, 1) → W p l e (headSpec wsX7_takesHelp rm_X7_takesHelp).room s m args below meth c H locs 0 0 Z (F0 m pc ls [])) (HK_54 : ∀ (T_servesy : Nat → Int32) (T_tooky : Nat → Int32) (T_tookManyy : Nat → Int32) (T_helpsy : Nat → Int32), K_54 T_servesy T_tooky T_tookManyy T_helpsy → ∀ (H : Heap) (locs : List Loc) (ls : Array Slot), wd D A s (ww_X7_takesHelp cI cC oT oT_s oT_aside oT_states oT_snapshot oT_text oT_serves oT_took oT_tookMany oT_helps oT_before oT_read T_thrown T_stateMany T_hasSnapshot T_length T_stopNumber T_stopError T_at T_isWell T_readMany T_s T_servesy T_tooky T_tookManyy T_helpsy) H locs → lv_has ls 4 [] → W p l e (headSpec wsX7_takesHelp rm_X7_takesHelp).room s m args below meth c H locs 0 0 Z (F0 m 54 ls [])) : ∀ (n : Nat) (T_serves : Nat → Int32) (T_took : Nat → Int32) (T_tookMany : Nat → Int32) (T_helps : Nat → Int32) (x3 : Int32), wb_X7_takesHelp_2 T_s x1 x2 K_54 n T_serves T_took T_tookMany T_helps x3 → ∀ (H : Heap) (locs : List Loc) (ls : Array Slot), wd D A s (ww_X7_takesHelp cI cC oT oT_s oT_aside oT_states oT_snapshot oT_text oT_serves oT_took oT_tookMany oT_helps oT_before oT_read T_thrown T_stateMany T_hasSnapshot T_length T_stopNumber T_stopError T_at T_isWell T_readMany T_s T_serves T_took T_tookMany T_helps) H locs → lv_has ls 4 [(0, .ref oT), (1, .int x1), (2, .int x2), (3, .int x3)] → W p l e (headSpec wsX7_takesHelp rm_X7_takesHelp).room s m args below meth c H locs 0 0 Z (F0 m 2 ls []) := by
  obtain ⟨hx, hb, hr, hml, hts, hown, hlocks, hKw, hA⟩ := id CX
  intro n
  induction n with
  | zero => intro T_serves T_took T_tookMany T_helps x3 hw; exact False.elim hw
  | succ n ih =>
    intro T_serves T_took T_tookMany T_helps x3 hw H locs ls hwd hl
    rw [wb_X7_takesHelp_2] at hw
    refine lv_iload_n hx hb dX7_takesHelp_2 rfl (lv_at hl 3 rfl) ?_
    refine lv_bipush (v := (nI 16)) hx hb dX7_takesHelp_3 rfl ?_
    refine lv_icmp_ge (tgt := 54) hx hb dX7_takesHelp_5 (by decide) (fun c1 => ?_) (fun c1 => ?_)
    · replace hw := hw.1 c1
      exact HK_54 T_serves T_took T_tookMany T_helps hw _ _ _ hwd (lv_sub hl [] rfl)
    · replace hw := hw.2 c1
      refine lv_aload_n hx hb dX7_takesHelp_8 rfl (lv_at hl 0 rfl) ?_
      refine va_get (D := D) (ci := 7) (v := .ref oT_tookMany) (C := RX7) (T := TX7) (N := 20) hx hb hts ic_X7_takesHelp_X7 hown hKw.1 hwd.1 0 rfl rfl 13 (by decide) (hts (.fieldLink RX7 31 "DrillWardensModel" "tookMany" "[I") (List.mem_of_getElem? (i := 1) rfl)) (fun _ h9 => h9) rfl dX7_takesHelp_9 ?_
      refine lv_iload_n hx hb dX7_takesHelp_12 rfl (lv_at hl 1 rfl) ?_
      refine va_iald hx hb hKw.1 hwd.1 4 0 rfl rfl hw.1 dX7_takesHelp_13 ?_
      replace hw := hw.2
      refine lv_aload_n hx hb dX7_takesHelp_14 rfl (lv_at hl 0 rfl) ?_
      refine lv_iload_n hx hb dX7_takesHelp_15 rfl (lv_at hl 1 rfl) ?_
      refine lv_iconst (v := (nI 0)) hx hb dX7_takesHelp_16 rfl ?_
      refine kcVi (W1 := (fun u => (ww_X7_takesHelp cI cC oT oT_s oT_aside oT_states oT_snapshot oT_text oT_serves oT_took oT_tookMany oT_helps oT_before oT_read T_thrown T_stateMany T_hasSnapshot T_length T_stopNumber T_stopError T_at T_isWell T_readMany T_s T_serves T_took T_tookMany T_helps))) (rest := [.int (T_tookMany x1.toNatClampNeg)]) (As := [.int x1, .int (nI 0)]) ⟨Nat.le_of_ble_eq_true rfl, Nat.le_of_ble_eq_true rfl⟩ ⟨hx, hb, hml, hown, hts⟩ (c_X7_of l oT oT_s oT_aside oT_states oT_snapshot oT_text oT_serves oT_took oT_tookMany oT_helps oT_before oT_read H.size T_thrown T_stateMany T_hasSnapshot T_length T_stopNumber T_stopError T_at T_isWell T_readMany T_s x1 (nI 0) hw) (cwV 2 hts gX7_takesHelp_X7_of rfl rfl rfl ⟨rfl, hd_X7_of⟩ ⟨Nat.le_of_ble_eq_true rfl, Nat.le_of_ble_eq_true rfl⟩) hKw hA hwd [0, 1] [2, 3, 4, 5] [4, 5, 0, 1, 2, 3] [(oT_serves, .inl (cI, 16, .inl T_serves)), (oT_took, .inl (cI, 30, .inl T_took)), (oT_tookMany, .inl (cI, 10, .inl T_tookMany)), (oT_helps, .inl (cI, 10, .inl T_helps))] rfl rfl rfl rfl (by decide) rfl (fun _ => rfl) 0 7 rfl rfl rfl rfl hl.1 rfl (lv_room (Nat.le_of_ble_eq_true rfl)) dX7_takesHelp_17 (fun r2 u H locs hw hwd => ?_)
      try dsimp only at hw
      replace hwd : wd D A s (ww_X7_takesHelp cI cC oT oT_s oT_aside oT_states oT_snapshot oT_text oT_serves oT_took oT_tookMany oT_helps oT_before oT_read T_thrown T_stateMany T_hasSnapshot T_length T_stopNumber T_stopError T_at T_isWell T_readMany T_s T_serves T_took T_tookMany T_helps) H locs := hwd
      refine lv_icmp_ge (tgt := 48) hx hb dX7_takesHelp_20 (by decide) (fun c3 => ?_) (fun c3 => ?_)
      · replace hw := hw.1 c3
        obtain ⟨x3_4, e_x3_4⟩ : ∃ y : Int32, y = x3 + (nI 1) := ⟨_, rfl⟩
        replace hw := hw x3_4 e_x3_4
        refine lv_iinc (v := x3_4) (lv' := [(3, .int x3_4), (0, .ref oT), (1, .int x1), (2, .int x2)]) hx hb dX7_takesHelp_48 hl (k := 3) rfl (by rw [e_x3_4]; rfl) (by decide) rfl (fun ls hl => ?_)
        refine lv_goto (tgt := 2) hx hb dX7_takesHelp_51 (by decide) ?_
        exact ih T_serves T_took T_tookMany T_helps x3_4 hw _ _ _ hwd (lv_sub hl [1, 2, 3, 0] rfl)
      · replace hw := hw.2 c3
        refine lv_aload_n hx hb dX7_takesHelp_23 rfl (lv_at hl 0 rfl) ?_
        refine lv_iload_n hx hb dX7_takesHelp_24 rfl (lv_at hl 3 rfl) ?_
        refine lv_iload_n hx hb dX7_takesHelp_25 rfl (lv_at hl 2 rfl) ?_
        refine kcVi (W1 := (fun u => (ww_X7_takesHelp cI cC oT oT_s oT_aside oT_states oT_snapshot oT_text oT_serves oT_took oT_tookMany oT_helps oT_before oT_read T_thrown T_stateMany T_hasSnapshot T_length T_stopNumber T_stopError T_at T_isWell T_readMany T_s T_serves T_took T_tookMany T_helps))) (rest := []) (As := [.int x3, .int x2]) ⟨Nat.le_of_ble_eq_true rfl, Nat.le_of_ble_eq_true rfl⟩ ⟨hx, hb, hml, hown, hts⟩ (c_X7_isReady l oT oT_s oT_aside oT_states oT_snapshot oT_text oT_serves oT_took oT_tookMany oT_helps oT_before oT_read H.size T_thrown T_stateMany T_hasSnapshot T_length T_stopNumber T_stopError T_at T_isWell T_readMany T_s T_serves x3 x2 hw) (cwV 2 hts gX7_takesHelp_X7_isReady rfl rfl rfl ⟨rfl, hd_X7_isReady⟩ ⟨Nat.le_of_ble_eq_true rfl, Nat.le_of_ble_eq_true rfl⟩) hKw hA hwd [0, 1, 2] [3, 4, 5] [3, 4, 5, 0, 1, 2] [(oT_took, .inl (cI, 30, .inl T_took)), (oT_tookMany, .inl (cI, 10, .inl T_tookMany)), (oT_helps, .inl (cI, 10, .inl T_helps))] rfl rfl rfl rfl (by decide) rfl (fun _ => rfl) 0 7 rfl rfl rfl rfl hl.1 rfl (lv_room (Nat.le_of_ble_eq_true rfl)) dX7_takesHelp_26 (fun r5 u H locs hw hwd => ?_)
        try dsimp only at hw
        replace hwd : wd D A s (ww_X7_takesHelp cI cC oT oT_s oT_aside oT_states oT_snapshot oT_text oT_serves oT_took oT_tookMany oT_helps oT_before oT_read T_thrown T_stateMany T_hasSnapshot T_length T_stopNumber T_stopError T_at T_isWell T_readMany T_s T_serves T_took T_tookMany T_helps) H locs := hwd
        refine lv_if_eq (tgt := 48) hx hb dX7_takesHelp_29 (by decide) (fun c6 => ?_) (fun c6 => ?_)
        · replace hw := hw.1 c6
          obtain ⟨x3_7, e_x3_7⟩ : ∃ y : Int32, y = x3 + (nI 1) := ⟨_, rfl⟩
          replace hw := hw x3_7 e_x3_7
          refine lv_iinc (v := x3_7) (lv' := [(3, .int x3_7), (0, .ref oT), (1, .int x1), (2, .int x2)]) hx hb dX7_takesHelp_48 hl (k := 3) rfl (by rw [e_x3_7]; rfl) (by decide) rfl (fun ls hl => ?_)
          refine lv_goto (tgt := 2) hx hb dX7_takesHelp_51 (by decide) ?_
          exact ih T_serves T_took T_tookMany T_helps x3_7 hw _ _ _ hwd (lv_sub hl [1, 2, 3, 0] rfl)
        · replace hw := hw.2 c6
          refine lv_aload_n hx hb dX7_takesHelp_32 rfl (lv_at hl 0 rfl) ?_
          refine lv_iload_n hx hb dX7_takesHelp_33 rfl (lv_at hl 1 rfl) ?_
          refine lv_iload_n hx hb dX7_takesHelp_34 rfl (lv_at hl 3 rfl) ?_
          refine kcVv (W1 := (fun u => (ww_X7_takesHelp cI cC oT oT_s oT_aside oT_states oT_snapshot oT_text oT_serves oT_took oT_tookMany oT_helps oT_before oT_read T_thrown T_stateMany T_hasSnapshot T_length T_stopNumber T_stopError T_at T_isWell T_readMany T_s (u.1) (u.2.1) (u.2.2) T_helps))) (rest := []) (As := [.int x1, .int x3]) ⟨Nat.le_of_ble_eq_true rfl, Nat.le_of_ble_eq_true rfl⟩ ⟨hx, hb, hml, hown, hts⟩ (c_X7_takes l oT oT_s oT_aside oT_states oT_snapshot oT_text oT_serves oT_took oT_tookMany oT_helps oT_before oT_read H.size T_thrown T_stateMany T_hasSnapshot T_length T_stopNumber T_stopError T_at T_isWell T_readMany T_serves T_took T_tookMany x1 x3 hw) (cwV 2 hts gX7_takesHelp_X7_takes rfl rfl rfl ⟨rfl, hd_X7_takes⟩ ⟨Nat.le_of_ble_eq_true rfl, Nat.le_of_ble_eq_true rfl⟩) hKw hA hwd [0, 2, 3, 4] [1, 5] [2, 0, 3, 4, 5, 1] [(oT_s, .inl (cI, 474, .inl T_s)), (oT_helps, .inl (cI, 10, .inl T_helps))] rfl rfl rfl rfl (by decide) rfl (fun _ => rfl) 0 7 rfl rfl rfl rfl hl.1 rfl (lv_room (Nat.le_of_ble_eq_true rfl)) dX7_takesHelp_35 (fun u H locs hw hwd => ?_)
          obtain ⟨T_serves8, T_took9, T_tookMany10⟩ := u
          try dsimp only at hw
          replace hwd : wd D A s (ww_X7_takesHelp cI cC oT oT_s oT_aside oT_states oT_snapshot oT_text oT_serves oT_took oT_tookMany oT_helps oT_before oT_read T_thrown T_stateMany T_hasSnapshot T_length T_stopNumber T_stopError T_at T_isWell T_readMany T_s T_serves8 T_took9 T_tookMany10 T_helps) H locs := hwd
          refine lv_aload_n hx hb dX7_takesHelp_38 rfl (lv_at hl 0 rfl) ?_
          refine va_get (D := D) (ci := 7) (v := .ref oT_helps) (C := RX7) (T := TX7) (N := 20) hx hb hts ic_X7_takesHelp_X7 hown hKw.1 hwd.1 0 rfl rfl 14 (by decide) (hts (.fieldLink RX7 34 "DrillWardensModel" "helps" "[I") (List.mem_of_getElem? (i := 2) rfl)) (fun _ h9 => h9) rfl dX7_takesHelp_39 ?_
          refine lv_iload_n hx hb dX7_takesHelp_42 rfl (lv_at hl 1 rfl) ?_
          refine lv_dup2_11 hx hb dX7_takesHelp_43 rfl rfl ?_
          refine va_iald hx hb hKw.1 hwd.1 5 0 rfl rfl hw.1 dX7_takesHelp_44 ?_
          replace hw := hw.2
          refine lv_iconst (v := (nI 1)) hx hb dX7_takesHelp_45 rfl ?_
          refine lv_iadd hx hb dX7_takesHelp_46 ?_
          obtain ⟨T_helps11, e_T_helps11⟩ : ∃ y : Nat → Int32, y = upd T_helps x1.toNatClampNeg ((T_helps x1.toNatClampNeg) + (nI 1)) := ⟨_, rfl⟩
          refine va_iast hx hb hKw.1 hwd.1 hwd.2.1 hwd.2.2 5 0 rfl rfl hw.1 dX7_takesHelp_47 (fun H locs h1 h2 h3 => ?_)
          replace hw := hw.2 T_helps11 e_T_helps11
          rw [← e_T_helps11] at h1 h2
          replace hwd : wd D A s (ww_X7_takesHelp cI cC oT oT_s oT_aside oT_states oT_snapshot oT_text oT_serves oT_took oT_tookMany oT_helps oT_before oT_read T_thrown T_stateMany T_hasSnapshot T_length T_stopNumber T_stopError T_at T_isWell T_readMany T_s T_serves8 T_took9 T_tookMany10 T_helps11) H locs := ⟨h1, h2, h3⟩
          clear h1 h2 h3
          obtain ⟨x3_12, e_x3_12⟩ : ∃ y : Int32, y = x3 + (nI 1) := ⟨_, rfl⟩
          replace hw := hw x3_12 e_x3_12
          refine lv_iinc (v := x3_12) (lv' := [(3, .int x3_12), (0, .ref oT), (1, .int x1), (2, .int x2)]) hx hb dX7_takesHelp_48 hl (k := 3) rfl (by rw [e_x3_12]; rfl) (by decide) rfl (fun ls hl => ?_)
          refine lv_goto (tgt := 2) hx hb dX7_takesHelp_51 (by decide) ?_
          exact ih T_serves8 T_took9 T_tookMany10 T_helps11 x3_12 hw _ _ _ hwd (lv_sub hl [1, 2, 3, 0] rfl)
def wp_X7_takesHelp (T_s : Nat → Int32) (T_serves : Nat → Int32) (T_took : Nat → Int32) (T_tookMany : Nat → Int32) (T_helps : Nat → Int32) (x1 : Int32) (x2 : Int32) (Q : (Nat → Int32) → (Nat → Int32) → (Nat → Int32) → (Nat → Int32) → Prop) : Prop := (∃ n1, wb_X7_takesHelp_2 T_s x1 x2 (fun T_serves2 T_took3 T_tookMany4 T_helps5 => Q T_serves2 T_took3 T_tookMany4 T_helps5) n1 T_serves T_took T_tookMany T_helps (nI 0))
set_option maxRecDepth 100000 in
set_option maxHeartbeats 4000000 in
theorem c_X7_takesHelp (l : Launch) {D : va_G} {cI cC cR : ClassId} (oT oT_s oT_aside oT_states oT_snapshot oT_text oT_serves oT_took oT_tookMany oT_helps oT_before oT_read : Nat) (sz : Nat) (T_thrown : Int32) (T_stateMany : Int32) (T_hasSnapshot : Int32) (T_length : Int32) (T_stopNumber : Int32) (T_stopError : Int32) (T_at : Int32) (T_isWell : Int32) (T_readMany : Int32) (T_s : Nat → Int32) (T_serves : Nat → Int32) (T_took : Nat → Int32) (T_tookMany : Nat → Int32) (T_helps : Nat → Int32) (x1 : Int32) (x2 : Int32) {Q : (Nat → Int32) → (Nat → Int32) → (Nat → Int32) → (Nat → Int32) → Prop} (hw : wp_X7_takesHelp T_s T_serves T_took T_tookMany T_helps x1 x2 Q) : Met l yX7_takesHelp wsX7_takesHelp rm_X7_takesHelp (PcW D cI cC cR [.ref oT, .int x1, .int x2] (ww_X7_takesHelp cI cC oT oT_s oT_aside oT_states oT_snapshot oT_text oT_serves oT_took oT_tookMany oT_helps oT_before oT_read T_thrown T_stateMany T_hasSnapshot T_length T_stopNumber T_stopError T_at T_isWell T_readMany T_s T_serves T_took T_tookMany T_helps) sz) (QvW D (fun (u : (Nat → Int32) × (Nat → Int32) × (Nat → Int32) × (Nat → Int32)) => Q u.1 u.2.1 u.2.2.1 u.2.2.2) (fun u => (ww_X7_takesHelp cI cC oT oT_s oT_aside oT_states oT_snapshot oT_text oT_serves oT_took oT_tookMany oT_helps oT_before oT_read T_thrown T_stateMany T_hasSnapshot T_length T_stopNumber T_stopError T_at T_isWell T_readMany T_s (u.1) (u.2.1) (u.2.2.1) (u.2.2.2))) (ww_X7_takesHelp cI cC oT oT_s oT_aside oT_states oT_snapshot oT_text oT_serves oT_took oT_tookMany oT_helps oT_before oT_read T_thrown T_stateMany T_hasSnapshot T_length T_stopNumber T_stopError T_at T_isWell T_readMany T_s T_serves T_took T_tookMany T_helps) sz) 0 0 (va_A (ww_X7_takesHelp cI cC oT oT_s oT_aside oT_states oT_snapshot oT_text oT_serves oT_took oT_tookMany oT_helps oT_before oT_read T_thrown T_stateMany T_hasSnapshot T_length T_stopNumber T_stopError T_at T_isWell T_readMany T_s T_serves T_took T_tookMany T_helps) sz) := by
  refine Met.ofW (cc := cX7_takesHelp) (maxL := 4) (ret := none) (by decide) rfl ?_
  intro p e s m args below meth c s₁ B hml hv
  obtain ⟨rfl, hsz, hP, hKw, hD0⟩ := hv
  have hlocks := B.notSynchronized
  subst hsz
  have hD := hD0.self (sz := s.heap.size)
  have CX : cx cX7_takesHelp none 4 RX7 wsX7_takesHelp p m meth c s ([.ref oT, .int x1, .int x2] : List Value).toArray D cI cC cR (va_A (ww_X7_takesHelp cI cC oT oT_s oT_aside oT_states oT_snapshot oT_text oT_serves oT_took oT_tookMany oT_helps oT_before oT_read T_thrown T_stateMany T_hasSnapshot T_length T_stopNumber T_stopError T_at T_isWell T_readMany T_s T_serves T_took T_tookMany T_helps) s.heap.size) := ⟨B.exec, B.bytes, B.returns, hml, atoms_spec (ws := wsX7_takesHelp) B.pre, findClass_of_methodNamed B.named, hlocks, hKw, fun q h => Or.inr h⟩
  obtain ⟨hx, hb, hr, -, hts, hown, -, -, hA⟩ := id CX
  have hwd : wd D (va_A (ww_X7_takesHelp cI cC oT oT_s oT_aside oT_states oT_snapshot oT_text oT_serves oT_took oT_tookMany oT_helps oT_before oT_read T_thrown T_stateMany T_hasSnapshot T_length T_stopNumber T_stopError T_at T_isWell T_readMany T_s T_serves T_took T_tookMany T_helps) s.heap.size) s (ww_X7_takesHelp cI cC oT oT_s oT_aside oT_states oT_snapshot oT_text oT_serves oT_took oT_tookMany oT_helps oT_before oT_read T_thrown T_stateMany T_hasSnapshot T_length T_stopNumber T_stopError T_at T_isWell T_readMany T_s T_serves T_took T_tookMany T_helps) s.heap [] := ⟨hP, hD, va_S.rf⟩
  have hl := lv_entry ([.ref oT, .int x1, .int x2]) (n := 4) (Nat.le_of_ble_eq_true rfl)
  rw [lg_entry_eq]
  generalize (lg_sl ([.ref oT, .int x1, .int x2]) ++ List.replicate (4 - (lg_sl ([.ref oT, .int x1, .int x2])).length) Slot.unset).toArray = ls at hl ⊢
  have hl : lv_has ls 4 [(0, .ref oT), (1, .int x1), (2, .int x2)] := hl
  have HR : ∀ (u0 : Nat → Int32) (u1 : Nat → Int32) (u2 : Nat → Int32) (u3 : Nat → Int32) {H : Heap} {locs : List Loc} {ls : Array Slot} {pc : Nat}, Q u0 u1 u2 u3 → wd D (va_A (ww_X7_takesHelp cI cC oT oT_s oT_aside oT_states oT_snapshot oT_text oT_serves oT_took oT_tookMany oT_helps oT_before oT_read T_thrown T_stateMany T_hasSnapshot T_length T_stopNumber T_stopError T_at T_isWell T_readMany T_s T_serves T_took T_tookMany T_helps) s.heap.size) s (ww_X7_takesHelp cI cC oT oT_s oT_aside oT_states oT_snapshot oT_text oT_serves oT_took oT_tookMany oT_helps oT_before oT_read T_thrown T_stateMany T_hasSnapshot T_length T_stopNumber T_stopError T_at T_isWell T_readMany T_s u0 u1 u2 u3) H locs → decode cX7_takesHelp pc = .ok (.return_, 1) → W p l e (headSpec wsX7_takesHelp rm_X7_takesHelp).room s m ([.ref oT, .int x1, .int x2] : List Value).toArray below meth c H locs 0 0 (MQ below (QvW D (fun (u : (Nat → Int32) × (Nat → Int32) × (Nat → Int32) × (Nat → Int32)) => Q u.1 u.2.1 u.2.2.1 u.2.2.2) (fun u => (ww_X7_takesHelp cI cC oT oT_s oT_aside oT_states oT_snapshot oT_text oT_serves oT_took oT_tookMany oT_helps oT_before oT_read T_thrown T_stateMany T_hasSnapshot T_length T_stopNumber T_stopError T_at T_isWell T_readMany T_s (u.1) (u.2.1) (u.2.2.1) (u.2.2.2))) (ww_X7_takesHelp cI cC oT oT_s oT_aside oT_states oT_snapshot oT_text oT_serves oT_took oT_tookMany oT_helps oT_before oT_read T_thrown T_stateMany T_hasSnapshot T_length T_stopNumber T_stopError T_at T_isWell T_readMany T_s T_serves T_took T_tookMany T_helps) s.heap.size) ([.ref oT, .int x1, .int x2] : List Value).toArray s 0 0 (va_A (ww_X7_takesHelp cI cC oT oT_s oT_aside oT_states oT_snapshot oT_text oT_serves oT_took oT_tookMany oT_helps oT_before oT_read T_thrown T_stateMany T_hasSnapshot T_length T_stopNumber T_stopError T_at T_isWell T_readMany T_s T_serves T_took T_tookMany T_helps) s.heap.size)) (F0 m pc ls []) := by
    intro u0 u1 u2 u3 H locs ls pc hq hw9 hd9
    exact W.vret hx hb hr (fun t ht hW => ⟨⟨(u0, u1, u2, u3), rfl, hq, by rw [ht]; exact hw9.1, hw9.2.1⟩, hw9.2.2.F ht⟩) hw9.2.2.2.2 hd9
  unfold wp_X7_takesHelp at hw
  refine lv_iconst (v := (nI 0)) hx hb dX7_takesHelp_0 rfl ?_
  refine lv_istore_n (lv' := [(3, .int (nI 0)), (0, .ref oT), (1, .int x1), (2, .int x2)]) hx hb dX7_takesHelp_1 rfl hl (by decide) rfl (fun ls hl => ?_)
  obtain ⟨n1, hw⟩ := hw
  refine blk_X7_takesHelp_2 (CX := CX) (oT := oT) (oT_s := oT_s) (oT_aside := oT_aside) (oT_states := oT_states) (oT_snapshot := oT_snapshot) (oT_text := oT_text) (oT_serves := oT_serves) (oT_took := oT_took) (oT_tookMany := oT_tookMany) (oT_helps := oT_helps) (oT_before := oT_before) (oT_read := oT_read) (T_thrown := T_thrown) (T_stateMany := T_stateMany) (T_hasSnapshot := T_hasSnapshot) (T_length := T_length) (T_stopNumber := T_stopNumber) (T_stopError := T_stopError) (T_at := T_at) (T_isWell := T_isWell) (T_readMany := T_readMany) (T_s := T_s) (x1 := x1) (x2 := x2) (HR := HR) (HK_54 := fun T_serves2 T_took3 T_tookMany4 T_helps5 hw H locs ls hwd hl => ?_) n1 T_serves T_took T_tookMany T_helps (nI 0) hw _ _ _ hwd (lv_sub hl [1, 2, 3, 0] rfl)
  try dsimp only at hw
  exact HR T_serves2 T_took3 T_tookMany4 T_helps5 hw hwd dX7_takesHelp_54
abbrev ww_X7_plans (cI cC : ClassId) (oT oT_s oT_aside oT_states oT_snapshot oT_text oT_serves oT_took oT_tookMany oT_helps oT_before oT_read : Nat) (T_thrown : Int32) (T_stateMany : Int32) (T_hasSnapshot : Int32) (T_length : Int32) (T_stopNumber : Int32) (T_stopError : Int32) (T_at : Int32) (T_isWell : Int32) (T_readMany : Int32) (T_s : Nat → Int32) (T_serves : Nat → Int32) (T_took : Nat → Int32) (T_tookMany : Nat → Int32) (T_helps : Nat → Int32) : va_W := [(oT, .inr (7, [.int T_thrown, .ref oT_s, .ref oT_aside, .ref oT_states, .int T_stateMany, .ref oT_snapshot, .int T_hasSnapshot, .ref oT_text, .int T_length, .int T_stopNumber, .int T_stopError, .ref oT_serves, .ref oT_took, .ref oT_tookMany, .ref oT_helps, .ref oT_before, .int T_at, .int T_isWell, .ref oT_read, .int T_readMany])), (oT_s, .inl (cI, 474, .inl T_s)), (oT_serves, .inl (cI, 16, .inl T_serves)), (oT_took, .inl (cI, 30, .inl T_took)), (oT_tookMany, .inl (cI, 10, .inl T_tookMany)), (oT_helps, .inl (cI, 10, .inl T_helps))]
abbrev rm_X7_plans : Room := { frames := 4, cells := 0, slots := 0, locals := 91 }
theorem ic_X7_plans_X7 : ∀ w ∈ u_ws RX7 TX7 20, w ∈ wsX7_plans := by
  intro w h
  simp only [wsX7_plans, List.mem_cons, List.mem_append]
  simp only [h, or_true, true_or]
def wb_X7_plans_2  (K_22 : (Nat → Int32) → Prop) : Nat → (Nat → Int32) → Int32 → Prop
  | 0, _, _ => False
  | n + 1, T_serves, x2 => (((nI 16) ≤ x2 → K_22 T_serves) ∧ (¬ (nI 16) ≤ x2 → vp_in x2 16 ∧ ∀ T_serves2, T_serves2 = upd T_serves x2.toNatClampNeg (-5) → ∀ x2_3, x2_3 = x2 + (nI 1) → wb_X7_plans_2 K_22 n T_serves2 x2_3))
set_option maxRecDepth 100000 in
set_option maxHeartbeats 4000000 in
theorem blk_X7_plans_2 {p : Program} {l : Launch} {e : Env} {s : State} {m : MethodId} {args : Array Value} {below : List Frame} {meth : Method} {c : Code} {D : va_G} {cI cC cR : ClassId} {A : Nat → Prop} {Z : State → Prop} (CX : cx cX7_plans none 3 RX7 wsX7_plans p m meth c s args D cI cC cR A) (oT oT_s oT_aside oT_states oT_snapshot oT_text oT_serves oT_took oT_tookMany oT_helps oT_before oT_read : Nat) (T_thrown : Int32) (T_stateMany : Int32) (T_hasSnapshot : Int32) (T_length : Int32) (T_stopNumber : Int32) (T_stopError : Int32) (T_at : Int32) (T_isWell : Int32) (T_readMany : Int32) (T_s : Nat → Int32) (T_took : Nat → Int32) (T_tookMany : Nat → Int32) (T_helps : Nat → Int32) (x1 : Int32) {K_22 : (Nat → Int32) → Prop} {Q : (Nat → Int32) → (Nat → Int32) → (Nat → Int32) → (Nat → Int32) → Prop} (HR : ∀ (u0 : Nat → Int32) (u1 : Nat → Int32) (u2 : Nat → Int32) (u3 : Nat → Int32) {H : Heap} {locs : List Loc} {ls : Array Slot} {pc : Nat}, Q u0 u1 u2 u3 → wd D A s (ww_X7_plans cI cC oT oT_s oT_aside oT_states oT_snapshot oT_text oT_serves oT_took oT_tookMany oT_helps oT_before oT_read T_thrown T_stateMany T_hasSnapshot T_length T_stopNumber T_stopError T_at T_isWell T_readMany T_s u0 u1 u2 u3) H locs → decode cX7_plans pc = .ok (.return_, 1) → W p l e (headSpec wsX7_plans rm_X7_plans).room s m args below meth c H locs 0 0 Z (F0 m pc ls [])) (HK_22 : ∀ (T_servesy : Nat → Int32), K_22 T_servesy → ∀ (H : Heap) (locs : List Loc) (ls : Array Slot), wd D A s (ww_X7_plans cI cC oT oT_s oT_aside oT_states oT_snapshot oT_text oT_serves oT_took oT_tookMany oT_helps oT_before oT_read T_thrown T_stateMany T_hasSnapshot T_length T_stopNumber T_stopError T_at T_isWell T_readMany T_s T_servesy T_took T_tookMany T_helps) H locs → lv_has ls 3 [(0, .ref oT), (1, .int x1)] → W p l e (headSpec wsX7_plans rm_X7_plans).room s m args below meth c H locs 0 0 Z (F0 m 22 ls [])) : ∀ (n : Nat) (T_serves : Nat → Int32) (x2 : Int32), wb_X7_plans_2 K_22 n T_serves x2 → ∀ (H : Heap) (locs : List Loc) (ls : Array Slot), wd D A s (ww_X7_plans cI cC oT oT_s oT_aside oT_states oT_snapshot oT_text oT_serves oT_took oT_tookMany oT_helps oT_before oT_read T_thrown T_stateMany T_hasSnapshot T_length T_stopNumber T_stopError T_at T_isWell T_readMany T_s T_serves T_took T_tookMany T_helps) H locs → lv_has ls 3 [(0, .ref oT), (1, .int x1), (2, .int x2)] → W p l e (headSpec wsX7_plans rm_X7_plans).room s m args below meth c H locs 0 0 Z (F0 m 2 ls []) := by
  obtain ⟨hx, hb, hr, hml, hts, hown, hlocks, hKw, hA⟩ := id CX
  intro n
  induction n with
  | zero => intro T_serves x2 hw; exact False.elim hw
  | succ n ih =>
    intro T_serves x2 hw H locs ls hwd hl
    rw [wb_X7_plans_2] at hw
    refine lv_iload_n hx hb dX7_plans_2 rfl (lv_at hl 2 rfl) ?_
    refine lv_bipush (v := (nI 16)) hx hb dX7_plans_3 rfl ?_
    refine lv_icmp_ge (tgt := 22) hx hb dX7_plans_5 (by decide) (fun c1 => ?_) (fun c1 => ?_)
    · replace hw := hw.1 c1
      exact HK_22 T_serves hw _ _ _ hwd (lv_sub hl [0, 1] rfl)
    · replace hw := hw.2 c1
      refine lv_aload_n hx hb dX7_plans_8 rfl (lv_at hl 0 rfl) ?_
      refine va_get (D := D) (ci := 7) (v := .ref oT_serves) (C := RX7) (T := TX7) (N := 20) hx hb hts ic_X7_plans_X7 hown hKw.1 hwd.1 0 rfl rfl 11 (by decide) (hts (.fieldLink RX7 25 "DrillWardensModel" "serves" "[I") (List.mem_of_getElem? (i := 1) rfl)) (fun _ h9 => h9) rfl dX7_plans_9 ?_
      refine lv_iload_n hx hb dX7_plans_12 rfl (lv_at hl 2 rfl) ?_
      refine lv_bipush (v := (-5)) hx hb dX7_plans_13 rfl ?_
      obtain ⟨T_serves2, e_T_serves2⟩ : ∃ y : Nat → Int32, y = upd T_serves x2.toNatClampNeg (-5) := ⟨_, rfl⟩
      refine va_iast hx hb hKw.1 hwd.1 hwd.2.1 hwd.2.2 2 0 rfl rfl hw.1 dX7_plans_15 (fun H locs h1 h2 h3 => ?_)
      replace hw := hw.2 T_serves2 e_T_serves2
      rw [← e_T_serves2] at h1 h2
      replace hwd : wd D A s (ww_X7_plans cI cC oT oT_s oT_aside oT_states oT_snapshot oT_text oT_serves oT_took oT_tookMany oT_helps oT_before oT_read T_thrown T_stateMany T_hasSnapshot T_length T_stopNumber T_stopError T_at T_isWell T_readMany T_s T_serves2 T_took T_tookMany T_helps) H locs := ⟨h1, h2, h3⟩
      clear h1 h2 h3
      obtain ⟨x2_3, e_x2_3⟩ : ∃ y : Int32, y = x2 + (nI 1) := ⟨_, rfl⟩
      replace hw := hw x2_3 e_x2_3
      refine lv_iinc (v := x2_3) (lv' := [(2, .int x2_3), (0, .ref oT), (1, .int x1)]) hx hb dX7_plans_16 hl (k := 2) rfl (by rw [e_x2_3]; rfl) (by decide) rfl (fun ls hl => ?_)
      refine lv_goto (tgt := 2) hx hb dX7_plans_19 (by decide) ?_
      exact ih T_serves2 x2_3 hw _ _ _ hwd (lv_sub hl [1, 2, 0] rfl)
def wb_X7_plans_24  (K_50 : (Nat → Int32) → (Nat → Int32) → Prop) : Nat → (Nat → Int32) → (Nat → Int32) → Int32 → Prop
  | 0, _, _, _ => False
  | n + 1, T_tookMany, T_helps, x2 => (((nI 10) ≤ x2 → K_50 T_tookMany T_helps) ∧ (¬ (nI 10) ≤ x2 → vp_in x2 10 ∧ ∀ T_tookMany2, T_tookMany2 = upd T_tookMany x2.toNatClampNeg (nI 0) → vp_in x2 10 ∧ ∀ T_helps3, T_helps3 = upd T_helps x2.toNatClampNeg (nI 0) → ∀ x2_4, x2_4 = x2 + (nI 1) → wb_X7_plans_24 K_50 n T_tookMany2 T_helps3 x2_4))
set_option maxRecDepth 100000 in
set_option maxHeartbeats 4000000 in
theorem blk_X7_plans_24 {p : Program} {l : Launch} {e : Env} {s : State} {m : MethodId} {args : Array Value} {below : List Frame} {meth : Method} {c : Code} {D : va_G} {cI cC cR : ClassId} {A : Nat → Prop} {Z : State → Prop} (CX : cx cX7_plans none 3 RX7 wsX7_plans p m meth c s args D cI cC cR A) (oT oT_s oT_aside oT_states oT_snapshot oT_text oT_serves oT_took oT_tookMany oT_helps oT_before oT_read : Nat) (T_thrown : Int32) (T_stateMany : Int32) (T_hasSnapshot : Int32) (T_length : Int32) (T_stopNumber : Int32) (T_stopError : Int32) (T_at : Int32) (T_isWell : Int32) (T_readMany : Int32) (T_s : Nat → Int32) (T_serves : Nat → Int32) (T_took : Nat → Int32) (x1 : Int32) {K_50 : (Nat → Int32) → (Nat → Int32) → Prop} {Q : (Nat → Int32) → (Nat → Int32) → (Nat → Int32) → (Nat → Int32) → Prop} (HR : ∀ (u0 : Nat → Int32) (u1 : Nat → Int32) (u2 : Nat → Int32) (u3 : Nat → Int32) {H : Heap} {locs : List Loc} {ls : Array Slot} {pc : Nat}, Q u0 u1 u2 u3 → wd D A s (ww_X7_plans cI cC oT oT_s oT_aside oT_states oT_snapshot oT_text oT_serves oT_took oT_tookMany oT_helps oT_before oT_read T_thrown T_stateMany T_hasSnapshot T_length T_stopNumber T_stopError T_at T_isWell T_readMany T_s u0 u1 u2 u3) H locs → decode cX7_plans pc = .ok (.return_, 1) → W p l e (headSpec wsX7_plans rm_X7_plans).room s m args below meth c H locs 0 0 Z (F0 m pc ls [])) (HK_50 : ∀ (T_tookManyy : Nat → Int32) (T_helpsy : Nat → Int32), K_50 T_tookManyy T_helpsy → ∀ (H : Heap) (locs : List Loc) (ls : Array Slot), wd D A s (ww_X7_plans cI cC oT oT_s oT_aside oT_states oT_snapshot oT_text oT_serves oT_took oT_tookMany oT_helps oT_before oT_read T_thrown T_stateMany T_hasSnapshot T_length T_stopNumber T_stopError T_at T_isWell T_readMany T_s T_serves T_took T_tookManyy T_helpsy) H locs → lv_has ls 3 [(0, .ref oT), (1, .int x1)] → W p l e (headSpec wsX7_plans rm_X7_plans).room s m args below meth c H locs 0 0 Z (F0 m 50 ls [])) : ∀ (n : Nat) (T_tookMany : Nat → Int32) (T_helps : Nat → Int32) (x2 : Int32), wb_X7_plans_24 K_50 n T_tookMany T_helps x2 → ∀ (H : Heap) (locs : List Loc) (ls : Array Slot), wd D A s (ww_X7_plans cI cC oT oT_s oT_aside oT_states oT_snapshot oT_text oT_serves oT_took oT_tookMany oT_helps oT_before oT_read T_thrown T_stateMany T_hasSnapshot T_length T_stopNumber T_stopError T_at T_isWell T_readMany T_s T_serves T_took T_tookMany T_helps) H locs → lv_has ls 3 [(0, .ref oT), (1, .int x1), (2, .int x2)] → W p l e (headSpec wsX7_plans rm_X7_plans).room s m args below meth c H locs 0 0 Z (F0 m 24 ls []) := by
  obtain ⟨hx, hb, hr, hml, hts, hown, hlocks, hKw, hA⟩ := id CX
  intro n
  induction n with
  | zero => intro T_tookMany T_helps x2 hw; exact False.elim hw
  | succ n ih =>
    intro T_tookMany T_helps x2 hw H locs ls hwd hl
    rw [wb_X7_plans_24] at hw
    refine lv_iload_n hx hb dX7_plans_24 rfl (lv_at hl 2 rfl) ?_
    refine lv_bipush (v := (nI 10)) hx hb dX7_plans_25 rfl ?_
    refine lv_icmp_ge (tgt := 50) hx hb dX7_plans_27 (by decide) (fun c1 => ?_) (fun c1 => ?_)
    · replace hw := hw.1 c1
      exact HK_50 T_tookMany T_helps hw _ _ _ hwd (lv_sub hl [0, 1] rfl)
    · replace hw := hw.2 c1
      refine lv_aload_n hx hb dX7_plans_30 rfl (lv_at hl 0 rfl) ?_
      refine va_get (D := D) (ci := 7) (v := .ref oT_tookMany) (C := RX7) (T := TX7) (N := 20) hx hb hts ic_X7_plans_X7 hown hKw.1 hwd.1 0 rfl rfl 13 (by decide) (hts (.fieldLink RX7 31 "DrillWardensModel" "tookMany" "[I") (List.mem_of_getElem? (i := 2) rfl)) (fun _ h9 => h9) rfl dX7_plans_31 ?_
      refine lv_iload_n hx hb dX7_plans_34 rfl (lv_at hl 2 rfl) ?_
      refine lv_iconst (v := (nI 0)) hx hb dX7_plans_35 rfl ?_
      obtain ⟨T_tookMany2, e_T_tookMany2⟩ : ∃ y : Nat → Int32, y = upd T_tookMany x2.toNatClampNeg (nI 0) := ⟨_, rfl⟩
      refine va_iast hx hb hKw.1 hwd.1 hwd.2.1 hwd.2.2 4 0 rfl rfl hw.1 dX7_plans_36 (fun H locs h1 h2 h3 => ?_)
      replace hw := hw.2 T_tookMany2 e_T_tookMany2
      rw [← e_T_tookMany2] at h1 h2
      replace hwd : wd D A s (ww_X7_plans cI cC oT oT_s oT_aside oT_states oT_snapshot oT_text oT_serves oT_took oT_tookMany oT_helps oT_before oT_read T_thrown T_stateMany T_hasSnapshot T_length T_stopNumber T_stopError T_at T_isWell T_readMany T_s T_serves T_took T_tookMany2 T_helps) H locs := ⟨h1, h2, h3⟩
      clear h1 h2 h3
      refine lv_aload_n hx hb dX7_plans_37 rfl (lv_at hl 0 rfl) ?_
      refine va_get (D := D) (ci := 7) (v := .ref oT_helps) (C := RX7) (T := TX7) (N := 20) hx hb hts ic_X7_plans_X7 hown hKw.1 hwd.1 0 rfl rfl 14 (by decide) (hts (.fieldLink RX7 34 "DrillWardensModel" "helps" "[I") (List.mem_of_getElem? (i := 3) rfl)) (fun _ h9 => h9) rfl dX7_plans_38 ?_
      refine lv_iload_n hx hb dX7_plans_41 rfl (lv_at hl 2 rfl) ?_
      refine lv_iconst (v := (nI 0)) hx hb dX7_plans_42 rfl ?_
      obtain ⟨T_helps3, e_T_helps3⟩ : ∃ y : Nat → Int32, y = upd T_helps x2.toNatClampNeg (nI 0) := ⟨_, rfl⟩
      refine va_iast hx hb hKw.1 hwd.1 hwd.2.1 hwd.2.2 5 0 rfl rfl hw.1 dX7_plans_43 (fun H locs h1 h2 h3 => ?_)
      replace hw := hw.2 T_helps3 e_T_helps3
      rw [← e_T_helps3] at h1 h2
      replace hwd : wd D A s (ww_X7_plans cI cC oT oT_s oT_aside oT_states oT_snapshot oT_text oT_serves oT_took oT_tookMany oT_helps oT_before oT_read T_thrown T_stateMany T_hasSnapshot T_length T_stopNumber T_stopError T_at T_isWell T_readMany T_s T_serves T_took T_tookMany2 T_helps3) H locs := ⟨h1, h2, h3⟩
      clear h1 h2 h3
      obtain ⟨x2_4, e_x2_4⟩ : ∃ y : Int32, y = x2 + (nI 1) := ⟨_, rfl⟩
      replace hw := hw x2_4 e_x2_4
      refine lv_iinc (v := x2_4) (lv' := [(2, .int x2_4), (0, .ref oT), (1, .int x1)]) hx hb dX7_plans_44 hl (k := 2) rfl (by rw [e_x2_4]; rfl) (by decide) rfl (fun ls hl => ?_)
      refine lv_goto (tgt := 24) hx hb dX7_plans_47 (by decide) ?_
      exact ih T_tookMany2 T_helps3 x2_4 hw _ _ _ hwd (lv_sub hl [1, 2, 0] rfl)
def wb_X7_plans_52 (T_s : Nat → Int32) (x1 : Int32) (K_74 : (Nat → Int32) → (Nat → Int32) → (Nat → Int32) → Prop) : Nat → (Nat → Int32) → (Nat → Int32) → (Nat → Int32) → Int32 → Prop
  | 0, _, _, _, _ => False
  | n + 1, T_serves, T_took, T_tookMany, x2 => (((nI 10) ≤ x2 → K_74 T_serves T_took T_tookMany) ∧ (¬ (nI 10) ≤ x2 → wp_X7_choosing T_s x2 (fun r2 => wp_X7_takesRow T_s T_serves T_took T_tookMany r2 x1 (fun T_serves3 T_took4 T_tookMany5 => ∀ x2_6, x2_6 = x2 + (nI 1) → wb_X7_plans_52 T_s x1 K_74 n T_serves3 T_took4 T_tookMany5 x2_6))))
set_option maxRecDepth 100000 in
set_option maxHeartbeats 4000000 in
theorem blk_X7_plans_52 {p : Program} {l : Launch} {e : Env} {s : State} {m : MethodId} {args : Array Value} {below : List Frame} {meth : Method} {c : Code} {D : va_G} {cI cC cR : ClassId} {A : Nat → Prop} {Z : State → Prop} (CX : cx cX7_plans none 3 RX7 wsX7_plans p m meth c s args D cI cC cR A) (oT oT_s oT_aside oT_states oT_snapshot oT_text oT_serves oT_took oT_tookMany oT_helps oT_before oT_read : Nat) (T_thrown : Int32) (T_stateMany : Int32) (T_hasSnapshot : Int32) (T_length : Int32) (T_stopNumber : Int32) (T_stopError : Int32) (T_at : Int32) (T_isWell : Int32) (T_readMany : Int32) (T_s : Nat → Int32) (T_helps : Nat → Int32) (x1 : Int32) {K_74 : (Nat → Int32) → (Nat → Int32) → (Nat → Int32) → Prop} {Q : (Nat → Int32) → (Nat → Int32) → (Nat → Int32) → (Nat → Int32) → Prop} (HR : ∀ (u0 : Nat → Int32) (u1 : Nat → Int32) (u2 : Nat → Int32) (u3 : Nat → Int32) {H : Heap} {locs : List Loc} {ls : Array Slot} {pc : Nat}, Q u0 u1 u2 u3 → wd D A s (ww_X7_plans cI cC oT oT_s oT_aside oT_states oT_snapshot oT_text oT_serves oT_took oT_tookMany oT_helps oT_before oT_read T_thrown T_stateMany T_hasSnapshot T_length T_stopNumber T_stopError T_at T_isWell T_readMany T_s u0 u1 u2 u3) H locs → decode cX7_plans pc = .ok (.return_, 1) → W p l e (headSpec wsX7_plans rm_X7_plans).room s m args below meth c H locs 0 0 Z (F0 m pc ls [])) (HK_74 : ∀ (T_servesy : Nat → Int32) (T_tooky : Nat → Int32) (T_tookManyy : Nat → Int32), K_74 T_servesy T_tooky T_tookManyy → ∀ (H : Heap) (locs : List Loc) (ls : Array Slot), wd D A s (ww_X7_plans cI cC oT oT_s oT_aside oT_states oT_snapshot oT_text oT_serves oT_took oT_tookMany oT_helps oT_before oT_read T_thrown T_stateMany T_hasSnapshot T_length T_stopNumber T_stopError T_at T_isWell T_readMany T_s T_servesy T_tooky T_tookManyy T_helps) H locs → lv_has ls 3 [(0, .ref oT), (1, .int x1)] → W p l e (headSpec wsX7_plans rm_X7_plans).room s m args below meth c H locs 0 0 Z (F0 m 74 ls [])) : ∀ (n : Nat) (T_serves : Nat → Int32) (T_took : Nat → Int32) (T_tookMany : Nat → Int32) (x2 : Int32), wb_X7_plans_52 T_s x1 K_74 n T_serves T_took T_tookMany x2 → ∀ (H : Heap) (locs : List Loc) (ls : Array Slot), wd D A s (ww_X7_plans cI cC oT oT_s oT_aside oT_states oT_snapshot oT_text oT_serves oT_took oT_tookMany oT_helps oT_before oT_read T_thrown T_stateMany T_hasSnapshot T_length T_stopNumber T_stopError T_at T_isWell T_readMany T_s T_serves T_took T_tookMany T_helps) H locs → lv_has ls 3 [(0, .ref oT), (1, .int x1), (2, .int x2)] → W p l e (headSpec wsX7_plans rm_X7_plans).room s m args below meth c H locs 0 0 Z (F0 m 52 ls []) := by
  obtain ⟨hx, hb, hr, hml, hts, hown, hlocks, hKw, hA⟩ := id CX
  intro n
  induction n with
  | zero => intro T_serves T_took T_tookMany x2 hw; exact False.elim hw
  | succ n ih =>
    intro T_serves T_took T_tookMany x2 hw H locs ls hwd hl
    rw [wb_X7_plans_52] at hw
    refine lv_iload_n hx hb dX7_plans_52 rfl (lv_at hl 2 rfl) ?_
    refine lv_bipush (v := (nI 10)) hx hb dX7_plans_53 rfl ?_
    refine lv_icmp_ge (tgt := 74) hx hb dX7_plans_55 (by decide) (fun c1 => ?_) (fun c1 => ?_)
    · replace hw := hw.1 c1
      exact HK_74 T_serves T_took T_tookMany hw _ _ _ hwd (lv_sub hl [0, 1] rfl)
    · replace hw := hw.2 c1
      refine lv_aload_n hx hb dX7_plans_58 rfl (lv_at hl 0 rfl) ?_
      refine lv_aload_n hx hb dX7_plans_59 rfl (lv_at hl 0 rfl) ?_
      refine lv_iload_n hx hb dX7_plans_60 rfl (lv_at hl 2 rfl) ?_
      refine kcVi (W1 := (fun u => (ww_X7_plans cI cC oT oT_s oT_aside oT_states oT_snapshot oT_text oT_serves oT_took oT_tookMany oT_helps oT_before oT_read T_thrown T_stateMany T_hasSnapshot T_length T_stopNumber T_stopError T_at T_isWell T_readMany T_s T_serves T_took T_tookMany T_helps))) (rest := [.ref oT]) (As := [.int x2]) ⟨Nat.le_of_ble_eq_true rfl, Nat.le_of_ble_eq_true rfl⟩ ⟨hx, hb, hml, hown, hts⟩ (c_X7_choosing l oT oT_s oT_aside oT_states oT_snapshot oT_text oT_serves oT_took oT_tookMany oT_helps oT_before oT_read H.size T_thrown T_stateMany T_hasSnapshot T_length T_stopNumber T_stopError T_at T_isWell T_readMany T_s x2 hw) (cwV 1 hts gX7_plans_X7_choosing rfl rfl rfl ⟨rfl, hd_X7_choosing⟩ ⟨Nat.le_of_ble_eq_true rfl, Nat.le_of_ble_eq_true rfl⟩) hKw hA hwd [0, 1] [2, 3, 4, 5] [4, 5, 0, 1, 2, 3] [(oT_serves, .inl (cI, 16, .inl T_serves)), (oT_took, .inl (cI, 30, .inl T_took)), (oT_tookMany, .inl (cI, 10, .inl T_tookMany)), (oT_helps, .inl (cI, 10, .inl T_helps))] rfl rfl rfl rfl (by decide) rfl (fun _ => rfl) 0 7 rfl rfl rfl rfl hl.1 rfl (lv_room (Nat.le_of_ble_eq_true rfl)) dX7_plans_61 (fun r2 u H locs hw hwd => ?_)
      try dsimp only at hw
      replace hwd : wd D A s (ww_X7_plans cI cC oT oT_s oT_aside oT_states oT_snapshot oT_text oT_serves oT_took oT_tookMany oT_helps oT_before oT_read T_thrown T_stateMany T_hasSnapshot T_length T_stopNumber T_stopError T_at T_isWell T_readMany T_s T_serves T_took T_tookMany T_helps) H locs := hwd
      refine lv_iload_n hx hb dX7_plans_64 rfl (lv_at hl 1 rfl) ?_
      refine kcVv (W1 := (fun u => (ww_X7_plans cI cC oT oT_s oT_aside oT_states oT_snapshot oT_text oT_serves oT_took oT_tookMany oT_helps oT_before oT_read T_thrown T_stateMany T_hasSnapshot T_length T_stopNumber T_stopError T_at T_isWell T_readMany T_s (u.1) (u.2.1) (u.2.2) T_helps))) (rest := []) (As := [.int r2, .int x1]) ⟨Nat.le_of_ble_eq_true rfl, Nat.le_of_ble_eq_true rfl⟩ ⟨hx, hb, hml, hown, hts⟩ (c_X7_takesRow l oT oT_s oT_aside oT_states oT_snapshot oT_text oT_serves oT_took oT_tookMany oT_helps oT_before oT_read H.size T_thrown T_stateMany T_hasSnapshot T_length T_stopNumber T_stopError T_at T_isWell T_readMany T_s T_serves T_took T_tookMany r2 x1 hw) (cwV 2 hts gX7_plans_X7_takesRow rfl rfl rfl ⟨rfl, hd_X7_takesRow⟩ ⟨Nat.le_of_ble_eq_true rfl, Nat.le_of_ble_eq_true rfl⟩) hKw hA hwd [0, 1, 2, 3, 4] [5] [1, 2, 3, 4, 5, 0] [(oT_helps, .inl (cI, 10, .inl T_helps))] rfl rfl rfl rfl (by decide) rfl (fun _ => rfl) 0 7 rfl rfl rfl rfl hl.1 rfl (lv_room (Nat.le_of_ble_eq_true rfl)) dX7_plans_65 (fun u H locs hw hwd => ?_)
      obtain ⟨T_serves3, T_took4, T_tookMany5⟩ := u
      try dsimp only at hw
      replace hwd : wd D A s (ww_X7_plans cI cC oT oT_s oT_aside oT_states oT_snapshot oT_text oT_serves oT_took oT_tookMany oT_helps oT_before oT_read T_thrown T_stateMany T_hasSnapshot T_length T_stopNumber T_stopError T_at T_isWell T_readMany T_s T_serves3 T_took4 T_tookMany5 T_helps) H locs := hwd
      obtain ⟨x2_6, e_x2_6⟩ : ∃ y : Int32, y = x2 + (nI 1) := ⟨_, rfl⟩
      replace hw := hw x2_6 e_x2_6
      refine lv_iinc (v := x2_6) (lv' := [(2, .int x2_6), (0, .ref oT), (1, .int x1)]) hx hb dX7_plans_68 hl (k := 2) rfl (by rw [e_x2_6]; rfl) (by decide) rfl (fun ls hl => ?_)
      refine lv_goto (tgt := 52) hx hb dX7_plans_71 (by decide) ?_
      exact ih T_serves3 T_took4 T_tookMany5 x2_6 hw _ _ _ hwd (lv_sub hl [1, 2, 0] rfl)
def wb_X7_plans_76 (T_s : Nat → Int32) (x1 : Int32) (K_108 : (Nat → Int32) → (Nat → Int32) → (Nat → Int32) → (Nat → Int32) → Prop) : Nat → (Nat → Int32) → (Nat → Int32) → (Nat → Int32) → (Nat → Int32) → Int32 → Prop
  | 0, _, _, _, _, _ => False
  | n + 1, T_serves, T_took, T_tookMany, T_helps, x2 => (((nI 10) ≤ x2 → K_108 T_serves T_took T_tookMany T_helps) ∧ (¬ (nI 10) ≤ x2 → vp_in (nI 1) 474 ∧ ((¬ (T_s (nI 1).toNatClampNeg) = (nI 1) → K_108 T_serves T_took T_tookMany T_helps) ∧ ((T_s (nI 1).toNatClampNeg) = (nI 1) → wp_X7_choosing T_s x2 (fun r3 => wp_X7_takesHelp T_s T_serves T_took T_tookMany T_helps r3 x1 (fun T_serves4 T_took5 T_tookMany6 T_helps7 => ∀ x2_8, x2_8 = x2 + (nI 1) → wb_X7_plans_76 T_s x1 K_108 n T_serves4 T_took5 T_tookMany6 T_helps7 x2_8))))))
set_option maxRecDepth 100000 in
set_option maxHeartbeats 4000000 in
theorem blk_X7_plans_76 {p : Program} {l : Launch} {e : Env} {s : State} {m : MethodId} {args : Array Value} {below : List Frame} {meth : Method} {c : Code} {D : va_G} {cI cC cR : ClassId} {A : Nat → Prop} {Z : State → Prop} (CX : cx cX7_plans none 3 RX7 wsX7_plans p m meth c s args D cI cC cR A) (oT oT_s oT_aside oT_states oT_snapshot oT_text oT_serves oT_took oT_tookMany oT_helps oT_before oT_read : Nat) (T_thrown : Int32) (T_stateMany : Int32) (T_hasSnapshot : Int32) (T_length : Int32) (T_stopNumber : Int32) (T_stopError : Int32) (T_at : Int32) (T_isWell : Int32) (T_readMany : Int32) (T_s : Nat → Int32) (x1 : Int32) {K_108 : (Nat → Int32) → (Nat → Int32) → (Nat → Int32) → (Nat → Int32) → Prop} {Q : (Nat → Int32) → (Nat → Int32) → (Nat → Int32) → (Nat → Int32) → Prop} (HR : ∀ (u0 : Nat → Int32) (u1 : Nat → Int32) (u2 : Nat → Int32) (u3 : Nat → Int32) {H : Heap} {locs : List Loc} {ls : Array Slot} {pc : Nat}, Q u0 u1 u2 u3 → wd D A s (ww_X7_plans cI cC oT oT_s oT_aside oT_states oT_snapshot oT_text oT_serves oT_took oT_tookMany oT_helps oT_before oT_read T_thrown T_stateMany T_hasSnapshot T_length T_stopNumber T_stopError T_at T_isWell T_readMany T_s u0 u1 u2 u3) H locs → decode cX7_plans pc = .ok (.return_, 1) → W p l e (headSpec wsX7_plans rm_X7_plans).room s m args below meth c H locs 0 0 Z (F0 m pc ls [])) (HK_108 : ∀ (T_servesy : Nat → Int32) (T_tooky : Nat → Int32) (T_tookManyy : Nat → Int32) (T_helpsy : Nat → Int32), K_108 T_servesy T_tooky T_tookManyy T_helpsy → ∀ (H : Heap) (locs : List Loc) (ls : Array Slot), wd D A s (ww_X7_plans cI cC oT oT_s oT_aside oT_states oT_snapshot oT_text oT_serves oT_took oT_tookMany oT_helps oT_before oT_read T_thrown T_stateMany T_hasSnapshot T_length T_stopNumber T_stopError T_at T_isWell T_readMany T_s T_servesy T_tooky T_tookManyy T_helpsy) H locs → lv_has ls 3 [] → W p l e (headSpec wsX7_plans rm_X7_plans).room s m args below meth c H locs 0 0 Z (F0 m 108 ls [])) : ∀ (n : Nat) (T_serves : Nat → Int32) (T_took : Nat → Int32) (T_tookMany : Nat → Int32) (T_helps : Nat → Int32) (x2 : Int32), wb_X7_plans_76 T_s x1 K_108 n T_serves T_took T_tookMany T_helps x2 → ∀ (H : Heap) (locs : List Loc) (ls : Array Slot), wd D A s (ww_X7_plans cI cC oT oT_s oT_aside oT_states oT_snapshot oT_text oT_serves oT_took oT_tookMany oT_helps oT_before oT_read T_thrown T_stateMany T_hasSnapshot T_length T_stopNumber T_stopError T_at T_isWell T_readMany T_s T_serves T_took T_tookMany T_helps) H locs → lv_has ls 3 [(0, .ref oT), (1, .int x1), (2, .int x2)] → W p l e (headSpec wsX7_plans rm_X7_plans).room s m args below meth c H locs 0 0 Z (F0 m 76 ls []) := by
  obtain ⟨hx, hb, hr, hml, hts, hown, hlocks, hKw, hA⟩ := id CX
  intro n
  induction n with
  | zero => intro T_serves T_took T_tookMany T_helps x2 hw; exact False.elim hw
  | succ n ih =>
    intro T_serves T_took T_tookMany T_helps x2 hw H locs ls hwd hl
    rw [wb_X7_plans_76] at hw
    refine lv_iload_n hx hb dX7_plans_76 rfl (lv_at hl 2 rfl) ?_
    refine lv_bipush (v := (nI 10)) hx hb dX7_plans_77 rfl ?_
    refine lv_icmp_ge (tgt := 108) hx hb dX7_plans_79 (by decide) (fun c1 => ?_) (fun c1 => ?_)
    · replace hw := hw.1 c1
      exact HK_108 T_serves T_took T_tookMany T_helps hw _ _ _ hwd (lv_sub hl [] rfl)
    · replace hw := hw.2 c1
      refine lv_aload_n hx hb dX7_plans_82 rfl (lv_at hl 0 rfl) ?_
      refine va_get (D := D) (ci := 7) (v := .ref oT_s) (C := RX7) (T := TX7) (N := 20) hx hb hts ic_X7_plans_X7 hown hKw.1 hwd.1 0 rfl rfl 1 (by decide) (hts (.fieldLink RX7 7 "DrillWardensModel" "s" "[I") (List.mem_of_getElem? (i := 4) rfl)) (fun _ h9 => h9) rfl dX7_plans_83 ?_
      refine lv_iconst (v := (nI 1)) hx hb dX7_plans_86 rfl ?_
      refine va_iald hx hb hKw.1 hwd.1 1 0 rfl rfl hw.1 dX7_plans_87 ?_
      replace hw := hw.2
      refine lv_iconst (v := (nI 1)) hx hb dX7_plans_88 rfl ?_
      refine lv_icmp_ne (tgt := 108) hx hb dX7_plans_89 (by decide) (fun c2 => ?_) (fun c2 => ?_)
      · replace hw := hw.1 c2
        exact HK_108 T_serves T_took T_tookMany T_helps hw _ _ _ hwd (lv_sub hl [] rfl)
      · replace hw := hw.2 c2
        refine lv_aload_n hx hb dX7_plans_92 rfl (lv_at hl 0 rfl) ?_
        refine lv_aload_n hx hb dX7_plans_93 rfl (lv_at hl 0 rfl) ?_
        refine lv_iload_n hx hb dX7_plans_94 rfl (lv_at hl 2 rfl) ?_
        refine kcVi (W1 := (fun u => (ww_X7_plans cI cC oT oT_s oT_aside oT_states oT_snapshot oT_text oT_serves oT_took oT_tookMany oT_helps oT_before oT_read T_thrown T_stateMany T_hasSnapshot T_length T_stopNumber T_stopError T_at T_isWell T_readMany T_s T_serves T_took T_tookMany T_helps))) (rest := [.ref oT]) (As := [.int x2]) ⟨Nat.le_of_ble_eq_true rfl, Nat.le_of_ble_eq_true rfl⟩ ⟨hx, hb, hml, hown, hts⟩ (c_X7_choosing l oT oT_s oT_aside oT_states oT_snapshot oT_text oT_serves oT_took oT_tookMany oT_helps oT_before oT_read H.size T_thrown T_stateMany T_hasSnapshot T_length T_stopNumber T_stopError T_at T_isWell T_readMany T_s x2 hw) (cwV 1 hts gX7_plans_X7_choosing rfl rfl rfl ⟨rfl, hd_X7_choosing⟩ ⟨Nat.le_of_ble_eq_true rfl, Nat.le_of_ble_eq_true rfl⟩) hKw hA hwd [0, 1] [2, 3, 4, 5] [4, 5, 0, 1, 2, 3] [(oT_serves, .inl (cI, 16, .inl T_serves)), (oT_took, .inl (cI, 30, .inl T_took)), (oT_tookMany, .inl (cI, 10, .inl T_tookMany)), (oT_helps, .inl (cI, 10, .inl T_helps))] rfl rfl rfl rfl (by decide) rfl (fun _ => rfl) 0 7 rfl rfl rfl rfl hl.1 rfl (lv_room (Nat.le_of_ble_eq_true rfl)) dX7_plans_95 (fun r3 u H locs hw hwd => ?_)
        try dsimp only at hw
        replace hwd : wd D A s (ww_X7_plans cI cC oT oT_s oT_aside oT_states oT_snapshot oT_text oT_serves oT_took oT_tookMany oT_helps oT_before oT_read T_thrown T_stateMany T_hasSnapshot T_length T_stopNumber T_stopError T_at T_isWell T_readMany T_s T_serves T_took T_tookMany T_helps) H locs := hwd
        refine lv_iload_n hx hb dX7_plans_98 rfl (lv_at hl 1 rfl) ?_
        refine kcVv (W1 := (fun u => (ww_X7_plans cI cC oT oT_s oT_aside oT_states oT_snapshot oT_text oT_serves oT_took oT_tookMany oT_helps oT_before oT_read T_thrown T_stateMany T_hasSnapshot T_length T_stopNumber T_stopError T_at T_isWell T_readMany T_s (u.1) (u.2.1) (u.2.2.1) (u.2.2.2)))) (rest := []) (As := [.int r3, .int x1]) ⟨Nat.le_of_ble_eq_true rfl, Nat.le_of_ble_eq_true rfl⟩ ⟨hx, hb, hml, hown, hts⟩ (c_X7_takesHelp l oT oT_s oT_aside oT_states oT_snapshot oT_text oT_serves oT_took oT_tookMany oT_helps oT_before oT_read H.size T_thrown T_stateMany T_hasSnapshot T_length T_stopNumber T_stopError T_at T_isWell T_readMany T_s T_serves T_took T_tookMany T_helps r3 x1 hw) (cwV 2 hts gX7_plans_X7_takesHelp rfl rfl rfl ⟨rfl, hd_X7_takesHelp⟩ ⟨Nat.le_of_ble_eq_true rfl, Nat.le_of_ble_eq_true rfl⟩) hKw hA hwd [0, 1, 2, 3, 4, 5] [] [0, 1, 2, 3, 4, 5] [] rfl rfl rfl rfl (by decide) rfl (fun _ => rfl) 0 7 rfl rfl rfl rfl hl.1 rfl (lv_room (Nat.le_of_ble_eq_true rfl)) dX7_plans_99 (fun u H locs hw hwd => ?_)
        obtain ⟨T_serves4, T_took5, T_tookMany6, T_helps7⟩ := u
        try dsimp only at hw
        replace hwd : wd D A s (ww_X7_plans cI cC oT oT_s oT_aside oT_states oT_snapshot oT_text oT_serves oT_took oT_tookMany oT_helps oT_before oT_read T_thrown T_stateMany T_hasSnapshot T_length T_stopNumber T_stopError T_at T_isWell T_readMany T_s T_serves4 T_took5 T_tookMany6 T_helps7) H locs := hwd
        obtain ⟨x2_8, e_x2_8⟩ : ∃ y : Int32, y = x2 + (nI 1) := ⟨_, rfl⟩
        replace hw := hw x2_8 e_x2_8
        refine lv_iinc (v := x2_8) (lv' := [(2, .int x2_8), (0, .ref oT), (1, .int x1)]) hx hb dX7_plans_102 hl (k := 2) rfl (by rw [e_x2_8]; rfl) (by decide) rfl (fun ls hl => ?_)
        refine lv_goto (tgt := 76) hx hb dX7_plans_105 (by decide) ?_
        exact ih T_serves4 T_took5 T_tookMany6 T_helps7 x2_8 hw _ _ _ hwd (lv_sub hl [1, 2, 0] rfl)
def wp_X7_plans (T_s : Nat → Int32) (T_serves : Nat → Int32) (T_took : Nat → Int32) (T_tookMany : Nat → Int32) (T_helps : Nat → Int32) (x1 : Int32) (Q : (Nat → Int32) → (Nat → Int32) → (Nat → Int32) → (Nat → Int32) → Prop) : Prop := (∃ n1, wb_X7_plans_2 (fun T_serves2 => (∃ n3, wb_X7_plans_24 (fun T_tookMany4 T_helps5 => (∃ n6, wb_X7_plans_52 T_s x1 (fun T_serves7 T_took8 T_tookMany9 => (∃ n10, wb_X7_plans_76 T_s x1 (fun T_serves11 T_took12 T_tookMany13 T_helps14 => Q T_serves11 T_took12 T_tookMany13 T_helps14) n10 T_serves7 T_took8 T_tookMany9 T_helps5 (nI 0))) n6 T_serves2 T_took T_tookMany4 (nI 0))) n3 T_tookMany T_helps (nI 0))) n1 T_serves (nI 0))
set_option maxRecDepth 100000 in
set_option maxHeartbeats 4000000 in
theorem c_X7_plans (l : Launch) {D : va_G} {cI cC cR : ClassId} (oT oT_s oT_aside oT_states oT_snapshot oT_text oT_serves oT_took oT_tookMany oT_helps oT_before oT_read : Nat) (sz : Nat) (T_thrown : Int32) (T_stateMany : Int32) (T_hasSnapshot : Int32) (T_length : Int32) (T_stopNumber : Int32) (T_stopError : Int32) (T_at : Int32) (T_isWell : Int32) (T_readMany : Int32) (T_s : Nat → Int32) (T_serves : Nat → Int32) (T_took : Nat → Int32) (T_tookMany : Nat → Int32) (T_helps : Nat → Int32) (x1 : Int32) {Q : (Nat → Int32) → (Nat → Int32) → (Nat → Int32) → (Nat → Int32) → Prop} (hw : wp_X7_plans T_s T_serves T_took T_tookMany T_helps x1 Q) : Met l yX7_plans wsX7_plans rm_X7_plans (PcW D cI cC cR [.ref oT, .int x1] (ww_X7_plans cI cC oT oT_s oT_aside oT_states oT_snapshot oT_text oT_serves oT_took oT_tookMany oT_helps oT_before oT_read T_thrown T_stateMany T_hasSnapshot T_length T_stopNumber T_stopError T_at T_isWell T_readMany T_s T_serves T_took T_tookMany T_helps) sz) (QvW D (fun (u : (Nat → Int32) × (Nat → Int32) × (Nat → Int32) × (Nat → Int32)) => Q u.1 u.2.1 u.2.2.1 u.2.2.2) (fun u => (ww_X7_plans cI cC oT oT_s oT_aside oT_states oT_snapshot oT_text oT_serves oT_took oT_tookMany oT_helps oT_before oT_read T_thrown T_stateMany T_hasSnapshot T_length T_stopNumber T_stopError T_at T_isWell T_readMany T_s (u.1) (u.2.1) (u.2.2.1) (u.2.2.2))) (ww_X7_plans cI cC oT oT_s oT_aside oT_states oT_snapshot oT_text oT_serves oT_took oT_tookMany oT_helps oT_before oT_read T_thrown T_stateMany T_hasSnapshot T_length T_stopNumber T_stopError T_at T_isWell T_readMany T_s T_serves T_took T_tookMany T_helps) sz) 0 0 (va_A (ww_X7_plans cI cC oT oT_s oT_aside oT_states oT_snapshot oT_text oT_serves oT_took oT_tookMany oT_helps oT_before oT_read T_thrown T_stateMany T_hasSnapshot T_length T_stopNumber T_stopError T_at T_isWell T_readMany T_s T_serves T_took T_tookMany T_helps) sz) := by
  refine Met.ofW (cc := cX7_plans) (maxL := 3) (ret := none) (by decide) rfl ?_
  intro p e s m args below meth c s₁ B hml hv
  obtain ⟨rfl, hsz, hP, hKw, hD0⟩ := hv
  have hlocks := B.notSynchronized
  subst hsz
  have hD := hD0.self (sz := s.heap.size)
  have CX : cx cX7_plans none 3 RX7 wsX7_plans p m meth c s ([.ref oT, .int x1] : List Value).toArray D cI cC cR (va_A (ww_X7_plans cI cC oT oT_s oT_aside oT_states oT_snapshot oT_text oT_serves oT_took oT_tookMany oT_helps oT_before oT_read T_thrown T_stateMany T_hasSnapshot T_length T_stopNumber T_stopError T_at T_isWell T_readMany T_s T_serves T_took T_tookMany T_helps) s.heap.size) := ⟨B.exec, B.bytes, B.returns, hml, atoms_spec (ws := wsX7_plans) B.pre, findClass_of_methodNamed B.named, hlocks, hKw, fun q h => Or.inr h⟩
  obtain ⟨hx, hb, hr, -, hts, hown, -, -, hA⟩ := id CX
  have hwd : wd D (va_A (ww_X7_plans cI cC oT oT_s oT_aside oT_states oT_snapshot oT_text oT_serves oT_took oT_tookMany oT_helps oT_before oT_read T_thrown T_stateMany T_hasSnapshot T_length T_stopNumber T_stopError T_at T_isWell T_readMany T_s T_serves T_took T_tookMany T_helps) s.heap.size) s (ww_X7_plans cI cC oT oT_s oT_aside oT_states oT_snapshot oT_text oT_serves oT_took oT_tookMany oT_helps oT_before oT_read T_thrown T_stateMany T_hasSnapshot T_length T_stopNumber T_stopError T_at T_isWell T_readMany T_s T_serves T_took T_tookMany T_helps) s.heap [] := ⟨hP, hD, va_S.rf⟩
  have hl := lv_entry ([.ref oT, .int x1]) (n := 3) (Nat.le_of_ble_eq_true rfl)
  rw [lg_entry_eq]
  generalize (lg_sl ([.ref oT, .int x1]) ++ List.replicate (3 - (lg_sl ([.ref oT, .int x1])).length) Slot.unset).toArray = ls at hl ⊢
  have hl : lv_has ls 3 [(0, .ref oT), (1, .int x1)] := hl
  have HR : ∀ (u0 : Nat → Int32) (u1 : Nat → Int32) (u2 : Nat → Int32) (u3 : Nat → Int32) {H : Heap} {locs : List Loc} {ls : Array Slot} {pc : Nat}, Q u0 u1 u2 u3 → wd D (va_A (ww_X7_plans cI cC oT oT_s oT_aside oT_states oT_snapshot oT_text oT_serves oT_took oT_tookMany oT_helps oT_before oT_read T_thrown T_stateMany T_hasSnapshot T_length T_stopNumber T_stopError T_at T_isWell T_readMany T_s T_serves T_took T_tookMany T_helps) s.heap.size) s (ww_X7_plans cI cC oT oT_s oT_aside oT_states oT_snapshot oT_text oT_serves oT_took oT_tookMany oT_helps oT_before oT_read T_thrown T_stateMany T_hasSnapshot T_length T_stopNumber T_stopError T_at T_isWell T_readMany T_s u0 u1 u2 u3) H locs → decode cX7_plans pc = .ok (.return_, 1) → W p l e (headSpec wsX7_plans rm_X7_plans).room s m ([.ref oT, .int x1] : List Value).toArray below meth c H locs 0 0 (MQ below (QvW D (fun (u : (Nat → Int32) × (Nat → Int32) × (Nat → Int32) × (Nat → Int32)) => Q u.1 u.2.1 u.2.2.1 u.2.2.2) (fun u => (ww_X7_plans cI cC oT oT_s oT_aside oT_states oT_snapshot oT_text oT_serves oT_took oT_tookMany oT_helps oT_before oT_read T_thrown T_stateMany T_hasSnapshot T_length T_stopNumber T_stopError T_at T_isWell T_readMany T_s (u.1) (u.2.1) (u.2.2.1) (u.2.2.2))) (ww_X7_plans cI cC oT oT_s oT_aside oT_states oT_snapshot oT_text oT_serves oT_took oT_tookMany oT_helps oT_before oT_read T_thrown T_stateMany T_hasSnapshot T_length T_stopNumber T_stopError T_at T_isWell T_readMany T_s T_serves T_took T_tookMany T_helps) s.heap.size) ([.ref oT, .int x1] : List Value).toArray s 0 0 (va_A (ww_X7_plans cI cC oT oT_s oT_aside oT_states oT_snapshot oT_text oT_serves oT_took oT_tookMany oT_helps oT_before oT_read T_thrown T_stateMany T_hasSnapshot T_length T_stopNumber T_stopError T_at T_isWell T_readMany T_s T_serves T_took T_tookMany T_helps) s.heap.size)) (F0 m pc ls []) := by
    intro u0 u1 u2 u3 H locs ls pc hq hw9 hd9
    exact W.vret hx hb hr (fun t ht hW => ⟨⟨(u0, u1, u2, u3), rfl, hq, by rw [ht]; exact hw9.1, hw9.2.1⟩, hw9.2.2.F ht⟩) hw9.2.2.2.2 hd9
  unfold wp_X7_plans at hw
  refine lv_iconst (v := (nI 0)) hx hb dX7_plans_0 rfl ?_
  refine lv_istore_n (lv' := [(2, .int (nI 0)), (0, .ref oT), (1, .int x1)]) hx hb dX7_plans_1 rfl hl (by decide) rfl (fun ls hl => ?_)
  obtain ⟨n1, hw⟩ := hw
  refine blk_X7_plans_2 (CX := CX) (oT := oT) (oT_s := oT_s) (oT_aside := oT_aside) (oT_states := oT_states) (oT_snapshot := oT_snapshot) (oT_text := oT_text) (oT_serves := oT_serves) (oT_took := oT_took) (oT_tookMany := oT_tookMany) (oT_helps := oT_helps) (oT_before := oT_before) (oT_read := oT_read) (T_thrown := T_thrown) (T_stateMany := T_stateMany) (T_hasSnapshot := T_hasSnapshot) (T_length := T_length) (T_stopNumber := T_stopNumber) (T_stopError := T_stopError) (T_at := T_at) (T_isWell := T_isWell) (T_readMany := T_readMany) (T_s := T_s) (T_took := T_took) (T_tookMany := T_tookMany) (T_helps := T_helps) (x1 := x1) (HR := HR) (HK_22 := fun T_serves2 hw H locs ls hwd hl => ?_) n1 T_serves (nI 0) hw _ _ _ hwd (lv_sub hl [1, 2, 0] rfl)
  try dsimp only at hw
  refine lv_iconst (v := (nI 0)) hx hb dX7_plans_22 rfl ?_
  refine lv_istore_n (lv' := [(2, .int (nI 0)), (0, .ref oT), (1, .int x1)]) hx hb dX7_plans_23 rfl hl (by decide) rfl (fun ls hl => ?_)
  obtain ⟨n3, hw⟩ := hw
  refine blk_X7_plans_24 (CX := CX) (oT := oT) (oT_s := oT_s) (oT_aside := oT_aside) (oT_states := oT_states) (oT_snapshot := oT_snapshot) (oT_text := oT_text) (oT_serves := oT_serves) (oT_took := oT_took) (oT_tookMany := oT_tookMany) (oT_helps := oT_helps) (oT_before := oT_before) (oT_read := oT_read) (T_thrown := T_thrown) (T_stateMany := T_stateMany) (T_hasSnapshot := T_hasSnapshot) (T_length := T_length) (T_stopNumber := T_stopNumber) (T_stopError := T_stopError) (T_at := T_at) (T_isWell := T_isWell) (T_readMany := T_readMany) (T_s := T_s) (T_serves := T_serves2) (T_took := T_took) (x1 := x1) (HR := HR) (HK_50 := fun T_tookMany4 T_helps5 hw H locs ls hwd hl => ?_) n3 T_tookMany T_helps (nI 0) hw _ _ _ hwd (lv_sub hl [1, 2, 0] rfl)
  try dsimp only at hw
  refine lv_iconst (v := (nI 0)) hx hb dX7_plans_50 rfl ?_
  refine lv_istore_n (lv' := [(2, .int (nI 0)), (0, .ref oT), (1, .int x1)]) hx hb dX7_plans_51 rfl hl (by decide) rfl (fun ls hl => ?_)
  obtain ⟨n6, hw⟩ := hw
  refine blk_X7_plans_52 (CX := CX) (oT := oT) (oT_s := oT_s) (oT_aside := oT_aside) (oT_states := oT_states) (oT_snapshot := oT_snapshot) (oT_text := oT_text) (oT_serves := oT_serves) (oT_took := oT_took) (oT_tookMany := oT_tookMany) (oT_helps := oT_helps) (oT_before := oT_before) (oT_read := oT_read) (T_thrown := T_thrown) (T_stateMany := T_stateMany) (T_hasSnapshot := T_hasSnapshot) (T_length := T_length) (T_stopNumber := T_stopNumber) (T_stopError := T_stopError) (T_at := T_at) (T_isWell := T_isWell) (T_readMany := T_readMany) (T_s := T_s) (T_helps := T_helps5) (x1 := x1) (HR := HR) (HK_74 := fun T_serves7 T_took8 T_tookMany9 hw H locs ls hwd hl => ?_) n6 T_serves2 T_took T_tookMany4 (nI 0) hw _ _ _ hwd (lv_sub hl [1, 2, 0] rfl)
  try dsimp only at hw
  refine lv_iconst (v := (nI 0)) hx hb dX7_plans_74 rfl ?_
  refine lv_istore_n (lv' := [(2, .int (nI 0)), (0, .ref oT), (1, .int x1)]) hx hb dX7_plans_75 rfl hl (by decide) rfl (fun ls hl => ?_)
  obtain ⟨n10, hw⟩ := hw
  refine blk_X7_plans_76 (CX := CX) (oT := oT) (oT_s := oT_s) (oT_aside := oT_aside) (oT_states := oT_states) (oT_snapshot := oT_snapshot) (oT_text := oT_text) (oT_serves := oT_serves) (oT_took := oT_took) (oT_tookMany := oT_tookMany) (oT_helps := oT_helps) (oT_before := oT_before) (oT_read := oT_read) (T_thrown := T_thrown) (T_stateMany := T_stateMany) (T_hasSnapshot := T_hasSnapshot) (T_length := T_length) (T_stopNumber := T_stopNumber) (T_stopError := T_stopError) (T_at := T_at) (T_isWell := T_isWell) (T_readMany := T_readMany) (T_s := T_s) (x1 := x1) (HR := HR) (HK_108 := fun T_serves11 T_took12 T_tookMany13 T_helps14 hw H locs ls hwd hl => ?_) n10 T_serves7 T_took8 T_tookMany9 T_helps5 (nI 0) hw _ _ _ hwd (lv_sub hl [1, 2, 0] rfl)
  try dsimp only at hw
  exact HR T_serves11 T_took12 T_tookMany13 T_helps14 hw hwd dX7_plans_108
abbrev ww_X7_shortBy (cI cC : ClassId) (oT oT_s oT_aside oT_states oT_snapshot oT_text oT_serves oT_took oT_tookMany oT_helps oT_before oT_read : Nat) (T_thrown : Int32) (T_stateMany : Int32) (T_hasSnapshot : Int32) (T_length : Int32) (T_stopNumber : Int32) (T_stopError : Int32) (T_at : Int32) (T_isWell : Int32) (T_readMany : Int32) (T_s : Nat → Int32) (T_tookMany : Nat → Int32) : va_W := [(oT, .inr (7, [.int T_thrown, .ref oT_s, .ref oT_aside, .ref oT_states, .int T_stateMany, .ref oT_snapshot, .int T_hasSnapshot, .ref oT_text, .int T_length, .int T_stopNumber, .int T_stopError, .ref oT_serves, .ref oT_took, .ref oT_tookMany, .ref oT_helps, .ref oT_before, .int T_at, .int T_isWell, .ref oT_read, .int T_readMany])), (oT_s, .inl (cI, 474, .inl T_s)), (oT_tookMany, .inl (cI, 10, .inl T_tookMany))]
abbrev rm_X7_shortBy : Room := { frames := 1, cells := 0, slots := 0, locals := 22 }
theorem ic_X7_shortBy_X7 : ∀ w ∈ u_ws RX7 TX7 20, w ∈ wsX7_shortBy := by
  intro w h
  simp only [wsX7_shortBy, List.mem_cons, List.mem_append]
  simp only [h, or_true, true_or]
def wp_X7_shortBy (T_s : Nat → Int32) (T_tookMany : Nat → Int32) (x1 : Int32) (Q : Int32 → Prop) : Prop := wp_X7_of T_s x1 (nI 0) (fun r1 => vp_in x1 10 ∧ Q (r1 - (T_tookMany x1.toNatClampNeg)))
set_option maxRecDepth 100000 in
set_option maxHeartbeats 4000000 in
theorem c_X7_shortBy (l : Launch) {D : va_G} {cI cC cR : ClassId} (oT oT_s oT_aside oT_states oT_snapshot oT_text oT_serves oT_took oT_tookMany oT_helps oT_before oT_read : Nat) (sz : Nat) (T_thrown : Int32) (T_stateMany : Int32) (T_hasSnapshot : Int32) (T_length : Int32) (T_stopNumber : Int32) (T_stopError : Int32) (T_at : Int32) (T_isWell : Int32) (T_readMany : Int32) (T_s : Nat → Int32) (T_tookMany : Nat → Int32) (x1 : Int32) {Q : Int32 → Prop} (hw : wp_X7_shortBy T_s T_tookMany x1 Q) : Met l yX7_shortBy wsX7_shortBy rm_X7_shortBy (PcW D cI cC cR [.ref oT, .int x1] (ww_X7_shortBy cI cC oT oT_s oT_aside oT_states oT_snapshot oT_text oT_serves oT_took oT_tookMany oT_helps oT_before oT_read T_thrown T_stateMany T_hasSnapshot T_length T_stopNumber T_stopError T_at T_isWell T_readMany T_s T_tookMany) sz) (QiW D (fun (r : Int32) (u : Unit) => Q r ) (fun u => (ww_X7_shortBy cI cC oT oT_s oT_aside oT_states oT_snapshot oT_text oT_serves oT_took oT_tookMany oT_helps oT_before oT_read T_thrown T_stateMany T_hasSnapshot T_length T_stopNumber T_stopError T_at T_isWell T_readMany T_s T_tookMany)) (ww_X7_shortBy cI cC oT oT_s oT_aside oT_states oT_snapshot oT_text oT_serves oT_took oT_tookMany oT_helps oT_before oT_read T_thrown T_stateMany T_hasSnapshot T_length T_stopNumber T_stopError T_at T_isWell T_readMany T_s T_tookMany) sz) 0 0 (va_A (ww_X7_shortBy cI cC oT oT_s oT_aside oT_states oT_snapshot oT_text oT_serves oT_took oT_tookMany oT_helps oT_before oT_read T_thrown T_stateMany T_hasSnapshot T_length T_stopNumber T_stopError T_at T_isWell T_readMany T_s T_tookMany) sz) := by
  refine Met.ofW (cc := cX7_shortBy) (maxL := 2) (ret := (some .int)) (by decide) rfl ?_
  intro p e s m args below meth c s₁ B hml hv
  obtain ⟨rfl, hsz, hP, hKw, hD0⟩ := hv
  have hlocks := B.notSynchronized
  subst hsz
  have hD := hD0.self (sz := s.heap.size)
  have CX : cx cX7_shortBy (some .int) 2 RX7 wsX7_shortBy p m meth c s ([.ref oT, .int x1] : List Value).toArray D cI cC cR (va_A (ww_X7_shortBy cI cC oT oT_s oT_aside oT_states oT_snapshot oT_text oT_serves oT_took oT_tookMany oT_helps oT_before oT_read T_thrown T_stateMany T_hasSnapshot T_length T_stopNumber T_stopError T_at T_isWell T_readMany T_s T_tookMany) s.heap.size) := ⟨B.exec, B.bytes, B.returns, hml, atoms_spec (ws := wsX7_shortBy) B.pre, findClass_of_methodNamed B.named, hlocks, hKw, fun q h => Or.inr h⟩
  obtain ⟨hx, hb, hr, -, hts, hown, -, -, hA⟩ := id CX
  have hwd : wd D (va_A (ww_X7_shortBy cI cC oT oT_s oT_aside oT_states oT_snapshot oT_text oT_serves oT_took oT_tookMany oT_helps oT_before oT_read T_thrown T_stateMany T_hasSnapshot T_length T_stopNumber T_stopError T_at T_isWell T_readMany T_s T_tookMany) s.heap.size) s (ww_X7_shortBy cI cC oT oT_s oT_aside oT_states oT_snapshot oT_text oT_serves oT_took oT_tookMany oT_helps oT_before oT_read T_thrown T_stateMany T_hasSnapshot T_length T_stopNumber T_stopError T_at T_isWell T_readMany T_s T_tookMany) s.heap [] := ⟨hP, hD, va_S.rf⟩
  have hl := lv_entry ([.ref oT, .int x1]) (n := 2) (Nat.le_of_ble_eq_true rfl)
  rw [lg_entry_eq]
  generalize (lg_sl ([.ref oT, .int x1]) ++ List.replicate (2 - (lg_sl ([.ref oT, .int x1])).length) Slot.unset).toArray = ls at hl ⊢
  have hl : lv_has ls 2 [(0, .ref oT), (1, .int x1)] := hl
  have HR : ∀ (r : Int32) {H : Heap} {locs : List Loc} {ls : Array Slot} {pc : Nat}, Q r → wd D (va_A (ww_X7_shortBy cI cC oT oT_s oT_aside oT_states oT_snapshot oT_text oT_serves oT_took oT_tookMany oT_helps oT_before oT_read T_thrown T_stateMany T_hasSnapshot T_length T_stopNumber T_stopError T_at T_isWell T_readMany T_s T_tookMany) s.heap.size) s (ww_X7_shortBy cI cC oT oT_s oT_aside oT_states oT_snapshot oT_text oT_serves oT_took oT_tookMany oT_helps oT_before oT_read T_thrown T_stateMany T_hasSnapshot T_length T_stopNumber T_stopError T_at T_isWell T_readMany T_s T_tookMany) H locs → decode cX7_shortBy pc = .ok (.ireturn, 1) → W p l e (headSpec wsX7_shortBy rm_X7_shortBy).room s m ([.ref oT, .int x1] : List Value).toArray below meth c H locs 0 0 (MQ below (QiW D (fun (r : Int32) (u : Unit) => Q r ) (fun u => (ww_X7_shortBy cI cC oT oT_s oT_aside oT_states oT_snapshot oT_text oT_serves oT_took oT_tookMany oT_helps oT_before oT_read T_thrown T_stateMany T_hasSnapshot T_length T_stopNumber T_stopError T_at T_isWell T_readMany T_s T_tookMany)) (ww_X7_shortBy cI cC oT oT_s oT_aside oT_states oT_snapshot oT_text oT_serves oT_took oT_tookMany oT_helps oT_before oT_read T_thrown T_stateMany T_hasSnapshot T_length T_stopNumber T_stopError T_at T_isWell T_readMany T_s T_tookMany) s.heap.size) ([.ref oT, .int x1] : List Value).toArray s 0 0 (va_A (ww_X7_shortBy cI cC oT oT_s oT_aside oT_states oT_snapshot oT_text oT_serves oT_took oT_tookMany oT_helps oT_before oT_read T_thrown T_stateMany T_hasSnapshot T_length T_stopNumber T_stopError T_at T_isWell T_readMany T_s T_tookMany) s.heap.size)) (F0 m pc ls [.int r]) := by
    intro r H locs ls pc hq hw9 hd9
    exact W.iret (v := r) hx hb hr (fun t ht hW => ⟨⟨r, (), rfl, hq, by rw [ht]; exact hw9.1, hw9.2.1⟩, hw9.2.2.F ht⟩) hw9.2.2.2.2 hd9
  unfold wp_X7_shortBy at hw
  refine lv_aload_n hx hb dX7_shortBy_0 rfl (lv_at hl 0 rfl) ?_
  refine lv_iload_n hx hb dX7_shortBy_1 rfl (lv_at hl 1 rfl) ?_
  refine lv_iconst (v := (nI 0)) hx hb dX7_shortBy_2 rfl ?_
  refine kcVi (W1 := (fun u => (ww_X7_shortBy cI cC oT oT_s oT_aside oT_states oT_snapshot oT_text oT_serves oT_took oT_tookMany oT_helps oT_before oT_read T_thrown T_stateMany T_hasSnapshot T_length T_stopNumber T_stopError T_at T_isWell T_readMany T_s T_tookMany))) (rest := []) (As := [.int x1, .int (nI 0)]) ⟨Nat.le_of_ble_eq_true rfl, Nat.le_of_ble_eq_true rfl⟩ ⟨hx, hb, hml, hown, hts⟩ (c_X7_of l oT oT_s oT_aside oT_states oT_snapshot oT_text oT_serves oT_took oT_tookMany oT_helps oT_before oT_read s.heap.size T_thrown T_stateMany T_hasSnapshot T_length T_stopNumber T_stopError T_at T_isWell T_readMany T_s x1 (nI 0) hw) (cwV 2 hts gX7_shortBy_X7_of rfl rfl rfl ⟨rfl, hd_X7_of⟩ ⟨Nat.le_of_ble_eq_true rfl, Nat.le_of_ble_eq_true rfl⟩) hKw hA hwd [0, 1] [2] [1, 2, 0] [(oT_tookMany, .inl (cI, 10, .inl T_tookMany))] rfl rfl rfl rfl (by decide) rfl (fun _ => rfl) 0 7 rfl rfl rfl rfl hl.1 rfl (lv_room (Nat.le_of_ble_eq_true rfl)) dX7_shortBy_3 (fun r1 u H locs hw hwd => ?_)
  try dsimp only at hw
  replace hwd : wd D (va_A (ww_X7_shortBy cI cC oT oT_s oT_aside oT_states oT_snapshot oT_text oT_serves oT_took oT_tookMany oT_helps oT_before oT_read T_thrown T_stateMany T_hasSnapshot T_length T_stopNumber T_stopError T_at T_isWell T_readMany T_s T_tookMany) s.heap.size) s (ww_X7_shortBy cI cC oT oT_s oT_aside oT_states oT_snapshot oT_text oT_serves oT_took oT_tookMany oT_helps oT_before oT_read T_thrown T_stateMany T_hasSnapshot T_length T_stopNumber T_stopError T_at T_isWell T_readMany T_s T_tookMany) H locs := hwd
  refine lv_aload_n hx hb dX7_shortBy_6 rfl (lv_at hl 0 rfl) ?_
  refine va_get (D := D) (ci := 7) (v := .ref oT_tookMany) (C := RX7) (T := TX7) (N := 20) hx hb hts ic_X7_shortBy_X7 hown hKw.1 hwd.1 0 rfl rfl 13 (by decide) (hts (.fieldLink RX7 31 "DrillWardensModel" "tookMany" "[I") (List.mem_of_getElem? (i := 1) rfl)) (fun _ h9 => h9) rfl dX7_shortBy_7 ?_
  refine lv_iload_n hx hb dX7_shortBy_10 rfl (lv_at hl 1 rfl) ?_
  refine va_iald hx hb hKw.1 hwd.1 2 0 rfl rfl hw.1 dX7_shortBy_11 ?_
  replace hw := hw.2
  refine lv_isub hx hb dX7_shortBy_12 ?_
  exact HR (r1 - (T_tookMany x1.toNatClampNeg)) hw hwd dX7_shortBy_13
abbrev ww_X7_placeIn (cI cC : ClassId) (oT oT_s oT_aside oT_states oT_snapshot oT_text oT_serves oT_took oT_tookMany oT_helps oT_before oT_read : Nat) (T_thrown : Int32) (T_stateMany : Int32) (T_hasSnapshot : Int32) (T_length : Int32) (T_stopNumber : Int32) (T_stopError : Int32) (T_at : Int32) (T_isWell : Int32) (T_readMany : Int32) (T_s : Nat → Int32) : va_W := [(oT, .inr (7, [.int T_thrown, .ref oT_s, .ref oT_aside, .ref oT_states, .int T_stateMany, .ref oT_snapshot, .int T_hasSnapshot, .ref oT_text, .int T_length, .int T_stopNumber, .int T_stopError, .ref oT_serves, .ref oT_took, .ref oT_tookMany, .ref oT_helps, .ref oT_before, .int T_at, .int T_isWell, .ref oT_read, .int T_readMany])), (oT_s, .inl (cI, 474, .inl T_s))]
abbrev rm_X7_placeIn : Room := { frames := 1, cells := 0, slots := 0, locals := 22 }
def wb_X7_placeIn_2 (T_s : Nat → Int32) (x1 : Int32) (x2 : Int32) (K_32 : Prop) (Q : Int32 → Prop) : Nat → Int32 → Prop
  | 0, _ => False
  | n + 1, x3 => wp_X7_of T_s x1 (nI 1) (fun r1 => ((r1 ≤ x3 → K_32) ∧ (¬ r1 ≤ x3 → wp_X7_of T_s x1 ((nI 2) + x3) (fun r3 => ((¬ r3 = x2 → ∀ x3_5, x3_5 = x3 + (nI 1) → wb_X7_placeIn_2 T_s x1 x2 K_32 Q n x3_5) ∧ (r3 = x2 → Q x3))))))
set_option maxRecDepth 100000 in
set_option maxHeartbeats 4000000 in
theorem blk_X7_placeIn_2 {p : Program} {l : Launch} {e : Env} {s : State} {m : MethodId} {args : Array Value} {below : List Frame} {meth : Method} {c : Code} {D : va_G} {cI cC cR : ClassId} {A : Nat → Prop} {Z : State → Prop} (CX : cx cX7_placeIn (some .int) 4 RX7 wsX7_placeIn p m meth c s args D cI cC cR A) (oT oT_s oT_aside oT_states oT_snapshot oT_text oT_serves oT_took oT_tookMany oT_helps oT_before oT_read : Nat) (T_thrown : Int32) (T_stateMany : Int32) (T_hasSnapshot : Int32) (T_length : Int32) (T_stopNumber : Int32) (T_stopError : Int32) (T_at : Int32) (T_isWell : Int32) (T_readMany : Int32) (T_s : Nat → Int32) (x1 : Int32) (x2 : Int32) {K_32 : Prop} {Q : Int32 → Prop} (HR : ∀ (r : Int32) {H : Heap} {locs : List Loc} {ls : Array Slot} {pc : Nat}, Q r → wd D A s (ww_X7_placeIn cI cC oT oT_s oT_aside oT_states oT_snapshot oT_text oT_serves oT_took oT_tookMany oT_helps oT_before oT_read T_thrown T_stateMany T_hasSnapshot T_length T_stopNumber T_stopError T_at T_isWell T_readMany T_s) H locs → decode cX7_placeIn pc = .ok (.ireturn, 1) → W p l e (headSpec wsX7_placeIn rm_X7_placeIn).room s m args below meth c H locs 0 0 Z (F0 m pc ls [.int r])) (HK_32 : K_32 → ∀ (H : Heap) (locs : List Loc) (ls : Array Slot), wd D A s (ww_X7_placeIn cI cC oT oT_s oT_aside oT_states oT_snapshot oT_text oT_serves oT_took oT_tookMany oT_helps oT_before oT_read T_thrown T_stateMany T_hasSnapshot T_length T_stopNumber T_stopError T_at T_isWell T_readMany T_s) H locs → lv_has ls 4 [] → W p l e (headSpec wsX7_placeIn rm_X7_placeIn).room s m args below meth c H locs 0 0 Z (F0 m 32 ls [])) : ∀ (n : Nat) (x3 : Int32), wb_X7_placeIn_2 T_s x1 x2 K_32 Q n x3 → ∀ (H : Heap) (locs : List Loc) (ls : Array Slot), wd D A s (ww_X7_placeIn cI cC oT oT_s oT_aside oT_states oT_snapshot oT_text oT_serves oT_took oT_tookMany oT_helps oT_before oT_read T_thrown T_stateMany T_hasSnapshot T_length T_stopNumber T_stopError T_at T_isWell T_readMany T_s) H locs → lv_has ls 4 [(0, .ref oT), (1, .int x1), (2, .int x2), (3, .int x3)] → W p l e (headSpec wsX7_placeIn rm_X7_placeIn).room s m args below meth c H locs 0 0 Z (F0 m 2 ls []) := by
  obtain ⟨hx, hb, hr, hml, hts, hown, hlocks, hKw, hA⟩ := id CX
  intro n
  induction n with
  | zero => intro x3 hw; exact False.elim hw
  | succ n ih =>
    intro x3 hw H locs ls hwd hl
    rw [wb_X7_placeIn_2] at hw
    refine lv_iload_n hx hb dX7_placeIn_2 rfl (lv_at hl 3 rfl) ?_
    refine lv_aload_n hx hb dX7_placeIn_3 rfl (lv_at hl 0 rfl) ?_
    refine lv_iload_n hx hb dX7_placeIn_4 rfl (lv_at hl 1 rfl) ?_
    refine lv_iconst (v := (nI 1)) hx hb dX7_placeIn_5 rfl ?_
    refine kcVi (W1 := (fun u => (ww_X7_placeIn cI cC oT oT_s oT_aside oT_states oT_snapshot oT_text oT_serves oT_took oT_tookMany oT_helps oT_before oT_read T_thrown T_stateMany T_hasSnapshot T_length T_stopNumber T_stopError T_at T_isWell T_readMany T_s))) (rest := [.int x3]) (As := [.int x1, .int (nI 1)]) ⟨Nat.le_of_ble_eq_true rfl, Nat.le_of_ble_eq_true rfl⟩ ⟨hx, hb, hml, hown, hts⟩ (c_X7_of l oT oT_s oT_aside oT_states oT_snapshot oT_text oT_serves oT_took oT_tookMany oT_helps oT_before oT_read H.size T_thrown T_stateMany T_hasSnapshot T_length T_stopNumber T_stopError T_at T_isWell T_readMany T_s x1 (nI 1) hw) (cwV 2 hts gX7_placeIn_X7_of rfl rfl rfl ⟨rfl, hd_X7_of⟩ ⟨Nat.le_of_ble_eq_true rfl, Nat.le_of_ble_eq_true rfl⟩) hKw hA hwd [0, 1] [] [0, 1] [] rfl rfl rfl rfl (by decide) rfl (fun _ => rfl) 0 7 rfl rfl rfl rfl hl.1 rfl (lv_room (Nat.le_of_ble_eq_true rfl)) dX7_placeIn_6 (fun r1 u H locs hw hwd => ?_)
    try dsimp only at hw
    replace hwd : wd D A s (ww_X7_placeIn cI cC oT oT_s oT_aside oT_states oT_snapshot oT_text oT_serves oT_took oT_tookMany oT_helps oT_before oT_read T_thrown T_stateMany T_hasSnapshot T_length T_stopNumber T_stopError T_at T_isWell T_readMany T_s) H locs := hwd
    refine lv_icmp_ge (tgt := 32) hx hb dX7_placeIn_9 (by decide) (fun c2 => ?_) (fun c2 => ?_)
    · replace hw := hw.1 c2
      exact HK_32  hw _ _ _ hwd (lv_sub hl [] rfl)
    · replace hw := hw.2 c2
      refine lv_aload_n hx hb dX7_placeIn_12 rfl (lv_at hl 0 rfl) ?_
      refine lv_iload_n hx hb dX7_placeIn_13 rfl (lv_at hl 1 rfl) ?_
      refine lv_iconst (v := (nI 2)) hx hb dX7_placeIn_14 rfl ?_
      refine lv_iload_n hx hb dX7_placeIn_15 rfl (lv_at hl 3 rfl) ?_
      refine lv_iadd hx hb dX7_placeIn_16 ?_
      refine kcVi (W1 := (fun u => (ww_X7_placeIn cI cC oT oT_s oT_aside oT_states oT_snapshot oT_text oT_serves oT_took oT_tookMany oT_helps oT_before oT_read T_thrown T_stateMany T_hasSnapshot T_length T_stopNumber T_stopError T_at T_isWell T_readMany T_s))) (rest := []) (As := [.int x1, .int ((nI 2) + x3)]) ⟨Nat.le_of_ble_eq_true rfl, Nat.le_of_ble_eq_true rfl⟩ ⟨hx, hb, hml, hown, hts⟩ (c_X7_of l oT oT_s oT_aside oT_states oT_snapshot oT_text oT_serves oT_took oT_tookMany oT_helps oT_before oT_read H.size T_thrown T_stateMany T_hasSnapshot T_length T_stopNumber T_stopError T_at T_isWell T_readMany T_s x1 ((nI 2) + x3) hw) (cwV 2 hts gX7_placeIn_X7_of rfl rfl rfl ⟨rfl, hd_X7_of⟩ ⟨Nat.le_of_ble_eq_true rfl, Nat.le_of_ble_eq_true rfl⟩) hKw hA hwd [0, 1] [] [0, 1] [] rfl rfl rfl rfl (by decide) rfl (fun _ => rfl) 0 7 rfl rfl rfl rfl hl.1 rfl (lv_room (Nat.le_of_ble_eq_true rfl)) dX7_placeIn_17 (fun r3 u H locs hw hwd => ?_)
      try dsimp only at hw
      replace hwd : wd D A s (ww_X7_placeIn cI cC oT oT_s oT_aside oT_states oT_snapshot oT_text oT_serves oT_took oT_tookMany oT_helps oT_before oT_read T_thrown T_stateMany T_hasSnapshot T_length T_stopNumber T_stopError T_at T_isWell T_readMany T_s) H locs := hwd
      refine lv_iload_n hx hb dX7_placeIn_20 rfl (lv_at hl 2 rfl) ?_
      refine lv_icmp_ne (tgt := 26) hx hb dX7_placeIn_21 (by decide) (fun c4 => ?_) (fun c4 => ?_)
      · replace hw := hw.1 c4
        obtain ⟨x3_5, e_x3_5⟩ : ∃ y : Int32, y = x3 + (nI 1) := ⟨_, rfl⟩
        replace hw := hw x3_5 e_x3_5
        refine lv_iinc (v := x3_5) (lv' := [(3, .int x3_5), (0, .ref oT), (1, .int x1), (2, .int x2)]) hx hb dX7_placeIn_26 hl (k := 3) rfl (by rw [e_x3_5]; rfl) (by decide) rfl (fun ls hl => ?_)
        refine lv_goto (tgt := 2) hx hb dX7_placeIn_29 (by decide) ?_
        exact ih x3_5 hw _ _ _ hwd (lv_sub hl [1, 2, 3, 0] rfl)
      · replace hw := hw.2 c4
        refine lv_iload_n hx hb dX7_placeIn_24 rfl (lv_at hl 3 rfl) ?_
        exact HR x3 hw hwd dX7_placeIn_25
def wp_X7_placeIn (T_s : Nat → Int32) (x1 : Int32) (x2 : Int32) (Q : Int32 → Prop) : Prop := (∃ n1, wb_X7_placeIn_2 T_s x1 x2 (Q (-5)) Q n1 (nI 0))
set_option maxRecDepth 100000 in
set_option maxHeartbeats 4000000 in
theorem c_X7_placeIn (l : Launch) {D : va_G} {cI cC cR : ClassId} (oT oT_s oT_aside oT_states oT_snapshot oT_text oT_serves oT_took oT_tookMany oT_helps oT_before oT_read : Nat) (sz : Nat) (T_thrown : Int32) (T_stateMany : Int32) (T_hasSnapshot : Int32) (T_length : Int32) (T_stopNumber : Int32) (T_stopError : Int32) (T_at : Int32) (T_isWell : Int32) (T_readMany : Int32) (T_s : Nat → Int32) (x1 : Int32) (x2 : Int32) {Q : Int32 → Prop} (hw : wp_X7_placeIn T_s x1 x2 Q) : Met l yX7_placeIn wsX7_placeIn rm_X7_placeIn (PcW D cI cC cR [.ref oT, .int x1, .int x2] (ww_X7_placeIn cI cC oT oT_s oT_aside oT_states oT_snapshot oT_text oT_serves oT_took oT_tookMany oT_helps oT_before oT_read T_thrown T_stateMany T_hasSnapshot T_length T_stopNumber T_stopError T_at T_isWell T_readMany T_s) sz) (QiW D (fun (r : Int32) (u : Unit) => Q r ) (fun u => (ww_X7_placeIn cI cC oT oT_s oT_aside oT_states oT_snapshot oT_text oT_serves oT_took oT_tookMany oT_helps oT_before oT_read T_thrown T_stateMany T_hasSnapshot T_length T_stopNumber T_stopError T_at T_isWell T_readMany T_s)) (ww_X7_placeIn cI cC oT oT_s oT_aside oT_states oT_snapshot oT_text oT_serves oT_took oT_tookMany oT_helps oT_before oT_read T_thrown T_stateMany T_hasSnapshot T_length T_stopNumber T_stopError T_at T_isWell T_readMany T_s) sz) 0 0 (va_A (ww_X7_placeIn cI cC oT oT_s oT_aside oT_states oT_snapshot oT_text oT_serves oT_took oT_tookMany oT_helps oT_before oT_read T_thrown T_stateMany T_hasSnapshot T_length T_stopNumber T_stopError T_at T_isWell T_readMany T_s) sz) := by
  refine Met.ofW (cc := cX7_placeIn) (maxL := 4) (ret := (some .int)) (by decide) rfl ?_
  intro p e s m args below meth c s₁ B hml hv
  obtain ⟨rfl, hsz, hP, hKw, hD0⟩ := hv
  have hlocks := B.notSynchronized
  subst hsz
  have hD := hD0.self (sz := s.heap.size)
  have CX : cx cX7_placeIn (some .int) 4 RX7 wsX7_placeIn p m meth c s ([.ref oT, .int x1, .int x2] : List Value).toArray D cI cC cR (va_A (ww_X7_placeIn cI cC oT oT_s oT_aside oT_states oT_snapshot oT_text oT_serves oT_took oT_tookMany oT_helps oT_before oT_read T_thrown T_stateMany T_hasSnapshot T_length T_stopNumber T_stopError T_at T_isWell T_readMany T_s) s.heap.size) := ⟨B.exec, B.bytes, B.returns, hml, atoms_spec (ws := wsX7_placeIn) B.pre, findClass_of_methodNamed B.named, hlocks, hKw, fun q h => Or.inr h⟩
  obtain ⟨hx, hb, hr, -, hts, hown, -, -, hA⟩ := id CX
  have hwd : wd D (va_A (ww_X7_placeIn cI cC oT oT_s oT_aside oT_states oT_snapshot oT_text oT_serves oT_took oT_tookMany oT_helps oT_before oT_read T_thrown T_stateMany T_hasSnapshot T_length T_stopNumber T_stopError T_at T_isWell T_readMany T_s) s.heap.size) s (ww_X7_placeIn cI cC oT oT_s oT_aside oT_states oT_snapshot oT_text oT_serves oT_took oT_tookMany oT_helps oT_before oT_read T_thrown T_stateMany T_hasSnapshot T_length T_stopNumber T_stopError T_at T_isWell T_readMany T_s) s.heap [] := ⟨hP, hD, va_S.rf⟩
  have hl := lv_entry ([.ref oT, .int x1, .int x2]) (n := 4) (Nat.le_of_ble_eq_true rfl)
  rw [lg_entry_eq]
  generalize (lg_sl ([.ref oT, .int x1, .int x2]) ++ List.replicate (4 - (lg_sl ([.ref oT, .int x1, .int x2])).length) Slot.unset).toArray = ls at hl ⊢
  have hl : lv_has ls 4 [(0, .ref oT), (1, .int x1), (2, .int x2)] := hl
  have HR : ∀ (r : Int32) {H : Heap} {locs : List Loc} {ls : Array Slot} {pc : Nat}, Q r → wd D (va_A (ww_X7_placeIn cI cC oT oT_s oT_aside oT_states oT_snapshot oT_text oT_serves oT_took oT_tookMany oT_helps oT_before oT_read T_thrown T_stateMany T_hasSnapshot T_length T_stopNumber T_stopError T_at T_isWell T_readMany T_s) s.heap.size) s (ww_X7_placeIn cI cC oT oT_s oT_aside oT_states oT_snapshot oT_text oT_serves oT_took oT_tookMany oT_helps oT_before oT_read T_thrown T_stateMany T_hasSnapshot T_length T_stopNumber T_stopError T_at T_isWell T_readMany T_s) H locs → decode cX7_placeIn pc = .ok (.ireturn, 1) → W p l e (headSpec wsX7_placeIn rm_X7_placeIn).room s m ([.ref oT, .int x1, .int x2] : List Value).toArray below meth c H locs 0 0 (MQ below (QiW D (fun (r : Int32) (u : Unit) => Q r ) (fun u => (ww_X7_placeIn cI cC oT oT_s oT_aside oT_states oT_snapshot oT_text oT_serves oT_took oT_tookMany oT_helps oT_before oT_read T_thrown T_stateMany T_hasSnapshot T_length T_stopNumber T_stopError T_at T_isWell T_readMany T_s)) (ww_X7_placeIn cI cC oT oT_s oT_aside oT_states oT_snapshot oT_text oT_serves oT_took oT_tookMany oT_helps oT_before oT_read T_thrown T_stateMany T_hasSnapshot T_length T_stopNumber T_stopError T_at T_isWell T_readMany T_s) s.heap.size) ([.ref oT, .int x1, .int x2] : List Value).toArray s 0 0 (va_A (ww_X7_placeIn cI cC oT oT_s oT_aside oT_states oT_snapshot oT_text oT_serves oT_took oT_tookMany oT_helps oT_before oT_read T_thrown T_stateMany T_hasSnapshot T_length T_stopNumber T_stopError T_at T_isWell T_readMany T_s) s.heap.size)) (F0 m pc ls [.int r]) := by
    intro r H locs ls pc hq hw9 hd9
    exact W.iret (v := r) hx hb hr (fun t ht hW => ⟨⟨r, (), rfl, hq, by rw [ht]; exact hw9.1, hw9.2.1⟩, hw9.2.2.F ht⟩) hw9.2.2.2.2 hd9
  unfold wp_X7_placeIn at hw
  refine lv_iconst (v := (nI 0)) hx hb dX7_placeIn_0 rfl ?_
  refine lv_istore_n (lv' := [(3, .int (nI 0)), (0, .ref oT), (1, .int x1), (2, .int x2)]) hx hb dX7_placeIn_1 rfl hl (by decide) rfl (fun ls hl => ?_)
  obtain ⟨n1, hw⟩ := hw
  refine blk_X7_placeIn_2 (CX := CX) (oT := oT) (oT_s := oT_s) (oT_aside := oT_aside) (oT_states := oT_states) (oT_snapshot := oT_snapshot) (oT_text := oT_text) (oT_serves := oT_serves) (oT_took := oT_took) (oT_tookMany := oT_tookMany) (oT_helps := oT_helps) (oT_before := oT_before) (oT_read := oT_read) (T_thrown := T_thrown) (T_stateMany := T_stateMany) (T_hasSnapshot := T_hasSnapshot) (T_length := T_length) (T_stopNumber := T_stopNumber) (T_stopError := T_stopError) (T_at := T_at) (T_isWell := T_isWell) (T_readMany := T_readMany) (T_s := T_s) (x1 := x1) (x2 := x2) (HR := HR) (HK_32 := fun  hw H locs ls hwd hl => ?_) n1 (nI 0) hw _ _ _ hwd (lv_sub hl [1, 2, 3, 0] rfl)
  try dsimp only at hw
  refine lv_bipush (v := (-5)) hx hb dX7_placeIn_32 rfl ?_
  exact HR (-5) hw hwd dX7_placeIn_34
abbrev ww_X7_refusesEnlisting (cI cC : ClassId) (oT oT_s oT_aside oT_states oT_snapshot oT_text oT_serves oT_took oT_tookMany oT_helps oT_before oT_read : Nat) (T_thrown : Int32) (T_stateMany : Int32) (T_hasSnapshot : Int32) (T_length : Int32) (T_stopNumber : Int32) (T_stopError : Int32) (T_at : Int32) (T_isWell : Int32) (T_readMany : Int32) (T_s : Nat → Int32) : va_W := [(oT, .inr (7, [.int T_thrown, .ref oT_s, .ref oT_aside, .ref oT_states, .int T_stateMany, .ref oT_snapshot, .int T_hasSnapshot, .ref oT_text, .int T_length, .int T_stopNumber, .int T_stopError, .ref oT_serves, .ref oT_took, .ref oT_tookMany, .ref oT_helps, .ref oT_before, .int T_at, .int T_isWell, .ref oT_read, .int T_readMany])), (oT_s, .inl (cI, 474, .inl T_s))]
abbrev rm_X7_refusesEnlisting : Room := { frames := 2, cells := 0, slots := 0, locals := 45 }
def wp_X7_refusesEnlisting (T_s : Nat → Int32) (x1 : Int32) (x2 : Int32) (Q : Int32 → Prop) : Prop := wp_X7_isFloor x1 (fun r1 => ((r1 = 0 → Q (-1)) ∧ (¬ r1 = 0 → wp_X7_isPerson x2 (fun r3 => ((¬ r3 = 0 → wp_X7_placeIn T_s x1 x2 (fun r5 => ((r5 = (-5) → wp_X7_of T_s x1 (nI 1) (fun r7 => ((¬ r7 = (nI 5) → Q (nI 0)) ∧ (r7 = (nI 5) → Q (-3))))) ∧ (¬ r5 = (-5) → Q (-4))))) ∧ (r3 = 0 → Q (-1)))))))
set_option maxRecDepth 100000 in
set_option maxHeartbeats 4000000 in
theorem c_X7_refusesEnlisting (l : Launch) {D : va_G} {cI cC cR : ClassId} (oT oT_s oT_aside oT_states oT_snapshot oT_text oT_serves oT_took oT_tookMany oT_helps oT_before oT_read : Nat) (sz : Nat) (T_thrown : Int32) (T_stateMany : Int32) (T_hasSnapshot : Int32) (T_length : Int32) (T_stopNumber : Int32) (T_stopError : Int32) (T_at : Int32) (T_isWell : Int32) (T_readMany : Int32) (T_s : Nat → Int32) (x1 : Int32) (x2 : Int32) {Q : Int32 → Prop} (hw : wp_X7_refusesEnlisting T_s x1 x2 Q) : Met l yX7_refusesEnlisting wsX7_refusesEnlisting rm_X7_refusesEnlisting (PcW D cI cC cR [.ref oT, .int x1, .int x2] (ww_X7_refusesEnlisting cI cC oT oT_s oT_aside oT_states oT_snapshot oT_text oT_serves oT_took oT_tookMany oT_helps oT_before oT_read T_thrown T_stateMany T_hasSnapshot T_length T_stopNumber T_stopError T_at T_isWell T_readMany T_s) sz) (QiW D (fun (r : Int32) (u : Unit) => Q r ) (fun u => (ww_X7_refusesEnlisting cI cC oT oT_s oT_aside oT_states oT_snapshot oT_text oT_serves oT_took oT_tookMany oT_helps oT_before oT_read T_thrown T_stateMany T_hasSnapshot T_length T_stopNumber T_stopError T_at T_isWell T_readMany T_s)) (ww_X7_refusesEnlisting cI cC oT oT_s oT_aside oT_states oT_snapshot oT_text oT_serves oT_took oT_tookMany oT_helps oT_before oT_read T_thrown T_stateMany T_hasSnapshot T_length T_stopNumber T_stopError T_at T_isWell T_readMany T_s) sz) 0 0 (va_A (ww_X7_refusesEnlisting cI cC oT oT_s oT_aside oT_states oT_snapshot oT_text oT_serves oT_took oT_tookMany oT_helps oT_before oT_read T_thrown T_stateMany T_hasSnapshot T_length T_stopNumber T_stopError T_at T_isWell T_readMany T_s) sz) := by
  refine Met.ofW (cc := cX7_refusesEnlisting) (maxL := 3) (ret := (some .int)) (by decide) rfl ?_
  intro p e s m args below meth c s₁ B hml hv
  obtain ⟨rfl, hsz, hP, hKw, hD0⟩ := hv
  have hlocks := B.notSynchronized
  subst hsz
  have hD := hD0.self (sz := s.heap.size)
  have CX : cx cX7_refusesEnlisting (some .int) 3 RX7 wsX7_refusesEnlisting p m meth c s ([.ref oT, .int x1, .int x2] : List Value).toArray D cI cC cR (va_A (ww_X7_refusesEnlisting cI cC oT oT_s oT_aside oT_states oT_snapshot oT_text oT_serves oT_took oT_tookMany oT_helps oT_before oT_read T_thrown T_stateMany T_hasSnapshot T_length T_stopNumber T_stopError T_at T_isWell T_readMany T_s) s.heap.size) := ⟨B.exec, B.bytes, B.returns, hml, atoms_spec (ws := wsX7_refusesEnlisting) B.pre, findClass_of_methodNamed B.named, hlocks, hKw, fun q h => Or.inr h⟩
  obtain ⟨hx, hb, hr, -, hts, hown, -, -, hA⟩ := id CX
  have hwd : wd D (va_A (ww_X7_refusesEnlisting cI cC oT oT_s oT_aside oT_states oT_snapshot oT_text oT_serves oT_took oT_tookMany oT_helps oT_before oT_read T_thrown T_stateMany T_hasSnapshot T_length T_stopNumber T_stopError T_at T_isWell T_readMany T_s) s.heap.size) s (ww_X7_refusesEnlisting cI cC oT oT_s oT_aside oT_states oT_snapshot oT_text oT_serves oT_took oT_tookMany oT_helps oT_before oT_read T_thrown T_stateMany T_hasSnapshot T_length T_stopNumber T_stopError T_at T_isWell T_readMany T_s) s.heap [] := ⟨hP, hD, va_S.rf⟩
  have hl := lv_entry ([.ref oT, .int x1, .int x2]) (n := 3) (Nat.le_of_ble_eq_true rfl)
  rw [lg_entry_eq]
  generalize (lg_sl ([.ref oT, .int x1, .int x2]) ++ List.replicate (3 - (lg_sl ([.ref oT, .int x1, .int x2])).length) Slot.unset).toArray = ls at hl ⊢
  have hl : lv_has ls 3 [(0, .ref oT), (1, .int x1), (2, .int x2)] := hl
  have HR : ∀ (r : Int32) {H : Heap} {locs : List Loc} {ls : Array Slot} {pc : Nat}, Q r → wd D (va_A (ww_X7_refusesEnlisting cI cC oT oT_s oT_aside oT_states oT_snapshot oT_text oT_serves oT_took oT_tookMany oT_helps oT_before oT_read T_thrown T_stateMany T_hasSnapshot T_length T_stopNumber T_stopError T_at T_isWell T_readMany T_s) s.heap.size) s (ww_X7_refusesEnlisting cI cC oT oT_s oT_aside oT_states oT_snapshot oT_text oT_serves oT_took oT_tookMany oT_helps oT_before oT_read T_thrown T_stateMany T_hasSnapshot T_length T_stopNumber T_stopError T_at T_isWell T_readMany T_s) H locs → decode cX7_refusesEnlisting pc = .ok (.ireturn, 1) → W p l e (headSpec wsX7_refusesEnlisting rm_X7_refusesEnlisting).room s m ([.ref oT, .int x1, .int x2] : List Value).toArray below meth c H locs 0 0 (MQ below (QiW D (fun (r : Int32) (u : Unit) => Q r ) (fun u => (ww_X7_refusesEnlisting cI cC oT oT_s oT_aside oT_states oT_snapshot oT_text oT_serves oT_took oT_tookMany oT_helps oT_before oT_read T_thrown T_stateMany T_hasSnapshot T_length T_stopNumber T_stopError T_at T_isWell T_readMany T_s)) (ww_X7_refusesEnlisting cI cC oT oT_s oT_aside oT_states oT_snapshot oT_text oT_serves oT_took oT_tookMany oT_helps oT_before oT_read T_thrown T_stateMany T_hasSnapshot T_length T_stopNumber T_stopError T_at T_isWell T_readMany T_s) s.heap.size) ([.ref oT, .int x1, .int x2] : List Value).toArray s 0 0 (va_A (ww_X7_refusesEnlisting cI cC oT oT_s oT_aside oT_states oT_snapshot oT_text oT_serves oT_took oT_tookMany oT_helps oT_before oT_read T_thrown T_stateMany T_hasSnapshot T_length T_stopNumber T_stopError T_at T_isWell T_readMany T_s) s.heap.size)) (F0 m pc ls [.int r]) := by
    intro r H locs ls pc hq hw9 hd9
    exact W.iret (v := r) hx hb hr (fun t ht hW => ⟨⟨r, (), rfl, hq, by rw [ht]; exact hw9.1, hw9.2.1⟩, hw9.2.2.F ht⟩) hw9.2.2.2.2 hd9
  unfold wp_X7_refusesEnlisting at hw
  refine lv_iload_n hx hb dX7_refusesEnlisting_0 rfl (lv_at hl 1 rfl) ?_
  refine kcSi (rest := []) (As := [.int x1]) ⟨Nat.le_of_ble_eq_true rfl, Nat.le_of_ble_eq_true rfl⟩ ⟨hx, hb, hml, hown, hts⟩ (c_X7_isFloor l s.heap.size x1 hw) (va_cwS 1 hts gX7_refusesEnlisting_X7_isFloor rfl rfl rfl hd_X7_isFloor ⟨Nat.le_of_ble_eq_true rfl, Nat.le_of_ble_eq_true rfl⟩) hKw hA hwd rfl hl.1 rfl (lv_room (Nat.le_of_ble_eq_true rfl)) dX7_refusesEnlisting_1 (fun r1 H locs hw hwd => ?_)
  try dsimp only at hw
  refine lv_if_eq (tgt := 14) hx hb dX7_refusesEnlisting_4 (by decide) (fun c2 => ?_) (fun c2 => ?_)
  · replace hw := hw.1 c2
    refine lv_iconst (v := (-1)) hx hb dX7_refusesEnlisting_14 rfl ?_
    exact HR (-1) hw hwd dX7_refusesEnlisting_15
  · replace hw := hw.2 c2
    refine lv_iload_n hx hb dX7_refusesEnlisting_7 rfl (lv_at hl 2 rfl) ?_
    refine kcSi (rest := []) (As := [.int x2]) ⟨Nat.le_of_ble_eq_true rfl, Nat.le_of_ble_eq_true rfl⟩ ⟨hx, hb, hml, hown, hts⟩ (c_X7_isPerson l H.size x2 hw) (va_cwS 1 hts gX7_refusesEnlisting_X7_isPerson rfl rfl rfl hd_X7_isPerson ⟨Nat.le_of_ble_eq_true rfl, Nat.le_of_ble_eq_true rfl⟩) hKw hA hwd rfl hl.1 rfl (lv_room (Nat.le_of_ble_eq_true rfl)) dX7_refusesEnlisting_8 (fun r3 H locs hw hwd => ?_)
    try dsimp only at hw
    refine lv_if_ne (tgt := 16) hx hb dX7_refusesEnlisting_11 (by decide) (fun c4 => ?_) (fun c4 => ?_)
    · replace hw := hw.1 c4
      refine lv_aload_n hx hb dX7_refusesEnlisting_16 rfl (lv_at hl 0 rfl) ?_
      refine lv_iload_n hx hb dX7_refusesEnlisting_17 rfl (lv_at hl 1 rfl) ?_
      refine lv_iload_n hx hb dX7_refusesEnlisting_18 rfl (lv_at hl 2 rfl) ?_
      refine kcVi (W1 := (fun u => (ww_X7_refusesEnlisting cI cC oT oT_s oT_aside oT_states oT_snapshot oT_text oT_serves oT_took oT_tookMany oT_helps oT_before oT_read T_thrown T_stateMany T_hasSnapshot T_length T_stopNumber T_stopError T_at T_isWell T_readMany T_s))) (rest := []) (As := [.int x1, .int x2]) ⟨Nat.le_of_ble_eq_true rfl, Nat.le_of_ble_eq_true rfl⟩ ⟨hx, hb, hml, hown, hts⟩ (c_X7_placeIn l oT oT_s oT_aside oT_states oT_snapshot oT_text oT_serves oT_took oT_tookMany oT_helps oT_before oT_read H.size T_thrown T_stateMany T_hasSnapshot T_length T_stopNumber T_stopError T_at T_isWell T_readMany T_s x1 x2 hw) (cwV 2 hts gX7_refusesEnlisting_X7_placeIn rfl rfl rfl ⟨rfl, hd_X7_placeIn⟩ ⟨Nat.le_of_ble_eq_true rfl, Nat.le_of_ble_eq_true rfl⟩) hKw hA hwd [0, 1] [] [0, 1] [] rfl rfl rfl rfl (by decide) rfl (fun _ => rfl) 0 7 rfl rfl rfl rfl hl.1 rfl (lv_room (Nat.le_of_ble_eq_true rfl)) dX7_refusesEnlisting_19 (fun r5 u H locs hw hwd => ?_)
      try dsimp only at hw
      replace hwd : wd D (va_A (ww_X7_refusesEnlisting cI cC oT oT_s oT_aside oT_states oT_snapshot oT_text oT_serves oT_took oT_tookMany oT_helps oT_before oT_read T_thrown T_stateMany T_hasSnapshot T_length T_stopNumber T_stopError T_at T_isWell T_readMany T_s) s.heap.size) s (ww_X7_refusesEnlisting cI cC oT oT_s oT_aside oT_states oT_snapshot oT_text oT_serves oT_took oT_tookMany oT_helps oT_before oT_read T_thrown T_stateMany T_hasSnapshot T_length T_stopNumber T_stopError T_at T_isWell T_readMany T_s) H locs := hwd
      refine lv_bipush (v := (-5)) hx hb dX7_refusesEnlisting_22 rfl ?_
      refine lv_icmp_eq (tgt := 32) hx hb dX7_refusesEnlisting_24 (by decide) (fun c6 => ?_) (fun c6 => ?_)
      · replace hw := hw.1 c6
        refine lv_aload_n hx hb dX7_refusesEnlisting_32 rfl (lv_at hl 0 rfl) ?_
        refine lv_iload_n hx hb dX7_refusesEnlisting_33 rfl (lv_at hl 1 rfl) ?_
        refine lv_iconst (v := (nI 1)) hx hb dX7_refusesEnlisting_34 rfl ?_
        refine kcVi (W1 := (fun u => (ww_X7_refusesEnlisting cI cC oT oT_s oT_aside oT_states oT_snapshot oT_text oT_serves oT_took oT_tookMany oT_helps oT_before oT_read T_thrown T_stateMany T_hasSnapshot T_length T_stopNumber T_stopError T_at T_isWell T_readMany T_s))) (rest := []) (As := [.int x1, .int (nI 1)]) ⟨Nat.le_of_ble_eq_true rfl, Nat.le_of_ble_eq_true rfl⟩ ⟨hx, hb, hml, hown, hts⟩ (c_X7_of l oT oT_s oT_aside oT_states oT_snapshot oT_text oT_serves oT_took oT_tookMany oT_helps oT_before oT_read H.size T_thrown T_stateMany T_hasSnapshot T_length T_stopNumber T_stopError T_at T_isWell T_readMany T_s x1 (nI 1) hw) (cwV 2 hts gX7_refusesEnlisting_X7_of rfl rfl rfl ⟨rfl, hd_X7_of⟩ ⟨Nat.le_of_ble_eq_true rfl, Nat.le_of_ble_eq_true rfl⟩) hKw hA hwd [0, 1] [] [0, 1] [] rfl rfl rfl rfl (by decide) rfl (fun _ => rfl) 0 7 rfl rfl rfl rfl hl.1 rfl (lv_room (Nat.le_of_ble_eq_true rfl)) dX7_refusesEnlisting_35 (fun r7 u H locs hw hwd => ?_)
        try dsimp only at hw
        replace hwd : wd D (va_A (ww_X7_refusesEnlisting cI cC oT oT_s oT_aside oT_states oT_snapshot oT_text oT_serves oT_took oT_tookMany oT_helps oT_before oT_read T_thrown T_stateMany T_hasSnapshot T_length T_stopNumber T_stopError T_at T_isWell T_readMany T_s) s.heap.size) s (ww_X7_refusesEnlisting cI cC oT oT_s oT_aside oT_states oT_snapshot oT_text oT_serves oT_took oT_tookMany oT_helps oT_before oT_read T_thrown T_stateMany T_hasSnapshot T_length T_stopNumber T_stopError T_at T_isWell T_readMany T_s) H locs := hwd
        refine lv_iconst (v := (nI 5)) hx hb dX7_refusesEnlisting_38 rfl ?_
        refine lv_icmp_ne (tgt := 47) hx hb dX7_refusesEnlisting_39 (by decide) (fun c8 => ?_) (fun c8 => ?_)
        · replace hw := hw.1 c8
          refine lv_iconst (v := (nI 0)) hx hb dX7_refusesEnlisting_47 rfl ?_
          exact HR (nI 0) hw hwd dX7_refusesEnlisting_48
        · replace hw := hw.2 c8
          refine lv_bipush (v := (-3)) hx hb dX7_refusesEnlisting_42 rfl ?_
          refine lv_goto (tgt := 48) hx hb dX7_refusesEnlisting_44 (by decide) ?_
          exact HR (-3) hw hwd dX7_refusesEnlisting_48
      · replace hw := hw.2 c6
        refine lv_bipush (v := (-4)) hx hb dX7_refusesEnlisting_27 rfl ?_
        refine lv_goto (tgt := 48) hx hb dX7_refusesEnlisting_29 (by decide) ?_
        exact HR (-4) hw hwd dX7_refusesEnlisting_48
    · replace hw := hw.2 c4
      refine lv_iconst (v := (-1)) hx hb dX7_refusesEnlisting_14 rfl ?_
      exact HR (-1) hw hwd dX7_refusesEnlisting_15
abbrev ww_X7_enlists (cI cC : ClassId) (oT oT_s oT_aside oT_states oT_snapshot oT_text oT_serves oT_took oT_tookMany oT_helps oT_before oT_read : Nat) (T_thrown : Int32) (T_stateMany : Int32) (T_hasSnapshot : Int32) (T_length : Int32) (T_stopNumber : Int32) (T_stopError : Int32) (T_at : Int32) (T_isWell : Int32) (T_readMany : Int32) (T_s : Nat → Int32) : va_W := [(oT, .inr (7, [.int T_thrown, .ref oT_s, .ref oT_aside, .ref oT_states, .int T_stateMany, .ref oT_snapshot, .int T_hasSnapshot, .ref oT_text, .int T_length, .int T_stopNumber, .int T_stopError, .ref oT_serves, .ref oT_took, .ref oT_tookMany, .ref oT_helps, .ref oT_before, .int T_at, .int T_isWell, .ref oT_read, .int T_readMany])), (oT_s, .inl (cI, 474, .inl T_s))]
abbrev rm_X7_enlists : Room := { frames := 1, cells := 0, slots := 0, locals := 23 }
def wp_X7_enlists (T_s : Nat → Int32) (x1 : Int32) (x2 : Int32) (Q : Int32 → (Nat → Int32) → Prop) : Prop := wp_X7_of T_s x1 (nI 1) (fun r1 => wp_X7_lay T_s x1 ((nI 2) + r1) x2 (fun T_s2 => wp_X7_of T_s2 x1 (nI 1) (fun r3 => wp_X7_lay T_s2 x1 (nI 1) (r3 + (nI 1)) (fun T_s4 => wp_X7_of T_s4 x1 (nI 1) (fun r5 => Q r5 T_s4)))))
set_option maxRecDepth 100000 in
set_option maxHeartbeats 4000000 in
theorem c_X7_enlists (l : Launch) {D : va_G} {cI cC cR : ClassId} (oT oT_s oT_aside oT_states oT_snapshot oT_text oT_serves oT_took oT_tookMany oT_helps oT_before oT_read : Nat) (sz : Nat) (T_thrown : Int32) (T_stateMany : Int32) (T_hasSnapshot : Int32) (T_length : Int32) (T_stopNumber : Int32) (T_stopError : Int32) (T_at : Int32) (T_isWell : Int32) (T_readMany : Int32) (T_s : Nat → Int32) (x1 : Int32) (x2 : Int32) {Q : Int32 → (Nat → Int32) → Prop} (hw : wp_X7_enlists T_s x1 x2 Q) : Met l yX7_enlists wsX7_enlists rm_X7_enlists (PcW D cI cC cR [.ref oT, .int x1, .int x2] (ww_X7_enlists cI cC oT oT_s oT_aside oT_states oT_snapshot oT_text oT_serves oT_took oT_tookMany oT_helps oT_before oT_read T_thrown T_stateMany T_hasSnapshot T_length T_stopNumber T_stopError T_at T_isWell T_readMany T_s) sz) (QiW D (fun (r : Int32) (u : (Nat → Int32)) => Q r u) (fun u => (ww_X7_enlists cI cC oT oT_s oT_aside oT_states oT_snapshot oT_text oT_serves oT_took oT_tookMany oT_helps oT_before oT_read T_thrown T_stateMany T_hasSnapshot T_length T_stopNumber T_stopError T_at T_isWell T_readMany u)) (ww_X7_enlists cI cC oT oT_s oT_aside oT_states oT_snapshot oT_text oT_serves oT_took oT_tookMany oT_helps oT_before oT_read T_thrown T_stateMany T_hasSnapshot T_length T_stopNumber T_stopError T_at T_isWell T_readMany T_s) sz) 0 0 (va_A (ww_X7_enlists cI cC oT oT_s oT_aside oT_states oT_snapshot oT_text oT_serves oT_took oT_tookMany oT_helps oT_before oT_read T_thrown T_stateMany T_hasSnapshot T_length T_stopNumber T_stopError T_at T_isWell T_readMany T_s) sz) := by
  refine Met.ofW (cc := cX7_enlists) (maxL := 3) (ret := (some .int)) (by decide) rfl ?_
  intro p e s m args below meth c s₁ B hml hv
  obtain ⟨rfl, hsz, hP, hKw, hD0⟩ := hv
  have hlocks := B.notSynchronized
  subst hsz
  have hD := hD0.self (sz := s.heap.size)
  have CX : cx cX7_enlists (some .int) 3 RX7 wsX7_enlists p m meth c s ([.ref oT, .int x1, .int x2] : List Value).toArray D cI cC cR (va_A (ww_X7_enlists cI cC oT oT_s oT_aside oT_states oT_snapshot oT_text oT_serves oT_took oT_tookMany oT_helps oT_before oT_read T_thrown T_stateMany T_hasSnapshot T_length T_stopNumber T_stopError T_at T_isWell T_readMany T_s) s.heap.size) := ⟨B.exec, B.bytes, B.returns, hml, atoms_spec (ws := wsX7_enlists) B.pre, findClass_of_methodNamed B.named, hlocks, hKw, fun q h => Or.inr h⟩
  obtain ⟨hx, hb, hr, -, hts, hown, -, -, hA⟩ := id CX
  have hwd : wd D (va_A (ww_X7_enlists cI cC oT oT_s oT_aside oT_states oT_snapshot oT_text oT_serves oT_took oT_tookMany oT_helps oT_before oT_read T_thrown T_stateMany T_hasSnapshot T_length T_stopNumber T_stopError T_at T_isWell T_readMany T_s) s.heap.size) s (ww_X7_enlists cI cC oT oT_s oT_aside oT_states oT_snapshot oT_text oT_serves oT_took oT_tookMany oT_helps oT_before oT_read T_thrown T_stateMany T_hasSnapshot T_length T_stopNumber T_stopError T_at T_isWell T_readMany T_s) s.heap [] := ⟨hP, hD, va_S.rf⟩
  have hl := lv_entry ([.ref oT, .int x1, .int x2]) (n := 3) (Nat.le_of_ble_eq_true rfl)
  rw [lg_entry_eq]
  generalize (lg_sl ([.ref oT, .int x1, .int x2]) ++ List.replicate (3 - (lg_sl ([.ref oT, .int x1, .int x2])).length) Slot.unset).toArray = ls at hl ⊢
  have hl : lv_has ls 3 [(0, .ref oT), (1, .int x1), (2, .int x2)] := hl
  have HR : ∀ (r : Int32) (u0 : Nat → Int32) {H : Heap} {locs : List Loc} {ls : Array Slot} {pc : Nat}, Q r u0 → wd D (va_A (ww_X7_enlists cI cC oT oT_s oT_aside oT_states oT_snapshot oT_text oT_serves oT_took oT_tookMany oT_helps oT_before oT_read T_thrown T_stateMany T_hasSnapshot T_length T_stopNumber T_stopError T_at T_isWell T_readMany T_s) s.heap.size) s (ww_X7_enlists cI cC oT oT_s oT_aside oT_states oT_snapshot oT_text oT_serves oT_took oT_tookMany oT_helps oT_before oT_read T_thrown T_stateMany T_hasSnapshot T_length T_stopNumber T_stopError T_at T_isWell T_readMany u0) H locs → decode cX7_enlists pc = .ok (.ireturn, 1) → W p l e (headSpec wsX7_enlists rm_X7_enlists).room s m ([.ref oT, .int x1, .int x2] : List Value).toArray below meth c H locs 0 0 (MQ below (QiW D (fun (r : Int32) (u : (Nat → Int32)) => Q r u) (fun u => (ww_X7_enlists cI cC oT oT_s oT_aside oT_states oT_snapshot oT_text oT_serves oT_took oT_tookMany oT_helps oT_before oT_read T_thrown T_stateMany T_hasSnapshot T_length T_stopNumber T_stopError T_at T_isWell T_readMany u)) (ww_X7_enlists cI cC oT oT_s oT_aside oT_states oT_snapshot oT_text oT_serves oT_took oT_tookMany oT_helps oT_before oT_read T_thrown T_stateMany T_hasSnapshot T_length T_stopNumber T_stopError T_at T_isWell T_readMany T_s) s.heap.size) ([.ref oT, .int x1, .int x2] : List Value).toArray s 0 0 (va_A (ww_X7_enlists cI cC oT oT_s oT_aside oT_states oT_snapshot oT_text oT_serves oT_took oT_tookMany oT_helps oT_before oT_read T_thrown T_stateMany T_hasSnapshot T_length T_stopNumber T_stopError T_at T_isWell T_readMany T_s) s.heap.size)) (F0 m pc ls [.int r]) := by
    intro r u0 H locs ls pc hq hw9 hd9
    exact W.iret (v := r) hx hb hr (fun t ht hW => ⟨⟨r, u0, rfl, hq, by rw [ht]; exact hw9.1, hw9.2.1⟩, hw9.2.2.F ht⟩) hw9.2.2.2.2 hd9
  unfold wp_X7_enlists at hw
  refine lv_aload_n hx hb dX7_enlists_0 rfl (lv_at hl 0 rfl) ?_
  refine lv_iload_n hx hb dX7_enlists_1 rfl (lv_at hl 1 rfl) ?_
  refine lv_iconst (v := (nI 2)) hx hb dX7_enlists_2 rfl ?_
  refine lv_aload_n hx hb dX7_enlists_3 rfl (lv_at hl 0 rfl) ?_
  refine lv_iload_n hx hb dX7_enlists_4 rfl (lv_at hl 1 rfl) ?_
  refine lv_iconst (v := (nI 1)) hx hb dX7_enlists_5 rfl ?_
  refine kcVi (W1 := (fun u => (ww_X7_enlists cI cC oT oT_s oT_aside oT_states oT_snapshot oT_text oT_serves oT_took oT_tookMany oT_helps oT_before oT_read T_thrown T_stateMany T_hasSnapshot T_length T_stopNumber T_stopError T_at T_isWell T_readMany T_s))) (rest := [.int (nI 2), .int x1, .ref oT]) (As := [.int x1, .int (nI 1)]) ⟨Nat.le_of_ble_eq_true rfl, Nat.le_of_ble_eq_true rfl⟩ ⟨hx, hb, hml, hown, hts⟩ (c_X7_of l oT oT_s oT_aside oT_states oT_snapshot oT_text oT_serves oT_took oT_tookMany oT_helps oT_before oT_read s.heap.size T_thrown T_stateMany T_hasSnapshot T_length T_stopNumber T_stopError T_at T_isWell T_readMany T_s x1 (nI 1) hw) (cwV 2 hts gX7_enlists_X7_of rfl rfl rfl ⟨rfl, hd_X7_of⟩ ⟨Nat.le_of_ble_eq_true rfl, Nat.le_of_ble_eq_true rfl⟩) hKw hA hwd [0, 1] [] [0, 1] [] rfl rfl rfl rfl (by decide) rfl (fun _ => rfl) 0 7 rfl rfl rfl rfl hl.1 rfl (lv_room (Nat.le_of_ble_eq_true rfl)) dX7_enlists_6 (fun r1 u H locs hw hwd => ?_)
  try dsimp only at hw
  replace hwd : wd D (va_A (ww_X7_enlists cI cC oT oT_s oT_aside oT_states oT_snapshot oT_text oT_serves oT_took oT_tookMany oT_helps oT_before oT_read T_thrown T_stateMany T_hasSnapshot T_length T_stopNumber T_stopError T_at T_isWell T_readMany T_s) s.heap.size) s (ww_X7_enlists cI cC oT oT_s oT_aside oT_states oT_snapshot oT_text oT_serves oT_took oT_tookMany oT_helps oT_before oT_read T_thrown T_stateMany T_hasSnapshot T_length T_stopNumber T_stopError T_at T_isWell T_readMany T_s) H locs := hwd
  refine lv_iadd hx hb dX7_enlists_9 ?_
  refine lv_iload_n hx hb dX7_enlists_10 rfl (lv_at hl 2 rfl) ?_
  refine kcVv (W1 := (fun u => (ww_X7_enlists cI cC oT oT_s oT_aside oT_states oT_snapshot oT_text oT_serves oT_took oT_tookMany oT_helps oT_before oT_read T_thrown T_stateMany T_hasSnapshot T_length T_stopNumber T_stopError T_at T_isWell T_readMany u))) (rest := []) (As := [.int x1, .int ((nI 2) + r1), .int x2]) ⟨Nat.le_of_ble_eq_true rfl, Nat.le_of_ble_eq_true rfl⟩ ⟨hx, hb, hml, hown, hts⟩ (c_X7_lay l oT oT_s oT_aside oT_states oT_snapshot oT_text oT_serves oT_took oT_tookMany oT_helps oT_before oT_read H.size T_thrown T_stateMany T_hasSnapshot T_length T_stopNumber T_stopError T_at T_isWell T_readMany T_s x1 ((nI 2) + r1) x2 hw) (cwV 3 hts gX7_enlists_X7_lay rfl rfl rfl ⟨rfl, hd_X7_lay⟩ ⟨Nat.le_of_ble_eq_true rfl, Nat.le_of_ble_eq_true rfl⟩) hKw hA hwd [0, 1] [] [0, 1] [] rfl rfl rfl rfl (by decide) rfl (fun _ => rfl) 0 7 rfl rfl rfl rfl hl.1 rfl (lv_room (Nat.le_of_ble_eq_true rfl)) dX7_enlists_11 (fun u H locs hw hwd => ?_)
  obtain ⟨T_s2, rfl⟩ : ∃ z, z = u := ⟨_, rfl⟩
  try dsimp only at hw
  replace hwd : wd D (va_A (ww_X7_enlists cI cC oT oT_s oT_aside oT_states oT_snapshot oT_text oT_serves oT_took oT_tookMany oT_helps oT_before oT_read T_thrown T_stateMany T_hasSnapshot T_length T_stopNumber T_stopError T_at T_isWell T_readMany T_s) s.heap.size) s (ww_X7_enlists cI cC oT oT_s oT_aside oT_states oT_snapshot oT_text oT_serves oT_took oT_tookMany oT_helps oT_before oT_read T_thrown T_stateMany T_hasSnapshot T_length T_stopNumber T_stopError T_at T_isWell T_readMany T_s2) H locs := hwd
  refine lv_aload_n hx hb dX7_enlists_14 rfl (lv_at hl 0 rfl) ?_
  refine lv_iload_n hx hb dX7_enlists_15 rfl (lv_at hl 1 rfl) ?_
  refine lv_iconst (v := (nI 1)) hx hb dX7_enlists_16 rfl ?_
  refine lv_aload_n hx hb dX7_enlists_17 rfl (lv_at hl 0 rfl) ?_
  refine lv_iload_n hx hb dX7_enlists_18 rfl (lv_at hl 1 rfl) ?_
  refine lv_iconst (v := (nI 1)) hx hb dX7_enlists_19 rfl ?_
  refine kcVi (W1 := (fun u => (ww_X7_enlists cI cC oT oT_s oT_aside oT_states oT_snapshot oT_text oT_serves oT_took oT_tookMany oT_helps oT_before oT_read T_thrown T_stateMany T_hasSnapshot T_length T_stopNumber T_stopError T_at T_isWell T_readMany T_s2))) (rest := [.int (nI 1), .int x1, .ref oT]) (As := [.int x1, .int (nI 1)]) ⟨Nat.le_of_ble_eq_true rfl, Nat.le_of_ble_eq_true rfl⟩ ⟨hx, hb, hml, hown, hts⟩ (c_X7_of l oT oT_s oT_aside oT_states oT_snapshot oT_text oT_serves oT_took oT_tookMany oT_helps oT_before oT_read H.size T_thrown T_stateMany T_hasSnapshot T_length T_stopNumber T_stopError T_at T_isWell T_readMany T_s2 x1 (nI 1) hw) (cwV 2 hts gX7_enlists_X7_of rfl rfl rfl ⟨rfl, hd_X7_of⟩ ⟨Nat.le_of_ble_eq_true rfl, Nat.le_of_ble_eq_true rfl⟩) hKw hA hwd [0, 1] [] [0, 1] [] rfl rfl rfl rfl (by decide) rfl (fun _ => rfl) 0 7 rfl rfl rfl rfl hl.1 rfl (lv_room (Nat.le_of_ble_eq_true rfl)) dX7_enlists_20 (fun r3 u H locs hw hwd => ?_)
  try dsimp only at hw
  replace hwd : wd D (va_A (ww_X7_enlists cI cC oT oT_s oT_aside oT_states oT_snapshot oT_text oT_serves oT_took oT_tookMany oT_helps oT_before oT_read T_thrown T_stateMany T_hasSnapshot T_length T_stopNumber T_stopError T_at T_isWell T_readMany T_s) s.heap.size) s (ww_X7_enlists cI cC oT oT_s oT_aside oT_states oT_snapshot oT_text oT_serves oT_took oT_tookMany oT_helps oT_before oT_read T_thrown T_stateMany T_hasSnapshot T_length T_stopNumber T_stopError T_at T_isWell T_readMany T_s2) H locs := hwd
  refine lv_iconst (v := (nI 1)) hx hb dX7_enlists_23 rfl ?_
  refine lv_iadd hx hb dX7_enlists_24 ?_
  refine kcVv (W1 := (fun u => (ww_X7_enlists cI cC oT oT_s oT_aside oT_states oT_snapshot oT_text oT_serves oT_took oT_tookMany oT_helps oT_before oT_read T_thrown T_stateMany T_hasSnapshot T_length T_stopNumber T_stopError T_at T_isWell T_readMany u))) (rest := []) (As := [.int x1, .int (nI 1), .int (r3 + (nI 1))]) ⟨Nat.le_of_ble_eq_true rfl, Nat.le_of_ble_eq_true rfl⟩ ⟨hx, hb, hml, hown, hts⟩ (c_X7_lay l oT oT_s oT_aside oT_states oT_snapshot oT_text oT_serves oT_took oT_tookMany oT_helps oT_before oT_read H.size T_thrown T_stateMany T_hasSnapshot T_length T_stopNumber T_stopError T_at T_isWell T_readMany T_s2 x1 (nI 1) (r3 + (nI 1)) hw) (cwV 3 hts gX7_enlists_X7_lay rfl rfl rfl ⟨rfl, hd_X7_lay⟩ ⟨Nat.le_of_ble_eq_true rfl, Nat.le_of_ble_eq_true rfl⟩) hKw hA hwd [0, 1] [] [0, 1] [] rfl rfl rfl rfl (by decide) rfl (fun _ => rfl) 0 7 rfl rfl rfl rfl hl.1 rfl (lv_room (Nat.le_of_ble_eq_true rfl)) dX7_enlists_25 (fun u H locs hw hwd => ?_)
  obtain ⟨T_s4, rfl⟩ : ∃ z, z = u := ⟨_, rfl⟩
  try dsimp only at hw
  replace hwd : wd D (va_A (ww_X7_enlists cI cC oT oT_s oT_aside oT_states oT_snapshot oT_text oT_serves oT_took oT_tookMany oT_helps oT_before oT_read T_thrown T_stateMany T_hasSnapshot T_length T_stopNumber T_stopError T_at T_isWell T_readMany T_s) s.heap.size) s (ww_X7_enlists cI cC oT oT_s oT_aside oT_states oT_snapshot oT_text oT_serves oT_took oT_tookMany oT_helps oT_before oT_read T_thrown T_stateMany T_hasSnapshot T_length T_stopNumber T_stopError T_at T_isWell T_readMany T_s4) H locs := hwd
  refine lv_aload_n hx hb dX7_enlists_28 rfl (lv_at hl 0 rfl) ?_
  refine lv_iload_n hx hb dX7_enlists_29 rfl (lv_at hl 1 rfl) ?_
  refine lv_iconst (v := (nI 1)) hx hb dX7_enlists_30 rfl ?_
  refine kcVi (W1 := (fun u => (ww_X7_enlists cI cC oT oT_s oT_aside oT_states oT_snapshot oT_text oT_serves oT_took oT_tookMany oT_helps oT_before oT_read T_thrown T_stateMany T_hasSnapshot T_length T_stopNumber T_stopError T_at T_isWell T_readMany T_s4))) (rest := []) (As := [.int x1, .int (nI 1)]) ⟨Nat.le_of_ble_eq_true rfl, Nat.le_of_ble_eq_true rfl⟩ ⟨hx, hb, hml, hown, hts⟩ (c_X7_of l oT oT_s oT_aside oT_states oT_snapshot oT_text oT_serves oT_took oT_tookMany oT_helps oT_before oT_read H.size T_thrown T_stateMany T_hasSnapshot T_length T_stopNumber T_stopError T_at T_isWell T_readMany T_s4 x1 (nI 1) hw) (cwV 2 hts gX7_enlists_X7_of rfl rfl rfl ⟨rfl, hd_X7_of⟩ ⟨Nat.le_of_ble_eq_true rfl, Nat.le_of_ble_eq_true rfl⟩) hKw hA hwd [0, 1] [] [0, 1] [] rfl rfl rfl rfl (by decide) rfl (fun _ => rfl) 0 7 rfl rfl rfl rfl hl.1 rfl (lv_room (Nat.le_of_ble_eq_true rfl)) dX7_enlists_31 (fun r5 u H locs hw hwd => ?_)
  try dsimp only at hw
  replace hwd : wd D (va_A (ww_X7_enlists cI cC oT oT_s oT_aside oT_states oT_snapshot oT_text oT_serves oT_took oT_tookMany oT_helps oT_before oT_read T_thrown T_stateMany T_hasSnapshot T_length T_stopNumber T_stopError T_at T_isWell T_readMany T_s) s.heap.size) s (ww_X7_enlists cI cC oT oT_s oT_aside oT_states oT_snapshot oT_text oT_serves oT_took oT_tookMany oT_helps oT_before oT_read T_thrown T_stateMany T_hasSnapshot T_length T_stopNumber T_stopError T_at T_isWell T_readMany T_s4) H locs := hwd
  exact HR r5 T_s4 hw hwd dX7_enlists_34
abbrev ww_X7_enlist (cI cC : ClassId) (oT oT_s oT_aside oT_states oT_snapshot oT_text oT_serves oT_took oT_tookMany oT_helps oT_before oT_read : Nat) (T_thrown : Int32) (T_stateMany : Int32) (T_hasSnapshot : Int32) (T_length : Int32) (T_stopNumber : Int32) (T_stopError : Int32) (T_at : Int32) (T_isWell : Int32) (T_readMany : Int32) (T_s : Nat → Int32) (T_states : Nat → Int32) : va_W := [(oT, .inr (7, [.int T_thrown, .ref oT_s, .ref oT_aside, .ref oT_states, .int T_stateMany, .ref oT_snapshot, .int T_hasSnapshot, .ref oT_text, .int T_length, .int T_stopNumber, .int T_stopError, .ref oT_serves, .ref oT_took, .ref oT_tookMany, .ref oT_helps, .ref oT_before, .int T_at, .int T_isWell, .ref oT_read, .int T_readMany])), (oT_s, .inl (cI, 474, .inl T_s)), (oT_states, .inl (cI, 1896, .inl T_states))]
abbrev rm_X7_enlist : Room := { frames := 3, cells := 0, slots := 0, locals := 67 }
theorem ic_X7_enlist_X7 : ∀ w ∈ u_ws RX7 TX7 20, w ∈ wsX7_enlist := by
  intro w h
  simp only [wsX7_enlist, List.mem_cons, List.mem_append]
  simp only [h, or_true, true_or]
def wp_X7_enlist (T_thrown : Int32) (T_stateMany : Int32) (T_s : Nat → Int32) (T_states : Nat → Int32) (x1 : Int32) (x2 : Int32) (Q : Int32 → Int32 → Int32 → (Nat → Int32) → (Nat → Int32) → Prop) : Prop := wp_X7_refusesEnlisting T_s x1 x2 (fun r1 => ((r1 = 0 → wp_X7_records T_stateMany T_s T_states (fun T_stateMany3 T_states4 => wp_X7_enlists T_s x1 x2 (fun r5 T_s6 => Q r5 (nI 0) T_stateMany3 T_s6 T_states4))) ∧ (¬ r1 = 0 → Q r1 (nI 0) T_stateMany T_s T_states)))
set_option maxRecDepth 100000 in
set_option maxHeartbeats 4000000 in
theorem c_X7_enlist (l : Launch) {D : va_G} {cI cC cR : ClassId} (oT oT_s oT_aside oT_states oT_snapshot oT_text oT_serves oT_took oT_tookMany oT_helps oT_before oT_read : Nat) (sz : Nat) (T_thrown : Int32) (T_stateMany : Int32) (T_hasSnapshot : Int32) (T_length : Int32) (T_stopNumber : Int32) (T_stopError : Int32) (T_at : Int32) (T_isWell : Int32) (T_readMany : Int32) (T_s : Nat → Int32) (T_states : Nat → Int32) (x1 : Int32) (x2 : Int32) {Q : Int32 → Int32 → Int32 → (Nat → Int32) → (Nat → Int32) → Prop} (hw : wp_X7_enlist T_thrown T_stateMany T_s T_states x1 x2 Q) : Met l yX7_enlist wsX7_enlist rm_X7_enlist (PcW D cI cC cR [.ref oT, .int x1, .int x2] (ww_X7_enlist cI cC oT oT_s oT_aside oT_states oT_snapshot oT_text oT_serves oT_took oT_tookMany oT_helps oT_before oT_read T_thrown T_stateMany T_hasSnapshot T_length T_stopNumber T_stopError T_at T_isWell T_readMany T_s T_states) sz) (QiW D (fun (r : Int32) (u : Int32 × Int32 × (Nat → Int32) × (Nat → Int32)) => Q r u.1 u.2.1 u.2.2.1 u.2.2.2) (fun u => (ww_X7_enlist cI cC oT oT_s oT_aside oT_states oT_snapshot oT_text oT_serves oT_took oT_tookMany oT_helps oT_before oT_read (u.1) (u.2.1) T_hasSnapshot T_length T_stopNumber T_stopError T_at T_isWell T_readMany (u.2.2.1) (u.2.2.2))) (ww_X7_enlist cI cC oT oT_s oT_aside oT_states oT_snapshot oT_text oT_serves oT_took oT_tookMany oT_helps oT_before oT_read T_thrown T_stateMany T_hasSnapshot T_length T_stopNumber T_stopError T_at T_isWell T_readMany T_s T_states) sz) 0 0 (va_A (ww_X7_enlist cI cC oT oT_s oT_aside oT_states oT_snapshot oT_text oT_serves oT_took oT_tookMany oT_helps oT_before oT_read T_thrown T_stateMany T_hasSnapshot T_length T_stopNumber T_stopError T_at T_isWell T_readMany T_s T_states) sz) := by
  refine Met.ofW (cc := cX7_enlist) (maxL := 4) (ret := (some .int)) (by decide) rfl ?_
  intro p e s m args below meth c s₁ B hml hv
  obtain ⟨rfl, hsz, hP, hKw, hD0⟩ := hv
  have hlocks := B.notSynchronized
  subst hsz
  have hD := hD0.self (sz := s.heap.size)
  have CX : cx cX7_enlist (some .int) 4 RX7 wsX7_enlist p m meth c s ([.ref oT, .int x1, .int x2] : List Value).toArray D cI cC cR (va_A (ww_X7_enlist cI cC oT oT_s oT_aside oT_states oT_snapshot oT_text oT_serves oT_took oT_tookMany oT_helps oT_before oT_read T_thrown T_stateMany T_hasSnapshot T_length T_stopNumber T_stopError T_at T_isWell T_readMany T_s T_states) s.heap.size) := ⟨B.exec, B.bytes, B.returns, hml, atoms_spec (ws := wsX7_enlist) B.pre, findClass_of_methodNamed B.named, hlocks, hKw, fun q h => Or.inr h⟩
  obtain ⟨hx, hb, hr, -, hts, hown, -, -, hA⟩ := id CX
  have hwd : wd D (va_A (ww_X7_enlist cI cC oT oT_s oT_aside oT_states oT_snapshot oT_text oT_serves oT_took oT_tookMany oT_helps oT_before oT_read T_thrown T_stateMany T_hasSnapshot T_length T_stopNumber T_stopError T_at T_isWell T_readMany T_s T_states) s.heap.size) s (ww_X7_enlist cI cC oT oT_s oT_aside oT_states oT_snapshot oT_text oT_serves oT_took oT_tookMany oT_helps oT_before oT_read T_thrown T_stateMany T_hasSnapshot T_length T_stopNumber T_stopError T_at T_isWell T_readMany T_s T_states) s.heap [] := ⟨hP, hD, va_S.rf⟩
  have hl := lv_entry ([.ref oT, .int x1, .int x2]) (n := 4) (Nat.le_of_ble_eq_true rfl)
  rw [lg_entry_eq]
  generalize (lg_sl ([.ref oT, .int x1, .int x2]) ++ List.replicate (4 - (lg_sl ([.ref oT, .int x1, .int x2])).length) Slot.unset).toArray = ls at hl ⊢
  have hl : lv_has ls 4 [(0, .ref oT), (1, .int x1), (2, .int x2)] := hl
  have HR : ∀ (r : Int32) (u0 : Int32) (u1 : Int32) (u2 : Nat → Int32) (u3 : Nat → Int32) {H : Heap} {locs : List Loc} {ls : Array Slot} {pc : Nat}, Q r u0 u1 u2 u3 → wd D (va_A (ww_X7_enlist cI cC oT oT_s oT_aside oT_states oT_snapshot oT_text oT_serves oT_took oT_tookMany oT_helps oT_before oT_read T_thrown T_stateMany T_hasSnapshot T_length T_stopNumber T_stopError T_at T_isWell T_readMany T_s T_states) s.heap.size) s (ww_X7_enlist cI cC oT oT_s oT_aside oT_states oT_snapshot oT_text oT_serves oT_took oT_tookMany oT_helps oT_before oT_read u0 u1 T_hasSnapshot T_length T_stopNumber T_stopError T_at T_isWell T_readMany u2 u3) H locs → decode cX7_enlist pc = .ok (.ireturn, 1) → W p l e (headSpec wsX7_enlist rm_X7_enlist).room s m ([.ref oT, .int x1, .int x2] : List Value).toArray below meth c H locs 0 0 (MQ below (QiW D (fun (r : Int32) (u : Int32 × Int32 × (Nat → Int32) × (Nat → Int32)) => Q r u.1 u.2.1 u.2.2.1 u.2.2.2) (fun u => (ww_X7_enlist cI cC oT oT_s oT_aside oT_states oT_snapshot oT_text oT_serves oT_took oT_tookMany oT_helps oT_before oT_read (u.1) (u.2.1) T_hasSnapshot T_length T_stopNumber T_stopError T_at T_isWell T_readMany (u.2.2.1) (u.2.2.2))) (ww_X7_enlist cI cC oT oT_s oT_aside oT_states oT_snapshot oT_text oT_serves oT_took oT_tookMany oT_helps oT_before oT_read T_thrown T_stateMany T_hasSnapshot T_length T_stopNumber T_stopError T_at T_isWell T_readMany T_s T_states) s.heap.size) ([.ref oT, .int x1, .int x2] : List Value).toArray s 0 0 (va_A (ww_X7_enlist cI cC oT oT_s oT_aside oT_states oT_snapshot oT_text oT_serves oT_took oT_tookMany oT_helps oT_before oT_read T_thrown T_stateMany T_hasSnapshot T_length T_stopNumber T_stopError T_at T_isWell T_readMany T_s T_states) s.heap.size)) (F0 m pc ls [.int r]) := by
    intro r u0 u1 u2 u3 H locs ls pc hq hw9 hd9
    exact W.iret (v := r) hx hb hr (fun t ht hW => ⟨⟨r, (u0, u1, u2, u3), rfl, hq, by rw [ht]; exact hw9.1, hw9.2.1⟩, hw9.2.2.F ht⟩) hw9.2.2.2.2 hd9
  unfold wp_X7_enlist at hw
  refine lv_aload_n hx hb dX7_enlist_0 rfl (lv_at hl 0 rfl) ?_
  refine lv_iconst (v := (nI 0)) hx hb dX7_enlist_1 rfl ?_
  refine va_put (D := D) (ci := 7) (v := .int (nI 0)) (ty := .int) (C := RX7) (T := TX7) (N := 20) hx hb hts ic_X7_enlist_X7 tyX7 tyX7_ok nmX7 hown hKw.1 hwd.1 hwd.2.1 hwd.2.2 0 rfl rfl 0 (by decide) (hts (.fieldLink RX7 43 "DrillWardensModel" "thrown" "I") (List.mem_of_getElem? (i := 1) rfl)) (fun _ h9 => h9) rfl (tyX7_ok 0 (by decide)) rfl rfl (Nat.le_of_ble_eq_true rfl) dX7_enlist_2 (fun H locs h1 h2 h3 => ?_)
  replace hwd : wd D (va_A (ww_X7_enlist cI cC oT oT_s oT_aside oT_states oT_snapshot oT_text oT_serves oT_took oT_tookMany oT_helps oT_before oT_read T_thrown T_stateMany T_hasSnapshot T_length T_stopNumber T_stopError T_at T_isWell T_readMany T_s T_states) s.heap.size) s (ww_X7_enlist cI cC oT oT_s oT_aside oT_states oT_snapshot oT_text oT_serves oT_took oT_tookMany oT_helps oT_before oT_read (nI 0) T_stateMany T_hasSnapshot T_length T_stopNumber T_stopError T_at T_isWell T_readMany T_s T_states) H locs := ⟨h1, h2, h3⟩
  clear h1 h2 h3
  refine lv_aload_n hx hb dX7_enlist_5 rfl (lv_at hl 0 rfl) ?_
  refine lv_iload_n hx hb dX7_enlist_6 rfl (lv_at hl 1 rfl) ?_
  refine lv_iload_n hx hb dX7_enlist_7 rfl (lv_at hl 2 rfl) ?_
  refine kcVi (W1 := (fun u => (ww_X7_enlist cI cC oT oT_s oT_aside oT_states oT_snapshot oT_text oT_serves oT_took oT_tookMany oT_helps oT_before oT_read (nI 0) T_stateMany T_hasSnapshot T_length T_stopNumber T_stopError T_at T_isWell T_readMany T_s T_states))) (rest := []) (As := [.int x1, .int x2]) ⟨Nat.le_of_ble_eq_true rfl, Nat.le_of_ble_eq_true rfl⟩ ⟨hx, hb, hml, hown, hts⟩ (c_X7_refusesEnlisting l oT oT_s oT_aside oT_states oT_snapshot oT_text oT_serves oT_took oT_tookMany oT_helps oT_before oT_read H.size (nI 0) T_stateMany T_hasSnapshot T_length T_stopNumber T_stopError T_at T_isWell T_readMany T_s x1 x2 hw) (cwV 2 hts gX7_enlist_X7_refusesEnlisting rfl rfl rfl ⟨rfl, hd_X7_refusesEnlisting⟩ ⟨Nat.le_of_ble_eq_true rfl, Nat.le_of_ble_eq_true rfl⟩) hKw hA hwd [0, 1] [2] [1, 2, 0] [(oT_states, .inl (cI, 1896, .inl T_states))] rfl rfl rfl rfl (by decide) rfl (fun _ => rfl) 0 7 rfl rfl rfl rfl hl.1 rfl (lv_room (Nat.le_of_ble_eq_true rfl)) dX7_enlist_8 (fun r1 u H locs hw hwd => ?_)
  try dsimp only at hw
  replace hwd : wd D (va_A (ww_X7_enlist cI cC oT oT_s oT_aside oT_states oT_snapshot oT_text oT_serves oT_took oT_tookMany oT_helps oT_before oT_read T_thrown T_stateMany T_hasSnapshot T_length T_stopNumber T_stopError T_at T_isWell T_readMany T_s T_states) s.heap.size) s (ww_X7_enlist cI cC oT oT_s oT_aside oT_states oT_snapshot oT_text oT_serves oT_took oT_tookMany oT_helps oT_before oT_read (nI 0) T_stateMany T_hasSnapshot T_length T_stopNumber T_stopError T_at T_isWell T_readMany T_s T_states) H locs := hwd
  refine lv_istore_n (lv' := [(3, .int r1), (0, .ref oT), (1, .int x1), (2, .int x2)]) hx hb dX7_enlist_11 rfl hl (by decide) rfl (fun ls hl => ?_)
  refine lv_iload_n hx hb dX7_enlist_12 rfl (lv_at hl 0 rfl) ?_
  refine lv_if_eq (tgt := 18) hx hb dX7_enlist_13 (by decide) (fun c2 => ?_) (fun c2 => ?_)
  · replace hw := hw.1 c2
    refine lv_aload_n hx hb dX7_enlist_18 rfl (lv_at hl 1 rfl) ?_
    refine kcVv (W1 := (fun u => (ww_X7_enlist cI cC oT oT_s oT_aside oT_states oT_snapshot oT_text oT_serves oT_took oT_tookMany oT_helps oT_before oT_read (nI 0) (u.1) T_hasSnapshot T_length T_stopNumber T_stopError T_at T_isWell T_readMany T_s (u.2)))) (rest := []) (As := []) ⟨Nat.le_of_ble_eq_true rfl, Nat.le_of_ble_eq_true rfl⟩ ⟨hx, hb, hml, hown, hts⟩ (c_X7_records l oT oT_s oT_aside oT_states oT_snapshot oT_text oT_serves oT_took oT_tookMany oT_helps oT_before oT_read H.size (nI 0) T_stateMany T_hasSnapshot T_length T_stopNumber T_stopError T_at T_isWell T_readMany T_s T_states hw) (cwV 0 hts gX7_enlist_X7_records rfl rfl rfl ⟨rfl, hd_X7_records⟩ ⟨Nat.le_of_ble_eq_true rfl, Nat.le_of_ble_eq_true rfl⟩) hKw hA hwd [0, 1, 2] [] [0, 1, 2] [] rfl rfl rfl rfl (by decide) rfl (fun _ => rfl) 0 7 rfl rfl rfl rfl hl.1 rfl (lv_room (Nat.le_of_ble_eq_true rfl)) dX7_enlist_19 (fun u H locs hw hwd => ?_)
    obtain ⟨T_stateMany3, T_states4⟩ := u
    try dsimp only at hw
    replace hwd : wd D (va_A (ww_X7_enlist cI cC oT oT_s oT_aside oT_states oT_snapshot oT_text oT_serves oT_took oT_tookMany oT_helps oT_before oT_read T_thrown T_stateMany T_hasSnapshot T_length T_stopNumber T_stopError T_at T_isWell T_readMany T_s T_states) s.heap.size) s (ww_X7_enlist cI cC oT oT_s oT_aside oT_states oT_snapshot oT_text oT_serves oT_took oT_tookMany oT_helps oT_before oT_read (nI 0) T_stateMany3 T_hasSnapshot T_length T_stopNumber T_stopError T_at T_isWell T_readMany T_s T_states4) H locs := hwd
    refine lv_aload_n hx hb dX7_enlist_22 rfl (lv_at hl 1 rfl) ?_
    refine lv_iload_n hx hb dX7_enlist_23 rfl (lv_at hl 2 rfl) ?_
    refine lv_iload_n hx hb dX7_enlist_24 rfl (lv_at hl 3 rfl) ?_
    refine kcVi (W1 := (fun u => (ww_X7_enlist cI cC oT oT_s oT_aside oT_states oT_snapshot oT_text oT_serves oT_took oT_tookMany oT_helps oT_before oT_read (nI 0) T_stateMany3 T_hasSnapshot T_length T_stopNumber T_stopError T_at T_isWell T_readMany u T_states4))) (rest := []) (As := [.int x1, .int x2]) ⟨Nat.le_of_ble_eq_true rfl, Nat.le_of_ble_eq_true rfl⟩ ⟨hx, hb, hml, hown, hts⟩ (c_X7_enlists l oT oT_s oT_aside oT_states oT_snapshot oT_text oT_serves oT_took oT_tookMany oT_helps oT_before oT_read H.size (nI 0) T_stateMany3 T_hasSnapshot T_length T_stopNumber T_stopError T_at T_isWell T_readMany T_s x1 x2 hw) (cwV 2 hts gX7_enlist_X7_enlists rfl rfl rfl ⟨rfl, hd_X7_enlists⟩ ⟨Nat.le_of_ble_eq_true rfl, Nat.le_of_ble_eq_true rfl⟩) hKw hA hwd [0, 1] [2] [1, 2, 0] [(oT_states, .inl (cI, 1896, .inl T_states4))] rfl rfl rfl rfl (by decide) rfl (fun _ => rfl) 0 7 rfl rfl rfl rfl hl.1 rfl (lv_room (Nat.le_of_ble_eq_true rfl)) dX7_enlist_25 (fun r5 u H locs hw hwd => ?_)
    obtain ⟨T_s6, rfl⟩ : ∃ z, z = u := ⟨_, rfl⟩
    try dsimp only at hw
    replace hwd : wd D (va_A (ww_X7_enlist cI cC oT oT_s oT_aside oT_states oT_snapshot oT_text oT_serves oT_took oT_tookMany oT_helps oT_before oT_read T_thrown T_stateMany T_hasSnapshot T_length T_stopNumber T_stopError T_at T_isWell T_readMany T_s T_states) s.heap.size) s (ww_X7_enlist cI cC oT oT_s oT_aside oT_states oT_snapshot oT_text oT_serves oT_took oT_tookMany oT_helps oT_before oT_read (nI 0) T_stateMany3 T_hasSnapshot T_length T_stopNumber T_stopError T_at T_isWell T_readMany T_s6 T_states4) H locs := hwd
    exact HR r5 (nI 0) T_stateMany3 T_s6 T_states4 hw hwd dX7_enlist_28
  · replace hw := hw.2 c2
    refine lv_iload_n hx hb dX7_enlist_16 rfl (lv_at hl 0 rfl) ?_
    exact HR r1 (nI 0) T_stateMany T_s T_states hw hwd dX7_enlist_17
abbrev ww_X7_strikes (cI cC : ClassId) (oT oT_s oT_aside oT_states oT_snapshot oT_text oT_serves oT_took oT_tookMany oT_helps oT_before oT_read : Nat) (T_thrown : Int32) (T_stateMany : Int32) (T_hasSnapshot : Int32) (T_length : Int32) (T_stopNumber : Int32) (T_stopError : Int32) (T_at : Int32) (T_isWell : Int32) (T_readMany : Int32) (T_s : Nat → Int32) : va_W := [(oT, .inr (7, [.int T_thrown, .ref oT_s, .ref oT_aside, .ref oT_states, .int T_stateMany, .ref oT_snapshot, .int T_hasSnapshot, .ref oT_text, .int T_length, .int T_stopNumber, .int T_stopError, .ref oT_serves, .ref oT_took, .ref oT_tookMany, .ref oT_helps, .ref oT_before, .int T_at, .int T_isWell, .ref oT_read, .int T_readMany])), (oT_s, .inl (cI, 474, .inl T_s))]
abbrev rm_X7_strikes : Room := { frames := 2, cells := 0, slots := 0, locals := 45 }
def wb_X7_strikes_24 (x1 : Int32) (K_61 : (Nat → Int32) → Prop) : Nat → (Nat → Int32) → Int32 → Prop
  | 0, _, _ => False
  | n + 1, T_s, x4 => wp_X7_of T_s x1 (nI 1) (fun r1 => ((r1 ≤ x4 → K_61 T_s) ∧ (¬ r1 ≤ x4 → wp_X7_of T_s x1 (((nI 2) + x4) + (nI 1)) (fun r3 => wp_X7_lay T_s x1 ((nI 2) + x4) r3 (fun T_s4 => ∀ x4_5, x4_5 = x4 + (nI 1) → wb_X7_strikes_24 x1 K_61 n T_s4 x4_5)))))
set_option maxRecDepth 100000 in
set_option maxHeartbeats 4000000 in
theorem blk_X7_strikes_24 {p : Program} {l : Launch} {e : Env} {s : State} {m : MethodId} {args : Array Value} {below : List Frame} {meth : Method} {c : Code} {D : va_G} {cI cC cR : ClassId} {A : Nat → Prop} {Z : State → Prop} (CX : cx cX7_strikes (some .int) 5 RX7 wsX7_strikes p m meth c s args D cI cC cR A) (oT oT_s oT_aside oT_states oT_snapshot oT_text oT_serves oT_took oT_tookMany oT_helps oT_before oT_read : Nat) (T_thrown : Int32) (T_stateMany : Int32) (T_hasSnapshot : Int32) (T_length : Int32) (T_stopNumber : Int32) (T_stopError : Int32) (T_at : Int32) (T_isWell : Int32) (T_readMany : Int32) (x1 : Int32) {K_61 : (Nat → Int32) → Prop} {Q : Int32 → (Nat → Int32) → Prop} (HR : ∀ (r : Int32) (u0 : Nat → Int32) {H : Heap} {locs : List Loc} {ls : Array Slot} {pc : Nat}, Q r u0 → wd D A s (ww_X7_strikes cI cC oT oT_s oT_aside oT_states oT_snapshot oT_text oT_serves oT_took oT_tookMany oT_helps oT_before oT_read T_thrown T_stateMany T_hasSnapshot T_length T_stopNumber T_stopError T_at T_isWell T_readMany u0) H locs → decode cX7_strikes pc = .ok (.ireturn, 1) → W p l e (headSpec wsX7_strikes rm_X7_strikes).room s m args below meth c H locs 0 0 Z (F0 m pc ls [.int r])) (HK_61 : ∀ (T_sy : Nat → Int32), K_61 T_sy → ∀ (H : Heap) (locs : List Loc) (ls : Array Slot), wd D A s (ww_X7_strikes cI cC oT oT_s oT_aside oT_states oT_snapshot oT_text oT_serves oT_took oT_tookMany oT_helps oT_before oT_read T_thrown T_stateMany T_hasSnapshot T_length T_stopNumber T_stopError T_at T_isWell T_readMany T_sy) H locs → lv_has ls 5 [(0, .ref oT), (1, .int x1)] → W p l e (headSpec wsX7_strikes rm_X7_strikes).room s m args below meth c H locs 0 0 Z (F0 m 61 ls [])) : ∀ (n : Nat) (T_s : Nat → Int32) (x4 : Int32), wb_X7_strikes_24 x1 K_61 n T_s x4 → ∀ (H : Heap) (locs : List Loc) (ls : Array Slot), wd D A s (ww_X7_strikes cI cC oT oT_s oT_aside oT_states oT_snapshot oT_text oT_serves oT_took oT_tookMany oT_helps oT_before oT_read T_thrown T_stateMany T_hasSnapshot T_length T_stopNumber T_stopError T_at T_isWell T_readMany T_s) H locs → lv_has ls 5 [(0, .ref oT), (1, .int x1), (4, .int x4)] → W p l e (headSpec wsX7_strikes rm_X7_strikes).room s m args below meth c H locs 0 0 Z (F0 m 24 ls []) := by
  obtain ⟨hx, hb, hr, hml, hts, hown, hlocks, hKw, hA⟩ := id CX
  intro n
  induction n with
  | zero => intro T_s x4 hw; exact False.elim hw
  | succ n ih =>
    intro T_s x4 hw H locs ls hwd hl
    rw [wb_X7_strikes_24] at hw
    refine lv_iload hx hb dX7_strikes_24 (lv_at hl 2 rfl) ?_
    refine lv_aload_n hx hb dX7_strikes_26 rfl (lv_at hl 0 rfl) ?_
    refine lv_iload_n hx hb dX7_strikes_27 rfl (lv_at hl 1 rfl) ?_
    refine lv_iconst (v := (nI 1)) hx hb dX7_strikes_28 rfl ?_
    refine kcVi (W1 := (fun u => (ww_X7_strikes cI cC oT oT_s oT_aside oT_states oT_snapshot oT_text oT_serves oT_took oT_tookMany oT_helps oT_before oT_read T_thrown T_stateMany T_hasSnapshot T_length T_stopNumber T_stopError T_at T_isWell T_readMany T_s))) (rest := [.int x4]) (As := [.int x1, .int (nI 1)]) ⟨Nat.le_of_ble_eq_true rfl, Nat.le_of_ble_eq_true rfl⟩ ⟨hx, hb, hml, hown, hts⟩ (c_X7_of l oT oT_s oT_aside oT_states oT_snapshot oT_text oT_serves oT_took oT_tookMany oT_helps oT_before oT_read H.size T_thrown T_stateMany T_hasSnapshot T_length T_stopNumber T_stopError T_at T_isWell T_readMany T_s x1 (nI 1) hw) (cwV 2 hts gX7_strikes_X7_of rfl rfl rfl ⟨rfl, hd_X7_of⟩ ⟨Nat.le_of_ble_eq_true rfl, Nat.le_of_ble_eq_true rfl⟩) hKw hA hwd [0, 1] [] [0, 1] [] rfl rfl rfl rfl (by decide) rfl (fun _ => rfl) 0 7 rfl rfl rfl rfl hl.1 rfl (lv_room (Nat.le_of_ble_eq_true rfl)) dX7_strikes_29 (fun r1 u H locs hw hwd => ?_)
    try dsimp only at hw
    replace hwd : wd D A s (ww_X7_strikes cI cC oT oT_s oT_aside oT_states oT_snapshot oT_text oT_serves oT_took oT_tookMany oT_helps oT_before oT_read T_thrown T_stateMany T_hasSnapshot T_length T_stopNumber T_stopError T_at T_isWell T_readMany T_s) H locs := hwd
    refine lv_icmp_ge (tgt := 61) hx hb dX7_strikes_32 (by decide) (fun c2 => ?_) (fun c2 => ?_)
    · replace hw := hw.1 c2
      exact HK_61 T_s hw _ _ _ hwd (lv_sub hl [0, 1] rfl)
    · replace hw := hw.2 c2
      refine lv_aload_n hx hb dX7_strikes_35 rfl (lv_at hl 0 rfl) ?_
      refine lv_iload_n hx hb dX7_strikes_36 rfl (lv_at hl 1 rfl) ?_
      refine lv_iconst (v := (nI 2)) hx hb dX7_strikes_37 rfl ?_
      refine lv_iload hx hb dX7_strikes_38 (lv_at hl 2 rfl) ?_
      refine lv_iadd hx hb dX7_strikes_40 ?_
      refine lv_aload_n hx hb dX7_strikes_41 rfl (lv_at hl 0 rfl) ?_
      refine lv_iload_n hx hb dX7_strikes_42 rfl (lv_at hl 1 rfl) ?_
      refine lv_iconst (v := (nI 2)) hx hb dX7_strikes_43 rfl ?_
      refine lv_iload hx hb dX7_strikes_44 (lv_at hl 2 rfl) ?_
      refine lv_iadd hx hb dX7_strikes_46 ?_
      refine lv_iconst (v := (nI 1)) hx hb dX7_strikes_47 rfl ?_
      refine lv_iadd hx hb dX7_strikes_48 ?_
      refine kcVi (W1 := (fun u => (ww_X7_strikes cI cC oT oT_s oT_aside oT_states oT_snapshot oT_text oT_serves oT_took oT_tookMany oT_helps oT_before oT_read T_thrown T_stateMany T_hasSnapshot T_length T_stopNumber T_stopError T_at T_isWell T_readMany T_s))) (rest := [.int ((nI 2) + x4), .int x1, .ref oT]) (As := [.int x1, .int (((nI 2) + x4) + (nI 1))]) ⟨Nat.le_of_ble_eq_true rfl, Nat.le_of_ble_eq_true rfl⟩ ⟨hx, hb, hml, hown, hts⟩ (c_X7_of l oT oT_s oT_aside oT_states oT_snapshot oT_text oT_serves oT_took oT_tookMany oT_helps oT_before oT_read H.size T_thrown T_stateMany T_hasSnapshot T_length T_stopNumber T_stopError T_at T_isWell T_readMany T_s x1 (((nI 2) + x4) + (nI 1)) hw) (cwV 2 hts gX7_strikes_X7_of rfl rfl rfl ⟨rfl, hd_X7_of⟩ ⟨Nat.le_of_ble_eq_true rfl, Nat.le_of_ble_eq_true rfl⟩) hKw hA hwd [0, 1] [] [0, 1] [] rfl rfl rfl rfl (by decide) rfl (fun _ => rfl) 0 7 rfl rfl rfl rfl hl.1 rfl (lv_room (Nat.le_of_ble_eq_true rfl)) dX7_strikes_49 (fun r3 u H locs hw hwd => ?_)
      try dsimp only at hw
      replace hwd : wd D A s (ww_X7_strikes cI cC oT oT_s oT_aside oT_states oT_snapshot oT_text oT_serves oT_took oT_tookMany oT_helps oT_before oT_read T_thrown T_stateMany T_hasSnapshot T_length T_stopNumber T_stopError T_at T_isWell T_readMany T_s) H locs := hwd
      refine kcVv (W1 := (fun u => (ww_X7_strikes cI cC oT oT_s oT_aside oT_states oT_snapshot oT_text oT_serves oT_took oT_tookMany oT_helps oT_before oT_read T_thrown T_stateMany T_hasSnapshot T_length T_stopNumber T_stopError T_at T_isWell T_readMany u))) (rest := []) (As := [.int x1, .int ((nI 2) + x4), .int r3]) ⟨Nat.le_of_ble_eq_true rfl, Nat.le_of_ble_eq_true rfl⟩ ⟨hx, hb, hml, hown, hts⟩ (c_X7_lay l oT oT_s oT_aside oT_states oT_snapshot oT_text oT_serves oT_took oT_tookMany oT_helps oT_before oT_read H.size T_thrown T_stateMany T_hasSnapshot T_length T_stopNumber T_stopError T_at T_isWell T_readMany T_s x1 ((nI 2) + x4) r3 hw) (cwV 3 hts gX7_strikes_X7_lay rfl rfl rfl ⟨rfl, hd_X7_lay⟩ ⟨Nat.le_of_ble_eq_true rfl, Nat.le_of_ble_eq_true rfl⟩) hKw hA hwd [0, 1] [] [0, 1] [] rfl rfl rfl rfl (by decide) rfl (fun _ => rfl) 0 7 rfl rfl rfl rfl hl.1 rfl (lv_room (Nat.le_of_ble_eq_true rfl)) dX7_strikes_52 (fun u H locs hw hwd => ?_)
      obtain ⟨T_s4, rfl⟩ : ∃ z, z = u := ⟨_, rfl⟩
      try dsimp only at hw
      replace hwd : wd D A s (ww_X7_strikes cI cC oT oT_s oT_aside oT_states oT_snapshot oT_text oT_serves oT_took oT_tookMany oT_helps oT_before oT_read T_thrown T_stateMany T_hasSnapshot T_length T_stopNumber T_stopError T_at T_isWell T_readMany T_s4) H locs := hwd
      obtain ⟨x4_5, e_x4_5⟩ : ∃ y : Int32, y = x4 + (nI 1) := ⟨_, rfl⟩
      replace hw := hw x4_5 e_x4_5
      refine lv_iinc (v := x4_5) (lv' := [(4, .int x4_5), (0, .ref oT), (1, .int x1)]) hx hb dX7_strikes_55 hl (k := 2) rfl (by rw [e_x4_5]; rfl) (by decide) rfl (fun ls hl => ?_)
      refine lv_goto (tgt := 24) hx hb dX7_strikes_58 (by decide) ?_
      exact ih T_s4 x4_5 hw _ _ _ hwd (lv_sub hl [1, 2, 0] rfl)
def wp_X7_strikes (T_s : Nat → Int32) (x1 : Int32) (x2 : Int32) (Q : Int32 → (Nat → Int32) → Prop) : Prop := wp_X7_placeIn T_s x1 x2 (fun r1 => wp_X7_of T_s x1 (nI 1) (fun r2 => wp_X7_lay T_s x1 (nI 1) (r2 - (nI 1)) (fun T_s3 => (∃ n4, wb_X7_strikes_24 x1 (fun T_s5 => wp_X7_of T_s5 x1 (nI 1) (fun r6 => wp_X7_lay T_s5 x1 ((nI 2) + r6) (nI 0) (fun T_s7 => wp_X7_of T_s7 x1 (nI 1) (fun r8 => Q r8 T_s7)))) n4 T_s3 r1))))
set_option maxRecDepth 100000 in
set_option maxHeartbeats 4000000 in
theorem c_X7_strikes (l : Launch) {D : va_G} {cI cC cR : ClassId} (oT oT_s oT_aside oT_states oT_snapshot oT_text oT_serves oT_took oT_tookMany oT_helps oT_before oT_read : Nat) (sz : Nat) (T_thrown : Int32) (T_stateMany : Int32) (T_hasSnapshot : Int32) (T_length : Int32) (T_stopNumber : Int32) (T_stopError : Int32) (T_at : Int32) (T_isWell : Int32) (T_readMany : Int32) (T_s : Nat → Int32) (x1 : Int32) (x2 : Int32) {Q : Int32 → (Nat → Int32) → Prop} (hw : wp_X7_strikes T_s x1 x2 Q) : Met l yX7_strikes wsX7_strikes rm_X7_strikes (PcW D cI cC cR [.ref oT, .int x1, .int x2] (ww_X7_strikes cI cC oT oT_s oT_aside oT_states oT_snapshot oT_text oT_serves oT_took oT_tookMany oT_helps oT_before oT_read T_thrown T_stateMany T_hasSnapshot T_length T_stopNumber T_stopError T_at T_isWell T_readMany T_s) sz) (QiW D (fun (r : Int32) (u : (Nat → Int32)) => Q r u) (fun u => (ww_X7_strikes cI cC oT oT_s oT_aside oT_states oT_snapshot oT_text oT_serves oT_took oT_tookMany oT_helps oT_before oT_read T_thrown T_stateMany T_hasSnapshot T_length T_stopNumber T_stopError T_at T_isWell T_readMany u)) (ww_X7_strikes cI cC oT oT_s oT_aside oT_states oT_snapshot oT_text oT_serves oT_took oT_tookMany oT_helps oT_before oT_read T_thrown T_stateMany T_hasSnapshot T_length T_stopNumber T_stopError T_at T_isWell T_readMany T_s) sz) 0 0 (va_A (ww_X7_strikes cI cC oT oT_s oT_aside oT_states oT_snapshot oT_text oT_serves oT_took oT_tookMany oT_helps oT_before oT_read T_thrown T_stateMany T_hasSnapshot T_length T_stopNumber T_stopError T_at T_isWell T_readMany T_s) sz) := by
  refine Met.ofW (cc := cX7_strikes) (maxL := 5) (ret := (some .int)) (by decide) rfl ?_
  intro p e s m args below meth c s₁ B hml hv
  obtain ⟨rfl, hsz, hP, hKw, hD0⟩ := hv
  have hlocks := B.notSynchronized
  subst hsz
  have hD := hD0.self (sz := s.heap.size)
  have CX : cx cX7_strikes (some .int) 5 RX7 wsX7_strikes p m meth c s ([.ref oT, .int x1, .int x2] : List Value).toArray D cI cC cR (va_A (ww_X7_strikes cI cC oT oT_s oT_aside oT_states oT_snapshot oT_text oT_serves oT_took oT_tookMany oT_helps oT_before oT_read T_thrown T_stateMany T_hasSnapshot T_length T_stopNumber T_stopError T_at T_isWell T_readMany T_s) s.heap.size) := ⟨B.exec, B.bytes, B.returns, hml, atoms_spec (ws := wsX7_strikes) B.pre, findClass_of_methodNamed B.named, hlocks, hKw, fun q h => Or.inr h⟩
  obtain ⟨hx, hb, hr, -, hts, hown, -, -, hA⟩ := id CX
  have hwd : wd D (va_A (ww_X7_strikes cI cC oT oT_s oT_aside oT_states oT_snapshot oT_text oT_serves oT_took oT_tookMany oT_helps oT_before oT_read T_thrown T_stateMany T_hasSnapshot T_length T_stopNumber T_stopError T_at T_isWell T_readMany T_s) s.heap.size) s (ww_X7_strikes cI cC oT oT_s oT_aside oT_states oT_snapshot oT_text oT_serves oT_took oT_tookMany oT_helps oT_before oT_read T_thrown T_stateMany T_hasSnapshot T_length T_stopNumber T_stopError T_at T_isWell T_readMany T_s) s.heap [] := ⟨hP, hD, va_S.rf⟩
  have hl := lv_entry ([.ref oT, .int x1, .int x2]) (n := 5) (Nat.le_of_ble_eq_true rfl)
  rw [lg_entry_eq]
  generalize (lg_sl ([.ref oT, .int x1, .int x2]) ++ List.replicate (5 - (lg_sl ([.ref oT, .int x1, .int x2])).length) Slot.unset).toArray = ls at hl ⊢
  have hl : lv_has ls 5 [(0, .ref oT), (1, .int x1), (2, .int x2)] := hl
  have HR : ∀ (r : Int32) (u0 : Nat → Int32) {H : Heap} {locs : List Loc} {ls : Array Slot} {pc : Nat}, Q r u0 → wd D (va_A (ww_X7_strikes cI cC oT oT_s oT_aside oT_states oT_snapshot oT_text oT_serves oT_took oT_tookMany oT_helps oT_before oT_read T_thrown T_stateMany T_hasSnapshot T_length T_stopNumber T_stopError T_at T_isWell T_readMany T_s) s.heap.size) s (ww_X7_strikes cI cC oT oT_s oT_aside oT_states oT_snapshot oT_text oT_serves oT_took oT_tookMany oT_helps oT_before oT_read T_thrown T_stateMany T_hasSnapshot T_length T_stopNumber T_stopError T_at T_isWell T_readMany u0) H locs → decode cX7_strikes pc = .ok (.ireturn, 1) → W p l e (headSpec wsX7_strikes rm_X7_strikes).room s m ([.ref oT, .int x1, .int x2] : List Value).toArray below meth c H locs 0 0 (MQ below (QiW D (fun (r : Int32) (u : (Nat → Int32)) => Q r u) (fun u => (ww_X7_strikes cI cC oT oT_s oT_aside oT_states oT_snapshot oT_text oT_serves oT_took oT_tookMany oT_helps oT_before oT_read T_thrown T_stateMany T_hasSnapshot T_length T_stopNumber T_stopError T_at T_isWell T_readMany u)) (ww_X7_strikes cI cC oT oT_s oT_aside oT_states oT_snapshot oT_text oT_serves oT_took oT_tookMany oT_helps oT_before oT_read T_thrown T_stateMany T_hasSnapshot T_length T_stopNumber T_stopError T_at T_isWell T_readMany T_s) s.heap.size) ([.ref oT, .int x1, .int x2] : List Value).toArray s 0 0 (va_A (ww_X7_strikes cI cC oT oT_s oT_aside oT_states oT_snapshot oT_text oT_serves oT_took oT_tookMany oT_helps oT_before oT_read T_thrown T_stateMany T_hasSnapshot T_length T_stopNumber T_stopError T_at T_isWell T_readMany T_s) s.heap.size)) (F0 m pc ls [.int r]) := by
    intro r u0 H locs ls pc hq hw9 hd9
    exact W.iret (v := r) hx hb hr (fun t ht hW => ⟨⟨r, u0, rfl, hq, by rw [ht]; exact hw9.1, hw9.2.1⟩, hw9.2.2.F ht⟩) hw9.2.2.2.2 hd9
  unfold wp_X7_strikes at hw
  refine lv_aload_n hx hb dX7_strikes_0 rfl (lv_at hl 0 rfl) ?_
  refine lv_iload_n hx hb dX7_strikes_1 rfl (lv_at hl 1 rfl) ?_
  refine lv_iload_n hx hb dX7_strikes_2 rfl (lv_at hl 2 rfl) ?_
  refine kcVi (W1 := (fun u => (ww_X7_strikes cI cC oT oT_s oT_aside oT_states oT_snapshot oT_text oT_serves oT_took oT_tookMany oT_helps oT_before oT_read T_thrown T_stateMany T_hasSnapshot T_length T_stopNumber T_stopError T_at T_isWell T_readMany T_s))) (rest := []) (As := [.int x1, .int x2]) ⟨Nat.le_of_ble_eq_true rfl, Nat.le_of_ble_eq_true rfl⟩ ⟨hx, hb, hml, hown, hts⟩ (c_X7_placeIn l oT oT_s oT_aside oT_states oT_snapshot oT_text oT_serves oT_took oT_tookMany oT_helps oT_before oT_read s.heap.size T_thrown T_stateMany T_hasSnapshot T_length T_stopNumber T_stopError T_at T_isWell T_readMany T_s x1 x2 hw) (cwV 2 hts gX7_strikes_X7_placeIn rfl rfl rfl ⟨rfl, hd_X7_placeIn⟩ ⟨Nat.le_of_ble_eq_true rfl, Nat.le_of_ble_eq_true rfl⟩) hKw hA hwd [0, 1] [] [0, 1] [] rfl rfl rfl rfl (by decide) rfl (fun _ => rfl) 0 7 rfl rfl rfl rfl hl.1 rfl (lv_room (Nat.le_of_ble_eq_true rfl)) dX7_strikes_3 (fun r1 u H locs hw hwd => ?_)
  try dsimp only at hw
  replace hwd : wd D (va_A (ww_X7_strikes cI cC oT oT_s oT_aside oT_states oT_snapshot oT_text oT_serves oT_took oT_tookMany oT_helps oT_before oT_read T_thrown T_stateMany T_hasSnapshot T_length T_stopNumber T_stopError T_at T_isWell T_readMany T_s) s.heap.size) s (ww_X7_strikes cI cC oT oT_s oT_aside oT_states oT_snapshot oT_text oT_serves oT_took oT_tookMany oT_helps oT_before oT_read T_thrown T_stateMany T_hasSnapshot T_length T_stopNumber T_stopError T_at T_isWell T_readMany T_s) H locs := hwd
  refine lv_istore_n (lv' := [(3, .int r1), (0, .ref oT), (1, .int x1), (2, .int x2)]) hx hb dX7_strikes_6 rfl hl (by decide) rfl (fun ls hl => ?_)
  refine lv_aload_n hx hb dX7_strikes_7 rfl (lv_at hl 1 rfl) ?_
  refine lv_iload_n hx hb dX7_strikes_8 rfl (lv_at hl 2 rfl) ?_
  refine lv_iconst (v := (nI 1)) hx hb dX7_strikes_9 rfl ?_
  refine lv_aload_n hx hb dX7_strikes_10 rfl (lv_at hl 1 rfl) ?_
  refine lv_iload_n hx hb dX7_strikes_11 rfl (lv_at hl 2 rfl) ?_
  refine lv_iconst (v := (nI 1)) hx hb dX7_strikes_12 rfl ?_
  refine kcVi (W1 := (fun u => (ww_X7_strikes cI cC oT oT_s oT_aside oT_states oT_snapshot oT_text oT_serves oT_took oT_tookMany oT_helps oT_before oT_read T_thrown T_stateMany T_hasSnapshot T_length T_stopNumber T_stopError T_at T_isWell T_readMany T_s))) (rest := [.int (nI 1), .int x1, .ref oT]) (As := [.int x1, .int (nI 1)]) ⟨Nat.le_of_ble_eq_true rfl, Nat.le_of_ble_eq_true rfl⟩ ⟨hx, hb, hml, hown, hts⟩ (c_X7_of l oT oT_s oT_aside oT_states oT_snapshot oT_text oT_serves oT_took oT_tookMany oT_helps oT_before oT_read H.size T_thrown T_stateMany T_hasSnapshot T_length T_stopNumber T_stopError T_at T_isWell T_readMany T_s x1 (nI 1) hw) (cwV 2 hts gX7_strikes_X7_of rfl rfl rfl ⟨rfl, hd_X7_of⟩ ⟨Nat.le_of_ble_eq_true rfl, Nat.le_of_ble_eq_true rfl⟩) hKw hA hwd [0, 1] [] [0, 1] [] rfl rfl rfl rfl (by decide) rfl (fun _ => rfl) 0 7 rfl rfl rfl rfl hl.1 rfl (lv_room (Nat.le_of_ble_eq_true rfl)) dX7_strikes_13 (fun r2 u H locs hw hwd => ?_)
  try dsimp only at hw
  replace hwd : wd D (va_A (ww_X7_strikes cI cC oT oT_s oT_aside oT_states oT_snapshot oT_text oT_serves oT_took oT_tookMany oT_helps oT_before oT_read T_thrown T_stateMany T_hasSnapshot T_length T_stopNumber T_stopError T_at T_isWell T_readMany T_s) s.heap.size) s (ww_X7_strikes cI cC oT oT_s oT_aside oT_states oT_snapshot oT_text oT_serves oT_took oT_tookMany oT_helps oT_before oT_read T_thrown T_stateMany T_hasSnapshot T_length T_stopNumber T_stopError T_at T_isWell T_readMany T_s) H locs := hwd
  refine lv_iconst (v := (nI 1)) hx hb dX7_strikes_16 rfl ?_
  refine lv_isub hx hb dX7_strikes_17 ?_
  refine kcVv (W1 := (fun u => (ww_X7_strikes cI cC oT oT_s oT_aside oT_states oT_snapshot oT_text oT_serves oT_took oT_tookMany oT_helps oT_before oT_read T_thrown T_stateMany T_hasSnapshot T_length T_stopNumber T_stopError T_at T_isWell T_readMany u))) (rest := []) (As := [.int x1, .int (nI 1), .int (r2 - (nI 1))]) ⟨Nat.le_of_ble_eq_true rfl, Nat.le_of_ble_eq_true rfl⟩ ⟨hx, hb, hml, hown, hts⟩ (c_X7_lay l oT oT_s oT_aside oT_states oT_snapshot oT_text oT_serves oT_took oT_tookMany oT_helps oT_before oT_read H.size T_thrown T_stateMany T_hasSnapshot T_length T_stopNumber T_stopError T_at T_isWell T_readMany T_s x1 (nI 1) (r2 - (nI 1)) hw) (cwV 3 hts gX7_strikes_X7_lay rfl rfl rfl ⟨rfl, hd_X7_lay⟩ ⟨Nat.le_of_ble_eq_true rfl, Nat.le_of_ble_eq_true rfl⟩) hKw hA hwd [0, 1] [] [0, 1] [] rfl rfl rfl rfl (by decide) rfl (fun _ => rfl) 0 7 rfl rfl rfl rfl hl.1 rfl (lv_room (Nat.le_of_ble_eq_true rfl)) dX7_strikes_18 (fun u H locs hw hwd => ?_)
  obtain ⟨T_s3, rfl⟩ : ∃ z, z = u := ⟨_, rfl⟩
  try dsimp only at hw
  replace hwd : wd D (va_A (ww_X7_strikes cI cC oT oT_s oT_aside oT_states oT_snapshot oT_text oT_serves oT_took oT_tookMany oT_helps oT_before oT_read T_thrown T_stateMany T_hasSnapshot T_length T_stopNumber T_stopError T_at T_isWell T_readMany T_s) s.heap.size) s (ww_X7_strikes cI cC oT oT_s oT_aside oT_states oT_snapshot oT_text oT_serves oT_took oT_tookMany oT_helps oT_before oT_read T_thrown T_stateMany T_hasSnapshot T_length T_stopNumber T_stopError T_at T_isWell T_readMany T_s3) H locs := hwd
  refine lv_iload_n hx hb dX7_strikes_21 rfl (lv_at hl 0 rfl) ?_
  refine lv_istore (lv' := [(4, .int r1), (3, .int r1), (0, .ref oT), (1, .int x1), (2, .int x2)]) hx hb dX7_strikes_22 hl (by decide) rfl (fun ls hl => ?_)
  obtain ⟨n4, hw⟩ := hw
  refine blk_X7_strikes_24 (CX := CX) (oT := oT) (oT_s := oT_s) (oT_aside := oT_aside) (oT_states := oT_states) (oT_snapshot := oT_snapshot) (oT_text := oT_text) (oT_serves := oT_serves) (oT_took := oT_took) (oT_tookMany := oT_tookMany) (oT_helps := oT_helps) (oT_before := oT_before) (oT_read := oT_read) (T_thrown := T_thrown) (T_stateMany := T_stateMany) (T_hasSnapshot := T_hasSnapshot) (T_length := T_length) (T_stopNumber := T_stopNumber) (T_stopError := T_stopError) (T_at := T_at) (T_isWell := T_isWell) (T_readMany := T_readMany) (x1 := x1) (HR := HR) (HK_61 := fun T_s5 hw H locs ls hwd hl => ?_) n4 T_s3 r1 hw _ _ _ hwd (lv_sub hl [2, 3, 0] rfl)
  try dsimp only at hw
  refine lv_aload_n hx hb dX7_strikes_61 rfl (lv_at hl 0 rfl) ?_
  refine lv_iload_n hx hb dX7_strikes_62 rfl (lv_at hl 1 rfl) ?_
  refine lv_iconst (v := (nI 2)) hx hb dX7_strikes_63 rfl ?_
  refine lv_aload_n hx hb dX7_strikes_64 rfl (lv_at hl 0 rfl) ?_
  refine lv_iload_n hx hb dX7_strikes_65 rfl (lv_at hl 1 rfl) ?_
  refine lv_iconst (v := (nI 1)) hx hb dX7_strikes_66 rfl ?_
  refine kcVi (W1 := (fun u => (ww_X7_strikes cI cC oT oT_s oT_aside oT_states oT_snapshot oT_text oT_serves oT_took oT_tookMany oT_helps oT_before oT_read T_thrown T_stateMany T_hasSnapshot T_length T_stopNumber T_stopError T_at T_isWell T_readMany T_s5))) (rest := [.int (nI 2), .int x1, .ref oT]) (As := [.int x1, .int (nI 1)]) ⟨Nat.le_of_ble_eq_true rfl, Nat.le_of_ble_eq_true rfl⟩ ⟨hx, hb, hml, hown, hts⟩ (c_X7_of l oT oT_s oT_aside oT_states oT_snapshot oT_text oT_serves oT_took oT_tookMany oT_helps oT_before oT_read H.size T_thrown T_stateMany T_hasSnapshot T_length T_stopNumber T_stopError T_at T_isWell T_readMany T_s5 x1 (nI 1) hw) (cwV 2 hts gX7_strikes_X7_of rfl rfl rfl ⟨rfl, hd_X7_of⟩ ⟨Nat.le_of_ble_eq_true rfl, Nat.le_of_ble_eq_true rfl⟩) hKw hA hwd [0, 1] [] [0, 1] [] rfl rfl rfl rfl (by decide) rfl (fun _ => rfl) 0 7 rfl rfl rfl rfl hl.1 rfl (lv_room (Nat.le_of_ble_eq_true rfl)) dX7_strikes_67 (fun r6 u H locs hw hwd => ?_)
  try dsimp only at hw
  replace hwd : wd D (va_A (ww_X7_strikes cI cC oT oT_s oT_aside oT_states oT_snapshot oT_text oT_serves oT_took oT_tookMany oT_helps oT_before oT_read T_thrown T_stateMany T_hasSnapshot T_length T_stopNumber T_stopError T_at T_isWell T_readMany T_s) s.heap.size) s (ww_X7_strikes cI cC oT oT_s oT_aside oT_states oT_snapshot oT_text oT_serves oT_took oT_tookMany oT_helps oT_before oT_read T_thrown T_stateMany T_hasSnapshot T_length T_stopNumber T_stopError T_at T_isWell T_readMany T_s5) H locs := hwd
  refine lv_iadd hx hb dX7_strikes_70 ?_
  refine lv_iconst (v := (nI 0)) hx hb dX7_strikes_71 rfl ?_
  refine kcVv (W1 := (fun u => (ww_X7_strikes cI cC oT oT_s oT_aside oT_states oT_snapshot oT_text oT_serves oT_took oT_tookMany oT_helps oT_before oT_read T_thrown T_stateMany T_hasSnapshot T_length T_stopNumber T_stopError T_at T_isWell T_readMany u))) (rest := []) (As := [.int x1, .int ((nI 2) + r6), .int (nI 0)]) ⟨Nat.le_of_ble_eq_true rfl, Nat.le_of_ble_eq_true rfl⟩ ⟨hx, hb, hml, hown, hts⟩ (c_X7_lay l oT oT_s oT_aside oT_states oT_snapshot oT_text oT_serves oT_took oT_tookMany oT_helps oT_before oT_read H.size T_thrown T_stateMany T_hasSnapshot T_length T_stopNumber T_stopError T_at T_isWell T_readMany T_s5 x1 ((nI 2) + r6) (nI 0) hw) (cwV 3 hts gX7_strikes_X7_lay rfl rfl rfl ⟨rfl, hd_X7_lay⟩ ⟨Nat.le_of_ble_eq_true rfl, Nat.le_of_ble_eq_true rfl⟩) hKw hA hwd [0, 1] [] [0, 1] [] rfl rfl rfl rfl (by decide) rfl (fun _ => rfl) 0 7 rfl rfl rfl rfl hl.1 rfl (lv_room (Nat.le_of_ble_eq_true rfl)) dX7_strikes_72 (fun u H locs hw hwd => ?_)
  obtain ⟨T_s7, rfl⟩ : ∃ z, z = u := ⟨_, rfl⟩
  try dsimp only at hw
  replace hwd : wd D (va_A (ww_X7_strikes cI cC oT oT_s oT_aside oT_states oT_snapshot oT_text oT_serves oT_took oT_tookMany oT_helps oT_before oT_read T_thrown T_stateMany T_hasSnapshot T_length T_stopNumber T_stopError T_at T_isWell T_readMany T_s) s.heap.size) s (ww_X7_strikes cI cC oT oT_s oT_aside oT_states oT_snapshot oT_text oT_serves oT_took oT_tookMany oT_helps oT_before oT_read T_thrown T_stateMany T_hasSnapshot T_length T_stopNumber T_stopError T_at T_isWell T_readMany T_s7) H locs := hwd
  refine lv_aload_n hx hb dX7_strikes_75 rfl (lv_at hl 0 rfl) ?_
  refine lv_iload_n hx hb dX7_strikes_76 rfl (lv_at hl 1 rfl) ?_
  refine lv_iconst (v := (nI 1)) hx hb dX7_strikes_77 rfl ?_
  refine kcVi (W1 := (fun u => (ww_X7_strikes cI cC oT oT_s oT_aside oT_states oT_snapshot oT_text oT_serves oT_took oT_tookMany oT_helps oT_before oT_read T_thrown T_stateMany T_hasSnapshot T_length T_stopNumber T_stopError T_at T_isWell T_readMany T_s7))) (rest := []) (As := [.int x1, .int (nI 1)]) ⟨Nat.le_of_ble_eq_true rfl, Nat.le_of_ble_eq_true rfl⟩ ⟨hx, hb, hml, hown, hts⟩ (c_X7_of l oT oT_s oT_aside oT_states oT_snapshot oT_text oT_serves oT_took oT_tookMany oT_helps oT_before oT_read H.size T_thrown T_stateMany T_hasSnapshot T_length T_stopNumber T_stopError T_at T_isWell T_readMany T_s7 x1 (nI 1) hw) (cwV 2 hts gX7_strikes_X7_of rfl rfl rfl ⟨rfl, hd_X7_of⟩ ⟨Nat.le_of_ble_eq_true rfl, Nat.le_of_ble_eq_true rfl⟩) hKw hA hwd [0, 1] [] [0, 1] [] rfl rfl rfl rfl (by decide) rfl (fun _ => rfl) 0 7 rfl rfl rfl rfl hl.1 rfl (lv_room (Nat.le_of_ble_eq_true rfl)) dX7_strikes_78 (fun r8 u H locs hw hwd => ?_)
  try dsimp only at hw
  replace hwd : wd D (va_A (ww_X7_strikes cI cC oT oT_s oT_aside oT_states oT_snapshot oT_text oT_serves oT_took oT_tookMany oT_helps oT_before oT_read T_thrown T_stateMany T_hasSnapshot T_length T_stopNumber T_stopError T_at T_isWell T_readMany T_s) s.heap.size) s (ww_X7_strikes cI cC oT oT_s oT_aside oT_states oT_snapshot oT_text oT_serves oT_took oT_tookMany oT_helps oT_before oT_read T_thrown T_stateMany T_hasSnapshot T_length T_stopNumber T_stopError T_at T_isWell T_readMany T_s7) H locs := hwd
  exact HR r8 T_s7 hw hwd dX7_strikes_81
