/-! DrillWardens.copy: one row into another of the same length -/
theorem cell_eq {cA : ClassId} {n : Nat} {f g : Nat → Int32} (h : ∀ j, j < n → f j = g j) : vp_cell cA (n, .inl f) = vp_cell cA (n, .inl g) := by
  rw [vp_cell_i, vp_cell_i]
  have e : (fun j : Fin n => Value.int (f j.val)) = (fun j : Fin n => Value.int (g j.val)) := funext fun j => by rw [h j.val j.isLt]
  unfold arrV
  rw [e]
def wp_X6_copy (n : Nat) (a0 a1 : Nat → Int32) (Q : (Nat → Int32) → Prop) : Prop := n < 2147483648 ∧ Q a0
abbrev ww_X6_copy (cI : ClassId) (n oa0 oa1 : Nat) (a0 a1 : Nat → Int32) : va_W := [(oa0, .inl (cI, n, .inl a0)), (oa1, .inl (cI, n, .inl a1))]
abbrev rm_X6_copy : Room := { frames := 1, cells := 0, slots := 0, locals := 60 }
set_option maxRecDepth 100000 in
set_option maxHeartbeats 4000000 in
theorem c_X6_copy (l : Launch) {D : va_G} {cI cC cR : ClassId} (n oa0 oa1 sz : Nat) (a0 a1 : Nat → Int32) {Q : (Nat → Int32) → Prop} (hw : wp_X6_copy n a0 a1 Q) : Met l yX6_copy wsX6_copy rm_X6_copy (PcW D cI cC cR [.ref oa0, .ref oa1] (ww_X6_copy cI n oa0 oa1 a0 a1) sz) (QvW D (fun (u : Nat → Int32) => Q u) (fun u => ww_X6_copy cI n oa0 oa1 a0 u) (ww_X6_copy cI n oa0 oa1 a0 a1) sz) 0 0 (va_A (ww_X6_copy cI n oa0 oa1 a0 a1) sz) := by
  refine Met.ofW (cc := cX6_copy) (maxL := 2) (ret := none) (by decide) rfl ?_
  intro p e s m args below meth c s₁ B hml hv
  obtain ⟨rfl, hsz, hP, hKw, hD0⟩ := hv
  have hlocks := B.notSynchronized
  subst hsz
  obtain ⟨hn, hw⟩ := hw
  have hD := hD0.self (sz := s.heap.size)
  have hx := B.exec
  have hb := B.bytes
  have hr := B.returns
  have hts := atoms_spec (ws := wsX6_copy) B.pre
  have hown : s.vm.findClass RX6 = some m.cls := findClass_of_methodNamed B.named
  have hl := lv_entry ([.ref oa0, .ref oa1]) (n := 2) (Nat.le_of_ble_eq_true rfl)
  rw [lg_entry_eq]
  generalize (lg_sl ([.ref oa0, .ref oa1]) ++ List.replicate (2 - (lg_sl ([.ref oa0, .ref oa1])).length) Slot.unset).toArray = ls at hl ⊢
  have hl : lv_has ls 2 [(0, .ref oa0), (1, .ref oa1)] := hl
  have hc : (nI n).toNatClampNeg = n := nI_clamp hn
  have h0 : (nI 0).toNatClampNeg = 0 := rfl
  refine lv_aload_n hx hb dX6_copy_0 rfl (lv_at hl 0 rfl) ?_
  refine va_alen hx hb hKw.1 hP 0 0 rfl rfl (v := nI n) rfl dX6_copy_1 ?_
  refine lv_aload_n hx hb dX6_copy_2 rfl (lv_at hl 1 rfl) ?_
  refine va_alen hx hb hKw.1 hP 1 0 rfl rfl (v := nI n) rfl dX6_copy_3 ?_
  refine lv_icmp_ne (tgt := 16) hx hb dX6_copy_4 (by decide) (fun c1 => absurd rfl c1) (fun c1 => ?_)
  refine lv_aload_n hx hb dX6_copy_7 rfl (lv_at hl 0 rfl) ?_
  refine lv_iconst (v := nI 0) hx hb dX6_copy_8 rfl ?_
  refine lv_aload_n hx hb dX6_copy_9 rfl (lv_at hl 1 rfl) ?_
  refine lv_iconst (v := nI 0) hx hb dX6_copy_10 rfl ?_
  refine lv_aload_n hx hb dX6_copy_11 rfl (lv_at hl 0 rfl) ?_
  refine va_alen hx hb hKw.1 hP 0 0 rfl rfl (v := nI n) rfl dX6_copy_12 ?_
  refine va_copyi hx hb (hml.trans hl.1.symm) hown (hts (.methodLink RX6 272 arraycopyName) (by decide +kernel)) (hts (.native arraycopyName) (by decide +kernel)) (hts (.static arraycopyName) (by decide +kernel)) (hts (.initialized "java/lang/System") (by decide +kernel)) hKw.1 hP hD va_S.rf 0 1 0 0 rfl rfl rfl rfl rfl (by decide) (by decide) (nI_pos hn) (by rw [hc, h0]; omega) (by rw [hc, h0]; omega) (fun i _ => rfl) (Nat.le_of_ble_eq_true rfl) (Nat.le_of_ble_eq_true rfl) dX6_copy_13 (fun H locs h1 h2 h3 => ?_)
  have e : vp_cell cI (n, .inl (va_cpy a0 a1 (nI 0).toNatClampNeg (nI 0).toNatClampNeg (nI n).toNatClampNeg)) = vp_cell cI (n, .inl a0) := by
    rw [hc, h0]
    exact cell_eq (fun j hj => by simp [va_cpy, hj])
  have hP2 : va_P D vwCl (ww_X6_copy cI n oa0 oa1 a0 a0) H := by
    intro k q hq
    match k, hq with
    | 0, hq => cases hq; exact h1 0 _ rfl
    | 1, hq =>
      cases hq
      have := h1 1 _ rfl
      exact (show H[oa1]? = some (vp_cell cI (n, .inl a0)) from e ▸ this)
    | k + 2, hq => simp [ww_X6_copy] at hq
  have hD2 : va_D (va_A (ww_X6_copy cI n oa0 oa1 a0 a1) s.heap.size) (ww_X6_copy cI n oa0 oa1 a0 a0) := by
    refine ⟨fun i j p q hp hq he => ?_, fun k q hq => ?_⟩
    · match i, j, hp, hq with
      | 0, 0, _, _ => rfl
      | 1, 1, _, _ => rfl
      | 0, 1, hp, hq => cases hp; cases hq; exact hD.1 0 1 _ _ rfl rfl he
      | 1, 0, hp, hq => cases hp; cases hq; exact hD.1 1 0 _ _ rfl rfl he
      | i + 2, _, hp, _ => simp [ww_X6_copy] at hp
      | _, j + 2, _, hq => simp [ww_X6_copy] at hq
    · match k, hq with
      | 0, hq => cases hq; exact hD.2 0 _ rfl
      | 1, hq => cases hq; exact hD.2 1 (oa1, .inl (cI, n, .inl a1)) rfl
      | k + 2, hq => simp [ww_X6_copy] at hq
  exact W.vret hx hb hr (fun t ht hW => ⟨⟨a0, rfl, hw, by rw [ht]; exact hP2, hD2⟩, h3.F ht⟩) h3.2.2 dX6_copy_16
abbrev rm_J6_bitCount_0f7a4 : Room := { frames := 0, cells := 0, slots := 0, locals := 0 }
def wp_J6_bitCount_0f7a4  (x0 : Int32) (Q : Int32 → Prop) : Prop := ∀ x0_1, x0_1 = x0 - (((x0.toUInt32 >>> ((nI 1).toUInt32 &&& Int32.toUInt32 31)).toInt32) &&& (nI 1431655765)) → ∀ x0_2, x0_2 = (x0_1 &&& (nI 858993459)) + (((x0_1.toUInt32 >>> ((nI 2).toUInt32 &&& Int32.toUInt32 31)).toInt32) &&& (nI 858993459)) → ∀ x0_3, x0_3 = (x0_2 + ((x0_2.toUInt32 >>> ((nI 4).toUInt32 &&& Int32.toUInt32 31)).toInt32)) &&& (nI 252645135) → ∀ x0_4, x0_4 = x0_3 + ((x0_3.toUInt32 >>> ((nI 8).toUInt32 &&& Int32.toUInt32 31)).toInt32) → ∀ x0_5, x0_5 = x0_4 + ((x0_4.toUInt32 >>> ((nI 16).toUInt32 &&& Int32.toUInt32 31)).toInt32) → Q (x0_5 &&& (nI 63))
set_option maxRecDepth 100000 in
set_option maxHeartbeats 4000000 in
theorem c_J6_bitCount_0f7a4 (l : Launch) {D : va_G} {cI cC cR : ClassId} (sz : Nat) (x0 : Int32) {Q : Int32 → Prop} (hw : wp_J6_bitCount_0f7a4 x0 Q) : Met l yJ6_bitCount_0f7a4 wsJ6_bitCount_0f7a4 rm_J6_bitCount_0f7a4 (PcW D cI cC cR [.int x0] [] sz) (QiW D (fun (r : Int32) (u : Unit) => Q r ) (fun _ => []) [] sz) 0 0 (va_A [] sz) := by
  refine Met.ofW (cc := cJ6_bitCount_0f7a4) (maxL := 1) (ret := (some .int)) (by decide) rfl ?_
  intro p e s m args below meth c s₁ B hml hv
  obtain ⟨rfl, hsz, hP, hKw, hD0⟩ := hv
  have hlocks := B.notSynchronized
  subst hsz
  have hD := hD0.self (sz := s.heap.size)
  have CX : cx cJ6_bitCount_0f7a4 (some .int) 1 RJ6 wsJ6_bitCount_0f7a4 p m meth c s ([.int x0] : List Value).toArray D cI cC cR (va_A [] s.heap.size) := ⟨B.exec, B.bytes, B.returns, hml, atoms_spec (ws := wsJ6_bitCount_0f7a4) B.pre, findClass_of_methodNamed B.named, hlocks, hKw, fun q h => Or.inr h⟩
  obtain ⟨hx, hb, hr, -, hts, hown, -, -, hA⟩ := id CX
  have hwd : wd D (va_A [] s.heap.size) s [] s.heap [] := ⟨hP, hD, va_S.rf⟩
  have hl := lv_entry ([.int x0]) (n := 1) (Nat.le_of_ble_eq_true rfl)
  rw [lg_entry_eq]
  generalize (lg_sl ([.int x0]) ++ List.replicate (1 - (lg_sl ([.int x0])).length) Slot.unset).toArray = ls at hl ⊢
  have hl : lv_has ls 1 [(0, .int x0)] := hl
  have HR : ∀ (r : Int32) {H : Heap} {locs : List Loc} {ls : Array Slot} {pc : Nat}, Q r → wd D (va_A [] s.heap.size) s [] H locs → decode cJ6_bitCount_0f7a4 pc = .ok (.ireturn, 1) → W p l e (headSpec wsJ6_bitCount_0f7a4 rm_J6_bitCount_0f7a4).room s m ([.int x0] : List Value).toArray below meth c H locs 0 0 (MQ below (QiW D (fun (r : Int32) (u : Unit) => Q r ) (fun _ => []) [] s.heap.size) ([.int x0] : List Value).toArray s 0 0 (va_A [] s.heap.size)) (F0 m pc ls [.int r]) := by
    intro r H locs ls pc hq hw9 hd9
    exact W.iret (v := r) hx hb hr (fun t ht hW => ⟨⟨r, (), rfl, hq, by rw [ht]; exact hw9.1, hw9.2.1⟩, hw9.2.2.F ht⟩) hw9.2.2.2.2 hd9
  unfold wp_J6_bitCount_0f7a4 at hw
  refine lv_iload_n hx hb dJ6_bitCount_0f7a4_0 rfl (lv_at hl 0 rfl) ?_
  refine lv_iload_n hx hb dJ6_bitCount_0f7a4_1 rfl (lv_at hl 0 rfl) ?_
  refine lv_iconst (v := (nI 1)) hx hb dJ6_bitCount_0f7a4_2 rfl ?_
  refine lv_iushr (v := (x0.toUInt32 >>> ((nI 1).toUInt32 &&& Int32.toUInt32 31)).toInt32) hx hb dJ6_bitCount_0f7a4_3 rfl ?_
  refine lv_ldcw (v := (nI 1431655765)) hx hb hown (hts (.constant RJ6 265 (1431655765)) (List.mem_of_getElem? (i := 1) rfl)) dJ6_bitCount_0f7a4_4 ?_
  refine lv_iand hx hb dJ6_bitCount_0f7a4_7 ?_
  refine lv_isub hx hb dJ6_bitCount_0f7a4_8 ?_
  refine lv_topi (fun x0_1 e_x0_1 => ?_)
  replace hw := hw x0_1 e_x0_1
  refine lv_istore_n (lv' := [(0, .int x0_1)]) hx hb dJ6_bitCount_0f7a4_9 rfl hl (by decide) rfl (fun ls hl => ?_)
  refine lv_iload_n hx hb dJ6_bitCount_0f7a4_10 rfl (lv_at hl 0 rfl) ?_
  refine lv_ldcw (v := (nI 858993459)) hx hb hown (hts (.constant RJ6 266 (858993459)) (List.mem_of_getElem? (i := 2) rfl)) dJ6_bitCount_0f7a4_11 ?_
  refine lv_iand hx hb dJ6_bitCount_0f7a4_14 ?_
  refine lv_iload_n hx hb dJ6_bitCount_0f7a4_15 rfl (lv_at hl 0 rfl) ?_
  refine lv_iconst (v := (nI 2)) hx hb dJ6_bitCount_0f7a4_16 rfl ?_
  refine lv_iushr (v := (x0_1.toUInt32 >>> ((nI 2).toUInt32 &&& Int32.toUInt32 31)).toInt32) hx hb dJ6_bitCount_0f7a4_17 rfl ?_
  refine lv_ldcw (v := (nI 858993459)) hx hb hown (hts (.constant RJ6 266 (858993459)) (List.mem_of_getElem? (i := 2) rfl)) dJ6_bitCount_0f7a4_18 ?_
  refine lv_iand hx hb dJ6_bitCount_0f7a4_21 ?_
  refine lv_iadd hx hb dJ6_bitCount_0f7a4_22 ?_
  refine lv_topi (fun x0_2 e_x0_2 => ?_)
  replace hw := hw x0_2 e_x0_2
  refine lv_istore_n (lv' := [(0, .int x0_2)]) hx hb dJ6_bitCount_0f7a4_23 rfl hl (by decide) rfl (fun ls hl => ?_)
  refine lv_iload_n hx hb dJ6_bitCount_0f7a4_24 rfl (lv_at hl 0 rfl) ?_
  refine lv_iload_n hx hb dJ6_bitCount_0f7a4_25 rfl (lv_at hl 0 rfl) ?_
  refine lv_iconst (v := (nI 4)) hx hb dJ6_bitCount_0f7a4_26 rfl ?_
  refine lv_iushr (v := (x0_2.toUInt32 >>> ((nI 4).toUInt32 &&& Int32.toUInt32 31)).toInt32) hx hb dJ6_bitCount_0f7a4_27 rfl ?_
  refine lv_iadd hx hb dJ6_bitCount_0f7a4_28 ?_
  refine lv_ldcw (v := (nI 252645135)) hx hb hown (hts (.constant RJ6 267 (252645135)) (List.mem_of_getElem? (i := 3) rfl)) dJ6_bitCount_0f7a4_29 ?_
  refine lv_iand hx hb dJ6_bitCount_0f7a4_32 ?_
  refine lv_topi (fun x0_3 e_x0_3 => ?_)
  replace hw := hw x0_3 e_x0_3
  refine lv_istore_n (lv' := [(0, .int x0_3)]) hx hb dJ6_bitCount_0f7a4_33 rfl hl (by decide) rfl (fun ls hl => ?_)
  refine lv_iload_n hx hb dJ6_bitCount_0f7a4_34 rfl (lv_at hl 0 rfl) ?_
  refine lv_iload_n hx hb dJ6_bitCount_0f7a4_35 rfl (lv_at hl 0 rfl) ?_
  refine lv_bipush (v := (nI 8)) hx hb dJ6_bitCount_0f7a4_36 rfl ?_
  refine lv_iushr (v := (x0_3.toUInt32 >>> ((nI 8).toUInt32 &&& Int32.toUInt32 31)).toInt32) hx hb dJ6_bitCount_0f7a4_38 rfl ?_
  refine lv_iadd hx hb dJ6_bitCount_0f7a4_39 ?_
  refine lv_topi (fun x0_4 e_x0_4 => ?_)
  replace hw := hw x0_4 e_x0_4
  refine lv_istore_n (lv' := [(0, .int x0_4)]) hx hb dJ6_bitCount_0f7a4_40 rfl hl (by decide) rfl (fun ls hl => ?_)
  refine lv_iload_n hx hb dJ6_bitCount_0f7a4_41 rfl (lv_at hl 0 rfl) ?_
  refine lv_iload_n hx hb dJ6_bitCount_0f7a4_42 rfl (lv_at hl 0 rfl) ?_
  refine lv_bipush (v := (nI 16)) hx hb dJ6_bitCount_0f7a4_43 rfl ?_
  refine lv_iushr (v := (x0_4.toUInt32 >>> ((nI 16).toUInt32 &&& Int32.toUInt32 31)).toInt32) hx hb dJ6_bitCount_0f7a4_45 rfl ?_
  refine lv_iadd hx hb dJ6_bitCount_0f7a4_46 ?_
  refine lv_topi (fun x0_5 e_x0_5 => ?_)
  replace hw := hw x0_5 e_x0_5
  refine lv_istore_n (lv' := [(0, .int x0_5)]) hx hb dJ6_bitCount_0f7a4_47 rfl hl (by decide) rfl (fun ls hl => ?_)
  refine lv_iload_n hx hb dJ6_bitCount_0f7a4_48 rfl (lv_at hl 0 rfl) ?_
  refine lv_bipush (v := (nI 63)) hx hb dJ6_bitCount_0f7a4_49 rfl ?_
  refine lv_iand hx hb dJ6_bitCount_0f7a4_51 ?_
  exact HR (x0_5 &&& (nI 63)) hw hwd dJ6_bitCount_0f7a4_52
abbrev rm_X6_isWithin : Room := { frames := 0, cells := 0, slots := 0, locals := 0 }
def wp_X6_isWithin  (x0 : Int32) (x1 : Int32) (x2 : Int32) (Q : Int32 → Prop) : Prop := ((x0 < x1 → Q (nI 0)) ∧ (¬ x0 < x1 → ((x2 < x0 → Q (nI 0)) ∧ (¬ x2 < x0 → Q (nI 1)))))
set_option maxRecDepth 100000 in
set_option maxHeartbeats 4000000 in
theorem c_X6_isWithin (l : Launch) {D : va_G} {cI cC cR : ClassId} (sz : Nat) (x0 : Int32) (x1 : Int32) (x2 : Int32) {Q : Int32 → Prop} (hw : wp_X6_isWithin x0 x1 x2 Q) : Met l yX6_isWithin wsX6_isWithin rm_X6_isWithin (PcW D cI cC cR [.int x0, .int x1, .int x2] [] sz) (QiW D (fun (r : Int32) (u : Unit) => Q r ) (fun _ => []) [] sz) 0 0 (va_A [] sz) := by
  refine Met.ofW (cc := cX6_isWithin) (maxL := 3) (ret := (some .boolean)) (by decide) rfl ?_
  intro p e s m args below meth c s₁ B hml hv
  obtain ⟨rfl, hsz, hP, hKw, hD0⟩ := hv
  have hlocks := B.notSynchronized
  subst hsz
  have hD := hD0.self (sz := s.heap.size)
  have CX : cx cX6_isWithin (some .boolean) 3 RX6 wsX6_isWithin p m meth c s ([.int x0, .int x1, .int x2] : List Value).toArray D cI cC cR (va_A [] s.heap.size) := ⟨B.exec, B.bytes, B.returns, hml, atoms_spec (ws := wsX6_isWithin) B.pre, findClass_of_methodNamed B.named, hlocks, hKw, fun q h => Or.inr h⟩
  obtain ⟨hx, hb, hr, -, hts, hown, -, -, hA⟩ := id CX
  have hwd : wd D (va_A [] s.heap.size) s [] s.heap [] := ⟨hP, hD, va_S.rf⟩
  have hl := lv_entry ([.int x0, .int x1, .int x2]) (n := 3) (Nat.le_of_ble_eq_true rfl)
  rw [lg_entry_eq]
  generalize (lg_sl ([.int x0, .int x1, .int x2]) ++ List.replicate (3 - (lg_sl ([.int x0, .int x1, .int x2])).length) Slot.unset).toArray = ls at hl ⊢
  have hl : lv_has ls 3 [(0, .int x0), (1, .int x1), (2, .int x2)] := hl
  have HR : ∀ (r : Int32) {H : Heap} {locs : List Loc} {ls : Array Slot} {pc : Nat}, Q r → wd D (va_A [] s.heap.size) s [] H locs → narrow .boolean (.int r) = .int r → decode cX6_isWithin pc = .ok (.ireturn, 1) → W p l e (headSpec wsX6_isWithin rm_X6_isWithin).room s m ([.int x0, .int x1, .int x2] : List Value).toArray below meth c H locs 0 0 (MQ below (QiW D (fun (r : Int32) (u : Unit) => Q r ) (fun _ => []) [] s.heap.size) ([.int x0, .int x1, .int x2] : List Value).toArray s 0 0 (va_A [] s.heap.size)) (F0 m pc ls [.int r]) := by
    intro r H locs ls pc hq hw9 hn9 hd9
    exact W.zret (v := r) hx hb hr hn9 (fun t ht hW => ⟨⟨r, (), rfl, hq, by rw [ht]; exact hw9.1, hw9.2.1⟩, hw9.2.2.F ht⟩) hw9.2.2.2.2 hd9
  unfold wp_X6_isWithin at hw
  refine lv_iload_n hx hb dX6_isWithin_0 rfl (lv_at hl 1 rfl) ?_
  refine lv_iload_n hx hb dX6_isWithin_1 rfl (lv_at hl 0 rfl) ?_
  refine lv_icmp_gt (tgt := 14) hx hb dX6_isWithin_2 (by decide) (fun c1 => ?_) (fun c1 => ?_)
  · replace hw := hw.1 c1
    refine lv_iconst (v := (nI 0)) hx hb dX6_isWithin_14 rfl ?_
    exact HR (nI 0) hw hwd rfl dX6_isWithin_15
  · replace hw := hw.2 c1
    refine lv_iload_n hx hb dX6_isWithin_5 rfl (lv_at hl 0 rfl) ?_
    refine lv_iload_n hx hb dX6_isWithin_6 rfl (lv_at hl 2 rfl) ?_
    refine lv_icmp_gt (tgt := 14) hx hb dX6_isWithin_7 (by decide) (fun c2 => ?_) (fun c2 => ?_)
    · replace hw := hw.1 c2
      refine lv_iconst (v := (nI 0)) hx hb dX6_isWithin_14 rfl ?_
      exact HR (nI 0) hw hwd rfl dX6_isWithin_15
    · replace hw := hw.2 c2
      refine lv_iconst (v := (nI 1)) hx hb dX6_isWithin_10 rfl ?_
      refine lv_goto (tgt := 15) hx hb dX6_isWithin_11 (by decide) ?_
      exact HR (nI 1) hw hwd rfl dX6_isWithin_15
abbrev rm_X6_isFloor : Room := { frames := 0, cells := 0, slots := 0, locals := 0 }
def wp_X6_isFloor  (x0 : Int32) (Q : Int32 → Prop) : Prop := ((x0 < (nI 0) → Q (nI 0)) ∧ (¬ x0 < (nI 0) → (((nI 10) ≤ x0 → Q (nI 0)) ∧ (¬ (nI 10) ≤ x0 → Q (nI 1)))))
set_option maxRecDepth 100000 in
set_option maxHeartbeats 4000000 in
theorem c_X6_isFloor (l : Launch) {D : va_G} {cI cC cR : ClassId} (sz : Nat) (x0 : Int32) {Q : Int32 → Prop} (hw : wp_X6_isFloor x0 Q) : Met l yX6_isFloor wsX6_isFloor rm_X6_isFloor (PcW D cI cC cR [.int x0] [] sz) (QiW D (fun (r : Int32) (u : Unit) => Q r ) (fun _ => []) [] sz) 0 0 (va_A [] sz) := by
  refine Met.ofW (cc := cX6_isFloor) (maxL := 1) (ret := (some .boolean)) (by decide) rfl ?_
  intro p e s m args below meth c s₁ B hml hv
  obtain ⟨rfl, hsz, hP, hKw, hD0⟩ := hv
  have hlocks := B.notSynchronized
  subst hsz
  have hD := hD0.self (sz := s.heap.size)
  have CX : cx cX6_isFloor (some .boolean) 1 RX6 wsX6_isFloor p m meth c s ([.int x0] : List Value).toArray D cI cC cR (va_A [] s.heap.size) := ⟨B.exec, B.bytes, B.returns, hml, atoms_spec (ws := wsX6_isFloor) B.pre, findClass_of_methodNamed B.named, hlocks, hKw, fun q h => Or.inr h⟩
  obtain ⟨hx, hb, hr, -, hts, hown, -, -, hA⟩ := id CX
  have hwd : wd D (va_A [] s.heap.size) s [] s.heap [] := ⟨hP, hD, va_S.rf⟩
  have hl := lv_entry ([.int x0]) (n := 1) (Nat.le_of_ble_eq_true rfl)
  rw [lg_entry_eq]
  generalize (lg_sl ([.int x0]) ++ List.replicate (1 - (lg_sl ([.int x0])).length) Slot.unset).toArray = ls at hl ⊢
  have hl : lv_has ls 1 [(0, .int x0)] := hl
  have HR : ∀ (r : Int32) {H : Heap} {locs : List Loc} {ls : Array Slot} {pc : Nat}, Q r → wd D (va_A [] s.heap.size) s [] H locs → narrow .boolean (.int r) = .int r → decode cX6_isFloor pc = .ok (.ireturn, 1) → W p l e (headSpec wsX6_isFloor rm_X6_isFloor).room s m ([.int x0] : List Value).toArray below meth c H locs 0 0 (MQ below (QiW D (fun (r : Int32) (u : Unit) => Q r ) (fun _ => []) [] s.heap.size) ([.int x0] : List Value).toArray s 0 0 (va_A [] s.heap.size)) (F0 m pc ls [.int r]) := by
    intro r H locs ls pc hq hw9 hn9 hd9
    exact W.zret (v := r) hx hb hr hn9 (fun t ht hW => ⟨⟨r, (), rfl, hq, by rw [ht]; exact hw9.1, hw9.2.1⟩, hw9.2.2.F ht⟩) hw9.2.2.2.2 hd9
  unfold wp_X6_isFloor at hw
  refine lv_iconst (v := (nI 0)) hx hb dX6_isFloor_0 rfl ?_
  refine lv_iload_n hx hb dX6_isFloor_1 rfl (lv_at hl 0 rfl) ?_
  refine lv_icmp_gt (tgt := 15) hx hb dX6_isFloor_2 (by decide) (fun c1 => ?_) (fun c1 => ?_)
  · replace hw := hw.1 c1
    refine lv_iconst (v := (nI 0)) hx hb dX6_isFloor_15 rfl ?_
    exact HR (nI 0) hw hwd rfl dX6_isFloor_16
  · replace hw := hw.2 c1
    refine lv_iload_n hx hb dX6_isFloor_5 rfl (lv_at hl 0 rfl) ?_
    refine lv_bipush (v := (nI 10)) hx hb dX6_isFloor_6 rfl ?_
    refine lv_icmp_ge (tgt := 15) hx hb dX6_isFloor_8 (by decide) (fun c2 => ?_) (fun c2 => ?_)
    · replace hw := hw.1 c2
      refine lv_iconst (v := (nI 0)) hx hb dX6_isFloor_15 rfl ?_
      exact HR (nI 0) hw hwd rfl dX6_isFloor_16
    · replace hw := hw.2 c2
      refine lv_iconst (v := (nI 1)) hx hb dX6_isFloor_11 rfl ?_
      refine lv_goto (tgt := 16) hx hb dX6_isFloor_12 (by decide) ?_
      exact HR (nI 1) hw hwd rfl dX6_isFloor_16
abbrev rm_X6_isPerson : Room := { frames := 0, cells := 0, slots := 0, locals := 0 }
def wp_X6_isPerson  (x0 : Int32) (Q : Int32 → Prop) : Prop := ((x0 < (nI 0) → Q (nI 0)) ∧ (¬ x0 < (nI 0) → (((nI 16) ≤ x0 → Q (nI 0)) ∧ (¬ (nI 16) ≤ x0 → Q (nI 1)))))
set_option maxRecDepth 100000 in
set_option maxHeartbeats 4000000 in
theorem c_X6_isPerson (l : Launch) {D : va_G} {cI cC cR : ClassId} (sz : Nat) (x0 : Int32) {Q : Int32 → Prop} (hw : wp_X6_isPerson x0 Q) : Met l yX6_isPerson wsX6_isPerson rm_X6_isPerson (PcW D cI cC cR [.int x0] [] sz) (QiW D (fun (r : Int32) (u : Unit) => Q r ) (fun _ => []) [] sz) 0 0 (va_A [] sz) := by
  refine Met.ofW (cc := cX6_isPerson) (maxL := 1) (ret := (some .boolean)) (by decide) rfl ?_
  intro p e s m args below meth c s₁ B hml hv
  obtain ⟨rfl, hsz, hP, hKw, hD0⟩ := hv
  have hlocks := B.notSynchronized
  subst hsz
  have hD := hD0.self (sz := s.heap.size)
  have CX : cx cX6_isPerson (some .boolean) 1 RX6 wsX6_isPerson p m meth c s ([.int x0] : List Value).toArray D cI cC cR (va_A [] s.heap.size) := ⟨B.exec, B.bytes, B.returns, hml, atoms_spec (ws := wsX6_isPerson) B.pre, findClass_of_methodNamed B.named, hlocks, hKw, fun q h => Or.inr h⟩
  obtain ⟨hx, hb, hr, -, hts, hown, -, -, hA⟩ := id CX
  have hwd : wd D (va_A [] s.heap.size) s [] s.heap [] := ⟨hP, hD, va_S.rf⟩
  have hl := lv_entry ([.int x0]) (n := 1) (Nat.le_of_ble_eq_true rfl)
  rw [lg_entry_eq]
  generalize (lg_sl ([.int x0]) ++ List.replicate (1 - (lg_sl ([.int x0])).length) Slot.unset).toArray = ls at hl ⊢
  have hl : lv_has ls 1 [(0, .int x0)] := hl
  have HR : ∀ (r : Int32) {H : Heap} {locs : List Loc} {ls : Array Slot} {pc : Nat}, Q r → wd D (va_A [] s.heap.size) s [] H locs → narrow .boolean (.int r) = .int r → decode cX6_isPerson pc = .ok (.ireturn, 1) → W p l e (headSpec wsX6_isPerson rm_X6_isPerson).room s m ([.int x0] : List Value).toArray below meth c H locs 0 0 (MQ below (QiW D (fun (r : Int32) (u : Unit) => Q r ) (fun _ => []) [] s.heap.size) ([.int x0] : List Value).toArray s 0 0 (va_A [] s.heap.size)) (F0 m pc ls [.int r]) := by
    intro r H locs ls pc hq hw9 hn9 hd9
    exact W.zret (v := r) hx hb hr hn9 (fun t ht hW => ⟨⟨r, (), rfl, hq, by rw [ht]; exact hw9.1, hw9.2.1⟩, hw9.2.2.F ht⟩) hw9.2.2.2.2 hd9
  unfold wp_X6_isPerson at hw
  refine lv_iconst (v := (nI 0)) hx hb dX6_isPerson_0 rfl ?_
  refine lv_iload_n hx hb dX6_isPerson_1 rfl (lv_at hl 0 rfl) ?_
  refine lv_icmp_gt (tgt := 15) hx hb dX6_isPerson_2 (by decide) (fun c1 => ?_) (fun c1 => ?_)
  · replace hw := hw.1 c1
    refine lv_iconst (v := (nI 0)) hx hb dX6_isPerson_15 rfl ?_
    exact HR (nI 0) hw hwd rfl dX6_isPerson_16
  · replace hw := hw.2 c1
    refine lv_iload_n hx hb dX6_isPerson_5 rfl (lv_at hl 0 rfl) ?_
    refine lv_bipush (v := (nI 16)) hx hb dX6_isPerson_6 rfl ?_
    refine lv_icmp_ge (tgt := 15) hx hb dX6_isPerson_8 (by decide) (fun c2 => ?_) (fun c2 => ?_)
    · replace hw := hw.1 c2
      refine lv_iconst (v := (nI 0)) hx hb dX6_isPerson_15 rfl ?_
      exact HR (nI 0) hw hwd rfl dX6_isPerson_16
    · replace hw := hw.2 c2
      refine lv_iconst (v := (nI 1)) hx hb dX6_isPerson_11 rfl ?_
      refine lv_goto (tgt := 16) hx hb dX6_isPerson_12 (by decide) ?_
      exact HR (nI 1) hw hwd rfl dX6_isPerson_16
abbrev rm_X6_isDay : Room := { frames := 0, cells := 0, slots := 0, locals := 0 }
def wp_X6_isDay  (x0 : Int32) (Q : Int32 → Prop) : Prop := ((x0 < (nI 0) → Q (nI 0)) ∧ (¬ x0 < (nI 0) → (((nI 399) < x0 → Q (nI 0)) ∧ (¬ (nI 399) < x0 → Q (nI 1)))))
set_option maxRecDepth 100000 in
set_option maxHeartbeats 4000000 in
theorem c_X6_isDay (l : Launch) {D : va_G} {cI cC cR : ClassId} (sz : Nat) (x0 : Int32) {Q : Int32 → Prop} (hw : wp_X6_isDay x0 Q) : Met l yX6_isDay wsX6_isDay rm_X6_isDay (PcW D cI cC cR [.int x0] [] sz) (QiW D (fun (r : Int32) (u : Unit) => Q r ) (fun _ => []) [] sz) 0 0 (va_A [] sz) := by
  refine Met.ofW (cc := cX6_isDay) (maxL := 1) (ret := (some .boolean)) (by decide) rfl ?_
  intro p e s m args below meth c s₁ B hml hv
  obtain ⟨rfl, hsz, hP, hKw, hD0⟩ := hv
  have hlocks := B.notSynchronized
  subst hsz
  have hD := hD0.self (sz := s.heap.size)
  have CX : cx cX6_isDay (some .boolean) 1 RX6 wsX6_isDay p m meth c s ([.int x0] : List Value).toArray D cI cC cR (va_A [] s.heap.size) := ⟨B.exec, B.bytes, B.returns, hml, atoms_spec (ws := wsX6_isDay) B.pre, findClass_of_methodNamed B.named, hlocks, hKw, fun q h => Or.inr h⟩
  obtain ⟨hx, hb, hr, -, hts, hown, -, -, hA⟩ := id CX
  have hwd : wd D (va_A [] s.heap.size) s [] s.heap [] := ⟨hP, hD, va_S.rf⟩
  have hl := lv_entry ([.int x0]) (n := 1) (Nat.le_of_ble_eq_true rfl)
  rw [lg_entry_eq]
  generalize (lg_sl ([.int x0]) ++ List.replicate (1 - (lg_sl ([.int x0])).length) Slot.unset).toArray = ls at hl ⊢
  have hl : lv_has ls 1 [(0, .int x0)] := hl
  have HR : ∀ (r : Int32) {H : Heap} {locs : List Loc} {ls : Array Slot} {pc : Nat}, Q r → wd D (va_A [] s.heap.size) s [] H locs → narrow .boolean (.int r) = .int r → decode cX6_isDay pc = .ok (.ireturn, 1) → W p l e (headSpec wsX6_isDay rm_X6_isDay).room s m ([.int x0] : List Value).toArray below meth c H locs 0 0 (MQ below (QiW D (fun (r : Int32) (u : Unit) => Q r ) (fun _ => []) [] s.heap.size) ([.int x0] : List Value).toArray s 0 0 (va_A [] s.heap.size)) (F0 m pc ls [.int r]) := by
    intro r H locs ls pc hq hw9 hn9 hd9
    exact W.zret (v := r) hx hb hr hn9 (fun t ht hW => ⟨⟨r, (), rfl, hq, by rw [ht]; exact hw9.1, hw9.2.1⟩, hw9.2.2.F ht⟩) hw9.2.2.2.2 hd9
  unfold wp_X6_isDay at hw
  refine lv_iconst (v := (nI 0)) hx hb dX6_isDay_0 rfl ?_
  refine lv_iload_n hx hb dX6_isDay_1 rfl (lv_at hl 0 rfl) ?_
  refine lv_icmp_gt (tgt := 16) hx hb dX6_isDay_2 (by decide) (fun c1 => ?_) (fun c1 => ?_)
  · replace hw := hw.1 c1
    refine lv_iconst (v := (nI 0)) hx hb dX6_isDay_16 rfl ?_
    exact HR (nI 0) hw hwd rfl dX6_isDay_17
  · replace hw := hw.2 c1
    refine lv_iload_n hx hb dX6_isDay_5 rfl (lv_at hl 0 rfl) ?_
    refine lv_sipush (v := (nI 399)) hx hb dX6_isDay_6 rfl ?_
    refine lv_icmp_gt (tgt := 16) hx hb dX6_isDay_9 (by decide) (fun c2 => ?_) (fun c2 => ?_)
    · replace hw := hw.1 c2
      refine lv_iconst (v := (nI 0)) hx hb dX6_isDay_16 rfl ?_
      exact HR (nI 0) hw hwd rfl dX6_isDay_17
    · replace hw := hw.2 c2
      refine lv_iconst (v := (nI 1)) hx hb dX6_isDay_12 rfl ?_
      refine lv_goto (tgt := 17) hx hb dX6_isDay_13 (by decide) ?_
      exact HR (nI 1) hw hwd rfl dX6_isDay_17
abbrev rm_X6_isIn : Room := { frames := 0, cells := 0, slots := 0, locals := 0 }
def wp_X6_isIn  (x0 : Int32) (x1 : Int32) (Q : Int32 → Prop) : Prop := ((((x0 >>> (x1 &&& 31)) &&& (nI 1)) = 0 → Q (nI 0)) ∧ (¬ ((x0 >>> (x1 &&& 31)) &&& (nI 1)) = 0 → Q (nI 1)))
set_option maxRecDepth 100000 in
set_option maxHeartbeats 4000000 in
theorem c_X6_isIn (l : Launch) {D : va_G} {cI cC cR : ClassId} (sz : Nat) (x0 : Int32) (x1 : Int32) {Q : Int32 → Prop} (hw : wp_X6_isIn x0 x1 Q) : Met l yX6_isIn wsX6_isIn rm_X6_isIn (PcW D cI cC cR [.int x0, .int x1] [] sz) (QiW D (fun (r : Int32) (u : Unit) => Q r ) (fun _ => []) [] sz) 0 0 (va_A [] sz) := by
  refine Met.ofW (cc := cX6_isIn) (maxL := 2) (ret := (some .boolean)) (by decide) rfl ?_
  intro p e s m args below meth c s₁ B hml hv
  obtain ⟨rfl, hsz, hP, hKw, hD0⟩ := hv
  have hlocks := B.notSynchronized
  subst hsz
  have hD := hD0.self (sz := s.heap.size)
  have CX : cx cX6_isIn (some .boolean) 2 RX6 wsX6_isIn p m meth c s ([.int x0, .int x1] : List Value).toArray D cI cC cR (va_A [] s.heap.size) := ⟨B.exec, B.bytes, B.returns, hml, atoms_spec (ws := wsX6_isIn) B.pre, findClass_of_methodNamed B.named, hlocks, hKw, fun q h => Or.inr h⟩
  obtain ⟨hx, hb, hr, -, hts, hown, -, -, hA⟩ := id CX
  have hwd : wd D (va_A [] s.heap.size) s [] s.heap [] := ⟨hP, hD, va_S.rf⟩
  have hl := lv_entry ([.int x0, .int x1]) (n := 2) (Nat.le_of_ble_eq_true rfl)
  rw [lg_entry_eq]
  generalize (lg_sl ([.int x0, .int x1]) ++ List.replicate (2 - (lg_sl ([.int x0, .int x1])).length) Slot.unset).toArray = ls at hl ⊢
  have hl : lv_has ls 2 [(0, .int x0), (1, .int x1)] := hl
  have HR : ∀ (r : Int32) {H : Heap} {locs : List Loc} {ls : Array Slot} {pc : Nat}, Q r → wd D (va_A [] s.heap.size) s [] H locs → narrow .boolean (.int r) = .int r → decode cX6_isIn pc = .ok (.ireturn, 1) → W p l e (headSpec wsX6_isIn rm_X6_isIn).room s m ([.int x0, .int x1] : List Value).toArray below meth c H locs 0 0 (MQ below (QiW D (fun (r : Int32) (u : Unit) => Q r ) (fun _ => []) [] s.heap.size) ([.int x0, .int x1] : List Value).toArray s 0 0 (va_A [] s.heap.size)) (F0 m pc ls [.int r]) := by
    intro r H locs ls pc hq hw9 hn9 hd9
    exact W.zret (v := r) hx hb hr hn9 (fun t ht hW => ⟨⟨r, (), rfl, hq, by rw [ht]; exact hw9.1, hw9.2.1⟩, hw9.2.2.F ht⟩) hw9.2.2.2.2 hd9
  unfold wp_X6_isIn at hw
  refine lv_iload_n hx hb dX6_isIn_0 rfl (lv_at hl 0 rfl) ?_
  refine lv_iload_n hx hb dX6_isIn_1 rfl (lv_at hl 1 rfl) ?_
  refine lv_ishr hx hb dX6_isIn_2 ?_
  refine lv_iconst (v := (nI 1)) hx hb dX6_isIn_3 rfl ?_
  refine lv_iand hx hb dX6_isIn_4 ?_
  refine lv_if_eq (tgt := 12) hx hb dX6_isIn_5 (by decide) (fun c1 => ?_) (fun c1 => ?_)
  · replace hw := hw.1 c1
    refine lv_iconst (v := (nI 0)) hx hb dX6_isIn_12 rfl ?_
    exact HR (nI 0) hw hwd rfl dX6_isIn_13
  · replace hw := hw.2 c1
    refine lv_iconst (v := (nI 1)) hx hb dX6_isIn_8 rfl ?_
    refine lv_goto (tgt := 13) hx hb dX6_isIn_9 (by decide) ?_
    exact HR (nI 1) hw hwd rfl dX6_isIn_13
