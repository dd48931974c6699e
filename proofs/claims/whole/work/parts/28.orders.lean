abbrev ww_X3_nextKind (cI cC : ClassId) (oT oT_characters oT_kinds oT_numbers : Nat) (T_length : Int32) (T_at : Int32) (T_orders : Int32) (T_characters : Nat → Int32) : va_W := [(oT, .inr (3, [.ref oT_characters, .int T_length, .int T_at, .int T_orders, .ref oT_kinds, .ref oT_numbers])), (oT_characters, .inl (cC, 80, .inl T_characters))]
abbrev rm_X3_nextKind : Room := { frames := 4, cells := 0, slots := 0, locals := 85 }
def wb_X3_nextKind_2 (T_length : Int32) (T_at : Int32) (T_characters : Nat → Int32) (K_39 : Prop) (Q : Int32 → Prop) : Nat → Int32 → Prop
  | 0, _ => False
  | n + 1, x1 => (((nI 5) ≤ x1 → K_39) ∧ (¬ (nI 5) ≤ x1 → wp_X3_wordOf x1 (fun k2 => wp_J0_isEmpty k2 (fun r3 => ((¬ r3 = 0 → ∀ x1_5, x1_5 = x1 + (nI 1) → wb_X3_nextKind_2 T_length T_at T_characters K_39 Q n x1_5) ∧ (r3 = 0 → wp_J0_charAt k2 (nI 0) (fun r6 => wp_X3_next T_length T_at T_characters (fun r7 => ((¬ r6 = r7 → ∀ x1_9, x1_9 = x1 + (nI 1) → wb_X3_nextKind_2 T_length T_at T_characters K_39 Q n x1_9) ∧ (r6 = r7 → Q x1))))))))))
set_option maxRecDepth 100000 in
set_option maxHeartbeats 4000000 in
theorem blk_X3_nextKind_2 {p : Program} {l : Launch} {e : Env} {s : State} {m : MethodId} {args : Array Value} {below : List Frame} {meth : Method} {c : Code} {D : va_G} {cI cC cR : ClassId} {A : Nat → Prop} {Z : State → Prop} (CX : cx cX3_nextKind (some .int) 3 RX3 wsX3_nextKind p m meth c s args D cI cC cR A) (adK adV : Nat → Nat) (hT : STR adK adV A s s.heap) (oT oT_characters oT_kinds oT_numbers : Nat) (T_length : Int32) (T_at : Int32) (T_orders : Int32) (T_characters : Nat → Int32) {K_39 : Prop} {Q : Int32 → Prop} (HR : ∀ (r : Int32) {H : Heap} {locs : List Loc} {ls : Array Slot} {pc : Nat}, Q r → wd D A s (ww_X3_nextKind cI cC oT oT_characters oT_kinds oT_numbers T_length T_at T_orders T_characters) H locs → decode cX3_nextKind pc = .ok (.ireturn, 1) → W p l e (headSpec wsX3_nextKind rm_X3_nextKind).room s m args below meth c H locs 0 0 Z (F0 m pc ls [.int r])) (HK_39 : K_39 → ∀ (H : Heap) (locs : List Loc) (ls : Array Slot), wd D A s (ww_X3_nextKind cI cC oT oT_characters oT_kinds oT_numbers T_length T_at T_orders T_characters) H locs → lv_has ls 3 [] → W p l e (headSpec wsX3_nextKind rm_X3_nextKind).room s m args below meth c H locs 0 0 Z (F0 m 39 ls [])) : ∀ (n : Nat) (x1 : Int32), wb_X3_nextKind_2 T_length T_at T_characters K_39 Q n x1 → ∀ (H : Heap) (locs : List Loc) (ls : Array Slot), wd D A s (ww_X3_nextKind cI cC oT oT_characters oT_kinds oT_numbers T_length T_at T_orders T_characters) H locs → lv_has ls 3 [(0, .ref oT), (1, .int x1)] → W p l e (headSpec wsX3_nextKind rm_X3_nextKind).room s m args below meth c H locs 0 0 Z (F0 m 2 ls []) := by
  obtain ⟨hx, hb, hr, hml, hts, hown, hlocks, hKw, hA⟩ := id CX
  intro n
  induction n with
  | zero => intro x1 hw; exact False.elim hw
  | succ n ih =>
    intro x1 hw H locs ls hwd hl
    rw [wb_X3_nextKind_2] at hw
    refine lv_iload_n hx hb dX3_nextKind_2 rfl (lv_at hl 1 rfl) ?_
    refine lv_iconst (v := (nI 5)) hx hb dX3_nextKind_3 rfl ?_
    refine lv_icmp_ge (tgt := 39) hx hb dX3_nextKind_4 (by decide) (fun c1 => ?_) (fun c1 => ?_)
    · replace hw := hw.1 c1
      exact HK_39  hw _ _ _ hwd (lv_sub hl [] rfl)
    · replace hw := hw.2 c1
      refine lv_iload_n hx hb dX3_nextKind_7 rfl (lv_at hl 1 rfl) ?_
      refine kcSsr (rest := []) (As := [.int x1]) ⟨Nat.le_of_ble_eq_true rfl, Nat.le_of_ble_eq_true rfl⟩ ⟨hx, hb, hml, hown, hts⟩ (c_X3_wordOf l adK adV H.size x1 hw) (va_cwS 1 hts gX3_nextKind_X3_wordOf rfl rfl rfl hd_X3_wordOf ⟨Nat.le_of_ble_eq_true rfl, Nat.le_of_ble_eq_true rfl⟩) hKw hA hwd hT rfl hl.1 rfl (lv_room (Nat.le_of_ble_eq_true rfl)) dX3_nextKind_8 (fun k2 H locs hw hwd => ?_)
      try dsimp only at hw
      refine lv_astore_n (lv' := [(2, .ref (adK k2)), (0, .ref oT), (1, .int x1)]) hx hb dX3_nextKind_11 rfl hl (by decide) rfl (fun ls hl => ?_)
      refine lv_aload_n hx hb dX3_nextKind_12 rfl (lv_at hl 0 rfl) ?_
      have hi_r3 := k_isEmpty_lt hw
      refine kcK (rest := []) (As := []) ⟨Nat.le_of_ble_eq_true rfl, Nat.le_of_ble_eq_true rfl⟩ ⟨hx, hb, hml, hown, hts⟩ hi_r3 (k_isEmpty l adK adV H.size k2 hw) (cwV 0 hts gX3_nextKind_J0_isEmpty_aae02 rfl rfl rfl ⟨rfl, hd_J0_isEmpty_aae02⟩ ⟨Nat.le_of_ble_eq_true rfl, Nat.le_of_ble_eq_true rfl⟩) hKw hA hwd hT rfl hl.1 rfl (lv_room (Nat.le_of_ble_eq_true rfl)) dX3_nextKind_13 (fun r3 H locs hw hwd => ?_)
      try dsimp only at hw
      refine lv_if_ne (tgt := 33) hx hb dX3_nextKind_16 (by decide) (fun c4 => ?_) (fun c4 => ?_)
      · replace hw := hw.1 c4
        obtain ⟨x1_5, e_x1_5⟩ : ∃ y : Int32, y = x1 + (nI 1) := ⟨_, rfl⟩
        replace hw := hw x1_5 e_x1_5
        refine lv_iinc (v := x1_5) (lv' := [(1, .int x1_5), (2, .ref (adK k2)), (0, .ref oT)]) hx hb dX3_nextKind_33 hl (k := 2) rfl (by rw [e_x1_5]; rfl) (by decide) rfl (fun ls hl => ?_)
        refine lv_goto (tgt := 2) hx hb dX3_nextKind_36 (by decide) ?_
        exact ih x1_5 hw _ _ _ hwd (lv_sub hl [2, 0] rfl)
      · replace hw := hw.2 c4
        refine lv_aload_n hx hb dX3_nextKind_19 rfl (lv_at hl 0 rfl) ?_
        refine lv_iconst (v := (nI 0)) hx hb dX3_nextKind_20 rfl ?_
        have hi_r6 := k_charAt_lt hw
        refine kcK (rest := []) (As := [.int (nI 0)]) ⟨Nat.le_of_ble_eq_true rfl, Nat.le_of_ble_eq_true rfl⟩ ⟨hx, hb, hml, hown, hts⟩ hi_r6 (k_charAt l adK adV H.size k2 (nI 0) hw) (cwV 1 hts gX3_nextKind_J0_charAt_5068e rfl rfl rfl ⟨rfl, hd_J0_charAt_5068e⟩ ⟨Nat.le_of_ble_eq_true rfl, Nat.le_of_ble_eq_true rfl⟩) hKw hA hwd hT rfl hl.1 rfl (lv_room (Nat.le_of_ble_eq_true rfl)) dX3_nextKind_21 (fun r6 H locs hw hwd => ?_)
        try dsimp only at hw
        refine lv_aload_n hx hb dX3_nextKind_24 rfl (lv_at hl 1 rfl) ?_
        refine kcVi (W1 := (fun u => (ww_X3_nextKind cI cC oT oT_characters oT_kinds oT_numbers T_length T_at T_orders T_characters))) (rest := [.int r6]) (As := []) ⟨Nat.le_of_ble_eq_true rfl, Nat.le_of_ble_eq_true rfl⟩ ⟨hx, hb, hml, hown, hts⟩ (c_X3_next l oT oT_characters oT_kinds oT_numbers H.size T_length T_at T_orders T_characters hw) (cwV 0 hts gX3_nextKind_X3_next rfl rfl rfl ⟨rfl, hd_X3_next⟩ ⟨Nat.le_of_ble_eq_true rfl, Nat.le_of_ble_eq_true rfl⟩) hKw hA hwd [0, 1] [] [0, 1] [] rfl rfl rfl rfl (by decide) rfl (fun _ => rfl) 0 3 rfl rfl rfl rfl hl.1 rfl (lv_room (Nat.le_of_ble_eq_true rfl)) dX3_nextKind_25 (fun r7 u H locs hw hwd => ?_)
        try dsimp only at hw
        replace hwd : wd D A s (ww_X3_nextKind cI cC oT oT_characters oT_kinds oT_numbers T_length T_at T_orders T_characters) H locs := hwd
        refine lv_icmp_ne (tgt := 33) hx hb dX3_nextKind_28 (by decide) (fun c8 => ?_) (fun c8 => ?_)
        · replace hw := hw.1 c8
          obtain ⟨x1_9, e_x1_9⟩ : ∃ y : Int32, y = x1 + (nI 1) := ⟨_, rfl⟩
          replace hw := hw x1_9 e_x1_9
          refine lv_iinc (v := x1_9) (lv' := [(1, .int x1_9), (2, .ref (adK k2)), (0, .ref oT)]) hx hb dX3_nextKind_33 hl (k := 2) rfl (by rw [e_x1_9]; rfl) (by decide) rfl (fun ls hl => ?_)
          refine lv_goto (tgt := 2) hx hb dX3_nextKind_36 (by decide) ?_
          exact ih x1_9 hw _ _ _ hwd (lv_sub hl [2, 0] rfl)
        · replace hw := hw.2 c8
          refine lv_iload_n hx hb dX3_nextKind_31 rfl (lv_at hl 2 rfl) ?_
          exact HR x1 hw hwd dX3_nextKind_32
def wp_X3_nextKind (T_length : Int32) (T_at : Int32) (T_characters : Nat → Int32) (Q : Int32 → Prop) : Prop := (∃ n1, wb_X3_nextKind_2 T_length T_at T_characters (Q (-5)) Q n1 (nI 0))
set_option maxRecDepth 100000 in
set_option maxHeartbeats 4000000 in
theorem c_X3_nextKind (l : Launch) {D : va_G} {cI cC cR : ClassId} (adK adV : Nat → Nat) (oT oT_characters oT_kinds oT_numbers : Nat) (sz : Nat) (T_length : Int32) (T_at : Int32) (T_orders : Int32) (T_characters : Nat → Int32) {Q : Int32 → Prop} (hw : wp_X3_nextKind T_length T_at T_characters Q) : Met l yX3_nextKind wsX3_nextKind rm_X3_nextKind (PcS D cI cC cR adK adV [.ref oT] (ww_X3_nextKind cI cC oT oT_characters oT_kinds oT_numbers T_length T_at T_orders T_characters) sz) (QiW D (fun (r : Int32) (u : Unit) => Q r ) (fun u => (ww_X3_nextKind cI cC oT oT_characters oT_kinds oT_numbers T_length T_at T_orders T_characters)) (ww_X3_nextKind cI cC oT oT_characters oT_kinds oT_numbers T_length T_at T_orders T_characters) sz) 0 0 (va_A (ww_X3_nextKind cI cC oT oT_characters oT_kinds oT_numbers T_length T_at T_orders T_characters) sz) := by
  refine Met.ofW (cc := cX3_nextKind) (maxL := 3) (ret := (some .int)) (by decide) rfl ?_
  intro p e s m args below meth c s₁ B hml hv
  obtain ⟨rfl, hsz, hP, hKw, hD0, hT⟩ := hv
  have hlocks := B.notSynchronized
  subst hsz
  have hD := hD0.self (sz := s.heap.size)
  have CX : cx cX3_nextKind (some .int) 3 RX3 wsX3_nextKind p m meth c s ([.ref oT] : List Value).toArray D cI cC cR (va_A (ww_X3_nextKind cI cC oT oT_characters oT_kinds oT_numbers T_length T_at T_orders T_characters) s.heap.size) := ⟨B.exec, B.bytes, B.returns, hml, atoms_spec (ws := wsX3_nextKind) B.pre, findClass_of_methodNamed B.named, hlocks, hKw, fun q h => Or.inr h⟩
  obtain ⟨hx, hb, hr, -, hts, hown, -, -, hA⟩ := id CX
  have hwd : wd D (va_A (ww_X3_nextKind cI cC oT oT_characters oT_kinds oT_numbers T_length T_at T_orders T_characters) s.heap.size) s (ww_X3_nextKind cI cC oT oT_characters oT_kinds oT_numbers T_length T_at T_orders T_characters) s.heap [] := ⟨hP, hD, va_S.rf⟩
  have hl := lv_entry ([.ref oT]) (n := 3) (Nat.le_of_ble_eq_true rfl)
  rw [lg_entry_eq]
  generalize (lg_sl ([.ref oT]) ++ List.replicate (3 - (lg_sl ([.ref oT])).length) Slot.unset).toArray = ls at hl ⊢
  have hl : lv_has ls 3 [(0, .ref oT)] := hl
  have HR : ∀ (r : Int32) {H : Heap} {locs : List Loc} {ls : Array Slot} {pc : Nat}, Q r → wd D (va_A (ww_X3_nextKind cI cC oT oT_characters oT_kinds oT_numbers T_length T_at T_orders T_characters) s.heap.size) s (ww_X3_nextKind cI cC oT oT_characters oT_kinds oT_numbers T_length T_at T_orders T_characters) H locs → decode cX3_nextKind pc = .ok (.ireturn, 1) → W p l e (headSpec wsX3_nextKind rm_X3_nextKind).room s m ([.ref oT] : List Value).toArray below meth c H locs 0 0 (MQ below (QiW D (fun (r : Int32) (u : Unit) => Q r ) (fun u => (ww_X3_nextKind cI cC oT oT_characters oT_kinds oT_numbers T_length T_at T_orders T_characters)) (ww_X3_nextKind cI cC oT oT_characters oT_kinds oT_numbers T_length T_at T_orders T_characters) s.heap.size) ([.ref oT] : List Value).toArray s 0 0 (va_A (ww_X3_nextKind cI cC oT oT_characters oT_kinds oT_numbers T_length T_at T_orders T_characters) s.heap.size)) (F0 m pc ls [.int r]) := by
    intro r H locs ls pc hq hw9 hd9
    exact W.iret (v := r) hx hb hr (fun t ht hW => ⟨⟨r, (), rfl, hq, by rw [ht]; exact hw9.1, hw9.2.1⟩, hw9.2.2.F ht⟩) hw9.2.2.2.2 hd9
  unfold wp_X3_nextKind at hw
  refine lv_iconst (v := (nI 0)) hx hb dX3_nextKind_0 rfl ?_
  refine lv_istore_n (lv' := [(1, .int (nI 0)), (0, .ref oT)]) hx hb dX3_nextKind_1 rfl hl (by decide) rfl (fun ls hl => ?_)
  obtain ⟨n1, hw⟩ := hw
  refine blk_X3_nextKind_2 (CX := CX) (adK := adK) (adV := adV) (hT := hT) (oT := oT) (oT_characters := oT_characters) (oT_kinds := oT_kinds) (oT_numbers := oT_numbers) (T_length := T_length) (T_at := T_at) (T_orders := T_orders) (T_characters := T_characters) (HR := HR) (HK_39 := fun  hw H locs ls hwd hl => ?_) n1 (nI 0) hw _ _ _ hwd (lv_sub hl [1, 0] rfl)
  try dsimp only at hw
  refine lv_bipush (v := (-5)) hx hb dX3_nextKind_39 rfl ?_
  exact HR (-5) hw hwd dX3_nextKind_41
abbrev ww_X3_readWord (cI cC : ClassId) (oT oT_characters oT_kinds oT_numbers : Nat) (T_length : Int32) (T_at : Int32) (T_orders : Int32) (T_characters : Nat → Int32) : va_W := [(oT, .inr (3, [.ref oT_characters, .int T_length, .int T_at, .int T_orders, .ref oT_kinds, .ref oT_numbers])), (oT_characters, .inl (cC, 80, .inl T_characters))]
abbrev rm_X3_readWord : Room := { frames := 4, cells := 0, slots := 0, locals := 85 }
def wb_X3_readWord_2 (T_length : Int32) (T_characters : Nat → Int32) (x1 : Nat) (K_30 : Int32 → Prop) (Q : Int32 → Int32 → Prop) : Nat → Int32 → Int32 → Prop
  | 0, _, _ => False
  | n + 1, T_at, x2 => wp_J0_length x1 (fun r1 => ((r1 ≤ x2 → K_30 T_at) ∧ (¬ r1 ≤ x2 → wp_J0_charAt x1 x2 (fun r3 => wp_X3_readSign T_length T_at T_characters r3 (fun r4 T_at5 => ((¬ r4 = 0 → ∀ x2_7, x2_7 = x2 + (nI 1) → wb_X3_readWord_2 T_length T_characters x1 K_30 Q n T_at5 x2_7) ∧ (r4 = 0 → Q (nI 0) T_at5)))))))
set_option maxRecDepth 100000 in
set_option maxHeartbeats 4000000 in
theorem blk_X3_readWord_2 {p : Program} {l : Launch} {e : Env} {s : State} {m : MethodId} {args : Array Value} {below : List Frame} {meth : Method} {c : Code} {D : va_G} {cI cC cR : ClassId} {A : Nat → Prop} {Z : State → Prop} (CX : cx cX3_readWord (some .boolean) 3 RX3 wsX3_readWord p m meth c s args D cI cC cR A) (adK adV : Nat → Nat) (hT : STR adK adV A s s.heap) (oT oT_characters oT_kinds oT_numbers : Nat) (T_length : Int32) (T_orders : Int32) (T_characters : Nat → Int32) (x1 : Nat) {K_30 : Int32 → Prop} {Q : Int32 → Int32 → Prop} (HR : ∀ (r : Int32) (u0 : Int32) {H : Heap} {locs : List Loc} {ls : Array Slot} {pc : Nat}, Q r u0 → wd D A s (ww_X3_readWord cI cC oT oT_characters oT_kinds oT_numbers T_length u0 T_orders T_characters) H locs → narrow .boolean (.int r) = .int r → decode cX3_readWord pc = .ok (.ireturn, 1) → W p l e (headSpec wsX3_readWord rm_X3_readWord).room s m args below meth c H locs 0 0 Z (F0 m pc ls [.int r])) (HK_30 : ∀ (T_aty : Int32), K_30 T_aty → ∀ (H : Heap) (locs : List Loc) (ls : Array Slot), wd D A s (ww_X3_readWord cI cC oT oT_characters oT_kinds oT_numbers T_length T_aty T_orders T_characters) H locs → lv_has ls 3 [] → W p l e (headSpec wsX3_readWord rm_X3_readWord).room s m args below meth c H locs 0 0 Z (F0 m 30 ls [])) : ∀ (n : Nat) (T_at : Int32) (x2 : Int32), wb_X3_readWord_2 T_length T_characters x1 K_30 Q n T_at x2 → ∀ (H : Heap) (locs : List Loc) (ls : Array Slot), wd D A s (ww_X3_readWord cI cC oT oT_characters oT_kinds oT_numbers T_length T_at T_orders T_characters) H locs → lv_has ls 3 [(0, .ref oT), (1, .ref (adK x1)), (2, .int x2)] → W p l e (headSpec wsX3_readWord rm_X3_readWord).room s m args below meth c H locs 0 0 Z (F0 m 2 ls []) := by
  obtain ⟨hx, hb, hr, hml, hts, hown, hlocks, hKw, hA⟩ := id CX
  intro n
  induction n with
  | zero => intro T_at x2 hw; exact False.elim hw
  | succ n ih =>
    intro T_at x2 hw H locs ls hwd hl
    rw [wb_X3_readWord_2] at hw
    refine lv_iload_n hx hb dX3_readWord_2 rfl (lv_at hl 2 rfl) ?_
    refine lv_aload_n hx hb dX3_readWord_3 rfl (lv_at hl 1 rfl) ?_
    have hi_r1 := k_length_lt hw
    refine kcK (rest := [.int x2]) (As := []) ⟨Nat.le_of_ble_eq_true rfl, Nat.le_of_ble_eq_true rfl⟩ ⟨hx, hb, hml, hown, hts⟩ hi_r1 (k_length l adK adV H.size x1 hw) (cwV 0 hts gX3_readWord_J0_length_8abf5 rfl rfl rfl ⟨rfl, hd_J0_length_8abf5⟩ ⟨Nat.le_of_ble_eq_true rfl, Nat.le_of_ble_eq_true rfl⟩) hKw hA hwd hT rfl hl.1 rfl (lv_room (Nat.le_of_ble_eq_true rfl)) dX3_readWord_4 (fun r1 H locs hw hwd => ?_)
    try dsimp only at hw
    refine lv_icmp_ge (tgt := 30) hx hb dX3_readWord_7 (by decide) (fun c2 => ?_) (fun c2 => ?_)
    · replace hw := hw.1 c2
      exact HK_30 T_at hw _ _ _ hwd (lv_sub hl [] rfl)
    · replace hw := hw.2 c2
      refine lv_aload_n hx hb dX3_readWord_10 rfl (lv_at hl 0 rfl) ?_
      refine lv_aload_n hx hb dX3_readWord_11 rfl (lv_at hl 1 rfl) ?_
      refine lv_iload_n hx hb dX3_readWord_12 rfl (lv_at hl 2 rfl) ?_
      have hi_r3 := k_charAt_lt hw
      refine kcK (rest := [.ref oT]) (As := [.int x2]) ⟨Nat.le_of_ble_eq_true rfl, Nat.le_of_ble_eq_true rfl⟩ ⟨hx, hb, hml, hown, hts⟩ hi_r3 (k_charAt l adK adV H.size x1 x2 hw) (cwV 1 hts gX3_readWord_J0_charAt_5068e rfl rfl rfl ⟨rfl, hd_J0_charAt_5068e⟩ ⟨Nat.le_of_ble_eq_true rfl, Nat.le_of_ble_eq_true rfl⟩) hKw hA hwd hT rfl hl.1 rfl (lv_room (Nat.le_of_ble_eq_true rfl)) dX3_readWord_13 (fun r3 H locs hw hwd => ?_)
      try dsimp only at hw
      refine kcVi (W1 := (fun u => (ww_X3_readWord cI cC oT oT_characters oT_kinds oT_numbers T_length u T_orders T_characters))) (rest := []) (As := [.int r3]) ⟨Nat.le_of_ble_eq_true rfl, Nat.le_of_ble_eq_true rfl⟩ ⟨hx, hb, hml, hown, hts⟩ (c_X3_readSign l oT oT_characters oT_kinds oT_numbers H.size T_length T_at T_orders T_characters r3 hw) (cwV 1 hts gX3_readWord_X3_readSign rfl rfl rfl ⟨rfl, hd_X3_readSign⟩ ⟨Nat.le_of_ble_eq_true rfl, Nat.le_of_ble_eq_true rfl⟩) hKw hA hwd [0, 1] [] [0, 1] [] rfl rfl rfl rfl (by decide) rfl (fun _ => rfl) 0 3 rfl rfl rfl rfl hl.1 rfl (lv_room (Nat.le_of_ble_eq_true rfl)) dX3_readWord_16 (fun r4 u H locs hw hwd => ?_)
      obtain ⟨T_at5, rfl⟩ : ∃ z, z = u := ⟨_, rfl⟩
      try dsimp only at hw
      replace hwd : wd D A s (ww_X3_readWord cI cC oT oT_characters oT_kinds oT_numbers T_length T_at5 T_orders T_characters) H locs := hwd
      refine lv_if_ne (tgt := 24) hx hb dX3_readWord_19 (by decide) (fun c6 => ?_) (fun c6 => ?_)
      · replace hw := hw.1 c6
        obtain ⟨x2_7, e_x2_7⟩ : ∃ y : Int32, y = x2 + (nI 1) := ⟨_, rfl⟩
        replace hw := hw x2_7 e_x2_7
        refine lv_iinc (v := x2_7) (lv' := [(2, .int x2_7), (0, .ref oT), (1, .ref (adK x1))]) hx hb dX3_readWord_24 hl (k := 2) rfl (by rw [e_x2_7]; rfl) (by decide) rfl (fun ls hl => ?_)
        refine lv_goto (tgt := 2) hx hb dX3_readWord_27 (by decide) ?_
        exact ih T_at5 x2_7 hw _ _ _ hwd (lv_sub hl [1, 2, 0] rfl)
      · replace hw := hw.2 c6
        refine lv_iconst (v := (nI 0)) hx hb dX3_readWord_22 rfl ?_
        exact HR (nI 0) T_at5 hw hwd rfl dX3_readWord_23
def wp_X3_readWord (T_length : Int32) (T_at : Int32) (T_characters : Nat → Int32) (x1 : Nat) (Q : Int32 → Int32 → Prop) : Prop := (∃ n1, wb_X3_readWord_2 T_length T_characters x1 (fun T_at2 => Q (nI 1) T_at2) Q n1 T_at (nI 0))
set_option maxRecDepth 100000 in
set_option maxHeartbeats 4000000 in
theorem c_X3_readWord (l : Launch) {D : va_G} {cI cC cR : ClassId} (adK adV : Nat → Nat) (oT oT_characters oT_kinds oT_numbers : Nat) (sz : Nat) (T_length : Int32) (T_at : Int32) (T_orders : Int32) (T_characters : Nat → Int32) (x1 : Nat) {Q : Int32 → Int32 → Prop} (hw : wp_X3_readWord T_length T_at T_characters x1 Q) : Met l yX3_readWord wsX3_readWord rm_X3_readWord (PcS D cI cC cR adK adV [.ref oT, .ref (adK x1)] (ww_X3_readWord cI cC oT oT_characters oT_kinds oT_numbers T_length T_at T_orders T_characters) sz) (QiW D (fun (r : Int32) (u : Int32) => Q r u) (fun u => (ww_X3_readWord cI cC oT oT_characters oT_kinds oT_numbers T_length u T_orders T_characters)) (ww_X3_readWord cI cC oT oT_characters oT_kinds oT_numbers T_length T_at T_orders T_characters) sz) 0 0 (va_A (ww_X3_readWord cI cC oT oT_characters oT_kinds oT_numbers T_length T_at T_orders T_characters) sz) := by
  refine Met.ofW (cc := cX3_readWord) (maxL := 3) (ret := (some .boolean)) (by decide) rfl ?_
  intro p e s m args below meth c s₁ B hml hv
  obtain ⟨rfl, hsz, hP, hKw, hD0, hT⟩ := hv
  have hlocks := B.notSynchronized
  subst hsz
  have hD := hD0.self (sz := s.heap.size)
  have CX : cx cX3_readWord (some .boolean) 3 RX3 wsX3_readWord p m meth c s ([.ref oT, .ref (adK x1)] : List Value).toArray D cI cC cR (va_A (ww_X3_readWord cI cC oT oT_characters oT_kinds oT_numbers T_length T_at T_orders T_characters) s.heap.size) := ⟨B.exec, B.bytes, B.returns, hml, atoms_spec (ws := wsX3_readWord) B.pre, findClass_of_methodNamed B.named, hlocks, hKw, fun q h => Or.inr h⟩
  obtain ⟨hx, hb, hr, -, hts, hown, -, -, hA⟩ := id CX
  have hwd : wd D (va_A (ww_X3_readWord cI cC oT oT_characters oT_kinds oT_numbers T_length T_at T_orders T_characters) s.heap.size) s (ww_X3_readWord cI cC oT oT_characters oT_kinds oT_numbers T_length T_at T_orders T_characters) s.heap [] := ⟨hP, hD, va_S.rf⟩
  have hl := lv_entry ([.ref oT, .ref (adK x1)]) (n := 3) (Nat.le_of_ble_eq_true rfl)
  rw [lg_entry_eq]
  generalize (lg_sl ([.ref oT, .ref (adK x1)]) ++ List.replicate (3 - (lg_sl ([.ref oT, .ref (adK x1)])).length) Slot.unset).toArray = ls at hl ⊢
  have hl : lv_has ls 3 [(0, .ref oT), (1, .ref (adK x1))] := hl
  have HR : ∀ (r : Int32) (u0 : Int32) {H : Heap} {locs : List Loc} {ls : Array Slot} {pc : Nat}, Q r u0 → wd D (va_A (ww_X3_readWord cI cC oT oT_characters oT_kinds oT_numbers T_length T_at T_orders T_characters) s.heap.size) s (ww_X3_readWord cI cC oT oT_characters oT_kinds oT_numbers T_length u0 T_orders T_characters) H locs → narrow .boolean (.int r) = .int r → decode cX3_readWord pc = .ok (.ireturn, 1) → W p l e (headSpec wsX3_readWord rm_X3_readWord).room s m ([.ref oT, .ref (adK x1)] : List Value).toArray below meth c H locs 0 0 (MQ below (QiW D (fun (r : Int32) (u : Int32) => Q r u) (fun u => (ww_X3_readWord cI cC oT oT_characters oT_kinds oT_numbers T_length u T_orders T_characters)) (ww_X3_readWord cI cC oT oT_characters oT_kinds oT_numbers T_length T_at T_orders T_characters) s.heap.size) ([.ref oT, .ref (adK x1)] : List Value).toArray s 0 0 (va_A (ww_X3_readWord cI cC oT oT_characters oT_kinds oT_numbers T_length T_at T_orders T_characters) s.heap.size)) (F0 m pc ls [.int r]) := by
    intro r u0 H locs ls pc hq hw9 hn9 hd9
    exact W.zret (v := r) hx hb hr hn9 (fun t ht hW => ⟨⟨r, u0, rfl, hq, by rw [ht]; exact hw9.1, hw9.2.1⟩, hw9.2.2.F ht⟩) hw9.2.2.2.2 hd9
  unfold wp_X3_readWord at hw
  refine lv_iconst (v := (nI 0)) hx hb dX3_readWord_0 rfl ?_
  refine lv_istore_n (lv' := [(2, .int (nI 0)), (0, .ref oT), (1, .ref (adK x1))]) hx hb dX3_readWord_1 rfl hl (by decide) rfl (fun ls hl => ?_)
  obtain ⟨n1, hw⟩ := hw
  refine blk_X3_readWord_2 (CX := CX) (adK := adK) (adV := adV) (hT := hT) (oT := oT) (oT_characters := oT_characters) (oT_kinds := oT_kinds) (oT_numbers := oT_numbers) (T_length := T_length) (T_orders := T_orders) (T_characters := T_characters) (x1 := x1) (HR := HR) (HK_30 := fun T_at2 hw H locs ls hwd hl => ?_) n1 T_at (nI 0) hw _ _ _ hwd (lv_sub hl [1, 2, 0] rfl)
  try dsimp only at hw
  refine lv_iconst (v := (nI 1)) hx hb dX3_readWord_30 rfl ?_
  exact HR (nI 1) T_at2 hw hwd rfl dX3_readWord_31
abbrev ww_X3_readOrder (cI cC : ClassId) (oT oT_characters oT_kinds oT_numbers : Nat) (T_length : Int32) (T_at : Int32) (T_orders : Int32) (T_characters : Nat → Int32) (T_kinds : Nat → Int32) (T_numbers : Nat → Int32) : va_W := [(oT, .inr (3, [.ref oT_characters, .int T_length, .int T_at, .int T_orders, .ref oT_kinds, .ref oT_numbers])), (oT_characters, .inl (cC, 80, .inl T_characters)), (oT_kinds, .inl (cI, 12, .inl T_kinds)), (oT_numbers, .inl (cI, 36, .inl T_numbers))]
abbrev rm_X3_readOrder : Room := { frames := 5, cells := 0, slots := 0, locals := 107 }
theorem ic_X3_readOrder_X3 : ∀ w ∈ u_ws RX3 TX3 6, w ∈ wsX3_readOrder := by
  intro w h
  simp only [wsX3_readOrder, List.mem_cons, List.mem_append]
  simp only [h, or_true, true_or]
def wb_X3_readOrder_33 (T_length : Int32) (T_characters : Nat → Int32) (T_kinds : Nat → Int32) (x1 : Int32) (x2 : Int32) (K_79 : Int32 → (Nat → Int32) → Prop) (Q : Int32 → Int32 → (Nat → Int32) → (Nat → Int32) → Prop) : Nat → Int32 → (Nat → Int32) → Int32 → Prop
  | 0, _, _, _ => False
  | n + 1, T_at, T_numbers, x3 => (((nI 3) ≤ x3 → K_79 T_at T_numbers) ∧ (¬ (nI 3) ≤ x3 → wp_X3_highestOf x2 x3 (fun r2 => ((r2 = (-5) → K_79 T_at T_numbers) ∧ (¬ r2 = (-5) → wp_X3_readSign T_length T_at T_characters (nI 32) (fun r4 T_at5 => ((r4 = 0 → Q (nI 0) T_at5 T_kinds T_numbers) ∧ (¬ r4 = 0 → wp_X3_readNumber T_length T_at5 T_characters T_numbers ((x1 * (nI 3)) + x3) x2 x3 (fun r7 T_at8 T_numbers9 => ((¬ r7 = 0 → ∀ x3_11, x3_11 = x3 + (nI 1) → wb_X3_readOrder_33 T_length T_characters T_kinds x1 x2 K_79 Q n T_at8 T_numbers9 x3_11) ∧ (r7 = 0 → Q (nI 0) T_at8 T_kinds T_numbers9)))))))))))
set_option maxRecDepth 100000 in
set_option maxHeartbeats 4000000 in
theorem blk_X3_readOrder_33 {p : Program} {l : Launch} {e : Env} {s : State} {m : MethodId} {args : Array Value} {below : List Frame} {meth : Method} {c : Code} {D : va_G} {cI cC cR : ClassId} {A : Nat → Prop} {Z : State → Prop} (CX : cx cX3_readOrder (some .boolean) 4 RX3 wsX3_readOrder p m meth c s args D cI cC cR A) (adK adV : Nat → Nat) (hT : STR adK adV A s s.heap) (oT oT_characters oT_kinds oT_numbers : Nat) (T_length : Int32) (T_orders : Int32) (T_characters : Nat → Int32) (T_kinds : Nat → Int32) (x1 : Int32) (x2 : Int32) {K_79 : Int32 → (Nat → Int32) → Prop} {Q : Int32 → Int32 → (Nat → Int32) → (Nat → Int32) → Prop} (HR : ∀ (r : Int32) (u0 : Int32) (u1 : Nat → Int32) (u2 : Nat → Int32) {H : Heap} {locs : List Loc} {ls : Array Slot} {pc : Nat}, Q r u0 u1 u2 → wd D A s (ww_X3_readOrder cI cC oT oT_characters oT_kinds oT_numbers T_length u0 T_orders T_characters u1 u2) H locs → narrow .boolean (.int r) = .int r → decode cX3_readOrder pc = .ok (.ireturn, 1) → W p l e (headSpec wsX3_readOrder rm_X3_readOrder).room s m args below meth c H locs 0 0 Z (F0 m pc ls [.int r])) (HK_79 : ∀ (T_aty : Int32) (T_numbersy : Nat → Int32), K_79 T_aty T_numbersy → ∀ (H : Heap) (locs : List Loc) (ls : Array Slot), wd D A s (ww_X3_readOrder cI cC oT oT_characters oT_kinds oT_numbers T_length T_aty T_orders T_characters T_kinds T_numbersy) H locs → lv_has ls 4 [] → W p l e (headSpec wsX3_readOrder rm_X3_readOrder).room s m args below meth c H locs 0 0 Z (F0 m 79 ls [])) : ∀ (n : Nat) (T_at : Int32) (T_numbers : Nat → Int32) (x3 : Int32), wb_X3_readOrder_33 T_length T_characters T_kinds x1 x2 K_79 Q n T_at T_numbers x3 → ∀ (H : Heap) (locs : List Loc) (ls : Array Slot), wd D A s (ww_X3_readOrder cI cC oT oT_characters oT_kinds oT_numbers T_length T_at T_orders T_characters T_kinds T_numbers) H locs → lv_has ls 4 [(0, .ref oT), (1, .int x1), (2, .int x2), (3, .int x3)] → W p l e (headSpec wsX3_readOrder rm_X3_readOrder).room s m args below meth c H locs 0 0 Z (F0 m 33 ls []) := by
  obtain ⟨hx, hb, hr, hml, hts, hown, hlocks, hKw, hA⟩ := id CX
  intro n
  induction n with
  | zero => intro T_at T_numbers x3 hw; exact False.elim hw
  | succ n ih =>
    intro T_at T_numbers x3 hw H locs ls hwd hl
    rw [wb_X3_readOrder_33] at hw
    refine lv_iload_n hx hb dX3_readOrder_33 rfl (lv_at hl 3 rfl) ?_
    refine lv_iconst (v := (nI 3)) hx hb dX3_readOrder_34 rfl ?_
    refine lv_icmp_ge (tgt := 79) hx hb dX3_readOrder_35 (by decide) (fun c1 => ?_) (fun c1 => ?_)
    · replace hw := hw.1 c1
      exact HK_79 T_at T_numbers hw _ _ _ hwd (lv_sub hl [] rfl)
    · replace hw := hw.2 c1
      refine lv_iload_n hx hb dX3_readOrder_38 rfl (lv_at hl 2 rfl) ?_
      refine lv_iload_n hx hb dX3_readOrder_39 rfl (lv_at hl 3 rfl) ?_
      refine kcSi (rest := []) (As := [.int x2, .int x3]) ⟨Nat.le_of_ble_eq_true rfl, Nat.le_of_ble_eq_true rfl⟩ ⟨hx, hb, hml, hown, hts⟩ (c_X3_highestOf l H.size x2 x3 hw) (va_cwS 2 hts gX3_readOrder_X3_highestOf rfl rfl rfl hd_X3_highestOf ⟨Nat.le_of_ble_eq_true rfl, Nat.le_of_ble_eq_true rfl⟩) hKw hA hwd rfl hl.1 rfl (lv_room (Nat.le_of_ble_eq_true rfl)) dX3_readOrder_40 (fun r2 H locs hw hwd => ?_)
      try dsimp only at hw
      refine lv_bipush (v := (-5)) hx hb dX3_readOrder_43 rfl ?_
      refine lv_icmp_eq (tgt := 79) hx hb dX3_readOrder_45 (by decide) (fun c3 => ?_) (fun c3 => ?_)
      · replace hw := hw.1 c3
        exact HK_79 T_at T_numbers hw _ _ _ hwd (lv_sub hl [] rfl)
      · replace hw := hw.2 c3
        refine lv_aload_n hx hb dX3_readOrder_48 rfl (lv_at hl 0 rfl) ?_
        refine lv_bipush (v := (nI 32)) hx hb dX3_readOrder_49 rfl ?_
        refine kcVi (W1 := (fun u => (ww_X3_readOrder cI cC oT oT_characters oT_kinds oT_numbers T_length u T_orders T_characters T_kinds T_numbers))) (rest := []) (As := [.int (nI 32)]) ⟨Nat.le_of_ble_eq_true rfl, Nat.le_of_ble_eq_true rfl⟩ ⟨hx, hb, hml, hown, hts⟩ (c_X3_readSign l oT oT_characters oT_kinds oT_numbers H.size T_length T_at T_orders T_characters (nI 32) hw) (cwV 1 hts gX3_readOrder_X3_readSign rfl rfl rfl ⟨rfl, hd_X3_readSign⟩ ⟨Nat.le_of_ble_eq_true rfl, Nat.le_of_ble_eq_true rfl⟩) hKw hA hwd [0, 1] [2, 3] [2, 3, 0, 1] [(oT_kinds, .inl (cI, 12, .inl T_kinds)), (oT_numbers, .inl (cI, 36, .inl T_numbers))] rfl rfl rfl rfl (by decide) rfl (fun _ => rfl) 0 3 rfl rfl rfl rfl hl.1 rfl (lv_room (Nat.le_of_ble_eq_true rfl)) dX3_readOrder_51 (fun r4 u H locs hw hwd => ?_)
        obtain ⟨T_at5, rfl⟩ : ∃ z, z = u := ⟨_, rfl⟩
        try dsimp only at hw
        replace hwd : wd D A s (ww_X3_readOrder cI cC oT oT_characters oT_kinds oT_numbers T_length T_at5 T_orders T_characters T_kinds T_numbers) H locs := hwd
        refine lv_if_eq (tgt := 71) hx hb dX3_readOrder_54 (by decide) (fun c6 => ?_) (fun c6 => ?_)
        · replace hw := hw.1 c6
          refine lv_iconst (v := (nI 0)) hx hb dX3_readOrder_71 rfl ?_
          exact HR (nI 0) T_at5 T_kinds T_numbers hw hwd rfl dX3_readOrder_72
        · replace hw := hw.2 c6
          refine lv_aload_n hx hb dX3_readOrder_57 rfl (lv_at hl 0 rfl) ?_
          refine lv_iload_n hx hb dX3_readOrder_58 rfl (lv_at hl 1 rfl) ?_
          refine lv_iconst (v := (nI 3)) hx hb dX3_readOrder_59 rfl ?_
          refine lv_imul hx hb dX3_readOrder_60 ?_
          refine lv_iload_n hx hb dX3_readOrder_61 rfl (lv_at hl 3 rfl) ?_
          refine lv_iadd hx hb dX3_readOrder_62 ?_
          refine lv_iload_n hx hb dX3_readOrder_63 rfl (lv_at hl 2 rfl) ?_
          refine lv_iload_n hx hb dX3_readOrder_64 rfl (lv_at hl 3 rfl) ?_
          refine kcVi (W1 := (fun u => (ww_X3_readOrder cI cC oT oT_characters oT_kinds oT_numbers T_length (u.1) T_orders T_characters T_kinds (u.2)))) (rest := []) (As := [.int ((x1 * (nI 3)) + x3), .int x2, .int x3]) ⟨Nat.le_of_ble_eq_true rfl, Nat.le_of_ble_eq_true rfl⟩ ⟨hx, hb, hml, hown, hts⟩ (c_X3_readNumber l oT oT_characters oT_kinds oT_numbers H.size T_length T_at5 T_orders T_characters T_numbers ((x1 * (nI 3)) + x3) x2 x3 hw) (cwV 3 hts gX3_readOrder_X3_readNumber rfl rfl rfl ⟨rfl, hd_X3_readNumber⟩ ⟨Nat.le_of_ble_eq_true rfl, Nat.le_of_ble_eq_true rfl⟩) hKw hA hwd [0, 1, 3] [2] [1, 2, 0, 3] [(oT_kinds, .inl (cI, 12, .inl T_kinds))] rfl rfl rfl rfl (by decide) rfl (fun _ => rfl) 0 3 rfl rfl rfl rfl hl.1 rfl (lv_room (Nat.le_of_ble_eq_true rfl)) dX3_readOrder_65 (fun r7 u H locs hw hwd => ?_)
          obtain ⟨T_at8, T_numbers9⟩ := u
          try dsimp only at hw
          replace hwd : wd D A s (ww_X3_readOrder cI cC oT oT_characters oT_kinds oT_numbers T_length T_at8 T_orders T_characters T_kinds T_numbers9) H locs := hwd
          refine lv_if_ne (tgt := 73) hx hb dX3_readOrder_68 (by decide) (fun c10 => ?_) (fun c10 => ?_)
          · replace hw := hw.1 c10
            obtain ⟨x3_11, e_x3_11⟩ : ∃ y : Int32, y = x3 + (nI 1) := ⟨_, rfl⟩
            replace hw := hw x3_11 e_x3_11
            refine lv_iinc (v := x3_11) (lv' := [(3, .int x3_11), (0, .ref oT), (1, .int x1), (2, .int x2)]) hx hb dX3_readOrder_73 hl (k := 3) rfl (by rw [e_x3_11]; rfl) (by decide) rfl (fun ls hl => ?_)
            refine lv_goto (tgt := 33) hx hb dX3_readOrder_76 (by decide) ?_
            exact ih T_at8 T_numbers9 x3_11 hw _ _ _ hwd (lv_sub hl [1, 2, 3, 0] rfl)
          · replace hw := hw.2 c10
            refine lv_iconst (v := (nI 0)) hx hb dX3_readOrder_71 rfl ?_
            exact HR (nI 0) T_at8 T_kinds T_numbers9 hw hwd rfl dX3_readOrder_72
def wp_X3_readOrder (T_length : Int32) (T_at : Int32) (T_characters : Nat → Int32) (T_kinds : Nat → Int32) (T_numbers : Nat → Int32) (x1 : Int32) (Q : Int32 → Int32 → (Nat → Int32) → (Nat → Int32) → Prop) : Prop := wp_X3_nextKind T_length T_at T_characters (fun r1 => ((r1 = (-5) → Q (nI 0) T_at T_kinds T_numbers) ∧ (¬ r1 = (-5) → wp_X3_wordOf r1 (fun k3 => wp_X3_readWord T_length T_at T_characters k3 (fun r4 T_at5 => ((¬ r4 = 0 → vp_in x1 12 ∧ ∀ T_kinds7, T_kinds7 = upd T_kinds x1.toNatClampNeg r1 → (∃ n8, wb_X3_readOrder_33 T_length T_characters T_kinds7 x1 r1 (fun T_at9 T_numbers10 => Q (nI 1) T_at9 T_kinds7 T_numbers10) Q n8 T_at5 T_numbers (nI 0))) ∧ (r4 = 0 → Q (nI 0) T_at5 T_kinds T_numbers)))))))
set_option maxRecDepth 100000 in
set_option maxHeartbeats 4000000 in
theorem c_X3_readOrder (l : Launch) {D : va_G} {cI cC cR : ClassId} (adK adV : Nat → Nat) (oT oT_characters oT_kinds oT_numbers : Nat) (sz : Nat) (T_length : Int32) (T_at : Int32) (T_orders : Int32) (T_characters : Nat → Int32) (T_kinds : Nat → Int32) (T_numbers : Nat → Int32) (x1 : Int32) {Q : Int32 → Int32 → (Nat → Int32) → (Nat → Int32) → Prop} (hw : wp_X3_readOrder T_length T_at T_characters T_kinds T_numbers x1 Q) : Met l yX3_readOrder wsX3_readOrder rm_X3_readOrder (PcS D cI cC cR adK adV [.ref oT, .int x1] (ww_X3_readOrder cI cC oT oT_characters oT_kinds oT_numbers T_length T_at T_orders T_characters T_kinds T_numbers) sz) (QiW D (fun (r : Int32) (u : Int32 × (Nat → Int32) × (Nat → Int32)) => Q r u.1 u.2.1 u.2.2) (fun u => (ww_X3_readOrder cI cC oT oT_characters oT_kinds oT_numbers T_length (u.1) T_orders T_characters (u.2.1) (u.2.2))) (ww_X3_readOrder cI cC oT oT_characters oT_kinds oT_numbers T_length T_at T_orders T_characters T_kinds T_numbers) sz) 0 0 (va_A (ww_X3_readOrder cI cC oT oT_characters oT_kinds oT_numbers T_length T_at T_orders T_characters T_kinds T_numbers) sz) := by
  refine Met.ofW (cc := cX3_readOrder) (maxL := 4) (ret := (some .boolean)) (by decide) rfl ?_
  intro p e s m args below meth c s₁ B hml hv
  obtain ⟨rfl, hsz, hP, hKw, hD0, hT⟩ := hv
  have hlocks := B.notSynchronized
  subst hsz
  have hD := hD0.self (sz := s.heap.size)
  have CX : cx cX3_readOrder (some .boolean) 4 RX3 wsX3_readOrder p m meth c s ([.ref oT, .int x1] : List Value).toArray D cI cC cR (va_A (ww_X3_readOrder cI cC oT oT_characters oT_kinds oT_numbers T_length T_at T_orders T_characters T_kinds T_numbers) s.heap.size) := ⟨B.exec, B.bytes, B.returns, hml, atoms_spec (ws := wsX3_readOrder) B.pre, findClass_of_methodNamed B.named, hlocks, hKw, fun q h => Or.inr h⟩
  obtain ⟨hx, hb, hr, -, hts, hown, -, -, hA⟩ := id CX
  have hwd : wd D (va_A (ww_X3_readOrder cI cC oT oT_characters oT_kinds oT_numbers T_length T_at T_orders T_characters T_kinds T_numbers) s.heap.size) s (ww_X3_readOrder cI cC oT oT_characters oT_kinds oT_numbers T_length T_at T_orders T_characters T_kinds T_numbers) s.heap [] := ⟨hP, hD, va_S.rf⟩
  have hl := lv_entry ([.ref oT, .int x1]) (n := 4) (Nat.le_of_ble_eq_true rfl)
  rw [lg_entry_eq]
  generalize (lg_sl ([.ref oT, .int x1]) ++ List.replicate (4 - (lg_sl ([.ref oT, .int x1])).length) Slot.unset).toArray = ls at hl ⊢
  have hl : lv_has ls 4 [(0, .ref oT), (1, .int x1)] := hl
  have HR : ∀ (r : Int32) (u0 : Int32) (u1 : Nat → Int32) (u2 : Nat → Int32) {H : Heap} {locs : List Loc} {ls : Array Slot} {pc : Nat}, Q r u0 u1 u2 → wd D (va_A (ww_X3_readOrder cI cC oT oT_characters oT_kinds oT_numbers T_length T_at T_orders T_characters T_kinds T_numbers) s.heap.size) s (ww_X3_readOrder cI cC oT oT_characters oT_kinds oT_numbers T_length u0 T_orders T_characters u1 u2) H locs → narrow .boolean (.int r) = .int r → decode cX3_readOrder pc = .ok (.ireturn, 1) → W p l e (headSpec wsX3_readOrder rm_X3_readOrder).room s m ([.ref oT, .int x1] : List Value).toArray below meth c H locs 0 0 (MQ below (QiW D (fun (r : Int32) (u : Int32 × (Nat → Int32) × (Nat → Int32)) => Q r u.1 u.2.1 u.2.2) (fun u => (ww_X3_readOrder cI cC oT oT_characters oT_kinds oT_numbers T_length (u.1) T_orders T_characters (u.2.1) (u.2.2))) (ww_X3_readOrder cI cC oT oT_characters oT_kinds oT_numbers T_length T_at T_orders T_characters T_kinds T_numbers) s.heap.size) ([.ref oT, .int x1] : List Value).toArray s 0 0 (va_A (ww_X3_readOrder cI cC oT oT_characters oT_kinds oT_numbers T_length T_at T_orders T_characters T_kinds T_numbers) s.heap.size)) (F0 m pc ls [.int r]) := by
    intro r u0 u1 u2 H locs ls pc hq hw9 hn9 hd9
    exact W.zret (v := r) hx hb hr hn9 (fun t ht hW => ⟨⟨r, (u0, u1, u2), rfl, hq, by rw [ht]; exact hw9.1, hw9.2.1⟩, hw9.2.2.F ht⟩) hw9.2.2.2.2 hd9
  unfold wp_X3_readOrder at hw
  refine lv_aload_n hx hb dX3_readOrder_0 rfl (lv_at hl 0 rfl) ?_
  refine kcVsi (W1 := (fun u => (ww_X3_readOrder cI cC oT oT_characters oT_kinds oT_numbers T_length T_at T_orders T_characters T_kinds T_numbers))) (rest := []) (As := []) ⟨Nat.le_of_ble_eq_true rfl, Nat.le_of_ble_eq_true rfl⟩ ⟨hx, hb, hml, hown, hts⟩ (c_X3_nextKind l adK adV oT oT_characters oT_kinds oT_numbers s.heap.size T_length T_at T_orders T_characters hw) (cwV 0 hts gX3_readOrder_X3_nextKind rfl rfl rfl ⟨rfl, hd_X3_nextKind⟩ ⟨Nat.le_of_ble_eq_true rfl, Nat.le_of_ble_eq_true rfl⟩) hKw hA hwd hT [0, 1] [2, 3] [2, 3, 0, 1] [(oT_kinds, .inl (cI, 12, .inl T_kinds)), (oT_numbers, .inl (cI, 36, .inl T_numbers))] rfl rfl rfl rfl (by decide) rfl (fun _ => rfl) 0 3 rfl rfl rfl rfl hl.1 rfl (lv_room (Nat.le_of_ble_eq_true rfl)) dX3_readOrder_1 (fun r1 u H locs hw hwd => ?_)
  try dsimp only at hw
  replace hwd : wd D (va_A (ww_X3_readOrder cI cC oT oT_characters oT_kinds oT_numbers T_length T_at T_orders T_characters T_kinds T_numbers) s.heap.size) s (ww_X3_readOrder cI cC oT oT_characters oT_kinds oT_numbers T_length T_at T_orders T_characters T_kinds T_numbers) H locs := hwd
  refine lv_istore_n (lv' := [(2, .int r1), (0, .ref oT), (1, .int x1)]) hx hb dX3_readOrder_4 rfl hl (by decide) rfl (fun ls hl => ?_)
  refine lv_iload_n hx hb dX3_readOrder_5 rfl (lv_at hl 0 rfl) ?_
  refine lv_bipush (v := (-5)) hx hb dX3_readOrder_6 rfl ?_
  refine lv_icmp_eq (tgt := 22) hx hb dX3_readOrder_8 (by decide) (fun c2 => ?_) (fun c2 => ?_)
  · replace hw := hw.1 c2
    refine lv_iconst (v := (nI 0)) hx hb dX3_readOrder_22 rfl ?_
    exact HR (nI 0) T_at T_kinds T_numbers hw hwd rfl dX3_readOrder_23
  · replace hw := hw.2 c2
    refine lv_aload_n hx hb dX3_readOrder_11 rfl (lv_at hl 1 rfl) ?_
    refine lv_iload_n hx hb dX3_readOrder_12 rfl (lv_at hl 0 rfl) ?_
    refine kcSsr (rest := [.ref oT]) (As := [.int r1]) ⟨Nat.le_of_ble_eq_true rfl, Nat.le_of_ble_eq_true rfl⟩ ⟨hx, hb, hml, hown, hts⟩ (c_X3_wordOf l adK adV H.size r1 hw) (va_cwS 1 hts gX3_readOrder_X3_wordOf rfl rfl rfl hd_X3_wordOf ⟨Nat.le_of_ble_eq_true rfl, Nat.le_of_ble_eq_true rfl⟩) hKw hA hwd hT rfl hl.1 rfl (lv_room (Nat.le_of_ble_eq_true rfl)) dX3_readOrder_13 (fun k3 H locs hw hwd => ?_)
    try dsimp only at hw
    refine kcVsi (W1 := (fun u => (ww_X3_readOrder cI cC oT oT_characters oT_kinds oT_numbers T_length u T_orders T_characters T_kinds T_numbers))) (rest := []) (As := [.ref (adK k3)]) ⟨Nat.le_of_ble_eq_true rfl, Nat.le_of_ble_eq_true rfl⟩ ⟨hx, hb, hml, hown, hts⟩ (c_X3_readWord l adK adV oT oT_characters oT_kinds oT_numbers H.size T_length T_at T_orders T_characters k3 hw) (cwV 1 hts gX3_readOrder_X3_readWord rfl rfl rfl ⟨rfl, hd_X3_readWord⟩ ⟨Nat.le_of_ble_eq_true rfl, Nat.le_of_ble_eq_true rfl⟩) hKw hA hwd hT [0, 1] [2, 3] [2, 3, 0, 1] [(oT_kinds, .inl (cI, 12, .inl T_kinds)), (oT_numbers, .inl (cI, 36, .inl T_numbers))] rfl rfl rfl rfl (by decide) rfl (fun _ => rfl) 0 3 rfl rfl rfl rfl hl.1 rfl (lv_room (Nat.le_of_ble_eq_true rfl)) dX3_readOrder_16 (fun r4 u H locs hw hwd => ?_)
    obtain ⟨T_at5, rfl⟩ : ∃ z, z = u := ⟨_, rfl⟩
    try dsimp only at hw
    replace hwd : wd D (va_A (ww_X3_readOrder cI cC oT oT_characters oT_kinds oT_numbers T_length T_at T_orders T_characters T_kinds T_numbers) s.heap.size) s (ww_X3_readOrder cI cC oT oT_characters oT_kinds oT_numbers T_length T_at5 T_orders T_characters T_kinds T_numbers) H locs := hwd
    refine lv_if_ne (tgt := 24) hx hb dX3_readOrder_19 (by decide) (fun c6 => ?_) (fun c6 => ?_)
    · replace hw := hw.1 c6
      refine lv_aload_n hx hb dX3_readOrder_24 rfl (lv_at hl 1 rfl) ?_
      refine va_get (D := D) (ci := 3) (v := .ref oT_kinds) (C := RX3) (T := TX3) (N := 6) hx hb hts ic_X3_readOrder_X3 hown hKw.1 hwd.1 0 rfl rfl 4 (by decide) (hts (.fieldLink RX3 15 "DrillWardens$OrderText" "kinds" "[I") (List.mem_of_getElem? (i := 1) rfl)) (fun _ h9 => h9) rfl dX3_readOrder_25 ?_
      refine lv_iload_n hx hb dX3_readOrder_28 rfl (lv_at hl 2 rfl) ?_
      refine lv_iload_n hx hb dX3_readOrder_29 rfl (lv_at hl 0 rfl) ?_
      obtain ⟨T_kinds7, e_T_kinds7⟩ : ∃ y : Nat → Int32, y = upd T_kinds x1.toNatClampNeg r1 := ⟨_, rfl⟩
      refine va_iast hx hb hKw.1 hwd.1 hwd.2.1 hwd.2.2 2 0 rfl rfl hw.1 dX3_readOrder_30 (fun H locs h1 h2 h3 => ?_)
      replace hw := hw.2 T_kinds7 e_T_kinds7
      rw [← e_T_kinds7] at h1 h2
      replace hwd : wd D (va_A (ww_X3_readOrder cI cC oT oT_characters oT_kinds oT_numbers T_length T_at T_orders T_characters T_kinds T_numbers) s.heap.size) s (ww_X3_readOrder cI cC oT oT_characters oT_kinds oT_numbers T_length T_at5 T_orders T_characters T_kinds7 T_numbers) H locs := ⟨h1, h2, h3⟩
      clear h1 h2 h3
      refine lv_iconst (v := (nI 0)) hx hb dX3_readOrder_31 rfl ?_
      refine lv_istore_n (lv' := [(3, .int (nI 0)), (2, .int r1), (0, .ref oT), (1, .int x1)]) hx hb dX3_readOrder_32 rfl hl (by decide) rfl (fun ls hl => ?_)
      obtain ⟨n8, hw⟩ := hw
      refine blk_X3_readOrder_33 (CX := CX) (adK := adK) (adV := adV) (hT := hT) (oT := oT) (oT_characters := oT_characters) (oT_kinds := oT_kinds) (oT_numbers := oT_numbers) (T_length := T_length) (T_orders := T_orders) (T_characters := T_characters) (T_kinds := T_kinds7) (x1 := x1) (x2 := r1) (HR := HR) (HK_79 := fun T_at9 T_numbers10 hw H locs ls hwd hl => ?_) n8 T_at5 T_numbers (nI 0) hw _ _ _ hwd (lv_sub hl [2, 3, 1, 0] rfl)
      try dsimp only at hw
      refine lv_iconst (v := (nI 1)) hx hb dX3_readOrder_79 rfl ?_
      exact HR (nI 1) T_at9 T_kinds7 T_numbers10 hw hwd rfl dX3_readOrder_80
    · replace hw := hw.2 c6
      refine lv_iconst (v := (nI 0)) hx hb dX3_readOrder_22 rfl ?_
      exact HR (nI 0) T_at5 T_kinds T_numbers hw hwd rfl dX3_readOrder_23
abbrev ww_X3_readOrders (cI cC : ClassId) (oT oT_characters oT_kinds oT_numbers : Nat) (T_length : Int32) (T_at : Int32) (T_orders : Int32) (T_characters : Nat → Int32) (T_kinds : Nat → Int32) (T_numbers : Nat → Int32) : va_W := [(oT, .inr (3, [.ref oT_characters, .int T_length, .int T_at, .int T_orders, .ref oT_kinds, .ref oT_numbers])), (oT_characters, .inl (cC, 80, .inl T_characters)), (oT_kinds, .inl (cI, 12, .inl T_kinds)), (oT_numbers, .inl (cI, 36, .inl T_numbers))]
abbrev rm_X3_readOrders : Room := { frames := 6, cells := 0, slots := 0, locals := 130 }
theorem ic_X3_readOrders_X3 : ∀ w ∈ u_ws RX3 TX3 6, w ∈ wsX3_readOrders := by
  intro w h
  simp only [wsX3_readOrders, List.mem_cons, List.mem_append]
  simp only [h, or_true, true_or]
def wb_X3_readOrders_12 (T_length : Int32) (T_characters : Nat → Int32) (K_62 : Int32 → Int32 → (Nat → Int32) → (Nat → Int32) → Prop) (Q : Int32 → Int32 → Int32 → (Nat → Int32) → (Nat → Int32) → Prop) : Nat → Int32 → Int32 → (Nat → Int32) → (Nat → Int32) → Int32 → Prop
  | 0, _, _, _, _, _ => False
  | n + 1, T_at, T_orders, T_kinds, T_numbers, x1 => (((nI 12) ≤ x1 → K_62 T_at T_orders T_kinds T_numbers) ∧ (¬ (nI 12) ≤ x1 → wp_X3_readOrder T_length T_at T_characters T_kinds T_numbers x1 (fun r2 T_at3 T_kinds4 T_numbers5 => ((¬ r2 = 0 → ∀ T_orders7, T_orders7 = x1 + (nI 1) → wp_X3_next T_length T_at3 T_characters (fun r8 => ((¬ r8 = (-1) → wp_X3_readSign T_length T_at3 T_characters (nI 59) (fun r10 T_at11 => ((¬ r10 = 0 → ∀ x1_13, x1_13 = x1 + (nI 1) → wb_X3_readOrders_12 T_length T_characters K_62 Q n T_at11 T_orders7 T_kinds4 T_numbers5 x1_13) ∧ (r10 = 0 → Q (nI 0) T_at11 T_orders7 T_kinds4 T_numbers5)))) ∧ (r8 = (-1) → Q (nI 1) T_at3 T_orders7 T_kinds4 T_numbers5)))) ∧ (r2 = 0 → Q (nI 0) T_at3 T_orders T_kinds4 T_numbers5)))))
set_option maxRecDepth 100000 in
set_option maxHeartbeats 4000000 in
theorem blk_X3_readOrders_12 {p : Program} {l : Launch} {e : Env} {s : State} {m : MethodId} {args : Array Value} {below : List Frame} {meth : Method} {c : Code} {D : va_G} {cI cC cR : ClassId} {A : Nat → Prop} {Z : State → Prop} (CX : cx cX3_readOrders (some .boolean) 2 RX3 wsX3_readOrders p m meth c s args D cI cC cR A) (adK adV : Nat → Nat) (hT : STR adK adV A s s.heap) (oT oT_characters oT_kinds oT_numbers : Nat) (T_length : Int32) (T_characters : Nat → Int32) {K_62 : Int32 → Int32 → (Nat → Int32) → (Nat → Int32) → Prop} {Q : Int32 → Int32 → Int32 → (Nat → Int32) → (Nat → Int32) → Prop} (HR : ∀ (r : Int32) (u0 : Int32) (u1 : Int32) (u2 : Nat → Int32) (u3 : Nat → Int32) {H : Heap} {locs : List Loc} {ls : Array Slot} {pc : Nat}, Q r u0 u1 u2 u3 → wd D A s (ww_X3_readOrders cI cC oT oT_characters oT_kinds oT_numbers T_length u0 u1 T_characters u2 u3) H locs → narrow .boolean (.int r) = .int r → decode cX3_readOrders pc = .ok (.ireturn, 1) → W p l e (headSpec wsX3_readOrders rm_X3_readOrders).room s m args below meth c H locs 0 0 Z (F0 m pc ls [.int r])) (HK_62 : ∀ (T_aty : Int32) (T_ordersy : Int32) (T_kindsy : Nat → Int32) (T_numbersy : Nat → Int32), K_62 T_aty T_ordersy T_kindsy T_numbersy → ∀ (H : Heap) (locs : List Loc) (ls : Array Slot), wd D A s (ww_X3_readOrders cI cC oT oT_characters oT_kinds oT_numbers T_length T_aty T_ordersy T_characters T_kindsy T_numbersy) H locs → lv_has ls 2 [] → W p l e (headSpec wsX3_readOrders rm_X3_readOrders).room s m args below meth c H locs 0 0 Z (F0 m 62 ls [])) : ∀ (n : Nat) (T_at : Int32) (T_orders : Int32) (T_kinds : Nat → Int32) (T_numbers : Nat → Int32) (x1 : Int32), wb_X3_readOrders_12 T_length T_characters K_62 Q n T_at T_orders T_kinds T_numbers x1 → ∀ (H : Heap) (locs : List Loc) (ls : Array Slot), wd D A s (ww_X3_readOrders cI cC oT oT_characters oT_kinds oT_numbers T_length T_at T_orders T_characters T_kinds T_numbers) H locs → lv_has ls 2 [(0, .ref oT), (1, .int x1)] → W p l e (headSpec wsX3_readOrders rm_X3_readOrders).room s m args below meth c H locs 0 0 Z (F0 m 12 ls []) := by
  obtain ⟨hx, hb, hr, hml, hts, hown, hlocks, hKw, hA⟩ := id CX
  intro n
  induction n with
  | zero => intro T_at T_orders T_kinds T_numbers x1 hw; exact False.elim hw
  | succ n ih =>
    intro T_at T_orders T_kinds T_numbers x1 hw H locs ls hwd hl
    rw [wb_X3_readOrders_12] at hw
    refine lv_iload_n hx hb dX3_readOrders_12 rfl (lv_at hl 1 rfl) ?_
    refine lv_bipush (v := (nI 12)) hx hb dX3_readOrders_13 rfl ?_
    refine lv_icmp_ge (tgt := 62) hx hb dX3_readOrders_15 (by decide) (fun c1 => ?_) (fun c1 => ?_)
    · replace hw := hw.1 c1
      exact HK_62 T_at T_orders T_kinds T_numbers hw _ _ _ hwd (lv_sub hl [] rfl)
    · replace hw := hw.2 c1
      refine lv_aload_n hx hb dX3_readOrders_18 rfl (lv_at hl 0 rfl) ?_
      refine lv_iload_n hx hb dX3_readOrders_19 rfl (lv_at hl 1 rfl) ?_
      refine kcVsi (W1 := (fun u => (ww_X3_readOrders cI cC oT oT_characters oT_kinds oT_numbers T_length (u.1) T_orders T_characters (u.2.1) (u.2.2)))) (rest := []) (As := [.int x1]) ⟨Nat.le_of_ble_eq_true rfl, Nat.le_of_ble_eq_true rfl⟩ ⟨hx, hb, hml, hown, hts⟩ (c_X3_readOrder l adK adV oT oT_characters oT_kinds oT_numbers H.size T_length T_at T_orders T_characters T_kinds T_numbers x1 hw) (cwV 1 hts gX3_readOrders_X3_readOrder rfl rfl rfl ⟨rfl, hd_X3_readOrder⟩ ⟨Nat.le_of_ble_eq_true rfl, Nat.le_of_ble_eq_true rfl⟩) hKw hA hwd hT [0, 1, 2, 3] [] [0, 1, 2, 3] [] rfl rfl rfl rfl (by decide) rfl (fun _ => rfl) 0 3 rfl rfl rfl rfl hl.1 rfl (lv_room (Nat.le_of_ble_eq_true rfl)) dX3_readOrders_20 (fun r2 u H locs hw hwd => ?_)
      obtain ⟨T_at3, T_kinds4, T_numbers5⟩ := u
      try dsimp only at hw
      replace hwd : wd D A s (ww_X3_readOrders cI cC oT oT_characters oT_kinds oT_numbers T_length T_at3 T_orders T_characters T_kinds4 T_numbers5) H locs := hwd
      refine lv_if_ne (tgt := 28) hx hb dX3_readOrders_23 (by decide) (fun c6 => ?_) (fun c6 => ?_)
      · replace hw := hw.1 c6
        refine lv_aload_n hx hb dX3_readOrders_28 rfl (lv_at hl 0 rfl) ?_
        refine lv_iload_n hx hb dX3_readOrders_29 rfl (lv_at hl 1 rfl) ?_
        refine lv_iconst (v := (nI 1)) hx hb dX3_readOrders_30 rfl ?_
        refine lv_iadd hx hb dX3_readOrders_31 ?_
        refine lv_topi (fun T_orders7 e_T_orders7 => ?_)
        replace hw := hw T_orders7 e_T_orders7
        refine va_put (D := D) (ci := 3) (v := .int T_orders7) (ty := .int) (C := RX3) (T := TX3) (N := 6) hx hb hts ic_X3_readOrders_X3 tyX3 tyX3_ok nmX3 hown hKw.1 hwd.1 hwd.2.1 hwd.2.2 0 rfl rfl 3 (by decide) (hts (.fieldLink RX3 30 "DrillWardens$OrderText" "orders" "I") (List.mem_of_getElem? (i := 2) rfl)) (fun _ h9 => h9) rfl (tyX3_ok 3 (by decide)) rfl rfl (Nat.le_of_ble_eq_true rfl) dX3_readOrders_32 (fun H locs h1 h2 h3 => ?_)
        replace hwd : wd D A s (ww_X3_readOrders cI cC oT oT_characters oT_kinds oT_numbers T_length T_at3 T_orders7 T_characters T_kinds4 T_numbers5) H locs := ⟨h1, h2, h3⟩
        clear h1 h2 h3
        refine lv_aload_n hx hb dX3_readOrders_35 rfl (lv_at hl 0 rfl) ?_
        refine kcVi (W1 := (fun u => (ww_X3_readOrders cI cC oT oT_characters oT_kinds oT_numbers T_length T_at3 T_orders7 T_characters T_kinds4 T_numbers5))) (rest := []) (As := []) ⟨Nat.le_of_ble_eq_true rfl, Nat.le_of_ble_eq_true rfl⟩ ⟨hx, hb, hml, hown, hts⟩ (c_X3_next l oT oT_characters oT_kinds oT_numbers H.size T_length T_at3 T_orders7 T_characters hw) (cwV 0 hts gX3_readOrders_X3_next rfl rfl rfl ⟨rfl, hd_X3_next⟩ ⟨Nat.le_of_ble_eq_true rfl, Nat.le_of_ble_eq_true rfl⟩) hKw hA hwd [0, 1] [2, 3] [2, 3, 0, 1] [(oT_kinds, .inl (cI, 12, .inl T_kinds4)), (oT_numbers, .inl (cI, 36, .inl T_numbers5))] rfl rfl rfl rfl (by decide) rfl (fun _ => rfl) 0 3 rfl rfl rfl rfl hl.1 rfl (lv_room (Nat.le_of_ble_eq_true rfl)) dX3_readOrders_36 (fun r8 u H locs hw hwd => ?_)
        try dsimp only at hw
        replace hwd : wd D A s (ww_X3_readOrders cI cC oT oT_characters oT_kinds oT_numbers T_length T_at3 T_orders7 T_characters T_kinds4 T_numbers5) H locs := hwd
        refine lv_iconst (v := (-1)) hx hb dX3_readOrders_39 rfl ?_
        refine lv_icmp_ne (tgt := 45) hx hb dX3_readOrders_40 (by decide) (fun c9 => ?_) (fun c9 => ?_)
        · replace hw := hw.1 c9
          refine lv_aload_n hx hb dX3_readOrders_45 rfl (lv_at hl 0 rfl) ?_
          refine lv_bipush (v := (nI 59)) hx hb dX3_readOrders_46 rfl ?_
          refine kcVi (W1 := (fun u => (ww_X3_readOrders cI cC oT oT_characters oT_kinds oT_numbers T_length u T_orders7 T_characters T_kinds4 T_numbers5))) (rest := []) (As := [.int (nI 59)]) ⟨Nat.le_of_ble_eq_true rfl, Nat.le_of_ble_eq_true rfl⟩ ⟨hx, hb, hml, hown, hts⟩ (c_X3_readSign l oT oT_characters oT_kinds oT_numbers H.size T_length T_at3 T_orders7 T_characters (nI 59) hw) (cwV 1 hts gX3_readOrders_X3_readSign rfl rfl rfl ⟨rfl, hd_X3_readSign⟩ ⟨Nat.le_of_ble_eq_true rfl, Nat.le_of_ble_eq_true rfl⟩) hKw hA hwd [0, 1] [2, 3] [2, 3, 0, 1] [(oT_kinds, .inl (cI, 12, .inl T_kinds4)), (oT_numbers, .inl (cI, 36, .inl T_numbers5))] rfl rfl rfl rfl (by decide) rfl (fun _ => rfl) 0 3 rfl rfl rfl rfl hl.1 rfl (lv_room (Nat.le_of_ble_eq_true rfl)) dX3_readOrders_48 (fun r10 u H locs hw hwd => ?_)
          obtain ⟨T_at11, rfl⟩ : ∃ z, z = u := ⟨_, rfl⟩
          try dsimp only at hw
          replace hwd : wd D A s (ww_X3_readOrders cI cC oT oT_characters oT_kinds oT_numbers T_length T_at11 T_orders7 T_characters T_kinds4 T_numbers5) H locs := hwd
          refine lv_if_ne (tgt := 56) hx hb dX3_readOrders_51 (by decide) (fun c12 => ?_) (fun c12 => ?_)
          · replace hw := hw.1 c12
            obtain ⟨x1_13, e_x1_13⟩ : ∃ y : Int32, y = x1 + (nI 1) := ⟨_, rfl⟩
            replace hw := hw x1_13 e_x1_13
            refine lv_iinc (v := x1_13) (lv' := [(1, .int x1_13), (0, .ref oT)]) hx hb dX3_readOrders_56 hl (k := 1) rfl (by rw [e_x1_13]; rfl) (by decide) rfl (fun ls hl => ?_)
            refine lv_goto (tgt := 12) hx hb dX3_readOrders_59 (by decide) ?_
            exact ih T_at11 T_orders7 T_kinds4 T_numbers5 x1_13 hw _ _ _ hwd (lv_sub hl [1, 0] rfl)
          · replace hw := hw.2 c12
            refine lv_iconst (v := (nI 0)) hx hb dX3_readOrders_54 rfl ?_
            exact HR (nI 0) T_at11 T_orders7 T_kinds4 T_numbers5 hw hwd rfl dX3_readOrders_55
        · replace hw := hw.2 c9
          refine lv_iconst (v := (nI 1)) hx hb dX3_readOrders_43 rfl ?_
          exact HR (nI 1) T_at3 T_orders7 T_kinds4 T_numbers5 hw hwd rfl dX3_readOrders_44
      · replace hw := hw.2 c6
        refine lv_iconst (v := (nI 0)) hx hb dX3_readOrders_26 rfl ?_
        exact HR (nI 0) T_at3 T_orders T_kinds4 T_numbers5 hw hwd rfl dX3_readOrders_27
def wp_X3_readOrders (T_length : Int32) (T_at : Int32) (T_orders : Int32) (T_characters : Nat → Int32) (T_kinds : Nat → Int32) (T_numbers : Nat → Int32) (Q : Int32 → Int32 → Int32 → (Nat → Int32) → (Nat → Int32) → Prop) : Prop := (∃ n1, wb_X3_readOrders_12 T_length T_characters (fun T_at2 T_orders3 T_kinds4 T_numbers5 => Q (nI 0) T_at2 T_orders3 T_kinds4 T_numbers5) Q n1 (nI 0) (nI 0) T_kinds T_numbers (nI 0))
set_option maxRecDepth 100000 in
set_option maxHeartbeats 4000000 in
theorem c_X3_readOrders (l : Launch) {D : va_G} {cI cC cR : ClassId} (adK adV : Nat → Nat) (oT oT_characters oT_kinds oT_numbers : Nat) (sz : Nat) (T_length : Int32) (T_at : Int32) (T_orders : Int32) (T_characters : Nat → Int32) (T_kinds : Nat → Int32) (T_numbers : Nat → Int32) {Q : Int32 → Int32 → Int32 → (Nat → Int32) → (Nat → Int32) → Prop} (hw : wp_X3_readOrders T_length T_at T_orders T_characters T_kinds T_numbers Q) : Met l yX3_readOrders wsX3_readOrders rm_X3_readOrders (PcS D cI cC cR adK adV [.ref oT] (ww_X3_readOrders cI cC oT oT_characters oT_kinds oT_numbers T_length T_at T_orders T_characters T_kinds T_numbers) sz) (QiW D (fun (r : Int32) (u : Int32 × Int32 × (Nat → Int32) × (Nat → Int32)) => Q r u.1 u.2.1 u.2.2.1 u.2.2.2) (fun u => (ww_X3_readOrders cI cC oT oT_characters oT_kinds oT_numbers T_length (u.1) (u.2.1) T_characters (u.2.2.1) (u.2.2.2))) (ww_X3_readOrders cI cC oT oT_characters oT_kinds oT_numbers T_length T_at T_orders T_characters T_kinds T_numbers) sz) 0 0 (va_A (ww_X3_readOrders cI cC oT oT_characters oT_kinds oT_numbers T_length T_at T_orders T_characters T_kinds T_numbers) sz) := by
  refine Met.ofW (cc := cX3_readOrders) (maxL := 2) (ret := (some .boolean)) (by decide) rfl ?_
  intro p e s m args below meth c s₁ B hml hv
  obtain ⟨rfl, hsz, hP, hKw, hD0, hT⟩ := hv
  have hlocks := B.notSynchronized
  subst hsz
  have hD := hD0.self (sz := s.heap.size)
  have CX : cx cX3_readOrders (some .boolean) 2 RX3 wsX3_readOrders p m meth c s ([.ref oT] : List Value).toArray D cI cC cR (va_A (ww_X3_readOrders cI cC oT oT_characters oT_kinds oT_numbers T_length T_at T_orders T_characters T_kinds T_numbers) s.heap.size) := ⟨B.exec, B.bytes, B.returns, hml, atoms_spec (ws := wsX3_readOrders) B.pre, findClass_of_methodNamed B.named, hlocks, hKw, fun q h => Or.inr h⟩
  obtain ⟨hx, hb, hr, -, hts, hown, -, -, hA⟩ := id CX
  have hwd : wd D (va_A (ww_X3_readOrders cI cC oT oT_characters oT_kinds oT_numbers T_length T_at T_orders T_characters T_kinds T_numbers) s.heap.size) s (ww_X3_readOrders cI cC oT oT_characters oT_kinds oT_numbers T_length T_at T_orders T_characters T_kinds T_numbers) s.heap [] := ⟨hP, hD, va_S.rf⟩
  have hl := lv_entry ([.ref oT]) (n := 2) (Nat.le_of_ble_eq_true rfl)
  rw [lg_entry_eq]
  generalize (lg_sl ([.ref oT]) ++ List.replicate (2 - (lg_sl ([.ref oT])).length) Slot.unset).toArray = ls at hl ⊢
  have hl : lv_has ls 2 [(0, .ref oT)] := hl
  have HR : ∀ (r : Int32) (u0 : Int32) (u1 : Int32) (u2 : Nat → Int32) (u3 : Nat → Int32) {H : Heap} {locs : List Loc} {ls : Array Slot} {pc : Nat}, Q r u0 u1 u2 u3 → wd D (va_A (ww_X3_readOrders cI cC oT oT_characters oT_kinds oT_numbers T_length T_at T_orders T_characters T_kinds T_numbers) s.heap.size) s (ww_X3_readOrders cI cC oT oT_characters oT_kinds oT_numbers T_length u0 u1 T_characters u2 u3) H locs → narrow .boolean (.int r) = .int r → decode cX3_readOrders pc = .ok (.ireturn, 1) → W p l e (headSpec wsX3_readOrders rm_X3_readOrders).room s m ([.ref oT] : List Value).toArray below meth c H locs 0 0 (MQ below (QiW D (fun (r : Int32) (u : Int32 × Int32 × (Nat → Int32) × (Nat → Int32)) => Q r u.1 u.2.1 u.2.2.1 u.2.2.2) (fun u => (ww_X3_readOrders cI cC oT oT_characters oT_kinds oT_numbers T_length (u.1) (u.2.1) T_characters (u.2.2.1) (u.2.2.2))) (ww_X3_readOrders cI cC oT oT_characters oT_kinds oT_numbers T_length T_at T_orders T_characters T_kinds T_numbers) s.heap.size) ([.ref oT] : List Value).toArray s 0 0 (va_A (ww_X3_readOrders cI cC oT oT_characters oT_kinds oT_numbers T_length T_at T_orders T_characters T_kinds T_numbers) s.heap.size)) (F0 m pc ls [.int r]) := by
    intro r u0 u1 u2 u3 H locs ls pc hq hw9 hn9 hd9
    exact W.zret (v := r) hx hb hr hn9 (fun t ht hW => ⟨⟨r, (u0, u1, u2, u3), rfl, hq, by rw [ht]; exact hw9.1, hw9.2.1⟩, hw9.2.2.F ht⟩) hw9.2.2.2.2 hd9
  unfold wp_X3_readOrders at hw
  refine lv_aload_n hx hb dX3_readOrders_0 rfl (lv_at hl 0 rfl) ?_
  refine lv_iconst (v := (nI 0)) hx hb dX3_readOrders_1 rfl ?_
  refine va_put (D := D) (ci := 3) (v := .int (nI 0)) (ty := .int) (C := RX3) (T := TX3) (N := 6) hx hb hts ic_X3_readOrders_X3 tyX3 tyX3_ok nmX3 hown hKw.1 hwd.1 hwd.2.1 hwd.2.2 0 rfl rfl 2 (by decide) (hts (.fieldLink RX3 33 "DrillWardens$OrderText" "at" "I") (List.mem_of_getElem? (i := 1) rfl)) (fun _ h9 => h9) rfl (tyX3_ok 2 (by decide)) rfl rfl (Nat.le_of_ble_eq_true rfl) dX3_readOrders_2 (fun H locs h1 h2 h3 => ?_)
  replace hwd : wd D (va_A (ww_X3_readOrders cI cC oT oT_characters oT_kinds oT_numbers T_length T_at T_orders T_characters T_kinds T_numbers) s.heap.size) s (ww_X3_readOrders cI cC oT oT_characters oT_kinds oT_numbers T_length (nI 0) T_orders T_characters T_kinds T_numbers) H locs := ⟨h1, h2, h3⟩
  clear h1 h2 h3
  refine lv_aload_n hx hb dX3_readOrders_5 rfl (lv_at hl 0 rfl) ?_
  refine lv_iconst (v := (nI 0)) hx hb dX3_readOrders_6 rfl ?_
  refine va_put (D := D) (ci := 3) (v := .int (nI 0)) (ty := .int) (C := RX3) (T := TX3) (N := 6) hx hb hts ic_X3_readOrders_X3 tyX3 tyX3_ok nmX3 hown hKw.1 hwd.1 hwd.2.1 hwd.2.2 0 rfl rfl 3 (by decide) (hts (.fieldLink RX3 30 "DrillWardens$OrderText" "orders" "I") (List.mem_of_getElem? (i := 2) rfl)) (fun _ h9 => h9) rfl (tyX3_ok 3 (by decide)) rfl rfl (Nat.le_of_ble_eq_true rfl) dX3_readOrders_7 (fun H locs h1 h2 h3 => ?_)
  replace hwd : wd D (va_A (ww_X3_readOrders cI cC oT oT_characters oT_kinds oT_numbers T_length T_at T_orders T_characters T_kinds T_numbers) s.heap.size) s (ww_X3_readOrders cI cC oT oT_characters oT_kinds oT_numbers T_length (nI 0) (nI 0) T_characters T_kinds T_numbers) H locs := ⟨h1, h2, h3⟩
  clear h1 h2 h3
  refine lv_iconst (v := (nI 0)) hx hb dX3_readOrders_10 rfl ?_
  refine lv_istore_n (lv' := [(1, .int (nI 0)), (0, .ref oT)]) hx hb dX3_readOrders_11 rfl hl (by decide) rfl (fun ls hl => ?_)
  obtain ⟨n1, hw⟩ := hw
  refine blk_X3_readOrders_12 (CX := CX) (adK := adK) (adV := adV) (hT := hT) (oT := oT) (oT_characters := oT_characters) (oT_kinds := oT_kinds) (oT_numbers := oT_numbers) (T_length := T_length) (T_characters := T_characters) (HR := HR) (HK_62 := fun T_at2 T_orders3 T_kinds4 T_numbers5 hw H locs ls hwd hl => ?_) n1 (nI 0) (nI 0) T_kinds T_numbers (nI 0) hw _ _ _ hwd (lv_sub hl [1, 0] rfl)
  try dsimp only at hw
  refine lv_iconst (v := (nI 0)) hx hb dX3_readOrders_62 rfl ?_
  exact HR (nI 0) T_at2 T_orders3 T_kinds4 T_numbers5 hw hwd rfl dX3_readOrders_63
