abbrev ww_X4_clearFor (cI cC : ClassId) (oT oT_order oT_needed oT_sizes oT_helpers oT_taken oa1 oa1_settings oa1_needs oa1_rowSizes oa1_rows oa1_trainedUntil oa1_leaves oa1_drills : Nat) (T_serving : Int32) (T_needed : Nat → Int32) (T_sizes : Nat → Int32) (T_helpers : Nat → Int32) (a1_today : Int32) (a1_needs : Nat → Int32) : va_W := [(oT, .inr (4, [.ref oT_order, .ref oT_needed, .ref oT_sizes, .ref oT_helpers, .ref oT_taken, .int T_serving])), (oT_needed, .inl (cI, 10, .inl T_needed)), (oT_sizes, .inl (cI, 10, .inl T_sizes)), (oT_helpers, .inl (cI, 10, .inl T_helpers)), (oa1, .inr (5, [.int a1_today, .ref oa1_settings, .ref oa1_needs, .ref oa1_rowSizes, .ref oa1_rows, .ref oa1_trainedUntil, .ref oa1_leaves, .ref oa1_drills])), (oa1_needs, .inl (cI, 10, .inl a1_needs))]
abbrev rm_X4_clearFor : Room := { frames := 0, cells := 0, slots := 0, locals := 0 }
theorem ic_X4_clearFor_X4 : ∀ w ∈ u_ws RX4 TX4 6, w ∈ wsX4_clearFor := by
  intro w h
  simp only [wsX4_clearFor, List.mem_cons, List.mem_append]
  simp only [h, or_true, true_or]
theorem ic_X4_clearFor_X5 : ∀ w ∈ u_ws RX5 TX5 8, w ∈ wsX4_clearFor := by
  intro w h
  simp only [wsX4_clearFor, List.mem_cons, List.mem_append]
  simp only [h, or_true, true_or]
def wb_X4_clearFor_7 (a1_needs : Nat → Int32) (K_45 : (Nat → Int32) → (Nat → Int32) → (Nat → Int32) → Prop) : Nat → (Nat → Int32) → (Nat → Int32) → (Nat → Int32) → Int32 → Prop
  | 0, _, _, _, _ => False
  | n + 1, T_needed, T_sizes, T_helpers, x2 => (((nI 10) ≤ x2 → K_45 T_needed T_sizes T_helpers) ∧ (¬ (nI 10) ≤ x2 → vp_in x2 10 ∧ vp_in x2 10 ∧ ∀ T_needed2, T_needed2 = upd T_needed x2.toNatClampNeg (a1_needs x2.toNatClampNeg) → vp_in x2 10 ∧ ∀ T_sizes3, T_sizes3 = upd T_sizes x2.toNatClampNeg (nI 0) → vp_in x2 10 ∧ ∀ T_helpers4, T_helpers4 = upd T_helpers x2.toNatClampNeg (nI 0) → ∀ x2_5, x2_5 = x2 + (nI 1) → wb_X4_clearFor_7 a1_needs K_45 n T_needed2 T_sizes3 T_helpers4 x2_5))
set_option maxRecDepth 100000 in
set_option maxHeartbeats 4000000 in
theorem blk_X4_clearFor_7 {p : Program} {l : Launch} {e : Env} {s : State} {m : MethodId} {args : Array Value} {below : List Frame} {meth : Method} {c : Code} {D : va_G} {cI cC cR : ClassId} {A : Nat → Prop} {Z : State → Prop} (CX : cx cX4_clearFor none 3 RX4 wsX4_clearFor p m meth c s args D cI cC cR A) (oT oT_order oT_needed oT_sizes oT_helpers oT_taken oa1 oa1_settings oa1_needs oa1_rowSizes oa1_rows oa1_trainedUntil oa1_leaves oa1_drills : Nat) (T_serving : Int32) (a1_today : Int32) (a1_needs : Nat → Int32) {K_45 : (Nat → Int32) → (Nat → Int32) → (Nat → Int32) → Prop} {Q : Int32 → (Nat → Int32) → (Nat → Int32) → (Nat → Int32) → Prop} (HR : ∀ (u0 : Int32) (u1 : Nat → Int32) (u2 : Nat → Int32) (u3 : Nat → Int32) {H : Heap} {locs : List Loc} {ls : Array Slot} {pc : Nat}, Q u0 u1 u2 u3 → wd D A s (ww_X4_clearFor cI cC oT oT_order oT_needed oT_sizes oT_helpers oT_taken oa1 oa1_settings oa1_needs oa1_rowSizes oa1_rows oa1_trainedUntil oa1_leaves oa1_drills u0 u1 u2 u3 a1_today a1_needs) H locs → decode cX4_clearFor pc = .ok (.return_, 1) → W p l e (headSpec wsX4_clearFor rm_X4_clearFor).room s m args below meth c H locs 0 0 Z (F0 m pc ls [])) (HK_45 : ∀ (T_neededy : Nat → Int32) (T_sizesy : Nat → Int32) (T_helpersy : Nat → Int32), K_45 T_neededy T_sizesy T_helpersy → ∀ (H : Heap) (locs : List Loc) (ls : Array Slot), wd D A s (ww_X4_clearFor cI cC oT oT_order oT_needed oT_sizes oT_helpers oT_taken oa1 oa1_settings oa1_needs oa1_rowSizes oa1_rows oa1_trainedUntil oa1_leaves oa1_drills T_serving T_neededy T_sizesy T_helpersy a1_today a1_needs) H locs → lv_has ls 3 [] → W p l e (headSpec wsX4_clearFor rm_X4_clearFor).room s m args below meth c H locs 0 0 Z (F0 m 45 ls [])) : ∀ (n : Nat) (T_needed : Nat → Int32) (T_sizes : Nat → Int32) (T_helpers : Nat → Int32) (x2 : Int32), wb_X4_clearFor_7 a1_needs K_45 n T_needed T_sizes T_helpers x2 → ∀ (H : Heap) (locs : List Loc) (ls : Array Slot), wd D A s (ww_X4_clearFor cI cC oT oT_order oT_needed oT_sizes oT_helpers oT_taken oa1 oa1_settings oa1_needs oa1_rowSizes oa1_rows oa1_trainedUntil oa1_leaves oa1_drills T_serving T_needed T_sizes T_helpers a1_today a1_needs) H locs → lv_has ls 3 [(0, .ref oT), (1, .ref oa1), (2, .int x2)] → W p l e (headSpec wsX4_clearFor rm_X4_clearFor).room s m args below meth c H locs 0 0 Z (F0 m 7 ls []) := by
  obtain ⟨hx, hb, hr, hml, hts, hown, hlocks, hKw, hA⟩ := id CX
  intro n
  induction n with
  | zero => intro T_needed T_sizes T_helpers x2 hw; exact False.elim hw
  | succ n ih =>
    intro T_needed T_sizes T_helpers x2 hw H locs ls hwd hl
    rw [wb_X4_clearFor_7] at hw
    refine lv_iload_n hx hb dX4_clearFor_7 rfl (lv_at hl 2 rfl) ?_
    refine lv_bipush (v := (nI 10)) hx hb dX4_clearFor_8 rfl ?_
    refine lv_icmp_ge (tgt := 45) hx hb dX4_clearFor_10 (by decide) (fun c1 => ?_) (fun c1 => ?_)
    · replace hw := hw.1 c1
      exact HK_45 T_needed T_sizes T_helpers hw _ _ _ hwd (lv_sub hl [] rfl)
    · replace hw := hw.2 c1
      refine lv_aload_n hx hb dX4_clearFor_13 rfl (lv_at hl 0 rfl) ?_
      refine va_get (D := D) (ci := 4) (v := .ref oT_needed) (C := RX4) (T := TX4) (N := 6) hx hb hts ic_X4_clearFor_X4 hown hKw.1 hwd.1 0 rfl rfl 1 (by decide) (hts (.fieldLink RX4 15 "DrillWardens$Roster" "needed" "[I") (List.mem_of_getElem? (i := 2) rfl)) (fun _ h9 => h9) rfl dX4_clearFor_14 ?_
      refine lv_iload_n hx hb dX4_clearFor_17 rfl (lv_at hl 2 rfl) ?_
      refine lv_aload_n hx hb dX4_clearFor_18 rfl (lv_at hl 1 rfl) ?_
      refine va_getN (D := D) (ci := 5) (v := .ref oa1_needs) (C := RX5) (T := TX5) (N := 8) hx hb hts ic_X4_clearFor_X5 hown hKw.1 hwd.1 4 rfl rfl 2 (by decide) (va_Nw.use rfl (nwf_8 hKw.2)) (fun _ h9 => h9) rfl dX4_clearFor_19 ?_
      refine lv_iload_n hx hb dX4_clearFor_22 rfl (lv_at hl 2 rfl) ?_
      refine va_iald hx hb hKw.1 hwd.1 5 0 rfl rfl hw.1 dX4_clearFor_23 ?_
      replace hw := hw.2
      obtain ⟨T_needed2, e_T_needed2⟩ : ∃ y : Nat → Int32, y = upd T_needed x2.toNatClampNeg (a1_needs x2.toNatClampNeg) := ⟨_, rfl⟩
      refine va_iast hx hb hKw.1 hwd.1 hwd.2.1 hwd.2.2 1 0 rfl rfl hw.1 dX4_clearFor_24 (fun H locs h1 h2 h3 => ?_)
      replace hw := hw.2 T_needed2 e_T_needed2
      rw [← e_T_needed2] at h1 h2
      replace hwd : wd D A s (ww_X4_clearFor cI cC oT oT_order oT_needed oT_sizes oT_helpers oT_taken oa1 oa1_settings oa1_needs oa1_rowSizes oa1_rows oa1_trainedUntil oa1_leaves oa1_drills T_serving T_needed2 T_sizes T_helpers a1_today a1_needs) H locs := ⟨h1, h2, h3⟩
      clear h1 h2 h3
      refine lv_aload_n hx hb dX4_clearFor_25 rfl (lv_at hl 0 rfl) ?_
      refine va_get (D := D) (ci := 4) (v := .ref oT_sizes) (C := RX4) (T := TX4) (N := 6) hx hb hts ic_X4_clearFor_X4 hown hKw.1 hwd.1 0 rfl rfl 2 (by decide) (hts (.fieldLink RX4 18 "DrillWardens$Roster" "sizes" "[I") (List.mem_of_getElem? (i := 3) rfl)) (fun _ h9 => h9) rfl dX4_clearFor_26 ?_
      refine lv_iload_n hx hb dX4_clearFor_29 rfl (lv_at hl 2 rfl) ?_
      refine lv_iconst (v := (nI 0)) hx hb dX4_clearFor_30 rfl ?_
      obtain ⟨T_sizes3, e_T_sizes3⟩ : ∃ y : Nat → Int32, y = upd T_sizes x2.toNatClampNeg (nI 0) := ⟨_, rfl⟩
      refine va_iast hx hb hKw.1 hwd.1 hwd.2.1 hwd.2.2 2 0 rfl rfl hw.1 dX4_clearFor_31 (fun H locs h1 h2 h3 => ?_)
      replace hw := hw.2 T_sizes3 e_T_sizes3
      rw [← e_T_sizes3] at h1 h2
      replace hwd : wd D A s (ww_X4_clearFor cI cC oT oT_order oT_needed oT_sizes oT_helpers oT_taken oa1 oa1_settings oa1_needs oa1_rowSizes oa1_rows oa1_trainedUntil oa1_leaves oa1_drills T_serving T_needed2 T_sizes3 T_helpers a1_today a1_needs) H locs := ⟨h1, h2, h3⟩
      clear h1 h2 h3
      refine lv_aload_n hx hb dX4_clearFor_32 rfl (lv_at hl 0 rfl) ?_
      refine va_get (D := D) (ci := 4) (v := .ref oT_helpers) (C := RX4) (T := TX4) (N := 6) hx hb hts ic_X4_clearFor_X4 hown hKw.1 hwd.1 0 rfl rfl 3 (by decide) (hts (.fieldLink RX4 21 "DrillWardens$Roster" "helpers" "[I") (List.mem_of_getElem? (i := 4) rfl)) (fun _ h9 => h9) rfl dX4_clearFor_33 ?_
      refine lv_iload_n hx hb dX4_clearFor_36 rfl (lv_at hl 2 rfl) ?_
      refine lv_iconst (v := (nI 0)) hx hb dX4_clearFor_37 rfl ?_
      obtain ⟨T_helpers4, e_T_helpers4⟩ : ∃ y : Nat → Int32, y = upd T_helpers x2.toNatClampNeg (nI 0) := ⟨_, rfl⟩
      refine va_iast hx hb hKw.1 hwd.1 hwd.2.1 hwd.2.2 3 0 rfl rfl hw.1 dX4_clearFor_38 (fun H locs h1 h2 h3 => ?_)
      replace hw := hw.2 T_helpers4 e_T_helpers4
      rw [← e_T_helpers4] at h1 h2
      replace hwd : wd D A s (ww_X4_clearFor cI cC oT oT_order oT_needed oT_sizes oT_helpers oT_taken oa1 oa1_settings oa1_needs oa1_rowSizes oa1_rows oa1_trainedUntil oa1_leaves oa1_drills T_serving T_needed2 T_sizes3 T_helpers4 a1_today a1_needs) H locs := ⟨h1, h2, h3⟩
      clear h1 h2 h3
      obtain ⟨x2_5, e_x2_5⟩ : ∃ y : Int32, y = x2 + (nI 1) := ⟨_, rfl⟩
      replace hw := hw x2_5 e_x2_5
      refine lv_iinc (v := x2_5) (lv' := [(2, .int x2_5), (0, .ref oT), (1, .ref oa1)]) hx hb dX4_clearFor_39 hl (k := 2) rfl (by rw [e_x2_5]; rfl) (by decide) rfl (fun ls hl => ?_)
      refine lv_goto (tgt := 7) hx hb dX4_clearFor_42 (by decide) ?_
      exact ih T_needed2 T_sizes3 T_helpers4 x2_5 hw _ _ _ hwd (lv_sub hl [1, 2, 0] rfl)
def wp_X4_clearFor (T_serving : Int32) (T_needed : Nat → Int32) (T_sizes : Nat → Int32) (T_helpers : Nat → Int32) (a1_needs : Nat → Int32) (Q : Int32 → (Nat → Int32) → (Nat → Int32) → (Nat → Int32) → Prop) : Prop := (∃ n1, wb_X4_clearFor_7 a1_needs (fun T_needed2 T_sizes3 T_helpers4 => Q (nI 0) T_needed2 T_sizes3 T_helpers4) n1 T_needed T_sizes T_helpers (nI 0))
set_option maxRecDepth 100000 in
set_option maxHeartbeats 4000000 in
theorem c_X4_clearFor (l : Launch) {D : va_G} {cI cC cR : ClassId} (oT oT_order oT_needed oT_sizes oT_helpers oT_taken oa1 oa1_settings oa1_needs oa1_rowSizes oa1_rows oa1_trainedUntil oa1_leaves oa1_drills : Nat) (sz : Nat) (T_serving : Int32) (T_needed : Nat → Int32) (T_sizes : Nat → Int32) (T_helpers : Nat → Int32) (a1_today : Int32) (a1_needs : Nat → Int32) {Q : Int32 → (Nat → Int32) → (Nat → Int32) → (Nat → Int32) → Prop} (hw : wp_X4_clearFor T_serving T_needed T_sizes T_helpers a1_needs Q) : Met l yX4_clearFor wsX4_clearFor rm_X4_clearFor (PcW D cI cC cR [.ref oT, .ref oa1] (ww_X4_clearFor cI cC oT oT_order oT_needed oT_sizes oT_helpers oT_taken oa1 oa1_settings oa1_needs oa1_rowSizes oa1_rows oa1_trainedUntil oa1_leaves oa1_drills T_serving T_needed T_sizes T_helpers a1_today a1_needs) sz) (QvW D (fun (u : Int32 × (Nat → Int32) × (Nat → Int32) × (Nat → Int32)) => Q u.1 u.2.1 u.2.2.1 u.2.2.2) (fun u => (ww_X4_clearFor cI cC oT oT_order oT_needed oT_sizes oT_helpers oT_taken oa1 oa1_settings oa1_needs oa1_rowSizes oa1_rows oa1_trainedUntil oa1_leaves oa1_drills (u.1) (u.2.1) (u.2.2.1) (u.2.2.2) a1_today a1_needs)) (ww_X4_clearFor cI cC oT oT_order oT_needed oT_sizes oT_helpers oT_taken oa1 oa1_settings oa1_needs oa1_rowSizes oa1_rows oa1_trainedUntil oa1_leaves oa1_drills T_serving T_needed T_sizes T_helpers a1_today a1_needs) sz) 0 0 (va_A (ww_X4_clearFor cI cC oT oT_order oT_needed oT_sizes oT_helpers oT_taken oa1 oa1_settings oa1_needs oa1_rowSizes oa1_rows oa1_trainedUntil oa1_leaves oa1_drills T_serving T_needed T_sizes T_helpers a1_today a1_needs) sz) := by
  refine Met.ofW (cc := cX4_clearFor) (maxL := 3) (ret := none) (by decide) rfl ?_
  intro p e s m args below meth c s₁ B hml hv
  obtain ⟨rfl, hsz, hP, hKw, hD0⟩ := hv
  have hlocks := B.notSynchronized
  subst hsz
  have hD := hD0.self (sz := s.heap.size)
  have CX : cx cX4_clearFor none 3 RX4 wsX4_clearFor p m meth c s ([.ref oT, .ref oa1] : List Value).toArray D cI cC cR (va_A (ww_X4_clearFor cI cC oT oT_order oT_needed oT_sizes oT_helpers oT_taken oa1 oa1_settings oa1_needs oa1_rowSizes oa1_rows oa1_trainedUntil oa1_leaves oa1_drills T_serving T_needed T_sizes T_helpers a1_today a1_needs) s.heap.size) := ⟨B.exec, B.bytes, B.returns, hml, atoms_spec (ws := wsX4_clearFor) B.pre, findClass_of_methodNamed B.named, hlocks, hKw, fun q h => Or.inr h⟩
  obtain ⟨hx, hb, hr, -, hts, hown, -, -, hA⟩ := id CX
  have hwd : wd D (va_A (ww_X4_clearFor cI cC oT oT_order oT_needed oT_sizes oT_helpers oT_taken oa1 oa1_settings oa1_needs oa1_rowSizes oa1_rows oa1_trainedUntil oa1_leaves oa1_drills T_serving T_needed T_sizes T_helpers a1_today a1_needs) s.heap.size) s (ww_X4_clearFor cI cC oT oT_order oT_needed oT_sizes oT_helpers oT_taken oa1 oa1_settings oa1_needs oa1_rowSizes oa1_rows oa1_trainedUntil oa1_leaves oa1_drills T_serving T_needed T_sizes T_helpers a1_today a1_needs) s.heap [] := ⟨hP, hD, va_S.rf⟩
  have hl := lv_entry ([.ref oT, .ref oa1]) (n := 3) (Nat.le_of_ble_eq_true rfl)
  rw [lg_entry_eq]
  generalize (lg_sl ([.ref oT, .ref oa1]) ++ List.replicate (3 - (lg_sl ([.ref oT, .ref oa1])).length) Slot.unset).toArray = ls at hl ⊢
  have hl : lv_has ls 3 [(0, .ref oT), (1, .ref oa1)] := hl
  have HR : ∀ (u0 : Int32) (u1 : Nat → Int32) (u2 : Nat → Int32) (u3 : Nat → Int32) {H : Heap} {locs : List Loc} {ls : Array Slot} {pc : Nat}, Q u0 u1 u2 u3 → wd D (va_A (ww_X4_clearFor cI cC oT oT_order oT_needed oT_sizes oT_helpers oT_taken oa1 oa1_settings oa1_needs oa1_rowSizes oa1_rows oa1_trainedUntil oa1_leaves oa1_drills T_serving T_needed T_sizes T_helpers a1_today a1_needs) s.heap.size) s (ww_X4_clearFor cI cC oT oT_order oT_needed oT_sizes oT_helpers oT_taken oa1 oa1_settings oa1_needs oa1_rowSizes oa1_rows oa1_trainedUntil oa1_leaves oa1_drills u0 u1 u2 u3 a1_today a1_needs) H locs → decode cX4_clearFor pc = .ok (.return_, 1) → W p l e (headSpec wsX4_clearFor rm_X4_clearFor).room s m ([.ref oT, .ref oa1] : List Value).toArray below meth c H locs 0 0 (MQ below (QvW D (fun (u : Int32 × (Nat → Int32) × (Nat → Int32) × (Nat → Int32)) => Q u.1 u.2.1 u.2.2.1 u.2.2.2) (fun u => (ww_X4_clearFor cI cC oT oT_order oT_needed oT_sizes oT_helpers oT_taken oa1 oa1_settings oa1_needs oa1_rowSizes oa1_rows oa1_trainedUntil oa1_leaves oa1_drills (u.1) (u.2.1) (u.2.2.1) (u.2.2.2) a1_today a1_needs)) (ww_X4_clearFor cI cC oT oT_order oT_needed oT_sizes oT_helpers oT_taken oa1 oa1_settings oa1_needs oa1_rowSizes oa1_rows oa1_trainedUntil oa1_leaves oa1_drills T_serving T_needed T_sizes T_helpers a1_today a1_needs) s.heap.size) ([.ref oT, .ref oa1] : List Value).toArray s 0 0 (va_A (ww_X4_clearFor cI cC oT oT_order oT_needed oT_sizes oT_helpers oT_taken oa1 oa1_settings oa1_needs oa1_rowSizes oa1_rows oa1_trainedUntil oa1_leaves oa1_drills T_serving T_needed T_sizes T_helpers a1_today a1_needs) s.heap.size)) (F0 m pc ls []) := by
    intro u0 u1 u2 u3 H locs ls pc hq hw9 hd9
    exact W.vret hx hb hr (fun t ht hW => ⟨⟨(u0, u1, u2, u3), rfl, hq, by rw [ht]; exact hw9.1, hw9.2.1⟩, hw9.2.2.F ht⟩) hw9.2.2.2.2 hd9
  unfold wp_X4_clearFor at hw
  refine lv_aload_n hx hb dX4_clearFor_0 rfl (lv_at hl 0 rfl) ?_
  refine lv_iconst (v := (nI 0)) hx hb dX4_clearFor_1 rfl ?_
  refine va_put (D := D) (ci := 4) (v := .int (nI 0)) (ty := .int) (C := RX4) (T := TX4) (N := 6) hx hb hts ic_X4_clearFor_X4 tyX4 tyX4_ok nmX4 hown hKw.1 hwd.1 hwd.2.1 hwd.2.2 0 rfl rfl 5 (by decide) (hts (.fieldLink RX4 51 "DrillWardens$Roster" "serving" "I") (List.mem_of_getElem? (i := 1) rfl)) (fun _ h9 => h9) rfl (tyX4_ok 5 (by decide)) rfl rfl (Nat.le_of_ble_eq_true rfl) dX4_clearFor_2 (fun H locs h1 h2 h3 => ?_)
  replace hwd : wd D (va_A (ww_X4_clearFor cI cC oT oT_order oT_needed oT_sizes oT_helpers oT_taken oa1 oa1_settings oa1_needs oa1_rowSizes oa1_rows oa1_trainedUntil oa1_leaves oa1_drills T_serving T_needed T_sizes T_helpers a1_today a1_needs) s.heap.size) s (ww_X4_clearFor cI cC oT oT_order oT_needed oT_sizes oT_helpers oT_taken oa1 oa1_settings oa1_needs oa1_rowSizes oa1_rows oa1_trainedUntil oa1_leaves oa1_drills (nI 0) T_needed T_sizes T_helpers a1_today a1_needs) H locs := ⟨h1, h2, h3⟩
  clear h1 h2 h3
  refine lv_iconst (v := (nI 0)) hx hb dX4_clearFor_5 rfl ?_
  refine lv_istore_n (lv' := [(2, .int (nI 0)), (0, .ref oT), (1, .ref oa1)]) hx hb dX4_clearFor_6 rfl hl (by decide) rfl (fun ls hl => ?_)
  obtain ⟨n1, hw⟩ := hw
  refine blk_X4_clearFor_7 (CX := CX) (oT := oT) (oT_order := oT_order) (oT_needed := oT_needed) (oT_sizes := oT_sizes) (oT_helpers := oT_helpers) (oT_taken := oT_taken) (oa1 := oa1) (oa1_settings := oa1_settings) (oa1_needs := oa1_needs) (oa1_rowSizes := oa1_rowSizes) (oa1_rows := oa1_rows) (oa1_trainedUntil := oa1_trainedUntil) (oa1_leaves := oa1_leaves) (oa1_drills := oa1_drills) (T_serving := (nI 0)) (a1_today := a1_today) (a1_needs := a1_needs) (HR := HR) (HK_45 := fun T_needed2 T_sizes3 T_helpers4 hw H locs ls hwd hl => ?_) n1 T_needed T_sizes T_helpers (nI 0) hw _ _ _ hwd (lv_sub hl [1, 2, 0] rfl)
  try dsimp only at hw
  exact HR (nI 0) T_needed2 T_sizes3 T_helpers4 hw hwd dX4_clearFor_45
abbrev ww_X4_arrangeByRows (cI cC : ClassId) (oT oT_order oT_needed oT_sizes oT_helpers oT_taken oa1 oa1_settings oa1_needs oa1_rowSizes oa1_rows oa1_trainedUntil oa1_leaves oa1_drills : Nat) (T_serving : Int32) (T_order : Nat → Int32) (a1_today : Int32) (a1_rowSizes : Nat → Int32) : va_W := [(oT, .inr (4, [.ref oT_order, .ref oT_needed, .ref oT_sizes, .ref oT_helpers, .ref oT_taken, .int T_serving])), (oT_order, .inl (cI, 10, .inl T_order)), (oa1, .inr (5, [.int a1_today, .ref oa1_settings, .ref oa1_needs, .ref oa1_rowSizes, .ref oa1_rows, .ref oa1_trainedUntil, .ref oa1_leaves, .ref oa1_drills])), (oa1_rowSizes, .inl (cI, 10, .inl a1_rowSizes))]
abbrev rm_X4_arrangeByRows : Room := { frames := 0, cells := 0, slots := 0, locals := 0 }
theorem ic_X4_arrangeByRows_X4 : ∀ w ∈ u_ws RX4 TX4 6, w ∈ wsX4_arrangeByRows := by
  intro w h
  simp only [wsX4_arrangeByRows, List.mem_cons, List.mem_append]
  simp only [h, or_true, true_or]
theorem ic_X4_arrangeByRows_X5 : ∀ w ∈ u_ws RX5 TX5 8, w ∈ wsX4_arrangeByRows := by
  intro w h
  simp only [wsX4_arrangeByRows, List.mem_cons, List.mem_append]
  simp only [h, or_true, true_or]
def wb_X4_arrangeByRows_12 (a1_rowSizes : Nat → Int32) (x3 : Int32) (K_53 : (Nat → Int32) → Int32 → Prop) : Nat → (Nat → Int32) → Int32 → Int32 → Prop
  | 0, _, _, _ => False
  | n + 1, T_order, x2, x4 => (((nI 10) ≤ x4 → K_53 T_order x2) ∧ (¬ (nI 10) ≤ x4 → vp_in x4 10 ∧ ((¬ (a1_rowSizes x4.toNatClampNeg) = x3 → ∀ x4_3, x4_3 = x4 + (nI 1) → wb_X4_arrangeByRows_12 a1_rowSizes x3 K_53 n T_order x2 x4_3) ∧ ((a1_rowSizes x4.toNatClampNeg) = x3 → (((nI 10) ≤ x2 → ∀ x4_5, x4_5 = x4 + (nI 1) → wb_X4_arrangeByRows_12 a1_rowSizes x3 K_53 n T_order x2 x4_5) ∧ (¬ (nI 10) ≤ x2 → vp_in x2 10 ∧ ∀ T_order6, T_order6 = upd T_order x2.toNatClampNeg x4 → ∀ x2_7, x2_7 = x2 + (nI 1) → ∀ x4_8, x4_8 = x4 + (nI 1) → wb_X4_arrangeByRows_12 a1_rowSizes x3 K_53 n T_order6 x2_7 x4_8))))))
set_option maxRecDepth 100000 in
set_option maxHeartbeats 4000000 in
theorem blk_X4_arrangeByRows_12 {p : Program} {l : Launch} {e : Env} {s : State} {m : MethodId} {args : Array Value} {below : List Frame} {meth : Method} {c : Code} {D : va_G} {cI cC cR : ClassId} {A : Nat → Prop} {Z : State → Prop} (CX : cx cX4_arrangeByRows none 5 RX4 wsX4_arrangeByRows p m meth c s args D cI cC cR A) (oT oT_order oT_needed oT_sizes oT_helpers oT_taken oa1 oa1_settings oa1_needs oa1_rowSizes oa1_rows oa1_trainedUntil oa1_leaves oa1_drills : Nat) (T_serving : Int32) (a1_today : Int32) (a1_rowSizes : Nat → Int32) (x3 : Int32) {K_53 : (Nat → Int32) → Int32 → Prop} {Q : (Nat → Int32) → Prop} (HR : ∀ (u0 : Nat → Int32) {H : Heap} {locs : List Loc} {ls : Array Slot} {pc : Nat}, Q u0 → wd D A s (ww_X4_arrangeByRows cI cC oT oT_order oT_needed oT_sizes oT_helpers oT_taken oa1 oa1_settings oa1_needs oa1_rowSizes oa1_rows oa1_trainedUntil oa1_leaves oa1_drills T_serving u0 a1_today a1_rowSizes) H locs → decode cX4_arrangeByRows pc = .ok (.return_, 1) → W p l e (headSpec wsX4_arrangeByRows rm_X4_arrangeByRows).room s m args below meth c H locs 0 0 Z (F0 m pc ls [])) (HK_53 : ∀ (T_ordery : Nat → Int32) (x2y : Int32), K_53 T_ordery x2y → ∀ (H : Heap) (locs : List Loc) (ls : Array Slot), wd D A s (ww_X4_arrangeByRows cI cC oT oT_order oT_needed oT_sizes oT_helpers oT_taken oa1 oa1_settings oa1_needs oa1_rowSizes oa1_rows oa1_trainedUntil oa1_leaves oa1_drills T_serving T_ordery a1_today a1_rowSizes) H locs → lv_has ls 5 [(0, .ref oT), (1, .ref oa1), (2, .int x2y), (3, .int x3)] → W p l e (headSpec wsX4_arrangeByRows rm_X4_arrangeByRows).room s m args below meth c H locs 0 0 Z (F0 m 53 ls [])) : ∀ (n : Nat) (T_order : Nat → Int32) (x2 : Int32) (x4 : Int32), wb_X4_arrangeByRows_12 a1_rowSizes x3 K_53 n T_order x2 x4 → ∀ (H : Heap) (locs : List Loc) (ls : Array Slot), wd D A s (ww_X4_arrangeByRows cI cC oT oT_order oT_needed oT_sizes oT_helpers oT_taken oa1 oa1_settings oa1_needs oa1_rowSizes oa1_rows oa1_trainedUntil oa1_leaves oa1_drills T_serving T_order a1_today a1_rowSizes) H locs → lv_has ls 5 [(0, .ref oT), (1, .ref oa1), (2, .int x2), (3, .int x3), (4, .int x4)] → W p l e (headSpec wsX4_arrangeByRows rm_X4_arrangeByRows).room s m args below meth c H locs 0 0 Z (F0 m 12 ls []) := by
  obtain ⟨hx, hb, hr, hml, hts, hown, hlocks, hKw, hA⟩ := id CX
  intro n
  induction n with
  | zero => intro T_order x2 x4 hw; exact False.elim hw
  | succ n ih =>
    intro T_order x2 x4 hw H locs ls hwd hl
    rw [wb_X4_arrangeByRows_12] at hw
    refine lv_iload hx hb dX4_arrangeByRows_12 (lv_at hl 4 rfl) ?_
    refine lv_bipush (v := (nI 10)) hx hb dX4_arrangeByRows_14 rfl ?_
    refine lv_icmp_ge (tgt := 53) hx hb dX4_arrangeByRows_16 (by decide) (fun c1 => ?_) (fun c1 => ?_)
    · replace hw := hw.1 c1
      exact HK_53 T_order x2 hw _ _ _ hwd (lv_sub hl [0, 1, 2, 3] rfl)
    · replace hw := hw.2 c1
      refine lv_aload_n hx hb dX4_arrangeByRows_19 rfl (lv_at hl 1 rfl) ?_
      refine va_getN (D := D) (ci := 5) (v := .ref oa1_rowSizes) (C := RX5) (T := TX5) (N := 8) hx hb hts ic_X4_arrangeByRows_X5 hown hKw.1 hwd.1 2 rfl rfl 3 (by decide) (va_Nw.use rfl (nwf_10 hKw.2)) (fun _ h9 => h9) rfl dX4_arrangeByRows_20 ?_
      refine lv_iload hx hb dX4_arrangeByRows_23 (lv_at hl 4 rfl) ?_
      refine va_iald hx hb hKw.1 hwd.1 3 0 rfl rfl hw.1 dX4_arrangeByRows_25 ?_
      replace hw := hw.2
      refine lv_iload_n hx hb dX4_arrangeByRows_26 rfl (lv_at hl 3 rfl) ?_
      refine lv_icmp_ne (tgt := 47) hx hb dX4_arrangeByRows_27 (by decide) (fun c2 => ?_) (fun c2 => ?_)
      · replace hw := hw.1 c2
        obtain ⟨x4_3, e_x4_3⟩ : ∃ y : Int32, y = x4 + (nI 1) := ⟨_, rfl⟩
        replace hw := hw x4_3 e_x4_3
        refine lv_iinc (v := x4_3) (lv' := [(4, .int x4_3), (0, .ref oT), (1, .ref oa1), (2, .int x2), (3, .int x3)]) hx hb dX4_arrangeByRows_47 hl (k := 4) rfl (by rw [e_x4_3]; rfl) (by decide) rfl (fun ls hl => ?_)
        refine lv_goto (tgt := 12) hx hb dX4_arrangeByRows_50 (by decide) ?_
        exact ih T_order x2 x4_3 hw _ _ _ hwd (lv_sub hl [1, 2, 3, 4, 0] rfl)
      · replace hw := hw.2 c2
        refine lv_iload_n hx hb dX4_arrangeByRows_30 rfl (lv_at hl 2 rfl) ?_
        refine lv_bipush (v := (nI 10)) hx hb dX4_arrangeByRows_31 rfl ?_
        refine lv_icmp_ge (tgt := 47) hx hb dX4_arrangeByRows_33 (by decide) (fun c4 => ?_) (fun c4 => ?_)
        · replace hw := hw.1 c4
          obtain ⟨x4_5, e_x4_5⟩ : ∃ y : Int32, y = x4 + (nI 1) := ⟨_, rfl⟩
          replace hw := hw x4_5 e_x4_5
          refine lv_iinc (v := x4_5) (lv' := [(4, .int x4_5), (0, .ref oT), (1, .ref oa1), (2, .int x2), (3, .int x3)]) hx hb dX4_arrangeByRows_47 hl (k := 4) rfl (by rw [e_x4_5]; rfl) (by decide) rfl (fun ls hl => ?_)
          refine lv_goto (tgt := 12) hx hb dX4_arrangeByRows_50 (by decide) ?_
          exact ih T_order x2 x4_5 hw _ _ _ hwd (lv_sub hl [1, 2, 3, 4, 0] rfl)
        · replace hw := hw.2 c4
          refine lv_aload_n hx hb dX4_arrangeByRows_36 rfl (lv_at hl 0 rfl) ?_
          refine va_get (D := D) (ci := 4) (v := .ref oT_order) (C := RX4) (T := TX4) (N := 6) hx hb hts ic_X4_arrangeByRows_X4 hown hKw.1 hwd.1 0 rfl rfl 0 (by decide) (hts (.fieldLink RX4 9 "DrillWardens$Roster" "order" "[I") (List.mem_of_getElem? (i := 1) rfl)) (fun _ h9 => h9) rfl dX4_arrangeByRows_37 ?_
          refine lv_iload_n hx hb dX4_arrangeByRows_40 rfl (lv_at hl 2 rfl) ?_
          refine lv_iload hx hb dX4_arrangeByRows_41 (lv_at hl 4 rfl) ?_
          obtain ⟨T_order6, e_T_order6⟩ : ∃ y : Nat → Int32, y = upd T_order x2.toNatClampNeg x4 := ⟨_, rfl⟩
          refine va_iast hx hb hKw.1 hwd.1 hwd.2.1 hwd.2.2 1 0 rfl rfl hw.1 dX4_arrangeByRows_43 (fun H locs h1 h2 h3 => ?_)
          replace hw := hw.2 T_order6 e_T_order6
          rw [← e_T_order6] at h1 h2
          replace hwd : wd D A s (ww_X4_arrangeByRows cI cC oT oT_order oT_needed oT_sizes oT_helpers oT_taken oa1 oa1_settings oa1_needs oa1_rowSizes oa1_rows oa1_trainedUntil oa1_leaves oa1_drills T_serving T_order6 a1_today a1_rowSizes) H locs := ⟨h1, h2, h3⟩
          clear h1 h2 h3
          obtain ⟨x2_7, e_x2_7⟩ : ∃ y : Int32, y = x2 + (nI 1) := ⟨_, rfl⟩
          replace hw := hw x2_7 e_x2_7
          refine lv_iinc (v := x2_7) (lv' := [(2, .int x2_7), (0, .ref oT), (1, .ref oa1), (3, .int x3), (4, .int x4)]) hx hb dX4_arrangeByRows_44 hl (k := 2) rfl (by rw [e_x2_7]; rfl) (by decide) rfl (fun ls hl => ?_)
          obtain ⟨x4_8, e_x4_8⟩ : ∃ y : Int32, y = x4 + (nI 1) := ⟨_, rfl⟩
          replace hw := hw x4_8 e_x4_8
          refine lv_iinc (v := x4_8) (lv' := [(4, .int x4_8), (2, .int x2_7), (0, .ref oT), (1, .ref oa1), (3, .int x3)]) hx hb dX4_arrangeByRows_47 hl (k := 4) rfl (by rw [e_x4_8]; rfl) (by decide) rfl (fun ls hl => ?_)
          refine lv_goto (tgt := 12) hx hb dX4_arrangeByRows_50 (by decide) ?_
          exact ih T_order6 x2_7 x4_8 hw _ _ _ hwd (lv_sub hl [2, 3, 1, 4, 0] rfl)
def wb_X4_arrangeByRows_4 (a1_rowSizes : Nat → Int32) (K_59 : (Nat → Int32) → Prop) : Nat → (Nat → Int32) → Int32 → Int32 → Prop
  | 0, _, _, _ => False
  | n + 1, T_order, x2, x3 => (((nI 5) < x3 → K_59 T_order) ∧ (¬ (nI 5) < x3 → (∃ n2, wb_X4_arrangeByRows_12 a1_rowSizes x3 (fun T_order3 x2_4 => ∀ x3_5, x3_5 = x3 + (nI 1) → wb_X4_arrangeByRows_4 a1_rowSizes K_59 n T_order3 x2_4 x3_5) n2 T_order x2 (nI 0))))
set_option maxRecDepth 100000 in
set_option maxHeartbeats 4000000 in
theorem blk_X4_arrangeByRows_4 {p : Program} {l : Launch} {e : Env} {s : State} {m : MethodId} {args : Array Value} {below : List Frame} {meth : Method} {c : Code} {D : va_G} {cI cC cR : ClassId} {A : Nat → Prop} {Z : State → Prop} (CX : cx cX4_arrangeByRows none 5 RX4 wsX4_arrangeByRows p m meth c s args D cI cC cR A) (oT oT_order oT_needed oT_sizes oT_helpers oT_taken oa1 oa1_settings oa1_needs oa1_rowSizes oa1_rows oa1_trainedUntil oa1_leaves oa1_drills : Nat) (T_serving : Int32) (a1_today : Int32) (a1_rowSizes : Nat → Int32) {K_59 : (Nat → Int32) → Prop} {Q : (Nat → Int32) → Prop} (HR : ∀ (u0 : Nat → Int32) {H : Heap} {locs : List Loc} {ls : Array Slot} {pc : Nat}, Q u0 → wd D A s (ww_X4_arrangeByRows cI cC oT oT_order oT_needed oT_sizes oT_helpers oT_taken oa1 oa1_settings oa1_needs oa1_rowSizes oa1_rows oa1_trainedUntil oa1_leaves oa1_drills T_serving u0 a1_today a1_rowSizes) H locs → decode cX4_arrangeByRows pc = .ok (.return_, 1) → W p l e (headSpec wsX4_arrangeByRows rm_X4_arrangeByRows).room s m args below meth c H locs 0 0 Z (F0 m pc ls [])) (HK_59 : ∀ (T_ordery : Nat → Int32), K_59 T_ordery → ∀ (H : Heap) (locs : List Loc) (ls : Array Slot), wd D A s (ww_X4_arrangeByRows cI cC oT oT_order oT_needed oT_sizes oT_helpers oT_taken oa1 oa1_settings oa1_needs oa1_rowSizes oa1_rows oa1_trainedUntil oa1_leaves oa1_drills T_serving T_ordery a1_today a1_rowSizes) H locs → lv_has ls 5 [] → W p l e (headSpec wsX4_arrangeByRows rm_X4_arrangeByRows).room s m args below meth c H locs 0 0 Z (F0 m 59 ls [])) : ∀ (n : Nat) (T_order : Nat → Int32) (x2 : Int32) (x3 : Int32), wb_X4_arrangeByRows_4 a1_rowSizes K_59 n T_order x2 x3 → ∀ (H : Heap) (locs : List Loc) (ls : Array Slot), wd D A s (ww_X4_arrangeByRows cI cC oT oT_order oT_needed oT_sizes oT_helpers oT_taken oa1 oa1_settings oa1_needs oa1_rowSizes oa1_rows oa1_trainedUntil oa1_leaves oa1_drills T_serving T_order a1_today a1_rowSizes) H locs → lv_has ls 5 [(0, .ref oT), (1, .ref oa1), (2, .int x2), (3, .int x3)] → W p l e (headSpec wsX4_arrangeByRows rm_X4_arrangeByRows).room s m args below meth c H locs 0 0 Z (F0 m 4 ls []) := by
  obtain ⟨hx, hb, hr, hml, hts, hown, hlocks, hKw, hA⟩ := id CX
  intro n
  induction n with
  | zero => intro T_order x2 x3 hw; exact False.elim hw
  | succ n ih =>
    intro T_order x2 x3 hw H locs ls hwd hl
    rw [wb_X4_arrangeByRows_4] at hw
    refine lv_iload_n hx hb dX4_arrangeByRows_4 rfl (lv_at hl 3 rfl) ?_
    refine lv_iconst (v := (nI 5)) hx hb dX4_arrangeByRows_5 rfl ?_
    refine lv_icmp_gt (tgt := 59) hx hb dX4_arrangeByRows_6 (by decide) (fun c1 => ?_) (fun c1 => ?_)
    · replace hw := hw.1 c1
      exact HK_59 T_order hw _ _ _ hwd (lv_sub hl [] rfl)
    · replace hw := hw.2 c1
      refine lv_iconst (v := (nI 0)) hx hb dX4_arrangeByRows_9 rfl ?_
      refine lv_istore (lv' := [(4, .int (nI 0)), (0, .ref oT), (1, .ref oa1), (2, .int x2), (3, .int x3)]) hx hb dX4_arrangeByRows_10 hl (by decide) rfl (fun ls hl => ?_)
      obtain ⟨n2, hw⟩ := hw
      refine blk_X4_arrangeByRows_12 (CX := CX) (oT := oT) (oT_order := oT_order) (oT_needed := oT_needed) (oT_sizes := oT_sizes) (oT_helpers := oT_helpers) (oT_taken := oT_taken) (oa1 := oa1) (oa1_settings := oa1_settings) (oa1_needs := oa1_needs) (oa1_rowSizes := oa1_rowSizes) (oa1_rows := oa1_rows) (oa1_trainedUntil := oa1_trainedUntil) (oa1_leaves := oa1_leaves) (oa1_drills := oa1_drills) (T_serving := T_serving) (a1_today := a1_today) (a1_rowSizes := a1_rowSizes) (x3 := x3) (HR := HR) (HK_53 := fun T_order3 x2_4 hw H locs ls hwd hl => ?_) n2 T_order x2 (nI 0) hw _ _ _ hwd (lv_sub hl [1, 2, 3, 4, 0] rfl)
      try dsimp only at hw
      obtain ⟨x3_5, e_x3_5⟩ : ∃ y : Int32, y = x3 + (nI 1) := ⟨_, rfl⟩
      replace hw := hw x3_5 e_x3_5
      refine lv_iinc (v := x3_5) (lv' := [(3, .int x3_5), (0, .ref oT), (1, .ref oa1), (2, .int x2_4)]) hx hb dX4_arrangeByRows_53 hl (k := 3) rfl (by rw [e_x3_5]; rfl) (by decide) rfl (fun ls hl => ?_)
      refine lv_goto (tgt := 4) hx hb dX4_arrangeByRows_56 (by decide) ?_
      exact ih T_order3 x2_4 x3_5 hw _ _ _ hwd (lv_sub hl [1, 2, 3, 0] rfl)
def wp_X4_arrangeByRows (T_order : Nat → Int32) (a1_rowSizes : Nat → Int32) (Q : (Nat → Int32) → Prop) : Prop := (∃ n1, wb_X4_arrangeByRows_4 a1_rowSizes (fun T_order2 => Q T_order2) n1 T_order (nI 0) (nI 0))
set_option maxRecDepth 100000 in
set_option maxHeartbeats 4000000 in
theorem c_X4_arrangeByRows (l : Launch) {D : va_G} {cI cC cR : ClassId} (oT oT_order oT_needed oT_sizes oT_helpers oT_taken oa1 oa1_settings oa1_needs oa1_rowSizes oa1_rows oa1_trainedUntil oa1_leaves oa1_drills : Nat) (sz : Nat) (T_serving : Int32) (T_order : Nat → Int32) (a1_today : Int32) (a1_rowSizes : Nat → Int32) {Q : (Nat → Int32) → Prop} (hw : wp_X4_arrangeByRows T_order a1_rowSizes Q) : Met l yX4_arrangeByRows wsX4_arrangeByRows rm_X4_arrangeByRows (PcW D cI cC cR [.ref oT, .ref oa1] (ww_X4_arrangeByRows cI cC oT oT_order oT_needed oT_sizes oT_helpers oT_taken oa1 oa1_settings oa1_needs oa1_rowSizes oa1_rows oa1_trainedUntil oa1_leaves oa1_drills T_serving T_order a1_today a1_rowSizes) sz) (QvW D (fun (u : (Nat → Int32)) => Q u) (fun u => (ww_X4_arrangeByRows cI cC oT oT_order oT_needed oT_sizes oT_helpers oT_taken oa1 oa1_settings oa1_needs oa1_rowSizes oa1_rows oa1_trainedUntil oa1_leaves oa1_drills T_serving u a1_today a1_rowSizes)) (ww_X4_arrangeByRows cI cC oT oT_order oT_needed oT_sizes oT_helpers oT_taken oa1 oa1_settings oa1_needs oa1_rowSizes oa1_rows oa1_trainedUntil oa1_leaves oa1_drills T_serving T_order a1_today a1_rowSizes) sz) 0 0 (va_A (ww_X4_arrangeByRows cI cC oT oT_order oT_needed oT_sizes oT_helpers oT_taken oa1 oa1_settings oa1_needs oa1_rowSizes oa1_rows oa1_trainedUntil oa1_leaves oa1_drills T_serving T_order a1_today a1_rowSizes) sz) := by
  refine Met.ofW (cc := cX4_arrangeByRows) (maxL := 5) (ret := none) (by decide) rfl ?_
  intro p e s m args below meth c s₁ B hml hv
  obtain ⟨rfl, hsz, hP, hKw, hD0⟩ := hv
  have hlocks := B.notSynchronized
  subst hsz
  have hD := hD0.self (sz := s.heap.size)
  have CX : cx cX4_arrangeByRows none 5 RX4 wsX4_arrangeByRows p m meth c s ([.ref oT, .ref oa1] : List Value).toArray D cI cC cR (va_A (ww_X4_arrangeByRows cI cC oT oT_order oT_needed oT_sizes oT_helpers oT_taken oa1 oa1_settings oa1_needs oa1_rowSizes oa1_rows oa1_trainedUntil oa1_leaves oa1_drills T_serving T_order a1_today a1_rowSizes) s.heap.size) := ⟨B.exec, B.bytes, B.returns, hml, atoms_spec (ws := wsX4_arrangeByRows) B.pre, findClass_of_methodNamed B.named, hlocks, hKw, fun q h => Or.inr h⟩
  obtain ⟨hx, hb, hr, -, hts, hown, -, -, hA⟩ := id CX
  have hwd : wd D (va_A (ww_X4_arrangeByRows cI cC oT oT_order oT_needed oT_sizes oT_helpers oT_taken oa1 oa1_settings oa1_needs oa1_rowSizes oa1_rows oa1_trainedUntil oa1_leaves oa1_drills T_serving T_order a1_today a1_rowSizes) s.heap.size) s (ww_X4_arrangeByRows cI cC oT oT_order oT_needed oT_sizes oT_helpers oT_taken oa1 oa1_settings oa1_needs oa1_rowSizes oa1_rows oa1_trainedUntil oa1_leaves oa1_drills T_serving T_order a1_today a1_rowSizes) s.heap [] := ⟨hP, hD, va_S.rf⟩
  have hl := lv_entry ([.ref oT, .ref oa1]) (n := 5) (Nat.le_of_ble_eq_true rfl)
  rw [lg_entry_eq]
  generalize (lg_sl ([.ref oT, .ref oa1]) ++ List.replicate (5 - (lg_sl ([.ref oT, .ref oa1])).length) Slot.unset).toArray = ls at hl ⊢
  have hl : lv_has ls 5 [(0, .ref oT), (1, .ref oa1)] := hl
  have HR : ∀ (u0 : Nat → Int32) {H : Heap} {locs : List Loc} {ls : Array Slot} {pc : Nat}, Q u0 → wd D (va_A (ww_X4_arrangeByRows cI cC oT oT_order oT_needed oT_sizes oT_helpers oT_taken oa1 oa1_settings oa1_needs oa1_rowSizes oa1_rows oa1_trainedUntil oa1_leaves oa1_drills T_serving T_order a1_today a1_rowSizes) s.heap.size) s (ww_X4_arrangeByRows cI cC oT oT_order oT_needed oT_sizes oT_helpers oT_taken oa1 oa1_settings oa1_needs oa1_rowSizes oa1_rows oa1_trainedUntil oa1_leaves oa1_drills T_serving u0 a1_today a1_rowSizes) H locs → decode cX4_arrangeByRows pc = .ok (.return_, 1) → W p l e (headSpec wsX4_arrangeByRows rm_X4_arrangeByRows).room s m ([.ref oT, .ref oa1] : List Value).toArray below meth c H locs 0 0 (MQ below (QvW D (fun (u : (Nat → Int32)) => Q u) (fun u => (ww_X4_arrangeByRows cI cC oT oT_order oT_needed oT_sizes oT_helpers oT_taken oa1 oa1_settings oa1_needs oa1_rowSizes oa1_rows oa1_trainedUntil oa1_leaves oa1_drills T_serving u a1_today a1_rowSizes)) (ww_X4_arrangeByRows cI cC oT oT_order oT_needed oT_sizes oT_helpers oT_taken oa1 oa1_settings oa1_needs oa1_rowSizes oa1_rows oa1_trainedUntil oa1_leaves oa1_drills T_serving T_order a1_today a1_rowSizes) s.heap.size) ([.ref oT, .ref oa1] : List Value).toArray s 0 0 (va_A (ww_X4_arrangeByRows cI cC oT oT_order oT_needed oT_sizes oT_helpers oT_taken oa1 oa1_settings oa1_needs oa1_rowSizes oa1_rows oa1_trainedUntil oa1_leaves oa1_drills T_serving T_order a1_today a1_rowSizes) s.heap.size)) (F0 m pc ls []) := by
    intro u0 H locs ls pc hq hw9 hd9
    exact W.vret hx hb hr (fun t ht hW => ⟨⟨u0, rfl, hq, by rw [ht]; exact hw9.1, hw9.2.1⟩, hw9.2.2.F ht⟩) hw9.2.2.2.2 hd9
  unfold wp_X4_arrangeByRows at hw
  refine lv_iconst (v := (nI 0)) hx hb dX4_arrangeByRows_0 rfl ?_
  refine lv_istore_n (lv' := [(2, .int (nI 0)), (0, .ref oT), (1, .ref oa1)]) hx hb dX4_arrangeByRows_1 rfl hl (by decide) rfl (fun ls hl => ?_)
  refine lv_iconst (v := (nI 0)) hx hb dX4_arrangeByRows_2 rfl ?_
  refine lv_istore_n (lv' := [(3, .int (nI 0)), (2, .int (nI 0)), (0, .ref oT), (1, .ref oa1)]) hx hb dX4_arrangeByRows_3 rfl hl (by decide) rfl (fun ls hl => ?_)
  obtain ⟨n1, hw⟩ := hw
  refine blk_X4_arrangeByRows_4 (CX := CX) (oT := oT) (oT_order := oT_order) (oT_needed := oT_needed) (oT_sizes := oT_sizes) (oT_helpers := oT_helpers) (oT_taken := oT_taken) (oa1 := oa1) (oa1_settings := oa1_settings) (oa1_needs := oa1_needs) (oa1_rowSizes := oa1_rowSizes) (oa1_rows := oa1_rows) (oa1_trainedUntil := oa1_trainedUntil) (oa1_leaves := oa1_leaves) (oa1_drills := oa1_drills) (T_serving := T_serving) (a1_today := a1_today) (a1_rowSizes := a1_rowSizes) (HR := HR) (HK_59 := fun T_order2 hw H locs ls hwd hl => ?_) n1 T_order (nI 0) (nI 0) hw _ _ _ hwd (lv_sub hl [2, 3, 1, 0] rfl)
  try dsimp only at hw
  exact HR T_order2 hw hwd dX4_arrangeByRows_59
abbrev ww_X4_take (cI cC : ClassId) (oT oT_order oT_needed oT_sizes oT_helpers oT_taken : Nat) (T_serving : Int32) (T_sizes : Nat → Int32) (T_taken : Nat → Int32) : va_W := [(oT, .inr (4, [.ref oT_order, .ref oT_needed, .ref oT_sizes, .ref oT_helpers, .ref oT_taken, .int T_serving])), (oT_sizes, .inl (cI, 10, .inl T_sizes)), (oT_taken, .inl (cI, 30, .inl T_taken))]
abbrev rm_X4_take : Room := { frames := 0, cells := 0, slots := 0, locals := 0 }
theorem ic_X4_take_X4 : ∀ w ∈ u_ws RX4 TX4 6, w ∈ wsX4_take := by
  intro w h
  simp only [wsX4_take, List.mem_cons, List.mem_append]
  simp only [h, or_true, true_or]
def wp_X4_take (T_serving : Int32) (T_sizes : Nat → Int32) (T_taken : Nat → Int32) (x1 : Int32) (x2 : Int32) (Q : Int32 → (Nat → Int32) → (Nat → Int32) → Prop) : Prop := vp_in x1 10 ∧ ∀ x3_1, x3_1 = T_sizes x1.toNatClampNeg → ((x3_1 < (nI 0) → Q T_serving T_sizes T_taken) ∧ (¬ x3_1 < (nI 0) → (((nI 3) ≤ x3_1 → Q T_serving T_sizes T_taken) ∧ (¬ (nI 3) ≤ x3_1 → vp_in ((x1 * (nI 3)) + x3_1) 30 ∧ ∀ T_taken4, T_taken4 = upd T_taken ((x1 * (nI 3)) + x3_1).toNatClampNeg x2 → vp_in x1 10 ∧ ∀ T_sizes5, T_sizes5 = upd T_sizes x1.toNatClampNeg (x3_1 + (nI 1)) → ∀ T_serving6, T_serving6 = T_serving ||| ((nI 1) <<< (x2 &&& 31)) → Q T_serving6 T_sizes5 T_taken4))))
set_option maxRecDepth 100000 in
set_option maxHeartbeats 4000000 in
theorem c_X4_take (l : Launch) {D : va_G} {cI cC cR : ClassId} (oT oT_order oT_needed oT_sizes oT_helpers oT_taken : Nat) (sz : Nat) (T_serving : Int32) (T_sizes : Nat → Int32) (T_taken : Nat → Int32) (x1 : Int32) (x2 : Int32) {Q : Int32 → (Nat → Int32) → (Nat → Int32) → Prop} (hw : wp_X4_take T_serving T_sizes T_taken x1 x2 Q) : Met l yX4_take wsX4_take rm_X4_take (PcW D cI cC cR [.ref oT, .int x1, .int x2] (ww_X4_take cI cC oT oT_order oT_needed oT_sizes oT_helpers oT_taken T_serving T_sizes T_taken) sz) (QvW D (fun (u : Int32 × (Nat → Int32) × (Nat → Int32)) => Q u.1 u.2.1 u.2.2) (fun u => (ww_X4_take cI cC oT oT_order oT_needed oT_sizes oT_helpers oT_taken (u.1) (u.2.1) (u.2.2))) (ww_X4_take cI cC oT oT_order oT_needed oT_sizes oT_helpers oT_taken T_serving T_sizes T_taken) sz) 0 0 (va_A (ww_X4_take cI cC oT oT_order oT_needed oT_sizes oT_helpers oT_taken T_serving T_sizes T_taken) sz) := by
  refine Met.ofW (cc := cX4_take) (maxL := 4) (ret := none) (by decide) rfl ?_
  intro p e s m args below meth c s₁ B hml hv
  obtain ⟨rfl, hsz, hP, hKw, hD0⟩ := hv
  have hlocks := B.notSynchronized
  subst hsz
  have hD := hD0.self (sz := s.heap.size)
  have CX : cx cX4_take none 4 RX4 wsX4_take p m meth c s ([.ref oT, .int x1, .int x2] : List Value).toArray D cI cC cR (va_A (ww_X4_take cI cC oT oT_order oT_needed oT_sizes oT_helpers oT_taken T_serving T_sizes T_taken) s.heap.size) := ⟨B.exec, B.bytes, B.returns, hml, atoms_spec (ws := wsX4_take) B.pre, findClass_of_methodNamed B.named, hlocks, hKw, fun q h => Or.inr h⟩
  obtain ⟨hx, hb, hr, -, hts, hown, -, -, hA⟩ := id CX
  have hwd : wd D (va_A (ww_X4_take cI cC oT oT_order oT_needed oT_sizes oT_helpers oT_taken T_serving T_sizes T_taken) s.heap.size) s (ww_X4_take cI cC oT oT_order oT_needed oT_sizes oT_helpers oT_taken T_serving T_sizes T_taken) s.heap [] := ⟨hP, hD, va_S.rf⟩
  have hl := lv_entry ([.ref oT, .int x1, .int x2]) (n := 4) (Nat.le_of_ble_eq_true rfl)
  rw [lg_entry_eq]
  generalize (lg_sl ([.ref oT, .int x1, .int x2]) ++ List.replicate (4 - (lg_sl ([.ref oT, .int x1, .int x2])).length) Slot.unset).toArray = ls at hl ⊢
  have hl : lv_has ls 4 [(0, .ref oT), (1, .int x1), (2, .int x2)] := hl
  have HR : ∀ (u0 : Int32) (u1 : Nat → Int32) (u2 : Nat → Int32) {H : Heap} {locs : List Loc} {ls : Array Slot} {pc : Nat}, Q u0 u1 u2 → wd D (va_A (ww_X4_take cI cC oT oT_order oT_needed oT_sizes oT_helpers oT_taken T_serving T_sizes T_taken) s.heap.size) s (ww_X4_take cI cC oT oT_order oT_needed oT_sizes oT_helpers oT_taken u0 u1 u2) H locs → decode cX4_take pc = .ok (.return_, 1) → W p l e (headSpec wsX4_take rm_X4_take).room s m ([.ref oT, .int x1, .int x2] : List Value).toArray below meth c H locs 0 0 (MQ below (QvW D (fun (u : Int32 × (Nat → Int32) × (Nat → Int32)) => Q u.1 u.2.1 u.2.2) (fun u => (ww_X4_take cI cC oT oT_order oT_needed oT_sizes oT_helpers oT_taken (u.1) (u.2.1) (u.2.2))) (ww_X4_take cI cC oT oT_order oT_needed oT_sizes oT_helpers oT_taken T_serving T_sizes T_taken) s.heap.size) ([.ref oT, .int x1, .int x2] : List Value).toArray s 0 0 (va_A (ww_X4_take cI cC oT oT_order oT_needed oT_sizes oT_helpers oT_taken T_serving T_sizes T_taken) s.heap.size)) (F0 m pc ls []) := by
    intro u0 u1 u2 H locs ls pc hq hw9 hd9
    exact W.vret hx hb hr (fun t ht hW => ⟨⟨(u0, u1, u2), rfl, hq, by rw [ht]; exact hw9.1, hw9.2.1⟩, hw9.2.2.F ht⟩) hw9.2.2.2.2 hd9
  unfold wp_X4_take at hw
  refine lv_aload_n hx hb dX4_take_0 rfl (lv_at hl 0 rfl) ?_
  refine va_get (D := D) (ci := 4) (v := .ref oT_sizes) (C := RX4) (T := TX4) (N := 6) hx hb hts ic_X4_take_X4 hown hKw.1 hwd.1 0 rfl rfl 2 (by decide) (hts (.fieldLink RX4 18 "DrillWardens$Roster" "sizes" "[I") (List.mem_of_getElem? (i := 1) rfl)) (fun _ h9 => h9) rfl dX4_take_1 ?_
  refine lv_iload_n hx hb dX4_take_4 rfl (lv_at hl 1 rfl) ?_
  refine va_iald hx hb hKw.1 hwd.1 1 0 rfl rfl hw.1 dX4_take_5 ?_
  replace hw := hw.2
  refine lv_topi (fun x3_1 e_x3_1 => ?_)
  replace hw := hw x3_1 e_x3_1
  refine lv_istore_n (lv' := [(3, .int x3_1), (0, .ref oT), (1, .int x1), (2, .int x2)]) hx hb dX4_take_6 rfl hl (by decide) rfl (fun ls hl => ?_)
  refine lv_iconst (v := (nI 0)) hx hb dX4_take_7 rfl ?_
  refine lv_iload_n hx hb dX4_take_8 rfl (lv_at hl 0 rfl) ?_
  refine lv_icmp_gt (tgt := 49) hx hb dX4_take_9 (by decide) (fun c2 => ?_) (fun c2 => ?_)
  · replace hw := hw.1 c2
    exact HR T_serving T_sizes T_taken hw hwd dX4_take_49
  · replace hw := hw.2 c2
    refine lv_iload_n hx hb dX4_take_12 rfl (lv_at hl 0 rfl) ?_
    refine lv_iconst (v := (nI 3)) hx hb dX4_take_13 rfl ?_
    refine lv_icmp_ge (tgt := 49) hx hb dX4_take_14 (by decide) (fun c3 => ?_) (fun c3 => ?_)
    · replace hw := hw.1 c3
      exact HR T_serving T_sizes T_taken hw hwd dX4_take_49
    · replace hw := hw.2 c3
      refine lv_aload_n hx hb dX4_take_17 rfl (lv_at hl 1 rfl) ?_
      refine va_get (D := D) (ci := 4) (v := .ref oT_taken) (C := RX4) (T := TX4) (N := 6) hx hb hts ic_X4_take_X4 hown hKw.1 hwd.1 0 rfl rfl 4 (by decide) (hts (.fieldLink RX4 24 "DrillWardens$Roster" "taken" "[I") (List.mem_of_getElem? (i := 2) rfl)) (fun _ h9 => h9) rfl dX4_take_18 ?_
      refine lv_iload_n hx hb dX4_take_21 rfl (lv_at hl 2 rfl) ?_
      refine lv_iconst (v := (nI 3)) hx hb dX4_take_22 rfl ?_
      refine lv_imul hx hb dX4_take_23 ?_
      refine lv_iload_n hx hb dX4_take_24 rfl (lv_at hl 0 rfl) ?_
      refine lv_iadd hx hb dX4_take_25 ?_
      refine lv_iload_n hx hb dX4_take_26 rfl (lv_at hl 3 rfl) ?_
      obtain ⟨T_taken4, e_T_taken4⟩ : ∃ y : Nat → Int32, y = upd T_taken ((x1 * (nI 3)) + x3_1).toNatClampNeg x2 := ⟨_, rfl⟩
      refine va_iast hx hb hKw.1 hwd.1 hwd.2.1 hwd.2.2 2 0 rfl rfl hw.1 dX4_take_27 (fun H locs h1 h2 h3 => ?_)
      replace hw := hw.2 T_taken4 e_T_taken4
      rw [← e_T_taken4] at h1 h2
      replace hwd : wd D (va_A (ww_X4_take cI cC oT oT_order oT_needed oT_sizes oT_helpers oT_taken T_serving T_sizes T_taken) s.heap.size) s (ww_X4_take cI cC oT oT_order oT_needed oT_sizes oT_helpers oT_taken T_serving T_sizes T_taken4) H locs := ⟨h1, h2, h3⟩
      clear h1 h2 h3
      refine lv_aload_n hx hb dX4_take_28 rfl (lv_at hl 1 rfl) ?_
      refine va_get (D := D) (ci := 4) (v := .ref oT_sizes) (C := RX4) (T := TX4) (N := 6) hx hb hts ic_X4_take_X4 hown hKw.1 hwd.1 0 rfl rfl 2 (by decide) (hts (.fieldLink RX4 18 "DrillWardens$Roster" "sizes" "[I") (List.mem_of_getElem? (i := 1) rfl)) (fun _ h9 => h9) rfl dX4_take_29 ?_
      refine lv_iload_n hx hb dX4_take_32 rfl (lv_at hl 2 rfl) ?_
      refine lv_iload_n hx hb dX4_take_33 rfl (lv_at hl 0 rfl) ?_
      refine lv_iconst (v := (nI 1)) hx hb dX4_take_34 rfl ?_
      refine lv_iadd hx hb dX4_take_35 ?_
      obtain ⟨T_sizes5, e_T_sizes5⟩ : ∃ y : Nat → Int32, y = upd T_sizes x1.toNatClampNeg (x3_1 + (nI 1)) := ⟨_, rfl⟩
      refine va_iast hx hb hKw.1 hwd.1 hwd.2.1 hwd.2.2 1 0 rfl rfl hw.1 dX4_take_36 (fun H locs h1 h2 h3 => ?_)
      replace hw := hw.2 T_sizes5 e_T_sizes5
      rw [← e_T_sizes5] at h1 h2
      replace hwd : wd D (va_A (ww_X4_take cI cC oT oT_order oT_needed oT_sizes oT_helpers oT_taken T_serving T_sizes T_taken) s.heap.size) s (ww_X4_take cI cC oT oT_order oT_needed oT_sizes oT_helpers oT_taken T_serving T_sizes5 T_taken4) H locs := ⟨h1, h2, h3⟩
      clear h1 h2 h3
      refine lv_aload_n hx hb dX4_take_37 rfl (lv_at hl 1 rfl) ?_
      refine lv_dup hx hb dX4_take_38 rfl ?_
      refine va_get (D := D) (ci := 4) (v := .int T_serving) (C := RX4) (T := TX4) (N := 6) hx hb hts ic_X4_take_X4 hown hKw.1 hwd.1 0 rfl rfl 5 (by decide) (hts (.fieldLink RX4 51 "DrillWardens$Roster" "serving" "I") (List.mem_of_getElem? (i := 3) rfl)) (fun _ h9 => h9) rfl dX4_take_39 ?_
      refine lv_iconst (v := (nI 1)) hx hb dX4_take_42 rfl ?_
      refine lv_iload_n hx hb dX4_take_43 rfl (lv_at hl 3 rfl) ?_
      refine lv_ishl hx hb dX4_take_44 ?_
      refine lv_ior hx hb dX4_take_45 ?_
      refine lv_topi (fun T_serving6 e_T_serving6 => ?_)
      replace hw := hw T_serving6 e_T_serving6
      refine va_put (D := D) (ci := 4) (v := .int T_serving6) (ty := .int) (C := RX4) (T := TX4) (N := 6) hx hb hts ic_X4_take_X4 tyX4 tyX4_ok nmX4 hown hKw.1 hwd.1 hwd.2.1 hwd.2.2 0 rfl rfl 5 (by decide) (hts (.fieldLink RX4 51 "DrillWardens$Roster" "serving" "I") (List.mem_of_getElem? (i := 3) rfl)) (fun _ h9 => h9) rfl (tyX4_ok 5 (by decide)) rfl rfl (Nat.le_of_ble_eq_true rfl) dX4_take_46 (fun H locs h1 h2 h3 => ?_)
      replace hwd : wd D (va_A (ww_X4_take cI cC oT oT_order oT_needed oT_sizes oT_helpers oT_taken T_serving T_sizes T_taken) s.heap.size) s (ww_X4_take cI cC oT oT_order oT_needed oT_sizes oT_helpers oT_taken T_serving6 T_sizes5 T_taken4) H locs := ⟨h1, h2, h3⟩
      clear h1 h2 h3
      exact HR T_serving6 T_sizes5 T_taken4 hw hwd dX4_take_49
abbrev ww_X4_lack (cI cC : ClassId) (oT oT_order oT_needed oT_sizes oT_helpers oT_taken : Nat) (T_serving : Int32) (T_needed : Nat → Int32) (T_sizes : Nat → Int32) : va_W := [(oT, .inr (4, [.ref oT_order, .ref oT_needed, .ref oT_sizes, .ref oT_helpers, .ref oT_taken, .int T_serving])), (oT_needed, .inl (cI, 10, .inl T_needed)), (oT_sizes, .inl (cI, 10, .inl T_sizes))]
abbrev rm_X4_lack : Room := { frames := 0, cells := 0, slots := 0, locals := 0 }
theorem ic_X4_lack_X4 : ∀ w ∈ u_ws RX4 TX4 6, w ∈ wsX4_lack := by
  intro w h
  simp only [wsX4_lack, List.mem_cons, List.mem_append]
  simp only [h, or_true, true_or]
def wp_X4_lack (T_needed : Nat → Int32) (T_sizes : Nat → Int32) (x1 : Int32) (Q : Int32 → Prop) : Prop := vp_in x1 10 ∧ vp_in x1 10 ∧ Q ((T_needed x1.toNatClampNeg) - (T_sizes x1.toNatClampNeg))
set_option maxRecDepth 100000 in
set_option maxHeartbeats 4000000 in
theorem c_X4_lack (l : Launch) {D : va_G} {cI cC cR : ClassId} (oT oT_order oT_needed oT_sizes oT_helpers oT_taken : Nat) (sz : Nat) (T_serving : Int32) (T_needed : Nat → Int32) (T_sizes : Nat → Int32) (x1 : Int32) {Q : Int32 → Prop} (hw : wp_X4_lack T_needed T_sizes x1 Q) : Met l yX4_lack wsX4_lack rm_X4_lack (PcW D cI cC cR [.ref oT, .int x1] (ww_X4_lack cI cC oT oT_order oT_needed oT_sizes oT_helpers oT_taken T_serving T_needed T_sizes) sz) (QiW D (fun (r : Int32) (u : Unit) => Q r ) (fun u => (ww_X4_lack cI cC oT oT_order oT_needed oT_sizes oT_helpers oT_taken T_serving T_needed T_sizes)) (ww_X4_lack cI cC oT oT_order oT_needed oT_sizes oT_helpers oT_taken T_serving T_needed T_sizes) sz) 0 0 (va_A (ww_X4_lack cI cC oT oT_order oT_needed oT_sizes oT_helpers oT_taken T_serving T_needed T_sizes) sz) := by
  refine Met.ofW (cc := cX4_lack) (maxL := 2) (ret := (some .int)) (by decide) rfl ?_
  intro p e s m args below meth c s₁ B hml hv
  obtain ⟨rfl, hsz, hP, hKw, hD0⟩ := hv
  have hlocks := B.notSynchronized
  subst hsz
  have hD := hD0.self (sz := s.heap.size)
  have CX : cx cX4_lack (some .int) 2 RX4 wsX4_lack p m meth c s ([.ref oT, .int x1] : List Value).toArray D cI cC cR (va_A (ww_X4_lack cI cC oT oT_order oT_needed oT_sizes oT_helpers oT_taken T_serving T_needed T_sizes) s.heap.size) := ⟨B.exec, B.bytes, B.returns, hml, atoms_spec (ws := wsX4_lack) B.pre, findClass_of_methodNamed B.named, hlocks, hKw, fun q h => Or.inr h⟩
  obtain ⟨hx, hb, hr, -, hts, hown, -, -, hA⟩ := id CX
  have hwd : wd D (va_A (ww_X4_lack cI cC oT oT_order oT_needed oT_sizes oT_helpers oT_taken T_serving T_needed T_sizes) s.heap.size) s (ww_X4_lack cI cC oT oT_order oT_needed oT_sizes oT_helpers oT_taken T_serving T_needed T_sizes) s.heap [] := ⟨hP, hD, va_S.rf⟩
  have hl := lv_entry ([.ref oT, .int x1]) (n := 2) (Nat.le_of_ble_eq_true rfl)
  rw [lg_entry_eq]
  generalize (lg_sl ([.ref oT, .int x1]) ++ List.replicate (2 - (lg_sl ([.ref oT, .int x1])).length) Slot.unset).toArray = ls at hl ⊢
  have hl : lv_has ls 2 [(0, .ref oT), (1, .int x1)] := hl
  have HR : ∀ (r : Int32) {H : Heap} {locs : List Loc} {ls : Array Slot} {pc : Nat}, Q r → wd D (va_A (ww_X4_lack cI cC oT oT_order oT_needed oT_sizes oT_helpers oT_taken T_serving T_needed T_sizes) s.heap.size) s (ww_X4_lack cI cC oT oT_order oT_needed oT_sizes oT_helpers oT_taken T_serving T_needed T_sizes) H locs → decode cX4_lack pc = .ok (.ireturn, 1) → W p l e (headSpec wsX4_lack rm_X4_lack).room s m ([.ref oT, .int x1] : List Value).toArray below meth c H locs 0 0 (MQ below (QiW D (fun (r : Int32) (u : Unit) => Q r ) (fun u => (ww_X4_lack cI cC oT oT_order oT_needed oT_sizes oT_helpers oT_taken T_serving T_needed T_sizes)) (ww_X4_lack cI cC oT oT_order oT_needed oT_sizes oT_helpers oT_taken T_serving T_needed T_sizes) s.heap.size) ([.ref oT, .int x1] : List Value).toArray s 0 0 (va_A (ww_X4_lack cI cC oT oT_order oT_needed oT_sizes oT_helpers oT_taken T_serving T_needed T_sizes) s.heap.size)) (F0 m pc ls [.int r]) := by
    intro r H locs ls pc hq hw9 hd9
    exact W.iret (v := r) hx hb hr (fun t ht hW => ⟨⟨r, (), rfl, hq, by rw [ht]; exact hw9.1, hw9.2.1⟩, hw9.2.2.F ht⟩) hw9.2.2.2.2 hd9
  unfold wp_X4_lack at hw
  refine lv_aload_n hx hb dX4_lack_0 rfl (lv_at hl 0 rfl) ?_
  refine va_get (D := D) (ci := 4) (v := .ref oT_needed) (C := RX4) (T := TX4) (N := 6) hx hb hts ic_X4_lack_X4 hown hKw.1 hwd.1 0 rfl rfl 1 (by decide) (hts (.fieldLink RX4 15 "DrillWardens$Roster" "needed" "[I") (List.mem_of_getElem? (i := 1) rfl)) (fun _ h9 => h9) rfl dX4_lack_1 ?_
  refine lv_iload_n hx hb dX4_lack_4 rfl (lv_at hl 1 rfl) ?_
  refine va_iald hx hb hKw.1 hwd.1 1 0 rfl rfl hw.1 dX4_lack_5 ?_
  replace hw := hw.2
  refine lv_aload_n hx hb dX4_lack_6 rfl (lv_at hl 0 rfl) ?_
  refine va_get (D := D) (ci := 4) (v := .ref oT_sizes) (C := RX4) (T := TX4) (N := 6) hx hb hts ic_X4_lack_X4 hown hKw.1 hwd.1 0 rfl rfl 2 (by decide) (hts (.fieldLink RX4 18 "DrillWardens$Roster" "sizes" "[I") (List.mem_of_getElem? (i := 2) rfl)) (fun _ h9 => h9) rfl dX4_lack_7 ?_
  refine lv_iload_n hx hb dX4_lack_10 rfl (lv_at hl 1 rfl) ?_
  refine va_iald hx hb hKw.1 hwd.1 2 0 rfl rfl hw.1 dX4_lack_11 ?_
  replace hw := hw.2
  refine lv_isub hx hb dX4_lack_12 ?_
  exact HR ((T_needed x1.toNatClampNeg) - (T_sizes x1.toNatClampNeg)) hw hwd dX4_lack_13
abbrev ww_X4_lackBeyond (cI cC : ClassId) (oT oT_order oT_needed oT_sizes oT_helpers oT_taken oa1 oa1_order oa1_needed oa1_sizes oa1_helpers oa1_taken : Nat) (T_serving : Int32) (T_needed : Nat → Int32) (T_sizes : Nat → Int32) (a1_serving : Int32) (a1_needed : Nat → Int32) (a1_sizes : Nat → Int32) : va_W := [(oT, .inr (4, [.ref oT_order, .ref oT_needed, .ref oT_sizes, .ref oT_helpers, .ref oT_taken, .int T_serving])), (oT_needed, .inl (cI, 10, .inl T_needed)), (oT_sizes, .inl (cI, 10, .inl T_sizes)), (oa1, .inr (4, [.ref oa1_order, .ref oa1_needed, .ref oa1_sizes, .ref oa1_helpers, .ref oa1_taken, .int a1_serving])), (oa1_needed, .inl (cI, 10, .inl a1_needed)), (oa1_sizes, .inl (cI, 10, .inl a1_sizes))]
abbrev rm_X4_lackBeyond : Room := { frames := 1, cells := 0, slots := 0, locals := 24 }
def wb_X4_lackBeyond_4 (T_needed : Nat → Int32) (T_sizes : Nat → Int32) (a1_needed : Nat → Int32) (a1_sizes : Nat → Int32) (K_34 : Int32 → Prop) : Nat → Int32 → Int32 → Prop
  | 0, _, _ => False
  | n + 1, x2, x3 => (((nI 10) ≤ x3 → K_34 x2) ∧ (¬ (nI 10) ≤ x3 → wp_X4_lack T_needed T_sizes x3 (fun r2 => wp_X4_lack a1_needed a1_sizes x3 (fun r3 => ∀ mm4, mm4 = (if (nI 0) < (r2 - r3) then (r2 - r3) else (nI 0)) → ∀ x2_5, x2_5 = x2 + mm4 → ∀ x3_6, x3_6 = x3 + (nI 1) → wb_X4_lackBeyond_4 T_needed T_sizes a1_needed a1_sizes K_34 n x2_5 x3_6))))
set_option maxRecDepth 100000 in
set_option maxHeartbeats 4000000 in
theorem blk_X4_lackBeyond_4 {p : Program} {l : Launch} {e : Env} {s : State} {m : MethodId} {args : Array Value} {below : List Frame} {meth : Method} {c : Code} {D : va_G} {cI cC cR : ClassId} {A : Nat → Prop} {Z : State → Prop} (CX : cx cX4_lackBeyond (some .int) 4 RX4 wsX4_lackBeyond p m meth c s args D cI cC cR A) (oT oT_order oT_needed oT_sizes oT_helpers oT_taken oa1 oa1_order oa1_needed oa1_sizes oa1_helpers oa1_taken : Nat) (T_serving : Int32) (T_needed : Nat → Int32) (T_sizes : Nat → Int32) (a1_serving : Int32) (a1_needed : Nat → Int32) (a1_sizes : Nat → Int32) {K_34 : Int32 → Prop} {Q : Int32 → Prop} (HR : ∀ (r : Int32) {H : Heap} {locs : List Loc} {ls : Array Slot} {pc : Nat}, Q r → wd D A s (ww_X4_lackBeyond cI cC oT oT_order oT_needed oT_sizes oT_helpers oT_taken oa1 oa1_order oa1_needed oa1_sizes oa1_helpers oa1_taken T_serving T_needed T_sizes a1_serving a1_needed a1_sizes) H locs → decode cX4_lackBeyond pc = .ok (.ireturn, 1) → W p l e (headSpec wsX4_lackBeyond rm_X4_lackBeyond).room s m args below meth c H locs 0 0 Z (F0 m pc ls [.int r])) (HK_34 : ∀ (x2y : Int32), K_34 x2y → ∀ (H : Heap) (locs : List Loc) (ls : Array Slot), wd D A s (ww_X4_lackBeyond cI cC oT oT_order oT_needed oT_sizes oT_helpers oT_taken oa1 oa1_order oa1_needed oa1_sizes oa1_helpers oa1_taken T_serving T_needed T_sizes a1_serving a1_needed a1_sizes) H locs → lv_has ls 4 [(2, .int x2y)] → W p l e (headSpec wsX4_lackBeyond rm_X4_lackBeyond).room s m args below meth c H locs 0 0 Z (F0 m 34 ls [])) : ∀ (n : Nat) (x2 : Int32) (x3 : Int32), wb_X4_lackBeyond_4 T_needed T_sizes a1_needed a1_sizes K_34 n x2 x3 → ∀ (H : Heap) (locs : List Loc) (ls : Array Slot), wd D A s (ww_X4_lackBeyond cI cC oT oT_order oT_needed oT_sizes oT_helpers oT_taken oa1 oa1_order oa1_needed oa1_sizes oa1_helpers oa1_taken T_serving T_needed T_sizes a1_serving a1_needed a1_sizes) H locs → lv_has ls 4 [(0, .ref oT), (1, .ref oa1), (2, .int x2), (3, .int x3)] → W p l e (headSpec wsX4_lackBeyond rm_X4_lackBeyond).room s m args below meth c H locs 0 0 Z (F0 m 4 ls []) := by
  obtain ⟨hx, hb, hr, hml, hts, hown, hlocks, hKw, hA⟩ := id CX
  intro n
  induction n with
  | zero => intro x2 x3 hw; exact False.elim hw
  | succ n ih =>
    intro x2 x3 hw H locs ls hwd hl
    rw [wb_X4_lackBeyond_4] at hw
    refine lv_iload_n hx hb dX4_lackBeyond_4 rfl (lv_at hl 3 rfl) ?_
    refine lv_bipush (v := (nI 10)) hx hb dX4_lackBeyond_5 rfl ?_
    refine lv_icmp_ge (tgt := 34) hx hb dX4_lackBeyond_7 (by decide) (fun c1 => ?_) (fun c1 => ?_)
    · replace hw := hw.1 c1
      exact HK_34 x2 hw _ _ _ hwd (lv_sub hl [2] rfl)
    · replace hw := hw.2 c1
      refine lv_iload_n hx hb dX4_lackBeyond_10 rfl (lv_at hl 2 rfl) ?_
      refine lv_iconst (v := (nI 0)) hx hb dX4_lackBeyond_11 rfl ?_
      refine lv_aload_n hx hb dX4_lackBeyond_12 rfl (lv_at hl 0 rfl) ?_
      refine lv_iload_n hx hb dX4_lackBeyond_13 rfl (lv_at hl 3 rfl) ?_
      refine kcVi (W1 := (fun u => (ww_X4_lackBeyond cI cC oT oT_order oT_needed oT_sizes oT_helpers oT_taken oa1 oa1_order oa1_needed oa1_sizes oa1_helpers oa1_taken T_serving T_needed T_sizes a1_serving a1_needed a1_sizes))) (rest := [.int (nI 0), .int x2]) (As := [.int x3]) ⟨Nat.le_of_ble_eq_true rfl, Nat.le_of_ble_eq_true rfl⟩ ⟨hx, hb, hml, hown, hts⟩ (c_X4_lack l oT oT_order oT_needed oT_sizes oT_helpers oT_taken H.size T_serving T_needed T_sizes x3 hw) (cwV 1 hts gX4_lackBeyond_X4_lack rfl rfl rfl ⟨rfl, hd_X4_lack⟩ ⟨Nat.le_of_ble_eq_true rfl, Nat.le_of_ble_eq_true rfl⟩) hKw hA hwd [0, 1, 2] [3, 4, 5] [3, 4, 5, 0, 1, 2] [(oa1, .inr (4, [.ref oa1_order, .ref oa1_needed, .ref oa1_sizes, .ref oa1_helpers, .ref oa1_taken, .int a1_serving])), (oa1_needed, .inl (cI, 10, .inl a1_needed)), (oa1_sizes, .inl (cI, 10, .inl a1_sizes))] rfl rfl rfl rfl (by decide) rfl (fun _ => rfl) 0 4 rfl rfl rfl rfl hl.1 rfl (lv_room (Nat.le_of_ble_eq_true rfl)) dX4_lackBeyond_14 (fun r2 u H locs hw hwd => ?_)
      try dsimp only at hw
      replace hwd : wd D A s (ww_X4_lackBeyond cI cC oT oT_order oT_needed oT_sizes oT_helpers oT_taken oa1 oa1_order oa1_needed oa1_sizes oa1_helpers oa1_taken T_serving T_needed T_sizes a1_serving a1_needed a1_sizes) H locs := hwd
      refine lv_aload_n hx hb dX4_lackBeyond_17 rfl (lv_at hl 1 rfl) ?_
      refine lv_iload_n hx hb dX4_lackBeyond_18 rfl (lv_at hl 3 rfl) ?_
      refine kcVi (W1 := (fun u => (ww_X4_lackBeyond cI cC oT oT_order oT_needed oT_sizes oT_helpers oT_taken oa1 oa1_order oa1_needed oa1_sizes oa1_helpers oa1_taken T_serving T_needed T_sizes a1_serving a1_needed a1_sizes))) (rest := [.int r2, .int (nI 0), .int x2]) (As := [.int x3]) ⟨Nat.le_of_ble_eq_true rfl, Nat.le_of_ble_eq_true rfl⟩ ⟨hx, hb, hml, hown, hts⟩ (c_X4_lack l oa1 oa1_order oa1_needed oa1_sizes oa1_helpers oa1_taken H.size a1_serving a1_needed a1_sizes x3 hw) (cwV 1 hts gX4_lackBeyond_X4_lack rfl rfl rfl ⟨rfl, hd_X4_lack⟩ ⟨Nat.le_of_ble_eq_true rfl, Nat.le_of_ble_eq_true rfl⟩) hKw hA hwd [3, 4, 5] [0, 1, 2] [0, 1, 2, 3, 4, 5] [(oT, .inr (4, [.ref oT_order, .ref oT_needed, .ref oT_sizes, .ref oT_helpers, .ref oT_taken, .int T_serving])), (oT_needed, .inl (cI, 10, .inl T_needed)), (oT_sizes, .inl (cI, 10, .inl T_sizes))] rfl rfl rfl rfl (by decide) rfl (fun _ => rfl) 3 4 rfl rfl rfl rfl hl.1 rfl (lv_room (Nat.le_of_ble_eq_true rfl)) dX4_lackBeyond_19 (fun r3 u H locs hw hwd => ?_)
      try dsimp only at hw
      replace hwd : wd D A s (ww_X4_lackBeyond cI cC oT oT_order oT_needed oT_sizes oT_helpers oT_taken oa1 oa1_order oa1_needed oa1_sizes oa1_helpers oa1_taken T_serving T_needed T_sizes a1_serving a1_needed a1_sizes) H locs := hwd
      refine lv_isub hx hb dX4_lackBeyond_22 ?_
      refine va_mmax hx hb (hml.trans hl.1.symm) hown (hts (.methodLink RX4 82 Lib.Math.max.name) (List.mem_of_getElem? (i := 1) rfl)) (hts (.static Lib.Math.max.name) (List.mem_of_getElem? (i := 2) rfl)) (hts (.initialized "java/lang/Math") (List.mem_of_getElem? (i := 3) rfl)) (hts (.code Lib.Math.max.name Lib.Math.max.code 2 (some .int)) (List.mem_of_getElem? (i := 4) rfl)) (Nat.le_of_ble_eq_true rfl) (Nat.le_of_ble_eq_true rfl) (Nat.zero_le _) (Nat.zero_le _) dX4_lackBeyond_23 ?_
      refine lv_topi (fun mm4 e_mm4 => ?_)
      replace hw := hw mm4 e_mm4
      refine lv_iadd hx hb dX4_lackBeyond_26 ?_
      refine lv_topi (fun x2_5 e_x2_5 => ?_)
      replace hw := hw x2_5 e_x2_5
      refine lv_istore_n (lv' := [(2, .int x2_5), (0, .ref oT), (1, .ref oa1), (3, .int x3)]) hx hb dX4_lackBeyond_27 rfl hl (by decide) rfl (fun ls hl => ?_)
      obtain ⟨x3_6, e_x3_6⟩ : ∃ y : Int32, y = x3 + (nI 1) := ⟨_, rfl⟩
      replace hw := hw x3_6 e_x3_6
      refine lv_iinc (v := x3_6) (lv' := [(3, .int x3_6), (2, .int x2_5), (0, .ref oT), (1, .ref oa1)]) hx hb dX4_lackBeyond_28 hl (k := 3) rfl (by rw [e_x3_6]; rfl) (by decide) rfl (fun ls hl => ?_)
      refine lv_goto (tgt := 4) hx hb dX4_lackBeyond_31 (by decide) ?_
      exact ih x2_5 x3_6 hw _ _ _ hwd (lv_sub hl [2, 3, 1, 0] rfl)
def wp_X4_lackBeyond (T_needed : Nat → Int32) (T_sizes : Nat → Int32) (a1_needed : Nat → Int32) (a1_sizes : Nat → Int32) (Q : Int32 → Prop) : Prop := (∃ n1, wb_X4_lackBeyond_4 T_needed T_sizes a1_needed a1_sizes (fun x2_2 => Q x2_2) n1 (nI 0) (nI 0))
set_option maxRecDepth 100000 in
set_option maxHeartbeats 4000000 in
theorem c_X4_lackBeyond (l : Launch) {D : va_G} {cI cC cR : ClassId} (oT oT_order oT_needed oT_sizes oT_helpers oT_taken oa1 oa1_order oa1_needed oa1_sizes oa1_helpers oa1_taken : Nat) (sz : Nat) (T_serving : Int32) (T_needed : Nat → Int32) (T_sizes : Nat → Int32) (a1_serving : Int32) (a1_needed : Nat → Int32) (a1_sizes : Nat → Int32) {Q : Int32 → Prop} (hw : wp_X4_lackBeyond T_needed T_sizes a1_needed a1_sizes Q) : Met l yX4_lackBeyond wsX4_lackBeyond rm_X4_lackBeyond (PcW D cI cC cR [.ref oT, .ref oa1] (ww_X4_lackBeyond cI cC oT oT_order oT_needed oT_sizes oT_helpers oT_taken oa1 oa1_order oa1_needed oa1_sizes oa1_helpers oa1_taken T_serving T_needed T_sizes a1_serving a1_needed a1_sizes) sz) (QiW D (fun (r : Int32) (u : Unit) => Q r ) (fun u => (ww_X4_lackBeyond cI cC oT oT_order oT_needed oT_sizes oT_helpers oT_taken oa1 oa1_order oa1_needed oa1_sizes oa1_helpers oa1_taken T_serving T_needed T_sizes a1_serving a1_needed a1_sizes)) (ww_X4_lackBeyond cI cC oT oT_order oT_needed oT_sizes oT_helpers oT_taken oa1 oa1_order oa1_needed oa1_sizes oa1_helpers oa1_taken T_serving T_needed T_sizes a1_serving a1_needed a1_sizes) sz) 0 0 (va_A (ww_X4_lackBeyond cI cC oT oT_order oT_needed oT_sizes oT_helpers oT_taken oa1 oa1_order oa1_needed oa1_sizes oa1_helpers oa1_taken T_serving T_needed T_sizes a1_serving a1_needed a1_sizes) sz) := by
  refine Met.ofW (cc := cX4_lackBeyond) (maxL := 4) (ret := (some .int)) (by decide) rfl ?_
  intro p e s m args below meth c s₁ B hml hv
  obtain ⟨rfl, hsz, hP, hKw, hD0⟩ := hv
  have hlocks := B.notSynchronized
  subst hsz
  have hD := hD0.self (sz := s.heap.size)
  have CX : cx cX4_lackBeyond (some .int) 4 RX4 wsX4_lackBeyond p m meth c s ([.ref oT, .ref oa1] : List Value).toArray D cI cC cR (va_A (ww_X4_lackBeyond cI cC oT oT_order oT_needed oT_sizes oT_helpers oT_taken oa1 oa1_order oa1_needed oa1_sizes oa1_helpers oa1_taken T_serving T_needed T_sizes a1_serving a1_needed a1_sizes) s.heap.size) := ⟨B.exec, B.bytes, B.returns, hml, atoms_spec (ws := wsX4_lackBeyond) B.pre, findClass_of_methodNamed B.named, hlocks, hKw, fun q h => Or.inr h⟩
  obtain ⟨hx, hb, hr, -, hts, hown, -, -, hA⟩ := id CX
  have hwd : wd D (va_A (ww_X4_lackBeyond cI cC oT oT_order oT_needed oT_sizes oT_helpers oT_taken oa1 oa1_order oa1_needed oa1_sizes oa1_helpers oa1_taken T_serving T_needed T_sizes a1_serving a1_needed a1_sizes) s.heap.size) s (ww_X4_lackBeyond cI cC oT oT_order oT_needed oT_sizes oT_helpers oT_taken oa1 oa1_order oa1_needed oa1_sizes oa1_helpers oa1_taken T_serving T_needed T_sizes a1_serving a1_needed a1_sizes) s.heap [] := ⟨hP, hD, va_S.rf⟩
  have hl := lv_entry ([.ref oT, .ref oa1]) (n := 4) (Nat.le_of_ble_eq_true rfl)
  rw [lg_entry_eq]
  generalize (lg_sl ([.ref oT, .ref oa1]) ++ List.replicate (4 - (lg_sl ([.ref oT, .ref oa1])).length) Slot.unset).toArray = ls at hl ⊢
  have hl : lv_has ls 4 [(0, .ref oT), (1, .ref oa1)] := hl
  have HR : ∀ (r : Int32) {H : Heap} {locs : List Loc} {ls : Array Slot} {pc : Nat}, Q r → wd D (va_A (ww_X4_lackBeyond cI cC oT oT_order oT_needed oT_sizes oT_helpers oT_taken oa1 oa1_order oa1_needed oa1_sizes oa1_helpers oa1_taken T_serving T_needed T_sizes a1_serving a1_needed a1_sizes) s.heap.size) s (ww_X4_lackBeyond cI cC oT oT_order oT_needed oT_sizes oT_helpers oT_taken oa1 oa1_order oa1_needed oa1_sizes oa1_helpers oa1_taken T_serving T_needed T_sizes a1_serving a1_needed a1_sizes) H locs → decode cX4_lackBeyond pc = .ok (.ireturn, 1) → W p l e (headSpec wsX4_lackBeyond rm_X4_lackBeyond).room s m ([.ref oT, .ref oa1] : List Value).toArray below meth c H locs 0 0 (MQ below (QiW D (fun (r : Int32) (u : Unit) => Q r ) (fun u => (ww_X4_lackBeyond cI cC oT oT_order oT_needed oT_sizes oT_helpers oT_taken oa1 oa1_order oa1_needed oa1_sizes oa1_helpers oa1_taken T_serving T_needed T_sizes a1_serving a1_needed a1_sizes)) (ww_X4_lackBeyond cI cC oT oT_order oT_needed oT_sizes oT_helpers oT_taken oa1 oa1_order oa1_needed oa1_sizes oa1_helpers oa1_taken T_serving T_needed T_sizes a1_serving a1_needed a1_sizes) s.heap.size) ([.ref oT, .ref oa1] : List Value).toArray s 0 0 (va_A (ww_X4_lackBeyond cI cC oT oT_order oT_needed oT_sizes oT_helpers oT_taken oa1 oa1_order oa1_needed oa1_sizes oa1_helpers oa1_taken T_serving T_needed T_sizes a1_serving a1_needed a1_sizes) s.heap.size)) (F0 m pc ls [.int r]) := by
    intro r H locs ls pc hq hw9 hd9
    exact W.iret (v := r) hx hb hr (fun t ht hW => ⟨⟨r, (), rfl, hq, by rw [ht]; exact hw9.1, hw9.2.1⟩, hw9.2.2.F ht⟩) hw9.2.2.2.2 hd9
  unfold wp_X4_lackBeyond at hw
  refine lv_iconst (v := (nI 0)) hx hb dX4_lackBeyond_0 rfl ?_
  refine lv_istore_n (lv' := [(2, .int (nI 0)), (0, .ref oT), (1, .ref oa1)]) hx hb dX4_lackBeyond_1 rfl hl (by decide) rfl (fun ls hl => ?_)
  refine lv_iconst (v := (nI 0)) hx hb dX4_lackBeyond_2 rfl ?_
  refine lv_istore_n (lv' := [(3, .int (nI 0)), (2, .int (nI 0)), (0, .ref oT), (1, .ref oa1)]) hx hb dX4_lackBeyond_3 rfl hl (by decide) rfl (fun ls hl => ?_)
  obtain ⟨n1, hw⟩ := hw
  refine blk_X4_lackBeyond_4 (CX := CX) (oT := oT) (oT_order := oT_order) (oT_needed := oT_needed) (oT_sizes := oT_sizes) (oT_helpers := oT_helpers) (oT_taken := oT_taken) (oa1 := oa1) (oa1_order := oa1_order) (oa1_needed := oa1_needed) (oa1_sizes := oa1_sizes) (oa1_helpers := oa1_helpers) (oa1_taken := oa1_taken) (T_serving := T_serving) (T_needed := T_needed) (T_sizes := T_sizes) (a1_serving := a1_serving) (a1_needed := a1_needed) (a1_sizes := a1_sizes) (HR := HR) (HK_34 := fun x2_2 hw H locs ls hwd hl => ?_) n1 (nI 0) (nI 0) hw _ _ _ hwd (lv_sub hl [2, 3, 1, 0] rfl)
  try dsimp only at hw
  refine lv_iload_n hx hb dX4_lackBeyond_34 rfl (lv_at hl 0 rfl) ?_
  exact HR x2_2 hw hwd dX4_lackBeyond_35
abbrev ww_X4_arrangeFloors (cI cC : ClassId) (oT oT_order oT_needed oT_sizes oT_helpers oT_taken oa1 oa1_settings oa1_needs oa1_rowSizes oa1_rows oa1_trainedUntil oa1_leaves oa1_drills : Nat) (T_serving : Int32) (T_order : Nat → Int32) (a1_today : Int32) (a1_settings : Nat → Int32) (a1_rowSizes : Nat → Int32) : va_W := [(oT, .inr (4, [.ref oT_order, .ref oT_needed, .ref oT_sizes, .ref oT_helpers, .ref oT_taken, .int T_serving])), (oT_order, .inl (cI, 10, .inl T_order)), (oa1, .inr (5, [.int a1_today, .ref oa1_settings, .ref oa1_needs, .ref oa1_rowSizes, .ref oa1_rows, .ref oa1_trainedUntil, .ref oa1_leaves, .ref oa1_drills])), (oa1_settings, .inl (cI, 3, .inl a1_settings)), (oa1_rowSizes, .inl (cI, 10, .inl a1_rowSizes))]
abbrev rm_X4_arrangeFloors : Room := { frames := 1, cells := 0, slots := 0, locals := 24 }
theorem ic_X4_arrangeFloors_X4 : ∀ w ∈ u_ws RX4 TX4 6, w ∈ wsX4_arrangeFloors := by
  intro w h
  simp only [wsX4_arrangeFloors, List.mem_cons, List.mem_append]
  simp only [h, or_true, true_or]
theorem ic_X4_arrangeFloors_X5 : ∀ w ∈ u_ws RX5 TX5 8, w ∈ wsX4_arrangeFloors := by
  intro w h
  simp only [wsX4_arrangeFloors, List.mem_cons, List.mem_append]
  simp only [h, or_true, true_or]
def wb_X4_arrangeFloors_20 (x2 : Int32) (K_51 : (Nat → Int32) → Prop) : Nat → (Nat → Int32) → Int32 → Prop
  | 0, _, _ => False
  | n + 1, T_order, x3 => (((nI 10) ≤ x3 → K_51 T_order) ∧ (¬ (nI 10) ≤ x3 → ((¬ x2 = (nI 1) → vp_in x3 10 ∧ ∀ T_order3, T_order3 = upd T_order x3.toNatClampNeg x3 → ∀ x3_4, x3_4 = x3 + (nI 1) → wb_X4_arrangeFloors_20 x2 K_51 n T_order3 x3_4) ∧ (x2 = (nI 1) → vp_in x3 10 ∧ ∀ T_order5, T_order5 = upd T_order x3.toNatClampNeg ((nI 9) - x3) → ∀ x3_6, x3_6 = x3 + (nI 1) → wb_X4_arrangeFloors_20 x2 K_51 n T_order5 x3_6))))
set_option maxRecDepth 100000 in
set_option maxHeartbeats 4000000 in
theorem blk_X4_arrangeFloors_20 {p : Program} {l : Launch} {e : Env} {s : State} {m : MethodId} {args : Array Value} {below : List Frame} {meth : Method} {c : Code} {D : va_G} {cI cC cR : ClassId} {A : Nat → Prop} {Z : State → Prop} (CX : cx cX4_arrangeFloors none 4 RX4 wsX4_arrangeFloors p m meth c s args D cI cC cR A) (oT oT_order oT_needed oT_sizes oT_helpers oT_taken oa1 oa1_settings oa1_needs oa1_rowSizes oa1_rows oa1_trainedUntil oa1_leaves oa1_drills : Nat) (T_serving : Int32) (a1_today : Int32) (a1_settings : Nat → Int32) (a1_rowSizes : Nat → Int32) (x2 : Int32) {K_51 : (Nat → Int32) → Prop} {Q : (Nat → Int32) → Prop} (HR : ∀ (u0 : Nat → Int32) {H : Heap} {locs : List Loc} {ls : Array Slot} {pc : Nat}, Q u0 → wd D A s (ww_X4_arrangeFloors cI cC oT oT_order oT_needed oT_sizes oT_helpers oT_taken oa1 oa1_settings oa1_needs oa1_rowSizes oa1_rows oa1_trainedUntil oa1_leaves oa1_drills T_serving u0 a1_today a1_settings a1_rowSizes) H locs → decode cX4_arrangeFloors pc = .ok (.return_, 1) → W p l e (headSpec wsX4_arrangeFloors rm_X4_arrangeFloors).room s m args below meth c H locs 0 0 Z (F0 m pc ls [])) (HK_51 : ∀ (T_ordery : Nat → Int32), K_51 T_ordery → ∀ (H : Heap) (locs : List Loc) (ls : Array Slot), wd D A s (ww_X4_arrangeFloors cI cC oT oT_order oT_needed oT_sizes oT_helpers oT_taken oa1 oa1_settings oa1_needs oa1_rowSizes oa1_rows oa1_trainedUntil oa1_leaves oa1_drills T_serving T_ordery a1_today a1_settings a1_rowSizes) H locs → lv_has ls 4 [] → W p l e (headSpec wsX4_arrangeFloors rm_X4_arrangeFloors).room s m args below meth c H locs 0 0 Z (F0 m 51 ls [])) : ∀ (n : Nat) (T_order : Nat → Int32) (x3 : Int32), wb_X4_arrangeFloors_20 x2 K_51 n T_order x3 → ∀ (H : Heap) (locs : List Loc) (ls : Array Slot), wd D A s (ww_X4_arrangeFloors cI cC oT oT_order oT_needed oT_sizes oT_helpers oT_taken oa1 oa1_settings oa1_needs oa1_rowSizes oa1_rows oa1_trainedUntil oa1_leaves oa1_drills T_serving T_order a1_today a1_settings a1_rowSizes) H locs → lv_has ls 4 [(0, .ref oT), (2, .int x2), (3, .int x3)] → W p l e (headSpec wsX4_arrangeFloors rm_X4_arrangeFloors).room s m args below meth c H locs 0 0 Z (F0 m 20 ls []) := by
  obtain ⟨hx, hb, hr, hml, hts, hown, hlocks, hKw, hA⟩ := id CX
  intro n
  induction n with
  | zero => intro T_order x3 hw; exact False.elim hw
  | succ n ih =>
    intro T_order x3 hw H locs ls hwd hl
    rw [wb_X4_arrangeFloors_20] at hw
    refine lv_iload_n hx hb dX4_arrangeFloors_20 rfl (lv_at hl 2 rfl) ?_
    refine lv_bipush (v := (nI 10)) hx hb dX4_arrangeFloors_21 rfl ?_
    refine lv_icmp_ge (tgt := 51) hx hb dX4_arrangeFloors_23 (by decide) (fun c1 => ?_) (fun c1 => ?_)
    · replace hw := hw.1 c1
      exact HK_51 T_order hw _ _ _ hwd (lv_sub hl [] rfl)
    · replace hw := hw.2 c1
      refine lv_aload_n hx hb dX4_arrangeFloors_26 rfl (lv_at hl 0 rfl) ?_
      refine va_get (D := D) (ci := 4) (v := .ref oT_order) (C := RX4) (T := TX4) (N := 6) hx hb hts ic_X4_arrangeFloors_X4 hown hKw.1 hwd.1 0 rfl rfl 0 (by decide) (hts (.fieldLink RX4 9 "DrillWardens$Roster" "order" "[I") (List.mem_of_getElem? (i := 1) rfl)) (fun _ h9 => h9) rfl dX4_arrangeFloors_27 ?_
      refine lv_iload_n hx hb dX4_arrangeFloors_30 rfl (lv_at hl 2 rfl) ?_
      refine lv_iload_n hx hb dX4_arrangeFloors_31 rfl (lv_at hl 1 rfl) ?_
      refine lv_iconst (v := (nI 1)) hx hb dX4_arrangeFloors_32 rfl ?_
      refine lv_icmp_ne (tgt := 43) hx hb dX4_arrangeFloors_33 (by decide) (fun c2 => ?_) (fun c2 => ?_)
      · replace hw := hw.1 c2
        refine lv_iload_n hx hb dX4_arrangeFloors_43 rfl (lv_at hl 2 rfl) ?_
        obtain ⟨T_order3, e_T_order3⟩ : ∃ y : Nat → Int32, y = upd T_order x3.toNatClampNeg x3 := ⟨_, rfl⟩
        refine va_iast hx hb hKw.1 hwd.1 hwd.2.1 hwd.2.2 1 0 rfl rfl hw.1 dX4_arrangeFloors_44 (fun H locs h1 h2 h3 => ?_)
        replace hw := hw.2 T_order3 e_T_order3
        rw [← e_T_order3] at h1 h2
        replace hwd : wd D A s (ww_X4_arrangeFloors cI cC oT oT_order oT_needed oT_sizes oT_helpers oT_taken oa1 oa1_settings oa1_needs oa1_rowSizes oa1_rows oa1_trainedUntil oa1_leaves oa1_drills T_serving T_order3 a1_today a1_settings a1_rowSizes) H locs := ⟨h1, h2, h3⟩
        clear h1 h2 h3
        obtain ⟨x3_4, e_x3_4⟩ : ∃ y : Int32, y = x3 + (nI 1) := ⟨_, rfl⟩
        replace hw := hw x3_4 e_x3_4
        refine lv_iinc (v := x3_4) (lv' := [(3, .int x3_4), (0, .ref oT), (2, .int x2)]) hx hb dX4_arrangeFloors_45 hl (k := 2) rfl (by rw [e_x3_4]; rfl) (by decide) rfl (fun ls hl => ?_)
        refine lv_goto (tgt := 20) hx hb dX4_arrangeFloors_48 (by decide) ?_
        exact ih T_order3 x3_4 hw _ _ _ hwd (lv_sub hl [1, 2, 0] rfl)
      · replace hw := hw.2 c2
        refine lv_bipush (v := (nI 9)) hx hb dX4_arrangeFloors_36 rfl ?_
        refine lv_iload_n hx hb dX4_arrangeFloors_38 rfl (lv_at hl 2 rfl) ?_
        refine lv_isub hx hb dX4_arrangeFloors_39 ?_
        refine lv_goto (tgt := 44) hx hb dX4_arrangeFloors_40 (by decide) ?_
        obtain ⟨T_order5, e_T_order5⟩ : ∃ y : Nat → Int32, y = upd T_order x3.toNatClampNeg ((nI 9) - x3) := ⟨_, rfl⟩
        refine va_iast hx hb hKw.1 hwd.1 hwd.2.1 hwd.2.2 1 0 rfl rfl hw.1 dX4_arrangeFloors_44 (fun H locs h1 h2 h3 => ?_)
        replace hw := hw.2 T_order5 e_T_order5
        rw [← e_T_order5] at h1 h2
        replace hwd : wd D A s (ww_X4_arrangeFloors cI cC oT oT_order oT_needed oT_sizes oT_helpers oT_taken oa1 oa1_settings oa1_needs oa1_rowSizes oa1_rows oa1_trainedUntil oa1_leaves oa1_drills T_serving T_order5 a1_today a1_settings a1_rowSizes) H locs := ⟨h1, h2, h3⟩
        clear h1 h2 h3
        obtain ⟨x3_6, e_x3_6⟩ : ∃ y : Int32, y = x3 + (nI 1) := ⟨_, rfl⟩
        replace hw := hw x3_6 e_x3_6
        refine lv_iinc (v := x3_6) (lv' := [(3, .int x3_6), (0, .ref oT), (2, .int x2)]) hx hb dX4_arrangeFloors_45 hl (k := 2) rfl (by rw [e_x3_6]; rfl) (by decide) rfl (fun ls hl => ?_)
        refine lv_goto (tgt := 20) hx hb dX4_arrangeFloors_48 (by decide) ?_
        exact ih T_order5 x3_6 hw _ _ _ hwd (lv_sub hl [1, 2, 0] rfl)
def wp_X4_arrangeFloors (T_order : Nat → Int32) (a1_settings : Nat → Int32) (a1_rowSizes : Nat → Int32) (Q : (Nat → Int32) → Prop) : Prop := vp_in (nI 0) 3 ∧ ∀ x2_1, x2_1 = a1_settings (nI 0).toNatClampNeg → ((¬ x2_1 = (nI 2) → (∃ n3, wb_X4_arrangeFloors_20 x2_1 (fun T_order4 => Q T_order4) n3 T_order (nI 0))) ∧ (x2_1 = (nI 2) → wp_X4_arrangeByRows T_order a1_rowSizes (fun T_order5 => Q T_order5)))
set_option maxRecDepth 100000 in
set_option maxHeartbeats 4000000 in
theorem c_X4_arrangeFloors (l : Launch) {D : va_G} {cI cC cR : ClassId} (oT oT_order oT_needed oT_sizes oT_helpers oT_taken oa1 oa1_settings oa1_needs oa1_rowSizes oa1_rows oa1_trainedUntil oa1_leaves oa1_drills : Nat) (sz : Nat) (T_serving : Int32) (T_order : Nat → Int32) (a1_today : Int32) (a1_settings : Nat → Int32) (a1_rowSizes : Nat → Int32) {Q : (Nat → Int32) → Prop} (hw : wp_X4_arrangeFloors T_order a1_settings a1_rowSizes Q) : Met l yX4_arrangeFloors wsX4_arrangeFloors rm_X4_arrangeFloors (PcW D cI cC cR [.ref oT, .ref oa1] (ww_X4_arrangeFloors cI cC oT oT_order oT_needed oT_sizes oT_helpers oT_taken oa1 oa1_settings oa1_needs oa1_rowSizes oa1_rows oa1_trainedUntil oa1_leaves oa1_drills T_serving T_order a1_today a1_settings a1_rowSizes) sz) (QvW D (fun (u : (Nat → Int32)) => Q u) (fun u => (ww_X4_arrangeFloors cI cC oT oT_order oT_needed oT_sizes oT_helpers oT_taken oa1 oa1_settings oa1_needs oa1_rowSizes oa1_rows oa1_trainedUntil oa1_leaves oa1_drills T_serving u a1_today a1_settings a1_rowSizes)) (ww_X4_arrangeFloors cI cC oT oT_order oT_needed oT_sizes oT_helpers oT_taken oa1 oa1_settings oa1_needs oa1_rowSizes oa1_rows oa1_trainedUntil oa1_leaves oa1_drills T_serving T_order a1_today a1_settings a1_rowSizes) sz) 0 0 (va_A (ww_X4_arrangeFloors cI cC oT oT_order oT_needed oT_sizes oT_helpers oT_taken oa1 oa1_settings oa1_needs oa1_rowSizes oa1_rows oa1_trainedUntil oa1_leaves oa1_drills T_serving T_order a1_today a1_settings a1_rowSizes) sz) := by
  refine Met.ofW (cc := cX4_arrangeFloors) (maxL := 4) (ret := none) (by decide) rfl ?_
  intro p e s m args below meth c s₁ B hml hv
  obtain ⟨rfl, hsz, hP, hKw, hD0⟩ := hv
  have hlocks := B.notSynchronized
  subst hsz
  have hD := hD0.self (sz := s.heap.size)
  have CX : cx cX4_arrangeFloors none 4 RX4 wsX4_arrangeFloors p m meth c s ([.ref oT, .ref oa1] : List Value).toArray D cI cC cR (va_A (ww_X4_arrangeFloors cI cC oT oT_order oT_needed oT_sizes oT_helpers oT_taken oa1 oa1_settings oa1_needs oa1_rowSizes oa1_rows oa1_trainedUntil oa1_leaves oa1_drills T_serving T_order a1_today a1_settings a1_rowSizes) s.heap.size) := ⟨B.exec, B.bytes, B.returns, hml, atoms_spec (ws := wsX4_arrangeFloors) B.pre, findClass_of_methodNamed B.named, hlocks, hKw, fun q h => Or.inr h⟩
  obtain ⟨hx, hb, hr, -, hts, hown, -, -, hA⟩ := id CX
  have hwd : wd D (va_A (ww_X4_arrangeFloors cI cC oT oT_order oT_needed oT_sizes oT_helpers oT_taken oa1 oa1_settings oa1_needs oa1_rowSizes oa1_rows oa1_trainedUntil oa1_leaves oa1_drills T_serving T_order a1_today a1_settings a1_rowSizes) s.heap.size) s (ww_X4_arrangeFloors cI cC oT oT_order oT_needed oT_sizes oT_helpers oT_taken oa1 oa1_settings oa1_needs oa1_rowSizes oa1_rows oa1_trainedUntil oa1_leaves oa1_drills T_serving T_order a1_today a1_settings a1_rowSizes) s.heap [] := ⟨hP, hD, va_S.rf⟩
  have hl := lv_entry ([.ref oT, .ref oa1]) (n := 4) (Nat.le_of_ble_eq_true rfl)
  rw [lg_entry_eq]
  generalize (lg_sl ([.ref oT, .ref oa1]) ++ List.replicate (4 - (lg_sl ([.ref oT, .ref oa1])).length) Slot.unset).toArray = ls at hl ⊢
  have hl : lv_has ls 4 [(0, .ref oT), (1, .ref oa1)] := hl
  have HR : ∀ (u0 : Nat → Int32) {H : Heap} {locs : List Loc} {ls : Array Slot} {pc : Nat}, Q u0 → wd D (va_A (ww_X4_arrangeFloors cI cC oT oT_order oT_needed oT_sizes oT_helpers oT_taken oa1 oa1_settings oa1_needs oa1_rowSizes oa1_rows oa1_trainedUntil oa1_leaves oa1_drills T_serving T_order a1_today a1_settings a1_rowSizes) s.heap.size) s (ww_X4_arrangeFloors cI cC oT oT_order oT_needed oT_sizes oT_helpers oT_taken oa1 oa1_settings oa1_needs oa1_rowSizes oa1_rows oa1_trainedUntil oa1_leaves oa1_drills T_serving u0 a1_today a1_settings a1_rowSizes) H locs → decode cX4_arrangeFloors pc = .ok (.return_, 1) → W p l e (headSpec wsX4_arrangeFloors rm_X4_arrangeFloors).room s m ([.ref oT, .ref oa1] : List Value).toArray below meth c H locs 0 0 (MQ below (QvW D (fun (u : (Nat → Int32)) => Q u) (fun u => (ww_X4_arrangeFloors cI cC oT oT_order oT_needed oT_sizes oT_helpers oT_taken oa1 oa1_settings oa1_needs oa1_rowSizes oa1_rows oa1_trainedUntil oa1_leaves oa1_drills T_serving u a1_today a1_settings a1_rowSizes)) (ww_X4_arrangeFloors cI cC oT oT_order oT_needed oT_sizes oT_helpers oT_taken oa1 oa1_settings oa1_needs oa1_rowSizes oa1_rows oa1_trainedUntil oa1_leaves oa1_drills T_serving T_order a1_today a1_settings a1_rowSizes) s.heap.size) ([.ref oT, .ref oa1] : List Value).toArray s 0 0 (va_A (ww_X4_arrangeFloors cI cC oT oT_order oT_needed oT_sizes oT_helpers oT_taken oa1 oa1_settings oa1_needs oa1_rowSizes oa1_rows oa1_trainedUntil oa1_leaves oa1_drills T_serving T_order a1_today a1_settings a1_rowSizes) s.heap.size)) (F0 m pc ls []) := by
    intro u0 H locs ls pc hq hw9 hd9
    exact W.vret hx hb hr (fun t ht hW => ⟨⟨u0, rfl, hq, by rw [ht]; exact hw9.1, hw9.2.1⟩, hw9.2.2.F ht⟩) hw9.2.2.2.2 hd9
  unfold wp_X4_arrangeFloors at hw
  refine lv_aload_n hx hb dX4_arrangeFloors_0 rfl (lv_at hl 1 rfl) ?_
  refine va_getN (D := D) (ci := 5) (v := .ref oa1_settings) (C := RX5) (T := TX5) (N := 8) hx hb hts ic_X4_arrangeFloors_X5 hown hKw.1 hwd.1 2 rfl rfl 1 (by decide) (va_Nw.use rfl (nwf_6 hKw.2)) (fun _ h9 => h9) rfl dX4_arrangeFloors_1 ?_
  refine lv_iconst (v := (nI 0)) hx hb dX4_arrangeFloors_4 rfl ?_
  refine va_iald hx hb hKw.1 hwd.1 3 0 rfl rfl hw.1 dX4_arrangeFloors_5 ?_
  replace hw := hw.2
  refine lv_topi (fun x2_1 e_x2_1 => ?_)
  replace hw := hw x2_1 e_x2_1
  refine lv_istore_n (lv' := [(2, .int x2_1), (0, .ref oT), (1, .ref oa1)]) hx hb dX4_arrangeFloors_6 rfl hl (by decide) rfl (fun ls hl => ?_)
  refine lv_iload_n hx hb dX4_arrangeFloors_7 rfl (lv_at hl 0 rfl) ?_
  refine lv_iconst (v := (nI 2)) hx hb dX4_arrangeFloors_8 rfl ?_
  refine lv_icmp_ne (tgt := 18) hx hb dX4_arrangeFloors_9 (by decide) (fun c2 => ?_) (fun c2 => ?_)
  · replace hw := hw.1 c2
    refine lv_iconst (v := (nI 0)) hx hb dX4_arrangeFloors_18 rfl ?_
    refine lv_istore_n (lv' := [(3, .int (nI 0)), (2, .int x2_1), (0, .ref oT), (1, .ref oa1)]) hx hb dX4_arrangeFloors_19 rfl hl (by decide) rfl (fun ls hl => ?_)
    obtain ⟨n3, hw⟩ := hw
    refine blk_X4_arrangeFloors_20 (CX := CX) (oT := oT) (oT_order := oT_order) (oT_needed := oT_needed) (oT_sizes := oT_sizes) (oT_helpers := oT_helpers) (oT_taken := oT_taken) (oa1 := oa1) (oa1_settings := oa1_settings) (oa1_needs := oa1_needs) (oa1_rowSizes := oa1_rowSizes) (oa1_rows := oa1_rows) (oa1_trainedUntil := oa1_trainedUntil) (oa1_leaves := oa1_leaves) (oa1_drills := oa1_drills) (T_serving := T_serving) (a1_today := a1_today) (a1_settings := a1_settings) (a1_rowSizes := a1_rowSizes) (x2 := x2_1) (HR := HR) (HK_51 := fun T_order4 hw H locs ls hwd hl => ?_) n3 T_order (nI 0) hw _ _ _ hwd (lv_sub hl [2, 1, 0] rfl)
    try dsimp only at hw
    exact HR T_order4 hw hwd dX4_arrangeFloors_51
  · replace hw := hw.2 c2
    refine lv_aload_n hx hb dX4_arrangeFloors_12 rfl (lv_at hl 1 rfl) ?_
    refine lv_aload_n hx hb dX4_arrangeFloors_13 rfl (lv_at hl 2 rfl) ?_
    refine kcVv (W1 := (fun u => (ww_X4_arrangeFloors cI cC oT oT_order oT_needed oT_sizes oT_helpers oT_taken oa1 oa1_settings oa1_needs oa1_rowSizes oa1_rows oa1_trainedUntil oa1_leaves oa1_drills T_serving u a1_today a1_settings a1_rowSizes))) (rest := []) (As := [.ref oa1]) ⟨Nat.le_of_ble_eq_true rfl, Nat.le_of_ble_eq_true rfl⟩ ⟨hx, hb, hml, hown, hts⟩ (c_X4_arrangeByRows l oT oT_order oT_needed oT_sizes oT_helpers oT_taken oa1 oa1_settings oa1_needs oa1_rowSizes oa1_rows oa1_trainedUntil oa1_leaves oa1_drills s.heap.size T_serving T_order a1_today a1_rowSizes hw) (cwV 1 hts gX4_arrangeFloors_X4_arrangeByRows rfl rfl rfl ⟨rfl, hd_X4_arrangeByRows⟩ ⟨Nat.le_of_ble_eq_true rfl, Nat.le_of_ble_eq_true rfl⟩) hKw hA hwd [0, 1, 2, 4] [3] [1, 2, 3, 0, 4] [(oa1_settings, .inl (cI, 3, .inl a1_settings))] rfl rfl rfl rfl (by decide) rfl (fun _ => rfl) 0 4 rfl rfl rfl rfl hl.1 rfl (lv_room (Nat.le_of_ble_eq_true rfl)) dX4_arrangeFloors_14 (fun u H locs hw hwd => ?_)
    obtain ⟨T_order5, rfl⟩ : ∃ z, z = u := ⟨_, rfl⟩
    try dsimp only at hw
    replace hwd : wd D (va_A (ww_X4_arrangeFloors cI cC oT oT_order oT_needed oT_sizes oT_helpers oT_taken oa1 oa1_settings oa1_needs oa1_rowSizes oa1_rows oa1_trainedUntil oa1_leaves oa1_drills T_serving T_order a1_today a1_settings a1_rowSizes) s.heap.size) s (ww_X4_arrangeFloors cI cC oT oT_order oT_needed oT_sizes oT_helpers oT_taken oa1 oa1_settings oa1_needs oa1_rowSizes oa1_rows oa1_trainedUntil oa1_leaves oa1_drills T_serving T_order5 a1_today a1_settings a1_rowSizes) H locs := hwd
    exact HR T_order5 hw hwd dX4_arrangeFloors_17
abbrev ww_X4_takeFromRow (cI cC : ClassId) (oT oT_order oT_needed oT_sizes oT_helpers oT_taken oa1 oa1_settings oa1_needs oa1_rowSizes oa1_rows oa1_trainedUntil oa1_leaves oa1_drills : Nat) (T_serving : Int32) (T_needed : Nat → Int32) (T_sizes : Nat → Int32) (T_taken : Nat → Int32) (a1_today : Int32) (a1_rowSizes : Nat → Int32) (a1_rows : Nat → Int32) : va_W := [(oT, .inr (4, [.ref oT_order, .ref oT_needed, .ref oT_sizes, .ref oT_helpers, .ref oT_taken, .int T_serving])), (oT_needed, .inl (cI, 10, .inl T_needed)), (oT_sizes, .inl (cI, 10, .inl T_sizes)), (oT_taken, .inl (cI, 30, .inl T_taken)), (oa1, .inr (5, [.int a1_today, .ref oa1_settings, .ref oa1_needs, .ref oa1_rowSizes, .ref oa1_rows, .ref oa1_trainedUntil, .ref oa1_leaves, .ref oa1_drills])), (oa1_rowSizes, .inl (cI, 10, .inl a1_rowSizes)), (oa1_rows, .inl (cI, 50, .inl a1_rows))]
abbrev rm_X4_takeFromRow : Room := { frames := 1, cells := 0, slots := 0, locals := 23 }
theorem ic_X4_takeFromRow_X4 : ∀ w ∈ u_ws RX4 TX4 6, w ∈ wsX4_takeFromRow := by
  intro w h
  simp only [wsX4_takeFromRow, List.mem_cons, List.mem_append]
  simp only [h, or_true, true_or]
def wb_X4_takeFromRow_11 (T_needed : Nat → Int32) (a1_rowSizes : Nat → Int32) (a1_rows : Nat → Int32) (x2 : Int32) (x3 : Int32) (K_70 : Int32 → (Nat → Int32) → (Nat → Int32) → Prop) : Nat → Int32 → (Nat → Int32) → (Nat → Int32) → Int32 → Prop
  | 0, _, _, _, _ => False
  | n + 1, T_serving, T_sizes, T_taken, x4 => (((nI 5) ≤ x4 → K_70 T_serving T_sizes T_taken) ∧ (¬ (nI 5) ≤ x4 → wp_X4_lack T_needed T_sizes x2 (fun r2 => ((r2 ≤ 0 → K_70 T_serving T_sizes T_taken) ∧ (¬ r2 ≤ 0 → wp_X5_personAt a1_rowSizes a1_rows x2 x4 (fun r4 => ((r4 = (-5) → ∀ x4_6, x4_6 = x4 + (nI 1) → wb_X4_takeFromRow_11 T_needed a1_rowSizes a1_rows x2 x3 K_70 n T_serving T_sizes T_taken x4_6) ∧ (¬ r4 = (-5) → wp_X6_isIn (x3 &&& (T_serving ^^^ (-1))) r4 (fun r7 => ((r7 = 0 → ∀ x4_9, x4_9 = x4 + (nI 1) → wb_X4_takeFromRow_11 T_needed a1_rowSizes a1_rows x2 x3 K_70 n T_serving T_sizes T_taken x4_9) ∧ (¬ r7 = 0 → wp_X4_take T_serving T_sizes T_taken x2 r4 (fun T_serving10 T_sizes11 T_taken12 => ∀ x4_13, x4_13 = x4 + (nI 1) → wb_X4_takeFromRow_11 T_needed a1_rowSizes a1_rows x2 x3 K_70 n T_serving10 T_sizes11 T_taken12 x4_13))))))))))))
set_option maxRecDepth 100000 in
set_option maxHeartbeats 4000000 in
theorem blk_X4_takeFromRow_11 {p : Program} {l : Launch} {e : Env} {s : State} {m : MethodId} {args : Array Value} {below : List Frame} {meth : Method} {c : Code} {D : va_G} {cI cC cR : ClassId} {A : Nat → Prop} {Z : State → Prop} (CX : cx cX4_takeFromRow none 6 RX4 wsX4_takeFromRow p m meth c s args D cI cC cR A) (oT oT_order oT_needed oT_sizes oT_helpers oT_taken oa1 oa1_settings oa1_needs oa1_rowSizes oa1_rows oa1_trainedUntil oa1_leaves oa1_drills : Nat) (T_needed : Nat → Int32) (a1_today : Int32) (a1_rowSizes : Nat → Int32) (a1_rows : Nat → Int32) (x2 : Int32) (x3 : Int32) {K_70 : Int32 → (Nat → Int32) → (Nat → Int32) → Prop} {Q : Int32 → (Nat → Int32) → (Nat → Int32) → Prop} (HR : ∀ (u0 : Int32) (u1 : Nat → Int32) (u2 : Nat → Int32) {H : Heap} {locs : List Loc} {ls : Array Slot} {pc : Nat}, Q u0 u1 u2 → wd D A s (ww_X4_takeFromRow cI cC oT oT_order oT_needed oT_sizes oT_helpers oT_taken oa1 oa1_settings oa1_needs oa1_rowSizes oa1_rows oa1_trainedUntil oa1_leaves oa1_drills u0 T_needed u1 u2 a1_today a1_rowSizes a1_rows) H locs → decode cX4_takeFromRow pc = .ok (.return_, 1) → W p l e (headSpec wsX4_takeFromRow rm_X4_takeFromRow).room s m args below meth c H locs 0 0 Z (F0 m pc ls [])) (HK_70 : ∀ (T_servingy : Int32) (T_sizesy : Nat → Int32) (T_takeny : Nat → Int32), K_70 T_servingy T_sizesy T_takeny → ∀ (H : Heap) (locs : List Loc) (ls : Array Slot), wd D A s (ww_X4_takeFromRow cI cC oT oT_order oT_needed oT_sizes oT_helpers oT_taken oa1 oa1_settings oa1_needs oa1_rowSizes oa1_rows oa1_trainedUntil oa1_leaves oa1_drills T_servingy T_needed T_sizesy T_takeny a1_today a1_rowSizes a1_rows) H locs → lv_has ls 6 [] → W p l e (headSpec wsX4_takeFromRow rm_X4_takeFromRow).room s m args below meth c H locs 0 0 Z (F0 m 70 ls [])) : ∀ (n : Nat) (T_serving : Int32) (T_sizes : Nat → Int32) (T_taken : Nat → Int32) (x4 : Int32), wb_X4_takeFromRow_11 T_needed a1_rowSizes a1_rows x2 x3 K_70 n T_serving T_sizes T_taken x4 → ∀ (H : Heap) (locs : List Loc) (ls : Array Slot), wd D A s (ww_X4_takeFromRow cI cC oT oT_order oT_needed oT_sizes oT_helpers oT_taken oa1 oa1_settings oa1_needs oa1_rowSizes oa1_rows oa1_trainedUntil oa1_leaves oa1_drills T_serving T_needed T_sizes T_taken a1_today a1_rowSizes a1_rows) H locs → lv_has ls 6 [(0, .ref oT), (1, .ref oa1), (2, .int x2), (3, .int x3), (4, .int x4)] → W p l e (headSpec wsX4_takeFromRow rm_X4_takeFromRow).room s m args below meth c H locs 0 0 Z (F0 m 11 ls []) := by
  obtain ⟨hx, hb, hr, hml, hts, hown, hlocks, hKw, hA⟩ := id CX
  intro n
  induction n with
  | zero => intro T_serving T_sizes T_taken x4 hw; exact False.elim hw
  | succ n ih =>
    intro T_serving T_sizes T_taken x4 hw H locs ls hwd hl
    rw [wb_X4_takeFromRow_11] at hw
    refine lv_iload hx hb dX4_takeFromRow_11 (lv_at hl 4 rfl) ?_
    refine lv_iconst (v := (nI 5)) hx hb dX4_takeFromRow_13 rfl ?_
    refine lv_icmp_ge (tgt := 70) hx hb dX4_takeFromRow_14 (by decide) (fun c1 => ?_) (fun c1 => ?_)
    · replace hw := hw.1 c1
      exact HK_70 T_serving T_sizes T_taken hw _ _ _ hwd (lv_sub hl [] rfl)
    · replace hw := hw.2 c1
      refine lv_aload_n hx hb dX4_takeFromRow_17 rfl (lv_at hl 0 rfl) ?_
      refine lv_iload_n hx hb dX4_takeFromRow_18 rfl (lv_at hl 2 rfl) ?_
      refine kcVi (W1 := (fun u => (ww_X4_takeFromRow cI cC oT oT_order oT_needed oT_sizes oT_helpers oT_taken oa1 oa1_settings oa1_needs oa1_rowSizes oa1_rows oa1_trainedUntil oa1_leaves oa1_drills T_serving T_needed T_sizes T_taken a1_today a1_rowSizes a1_rows))) (rest := []) (As := [.int x2]) ⟨Nat.le_of_ble_eq_true rfl, Nat.le_of_ble_eq_true rfl⟩ ⟨hx, hb, hml, hown, hts⟩ (c_X4_lack l oT oT_order oT_needed oT_sizes oT_helpers oT_taken H.size T_serving T_needed T_sizes x2 hw) (cwV 1 hts gX4_takeFromRow_X4_lack rfl rfl rfl ⟨rfl, hd_X4_lack⟩ ⟨Nat.le_of_ble_eq_true rfl, Nat.le_of_ble_eq_true rfl⟩) hKw hA hwd [0, 1, 2] [3, 4, 5, 6] [4, 5, 6, 0, 1, 2, 3] [(oT_taken, .inl (cI, 30, .inl T_taken)), (oa1, .inr (5, [.int a1_today, .ref oa1_settings, .ref oa1_needs, .ref oa1_rowSizes, .ref oa1_rows, .ref oa1_trainedUntil, .ref oa1_leaves, .ref oa1_drills])), (oa1_rowSizes, .inl (cI, 10, .inl a1_rowSizes)), (oa1_rows, .inl (cI, 50, .inl a1_rows))] rfl rfl rfl rfl (by decide) rfl (fun _ => rfl) 0 4 rfl rfl rfl rfl hl.1 rfl (lv_room (Nat.le_of_ble_eq_true rfl)) dX4_takeFromRow_19 (fun r2 u H locs hw hwd => ?_)
      try dsimp only at hw
      replace hwd : wd D A s (ww_X4_takeFromRow cI cC oT oT_order oT_needed oT_sizes oT_helpers oT_taken oa1 oa1_settings oa1_needs oa1_rowSizes oa1_rows oa1_trainedUntil oa1_leaves oa1_drills T_serving T_needed T_sizes T_taken a1_today a1_rowSizes a1_rows) H locs := hwd
      refine lv_if_le (tgt := 70) hx hb dX4_takeFromRow_22 (by decide) (fun c3 => ?_) (fun c3 => ?_)
      · replace hw := hw.1 c3
        exact HK_70 T_serving T_sizes T_taken hw _ _ _ hwd (lv_sub hl [] rfl)
      · replace hw := hw.2 c3
        refine lv_aload_n hx hb dX4_takeFromRow_25 rfl (lv_at hl 1 rfl) ?_
        refine lv_iload_n hx hb dX4_takeFromRow_26 rfl (lv_at hl 2 rfl) ?_
        refine lv_iload hx hb dX4_takeFromRow_27 (lv_at hl 4 rfl) ?_
        refine kcVi (W1 := (fun u => (ww_X4_takeFromRow cI cC oT oT_order oT_needed oT_sizes oT_helpers oT_taken oa1 oa1_settings oa1_needs oa1_rowSizes oa1_rows oa1_trainedUntil oa1_leaves oa1_drills T_serving T_needed T_sizes T_taken a1_today a1_rowSizes a1_rows))) (rest := []) (As := [.int x2, .int x4]) ⟨Nat.le_of_ble_eq_true rfl, Nat.le_of_ble_eq_true rfl⟩ ⟨hx, hb, hml, hown, hts⟩ (c_X5_personAt l oa1 oa1_settings oa1_needs oa1_rowSizes oa1_rows oa1_trainedUntil oa1_leaves oa1_drills H.size a1_today a1_rowSizes a1_rows x2 x4 hw) (cwV 2 hts gX4_takeFromRow_X5_personAt rfl rfl rfl ⟨rfl, hd_X5_personAt⟩ ⟨Nat.le_of_ble_eq_true rfl, Nat.le_of_ble_eq_true rfl⟩) hKw hA hwd [4, 5, 6] [0, 1, 2, 3] [0, 1, 2, 3, 4, 5, 6] [(oT, .inr (4, [.ref oT_order, .ref oT_needed, .ref oT_sizes, .ref oT_helpers, .ref oT_taken, .int T_serving])), (oT_needed, .inl (cI, 10, .inl T_needed)), (oT_sizes, .inl (cI, 10, .inl T_sizes)), (oT_taken, .inl (cI, 30, .inl T_taken))] rfl rfl rfl rfl (by decide) rfl (fun _ => rfl) 4 5 rfl rfl rfl rfl hl.1 rfl (lv_room (Nat.le_of_ble_eq_true rfl)) dX4_takeFromRow_29 (fun r4 u H locs hw hwd => ?_)
        try dsimp only at hw
        replace hwd : wd D A s (ww_X4_takeFromRow cI cC oT oT_order oT_needed oT_sizes oT_helpers oT_taken oa1 oa1_settings oa1_needs oa1_rowSizes oa1_rows oa1_trainedUntil oa1_leaves oa1_drills T_serving T_needed T_sizes T_taken a1_today a1_rowSizes a1_rows) H locs := hwd
        refine lv_istore (lv' := [(5, .int r4), (0, .ref oT), (1, .ref oa1), (2, .int x2), (3, .int x3), (4, .int x4)]) hx hb dX4_takeFromRow_32 hl (by decide) rfl (fun ls hl => ?_)
        refine lv_iload hx hb dX4_takeFromRow_34 (lv_at hl 0 rfl) ?_
        refine lv_bipush (v := (-5)) hx hb dX4_takeFromRow_36 rfl ?_
        refine lv_icmp_eq (tgt := 64) hx hb dX4_takeFromRow_38 (by decide) (fun c5 => ?_) (fun c5 => ?_)
        · replace hw := hw.1 c5
          obtain ⟨x4_6, e_x4_6⟩ : ∃ y : Int32, y = x4 + (nI 1) := ⟨_, rfl⟩
          replace hw := hw x4_6 e_x4_6
          refine lv_iinc (v := x4_6) (lv' := [(4, .int x4_6), (5, .int r4), (0, .ref oT), (1, .ref oa1), (2, .int x2), (3, .int x3)]) hx hb dX4_takeFromRow_64 hl (k := 5) rfl (by rw [e_x4_6]; rfl) (by decide) rfl (fun ls hl => ?_)
          refine lv_goto (tgt := 11) hx hb dX4_takeFromRow_67 (by decide) ?_
          exact ih T_serving T_sizes T_taken x4_6 hw _ _ _ hwd (lv_sub hl [2, 3, 4, 5, 0] rfl)
        · replace hw := hw.2 c5
          refine lv_iload_n hx hb dX4_takeFromRow_41 rfl (lv_at hl 4 rfl) ?_
          refine lv_aload_n hx hb dX4_takeFromRow_42 rfl (lv_at hl 1 rfl) ?_
          refine va_get (D := D) (ci := 4) (v := .int T_serving) (C := RX4) (T := TX4) (N := 6) hx hb hts ic_X4_takeFromRow_X4 hown hKw.1 hwd.1 0 rfl rfl 5 (by decide) (hts (.fieldLink RX4 51 "DrillWardens$Roster" "serving" "I") (List.mem_of_getElem? (i := 1) rfl)) (fun _ h9 => h9) rfl dX4_takeFromRow_43 ?_
          refine lv_iconst (v := (-1)) hx hb dX4_takeFromRow_46 rfl ?_
          refine lv_ixor hx hb dX4_takeFromRow_47 ?_
          refine lv_iand hx hb dX4_takeFromRow_48 ?_
          refine lv_iload hx hb dX4_takeFromRow_49 (lv_at hl 0 rfl) ?_
          refine kcNi (rest := []) (As := [.int (x3 &&& (T_serving ^^^ (-1))), .int r4]) ⟨Nat.le_of_ble_eq_true rfl, Nat.le_of_ble_eq_true rfl⟩ ⟨hx, hb, hml, hown, hts⟩ (c_X6_isIn l H.size (x3 &&& (T_serving ^^^ (-1))) r4 hw) ⟨va_cnB 2 hts gX4_takeFromRow_X6_isIn_n75 rfl rfl rfl (nwm_5 hKw.2) (hts (.initialized RX6) (List.mem_of_getElem? (i := 3) rfl)) hd_X6_isIn ⟨Nat.le_of_ble_eq_true rfl, Nat.le_of_ble_eq_true rfl⟩, hts (.static yX6_isIn) (List.mem_of_getElem? (i := 19) rfl), trivial⟩ hKw hA hwd rfl hl.1 rfl (lv_room (Nat.le_of_ble_eq_true rfl)) dX4_takeFromRow_51 (fun r7 H locs hw hwd => ?_)
          try dsimp only at hw
          refine lv_if_eq (tgt := 64) hx hb dX4_takeFromRow_54 (by decide) (fun c8 => ?_) (fun c8 => ?_)
          · replace hw := hw.1 c8
            obtain ⟨x4_9, e_x4_9⟩ : ∃ y : Int32, y = x4 + (nI 1) := ⟨_, rfl⟩
            replace hw := hw x4_9 e_x4_9
            refine lv_iinc (v := x4_9) (lv' := [(4, .int x4_9), (5, .int r4), (0, .ref oT), (1, .ref oa1), (2, .int x2), (3, .int x3)]) hx hb dX4_takeFromRow_64 hl (k := 5) rfl (by rw [e_x4_9]; rfl) (by decide) rfl (fun ls hl => ?_)
            refine lv_goto (tgt := 11) hx hb dX4_takeFromRow_67 (by decide) ?_
            exact ih T_serving T_sizes T_taken x4_9 hw _ _ _ hwd (lv_sub hl [2, 3, 4, 5, 0] rfl)
          · replace hw := hw.2 c8
            refine lv_aload_n hx hb dX4_takeFromRow_57 rfl (lv_at hl 1 rfl) ?_
            refine lv_iload_n hx hb dX4_takeFromRow_58 rfl (lv_at hl 3 rfl) ?_
            refine lv_iload hx hb dX4_takeFromRow_59 (lv_at hl 0 rfl) ?_
            refine kcVv (W1 := (fun u => (ww_X4_takeFromRow cI cC oT oT_order oT_needed oT_sizes oT_helpers oT_taken oa1 oa1_settings oa1_needs oa1_rowSizes oa1_rows oa1_trainedUntil oa1_leaves oa1_drills (u.1) T_needed (u.2.1) (u.2.2) a1_today a1_rowSizes a1_rows))) (rest := []) (As := [.int x2, .int r4]) ⟨Nat.le_of_ble_eq_true rfl, Nat.le_of_ble_eq_true rfl⟩ ⟨hx, hb, hml, hown, hts⟩ (c_X4_take l oT oT_order oT_needed oT_sizes oT_helpers oT_taken H.size T_serving T_sizes T_taken x2 r4 hw) (cwV 2 hts gX4_takeFromRow_X4_take rfl rfl rfl ⟨rfl, hd_X4_take⟩ ⟨Nat.le_of_ble_eq_true rfl, Nat.le_of_ble_eq_true rfl⟩) hKw hA hwd [0, 2, 3] [1, 4, 5, 6] [4, 0, 5, 6, 1, 2, 3] [(oT_needed, .inl (cI, 10, .inl T_needed)), (oa1, .inr (5, [.int a1_today, .ref oa1_settings, .ref oa1_needs, .ref oa1_rowSizes, .ref oa1_rows, .ref oa1_trainedUntil, .ref oa1_leaves, .ref oa1_drills])), (oa1_rowSizes, .inl (cI, 10, .inl a1_rowSizes)), (oa1_rows, .inl (cI, 50, .inl a1_rows))] rfl rfl rfl rfl (by decide) rfl (fun _ => rfl) 0 4 rfl rfl rfl rfl hl.1 rfl (lv_room (Nat.le_of_ble_eq_true rfl)) dX4_takeFromRow_61 (fun u H locs hw hwd => ?_)
            obtain ⟨T_serving10, T_sizes11, T_taken12⟩ := u
            try dsimp only at hw
            replace hwd : wd D A s (ww_X4_takeFromRow cI cC oT oT_order oT_needed oT_sizes oT_helpers oT_taken oa1 oa1_settings oa1_needs oa1_rowSizes oa1_rows oa1_trainedUntil oa1_leaves oa1_drills T_serving10 T_needed T_sizes11 T_taken12 a1_today a1_rowSizes a1_rows) H locs := hwd
            obtain ⟨x4_13, e_x4_13⟩ : ∃ y : Int32, y = x4 + (nI 1) := ⟨_, rfl⟩
            replace hw := hw x4_13 e_x4_13
            refine lv_iinc (v := x4_13) (lv' := [(4, .int x4_13), (5, .int r4), (0, .ref oT), (1, .ref oa1), (2, .int x2), (3, .int x3)]) hx hb dX4_takeFromRow_64 hl (k := 5) rfl (by rw [e_x4_13]; rfl) (by decide) rfl (fun ls hl => ?_)
            refine lv_goto (tgt := 11) hx hb dX4_takeFromRow_67 (by decide) ?_
            exact ih T_serving10 T_sizes11 T_taken12 x4_13 hw _ _ _ hwd (lv_sub hl [2, 3, 4, 5, 0] rfl)
def wp_X4_takeFromRow (T_serving : Int32) (T_needed : Nat → Int32) (T_sizes : Nat → Int32) (T_taken : Nat → Int32) (a1_rowSizes : Nat → Int32) (a1_rows : Nat → Int32) (x2 : Int32) (x3 : Int32) (Q : Int32 → (Nat → Int32) → (Nat → Int32) → Prop) : Prop := wp_X6_isFloor x2 (fun r1 => ((¬ r1 = 0 → (∃ n3, wb_X4_takeFromRow_11 T_needed a1_rowSizes a1_rows x2 x3 (fun T_serving4 T_sizes5 T_taken6 => Q T_serving4 T_sizes5 T_taken6) n3 T_serving T_sizes T_taken (nI 0))) ∧ (r1 = 0 → Q T_serving T_sizes T_taken)))
set_option maxRecDepth 100000 in
set_option maxHeartbeats 4000000 in
theorem c_X4_takeFromRow (l : Launch) {D : va_G} {cI cC cR : ClassId} (oT oT_order oT_needed oT_sizes oT_helpers oT_taken oa1 oa1_settings oa1_needs oa1_rowSizes oa1_rows oa1_trainedUntil oa1_leaves oa1_drills : Nat) (sz : Nat) (T_serving : Int32) (T_needed : Nat → Int32) (T_sizes : Nat → Int32) (T_taken : Nat → Int32) (a1_today : Int32) (a1_rowSizes : Nat → Int32) (a1_rows : Nat → Int32) (x2 : Int32) (x3 : Int32) {Q : Int32 → (Nat → Int32) → (Nat → Int32) → Prop} (hw : wp_X4_takeFromRow T_serving T_needed T_sizes T_taken a1_rowSizes a1_rows x2 x3 Q) : Met l yX4_takeFromRow wsX4_takeFromRow rm_X4_takeFromRow (PcW D cI cC cR [.ref oT, .ref oa1, .int x2, .int x3] (ww_X4_takeFromRow cI cC oT oT_order oT_needed oT_sizes oT_helpers oT_taken oa1 oa1_settings oa1_needs oa1_rowSizes oa1_rows oa1_trainedUntil oa1_leaves oa1_drills T_serving T_needed T_sizes T_taken a1_today a1_rowSizes a1_rows) sz) (QvW D (fun (u : Int32 × (Nat → Int32) × (Nat → Int32)) => Q u.1 u.2.1 u.2.2) (fun u => (ww_X4_takeFromRow cI cC oT oT_order oT_needed oT_sizes oT_helpers oT_taken oa1 oa1_settings oa1_needs oa1_rowSizes oa1_rows oa1_trainedUntil oa1_leaves oa1_drills (u.1) T_needed (u.2.1) (u.2.2) a1_today a1_rowSizes a1_rows)) (ww_X4_takeFromRow cI cC oT oT_order oT_needed oT_sizes oT_helpers oT_taken oa1 oa1_settings oa1_needs oa1_rowSizes oa1_rows oa1_trainedUntil oa1_leaves oa1_drills T_serving T_needed T_sizes T_taken a1_today a1_rowSizes a1_rows) sz) 0 0 (va_A (ww_X4_takeFromRow cI cC oT oT_order oT_needed oT_sizes oT_helpers oT_taken oa1 oa1_settings oa1_needs oa1_rowSizes oa1_rows oa1_trainedUntil oa1_leaves oa1_drills T_serving T_needed T_sizes T_taken a1_today a1_rowSizes a1_rows) sz) := by
  refine Met.ofW (cc := cX4_takeFromRow) (maxL := 6) (ret := none) (by decide) rfl ?_
  intro p e s m args below meth c s₁ B hml hv
  obtain ⟨rfl, hsz, hP, hKw, hD0⟩ := hv
  have hlocks := B.notSynchronized
  subst hsz
  have hD := hD0.self (sz := s.heap.size)
  have CX : cx cX4_takeFromRow none 6 RX4 wsX4_takeFromRow p m meth c s ([.ref oT, .ref oa1, .int x2, .int x3] : List Value).toArray D cI cC cR (va_A (ww_X4_takeFromRow cI cC oT oT_order oT_needed oT_sizes oT_helpers oT_taken oa1 oa1_settings oa1_needs oa1_rowSizes oa1_rows oa1_trainedUntil oa1_leaves oa1_drills T_serving T_needed T_sizes T_taken a1_today a1_rowSizes a1_rows) s.heap.size) := ⟨B.exec, B.bytes, B.returns, hml, atoms_spec (ws := wsX4_takeFromRow) B.pre, findClass_of_methodNamed B.named, hlocks, hKw, fun q h => Or.inr h⟩
  obtain ⟨hx, hb, hr, -, hts, hown, -, -, hA⟩ := id CX
  have hwd : wd D (va_A (ww_X4_takeFromRow cI cC oT oT_order oT_needed oT_sizes oT_helpers oT_taken oa1 oa1_settings oa1_needs oa1_rowSizes oa1_rows oa1_trainedUntil oa1_leaves oa1_drills T_serving T_needed T_sizes T_taken a1_today a1_rowSizes a1_rows) s.heap.size) s (ww_X4_takeFromRow cI cC oT oT_order oT_needed oT_sizes oT_helpers oT_taken oa1 oa1_settings oa1_needs oa1_rowSizes oa1_rows oa1_trainedUntil oa1_leaves oa1_drills T_serving T_needed T_sizes T_taken a1_today a1_rowSizes a1_rows) s.heap [] := ⟨hP, hD, va_S.rf⟩
  have hl := lv_entry ([.ref oT, .ref oa1, .int x2, .int x3]) (n := 6) (Nat.le_of_ble_eq_true rfl)
  rw [lg_entry_eq]
  generalize (lg_sl ([.ref oT, .ref oa1, .int x2, .int x3]) ++ List.replicate (6 - (lg_sl ([.ref oT, .ref oa1, .int x2, .int x3])).length) Slot.unset).toArray = ls at hl ⊢
  have hl : lv_has ls 6 [(0, .ref oT), (1, .ref oa1), (2, .int x2), (3, .int x3)] := hl
  have HR : ∀ (u0 : Int32) (u1 : Nat → Int32) (u2 : Nat → Int32) {H : Heap} {locs : List Loc} {ls : Array Slot} {pc : Nat}, Q u0 u1 u2 → wd D (va_A (ww_X4_takeFromRow cI cC oT oT_order oT_needed oT_sizes oT_helpers oT_taken oa1 oa1_settings oa1_needs oa1_rowSizes oa1_rows oa1_trainedUntil oa1_leaves oa1_drills T_serving T_needed T_sizes T_taken a1_today a1_rowSizes a1_rows) s.heap.size) s (ww_X4_takeFromRow cI cC oT oT_order oT_needed oT_sizes oT_helpers oT_taken oa1 oa1_settings oa1_needs oa1_rowSizes oa1_rows oa1_trainedUntil oa1_leaves oa1_drills u0 T_needed u1 u2 a1_today a1_rowSizes a1_rows) H locs → decode cX4_takeFromRow pc = .ok (.return_, 1) → W p l e (headSpec wsX4_takeFromRow rm_X4_takeFromRow).room s m ([.ref oT, .ref oa1, .int x2, .int x3] : List Value).toArray below meth c H locs 0 0 (MQ below (QvW D (fun (u : Int32 × (Nat → Int32) × (Nat → Int32)) => Q u.1 u.2.1 u.2.2) (fun u => (ww_X4_takeFromRow cI cC oT oT_order oT_needed oT_sizes oT_helpers oT_taken oa1 oa1_settings oa1_needs oa1_rowSizes oa1_rows oa1_trainedUntil oa1_leaves oa1_drills (u.1) T_needed (u.2.1) (u.2.2) a1_today a1_rowSizes a1_rows)) (ww_X4_takeFromRow cI cC oT oT_order oT_needed oT_sizes oT_helpers oT_taken oa1 oa1_settings oa1_needs oa1_rowSizes oa1_rows oa1_trainedUntil oa1_leaves oa1_drills T_serving T_needed T_sizes T_taken a1_today a1_rowSizes a1_rows) s.heap.size) ([.ref oT, .ref oa1, .int x2, .int x3] : List Value).toArray s 0 0 (va_A (ww_X4_takeFromRow cI cC oT oT_order oT_needed oT_sizes oT_helpers oT_taken oa1 oa1_settings oa1_needs oa1_rowSizes oa1_rows oa1_trainedUntil oa1_leaves oa1_drills T_serving T_needed T_sizes T_taken a1_today a1_rowSizes a1_rows) s.heap.size)) (F0 m pc ls []) := by
    intro u0 u1 u2 H locs ls pc hq hw9 hd9
    exact W.vret hx hb hr (fun t ht hW => ⟨⟨(u0, u1, u2), rfl, hq, by rw [ht]; exact hw9.1, hw9.2.1⟩, hw9.2.2.F ht⟩) hw9.2.2.2.2 hd9
  unfold wp_X4_takeFromRow at hw
  refine lv_iload_n hx hb dX4_takeFromRow_0 rfl (lv_at hl 2 rfl) ?_
  refine kcNi (rest := []) (As := [.int x2]) ⟨Nat.le_of_ble_eq_true rfl, Nat.le_of_ble_eq_true rfl⟩ ⟨hx, hb, hml, hown, hts⟩ (c_X6_isFloor l s.heap.size x2 hw) ⟨va_cnB 1 hts gX4_takeFromRow_X6_isFloor_n64 rfl rfl rfl (nwm_4 hKw.2) (hts (.initialized RX6) (List.mem_of_getElem? (i := 3) rfl)) hd_X6_isFloor ⟨Nat.le_of_ble_eq_true rfl, Nat.le_of_ble_eq_true rfl⟩, hts (.static yX6_isFloor) (List.mem_of_getElem? (i := 2) rfl), trivial⟩ hKw hA hwd rfl hl.1 rfl (lv_room (Nat.le_of_ble_eq_true rfl)) dX4_takeFromRow_1 (fun r1 H locs hw hwd => ?_)
  try dsimp only at hw
  refine lv_if_ne (tgt := 8) hx hb dX4_takeFromRow_4 (by decide) (fun c2 => ?_) (fun c2 => ?_)
  · replace hw := hw.1 c2
    refine lv_iconst (v := (nI 0)) hx hb dX4_takeFromRow_8 rfl ?_
    refine lv_istore (lv' := [(4, .int (nI 0)), (0, .ref oT), (1, .ref oa1), (2, .int x2), (3, .int x3)]) hx hb dX4_takeFromRow_9 hl (by decide) rfl (fun ls hl => ?_)
    obtain ⟨n3, hw⟩ := hw
    refine blk_X4_takeFromRow_11 (CX := CX) (oT := oT) (oT_order := oT_order) (oT_needed := oT_needed) (oT_sizes := oT_sizes) (oT_helpers := oT_helpers) (oT_taken := oT_taken) (oa1 := oa1) (oa1_settings := oa1_settings) (oa1_needs := oa1_needs) (oa1_rowSizes := oa1_rowSizes) (oa1_rows := oa1_rows) (oa1_trainedUntil := oa1_trainedUntil) (oa1_leaves := oa1_leaves) (oa1_drills := oa1_drills) (T_needed := T_needed) (a1_today := a1_today) (a1_rowSizes := a1_rowSizes) (a1_rows := a1_rows) (x2 := x2) (x3 := x3) (HR := HR) (HK_70 := fun T_serving4 T_sizes5 T_taken6 hw H locs ls hwd hl => ?_) n3 T_serving T_sizes T_taken (nI 0) hw _ _ _ hwd (lv_sub hl [1, 2, 3, 4, 0] rfl)
    try dsimp only at hw
    exact HR T_serving4 T_sizes5 T_taken6 hw hwd dX4_takeFromRow_70
  · replace hw := hw.2 c2
    exact HR T_serving T_sizes T_taken hw hwd dX4_takeFromRow_7
abbrev ww_X4_takeHelpers (cI cC : ClassId) (oT oT_order oT_needed oT_sizes oT_helpers oT_taken : Nat) (T_serving : Int32) (T_needed : Nat → Int32) (T_sizes : Nat → Int32) (T_helpers : Nat → Int32) (T_taken : Nat → Int32) : va_W := [(oT, .inr (4, [.ref oT_order, .ref oT_needed, .ref oT_sizes, .ref oT_helpers, .ref oT_taken, .int T_serving])), (oT_needed, .inl (cI, 10, .inl T_needed)), (oT_sizes, .inl (cI, 10, .inl T_sizes)), (oT_helpers, .inl (cI, 10, .inl T_helpers)), (oT_taken, .inl (cI, 30, .inl T_taken))]
abbrev rm_X4_takeHelpers : Room := { frames := 1, cells := 0, slots := 0, locals := 23 }
theorem ic_X4_takeHelpers_X4 : ∀ w ∈ u_ws RX4 TX4 6, w ∈ wsX4_takeHelpers := by
  intro w h
  simp only [wsX4_takeHelpers, List.mem_cons, List.mem_append]
  simp only [h, or_true, true_or]
def wb_X4_takeHelpers_10 (T_needed : Nat → Int32) (x1 : Int32) (x2 : Int32) (K_61 : Int32 → (Nat → Int32) → (Nat → Int32) → (Nat → Int32) → Prop) : Nat → Int32 → (Nat → Int32) → (Nat → Int32) → (Nat → Int32) → Int32 → Prop
  | 0, _, _, _, _, _ => False
  | n + 1, T_serving, T_sizes, T_helpers, T_taken, x3 => (((nI 16) ≤ x3 → K_61 T_serving T_sizes T_helpers T_taken) ∧ (¬ (nI 16) ≤ x3 → wp_X4_lack T_needed T_sizes x1 (fun r2 => ((r2 ≤ 0 → K_61 T_serving T_sizes T_helpers T_taken) ∧ (¬ r2 ≤ 0 → wp_X6_isIn (x2 &&& (T_serving ^^^ (-1))) x3 (fun r4 => ((r4 = 0 → ∀ x3_6, x3_6 = x3 + (nI 1) → wb_X4_takeHelpers_10 T_needed x1 x2 K_61 n T_serving T_sizes T_helpers T_taken x3_6) ∧ (¬ r4 = 0 → wp_X4_take T_serving T_sizes T_taken x1 x3 (fun T_serving7 T_sizes8 T_taken9 => vp_in x1 10 ∧ vp_in x1 10 ∧ ∀ T_helpers10, T_helpers10 = upd T_helpers x1.toNatClampNeg ((T_helpers x1.toNatClampNeg) + (nI 1)) → ∀ x3_11, x3_11 = x3 + (nI 1) → wb_X4_takeHelpers_10 T_needed x1 x2 K_61 n T_serving7 T_sizes8 T_helpers10 T_taken9 x3_11)))))))))
set_option maxRecDepth 100000 in
set_option maxHeartbeats 4000000 in
theorem blk_X4_takeHelpers_10 {p : Program} {l : Launch} {e : Env} {s : State} {m : MethodId} {args : Array Value} {below : List Frame} {meth : Method} {c : Code} {D : va_G} {cI cC cR : ClassId} {A : Nat → Prop} {Z : State → Prop} (CX : cx cX4_takeHelpers none 4 RX4 wsX4_takeHelpers p m meth c s args D cI cC cR A) (oT oT_order oT_needed oT_sizes oT_helpers oT_taken : Nat) (T_needed : Nat → Int32) (x1 : Int32) (x2 : Int32) {K_61 : Int32 → (Nat → Int32) → (Nat → Int32) → (Nat → Int32) → Prop} {Q : Int32 → (Nat → Int32) → (Nat → Int32) → (Nat → Int32) → Prop} (HR : ∀ (u0 : Int32) (u1 : Nat → Int32) (u2 : Nat → Int32) (u3 : Nat → Int32) {H : Heap} {locs : List Loc} {ls : Array Slot} {pc : Nat}, Q u0 u1 u2 u3 → wd D A s (ww_X4_takeHelpers cI cC oT oT_order oT_needed oT_sizes oT_helpers oT_taken u0 T_needed u1 u2 u3) H locs → decode cX4_takeHelpers pc = .ok (.return_, 1) → W p l e (headSpec wsX4_takeHelpers rm_X4_takeHelpers).room s m args below meth c H locs 0 0 Z (F0 m pc ls [])) (HK_61 : ∀ (T_servingy : Int32) (T_sizesy : Nat → Int32) (T_helpersy : Nat → Int32) (T_takeny : Nat → Int32), K_61 T_servingy T_sizesy T_helpersy T_takeny → ∀ (H : Heap) (locs : List Loc) (ls : Array Slot), wd D A s (ww_X4_takeHelpers cI cC oT oT_order oT_needed oT_sizes oT_helpers oT_taken T_servingy T_needed T_sizesy T_helpersy T_takeny) H locs → lv_has ls 4 [] → W p l e (headSpec wsX4_takeHelpers rm_X4_takeHelpers).room s m args below meth c H locs 0 0 Z (F0 m 61 ls [])) : ∀ (n : Nat) (T_serving : Int32) (T_sizes : Nat → Int32) (T_helpers : Nat → Int32) (T_taken : Nat → Int32) (x3 : Int32), wb_X4_takeHelpers_10 T_needed x1 x2 K_61 n T_serving T_sizes T_helpers T_taken x3 → ∀ (H : Heap) (locs : List Loc) (ls : Array Slot), wd D A s (ww_X4_takeHelpers cI cC oT oT_order oT_needed oT_sizes oT_helpers oT_taken T_serving T_needed T_sizes T_helpers T_taken) H locs → lv_has ls 4 [(0, .ref oT), (1, .int x1), (2, .int x2), (3, .int x3)] → W p l e (headSpec wsX4_takeHelpers rm_X4_takeHelpers).room s m args below meth c H locs 0 0 Z (F0 m 10 ls []) := by
  obtain ⟨hx, hb, hr, hml, hts, hown, hlocks, hKw, hA⟩ := id CX
  intro n
  induction n with
  | zero => intro T_serving T_sizes T_helpers T_taken x3 hw; exact False.elim hw
  | succ n ih =>
    intro T_serving T_sizes T_helpers T_taken x3 hw H locs ls hwd hl
    rw [wb_X4_takeHelpers_10] at hw
    refine lv_iload_n hx hb dX4_takeHelpers_10 rfl (lv_at hl 3 rfl) ?_
    refine lv_bipush (v := (nI 16)) hx hb dX4_takeHelpers_11 rfl ?_
    refine lv_icmp_ge (tgt := 61) hx hb dX4_takeHelpers_13 (by decide) (fun c1 => ?_) (fun c1 => ?_)
    · replace hw := hw.1 c1
      exact HK_61 T_serving T_sizes T_helpers T_taken hw _ _ _ hwd (lv_sub hl [] rfl)
    · replace hw := hw.2 c1
      refine lv_aload_n hx hb dX4_takeHelpers_16 rfl (lv_at hl 0 rfl) ?_
      refine lv_iload_n hx hb dX4_takeHelpers_17 rfl (lv_at hl 1 rfl) ?_
      refine kcVi (W1 := (fun u => (ww_X4_takeHelpers cI cC oT oT_order oT_needed oT_sizes oT_helpers oT_taken T_serving T_needed T_sizes T_helpers T_taken))) (rest := []) (As := [.int x1]) ⟨Nat.le_of_ble_eq_true rfl, Nat.le_of_ble_eq_true rfl⟩ ⟨hx, hb, hml, hown, hts⟩ (c_X4_lack l oT oT_order oT_needed oT_sizes oT_helpers oT_taken H.size T_serving T_needed T_sizes x1 hw) (cwV 1 hts gX4_takeHelpers_X4_lack rfl rfl rfl ⟨rfl, hd_X4_lack⟩ ⟨Nat.le_of_ble_eq_true rfl, Nat.le_of_ble_eq_true rfl⟩) hKw hA hwd [0, 1, 2] [3, 4] [2, 3, 4, 0, 1] [(oT_helpers, .inl (cI, 10, .inl T_helpers)), (oT_taken, .inl (cI, 30, .inl T_taken))] rfl rfl rfl rfl (by decide) rfl (fun _ => rfl) 0 4 rfl rfl rfl rfl hl.1 rfl (lv_room (Nat.le_of_ble_eq_true rfl)) dX4_takeHelpers_18 (fun r2 u H locs hw hwd => ?_)
      try dsimp only at hw
      replace hwd : wd D A s (ww_X4_takeHelpers cI cC oT oT_order oT_needed oT_sizes oT_helpers oT_taken T_serving T_needed T_sizes T_helpers T_taken) H locs := hwd
      refine lv_if_le (tgt := 61) hx hb dX4_takeHelpers_21 (by decide) (fun c3 => ?_) (fun c3 => ?_)
      · replace hw := hw.1 c3
        exact HK_61 T_serving T_sizes T_helpers T_taken hw _ _ _ hwd (lv_sub hl [] rfl)
      · replace hw := hw.2 c3
        refine lv_iload_n hx hb dX4_takeHelpers_24 rfl (lv_at hl 2 rfl) ?_
        refine lv_aload_n hx hb dX4_takeHelpers_25 rfl (lv_at hl 0 rfl) ?_
        refine va_get (D := D) (ci := 4) (v := .int T_serving) (C := RX4) (T := TX4) (N := 6) hx hb hts ic_X4_takeHelpers_X4 hown hKw.1 hwd.1 0 rfl rfl 5 (by decide) (hts (.fieldLink RX4 51 "DrillWardens$Roster" "serving" "I") (List.mem_of_getElem? (i := 1) rfl)) (fun _ h9 => h9) rfl dX4_takeHelpers_26 ?_
        refine lv_iconst (v := (-1)) hx hb dX4_takeHelpers_29 rfl ?_
        refine lv_ixor hx hb dX4_takeHelpers_30 ?_
        refine lv_iand hx hb dX4_takeHelpers_31 ?_
        refine lv_iload_n hx hb dX4_takeHelpers_32 rfl (lv_at hl 3 rfl) ?_
        refine kcNi (rest := []) (As := [.int (x2 &&& (T_serving ^^^ (-1))), .int x3]) ⟨Nat.le_of_ble_eq_true rfl, Nat.le_of_ble_eq_true rfl⟩ ⟨hx, hb, hml, hown, hts⟩ (c_X6_isIn l H.size (x2 &&& (T_serving ^^^ (-1))) x3 hw) ⟨va_cnB 2 hts gX4_takeHelpers_X6_isIn_n75 rfl rfl rfl (nwm_5 hKw.2) (hts (.initialized RX6) (List.mem_of_getElem? (i := 4) rfl)) hd_X6_isIn ⟨Nat.le_of_ble_eq_true rfl, Nat.le_of_ble_eq_true rfl⟩, hts (.static yX6_isIn) (List.mem_of_getElem? (i := 13) rfl), trivial⟩ hKw hA hwd rfl hl.1 rfl (lv_room (Nat.le_of_ble_eq_true rfl)) dX4_takeHelpers_33 (fun r4 H locs hw hwd => ?_)
        try dsimp only at hw
        refine lv_if_eq (tgt := 55) hx hb dX4_takeHelpers_36 (by decide) (fun c5 => ?_) (fun c5 => ?_)
        · replace hw := hw.1 c5
          obtain ⟨x3_6, e_x3_6⟩ : ∃ y : Int32, y = x3 + (nI 1) := ⟨_, rfl⟩
          replace hw := hw x3_6 e_x3_6
          refine lv_iinc (v := x3_6) (lv' := [(3, .int x3_6), (0, .ref oT), (1, .int x1), (2, .int x2)]) hx hb dX4_takeHelpers_55 hl (k := 3) rfl (by rw [e_x3_6]; rfl) (by decide) rfl (fun ls hl => ?_)
          refine lv_goto (tgt := 10) hx hb dX4_takeHelpers_58 (by decide) ?_
          exact ih T_serving T_sizes T_helpers T_taken x3_6 hw _ _ _ hwd (lv_sub hl [1, 2, 3, 0] rfl)
        · replace hw := hw.2 c5
          refine lv_aload_n hx hb dX4_takeHelpers_39 rfl (lv_at hl 0 rfl) ?_
          refine lv_iload_n hx hb dX4_takeHelpers_40 rfl (lv_at hl 1 rfl) ?_
          refine lv_iload_n hx hb dX4_takeHelpers_41 rfl (lv_at hl 3 rfl) ?_
          refine kcVv (W1 := (fun u => (ww_X4_takeHelpers cI cC oT oT_order oT_needed oT_sizes oT_helpers oT_taken (u.1) T_needed (u.2.1) T_helpers (u.2.2)))) (rest := []) (As := [.int x1, .int x3]) ⟨Nat.le_of_ble_eq_true rfl, Nat.le_of_ble_eq_true rfl⟩ ⟨hx, hb, hml, hown, hts⟩ (c_X4_take l oT oT_order oT_needed oT_sizes oT_helpers oT_taken H.size T_serving T_sizes T_taken x1 x3 hw) (cwV 2 hts gX4_takeHelpers_X4_take rfl rfl rfl ⟨rfl, hd_X4_take⟩ ⟨Nat.le_of_ble_eq_true rfl, Nat.le_of_ble_eq_true rfl⟩) hKw hA hwd [0, 2, 4] [1, 3] [2, 0, 3, 1, 4] [(oT_needed, .inl (cI, 10, .inl T_needed)), (oT_helpers, .inl (cI, 10, .inl T_helpers))] rfl rfl rfl rfl (by decide) rfl (fun _ => rfl) 0 4 rfl rfl rfl rfl hl.1 rfl (lv_room (Nat.le_of_ble_eq_true rfl)) dX4_takeHelpers_42 (fun u H locs hw hwd => ?_)
          obtain ⟨T_serving7, T_sizes8, T_taken9⟩ := u
          try dsimp only at hw
          replace hwd : wd D A s (ww_X4_takeHelpers cI cC oT oT_order oT_needed oT_sizes oT_helpers oT_taken T_serving7 T_needed T_sizes8 T_helpers T_taken9) H locs := hwd
          refine lv_aload_n hx hb dX4_takeHelpers_45 rfl (lv_at hl 0 rfl) ?_
          refine va_get (D := D) (ci := 4) (v := .ref oT_helpers) (C := RX4) (T := TX4) (N := 6) hx hb hts ic_X4_takeHelpers_X4 hown hKw.1 hwd.1 0 rfl rfl 3 (by decide) (hts (.fieldLink RX4 21 "DrillWardens$Roster" "helpers" "[I") (List.mem_of_getElem? (i := 2) rfl)) (fun _ h9 => h9) rfl dX4_takeHelpers_46 ?_
          refine lv_iload_n hx hb dX4_takeHelpers_49 rfl (lv_at hl 1 rfl) ?_
          refine lv_dup2_11 hx hb dX4_takeHelpers_50 rfl rfl ?_
          refine va_iald hx hb hKw.1 hwd.1 3 0 rfl rfl hw.1 dX4_takeHelpers_51 ?_
          replace hw := hw.2
          refine lv_iconst (v := (nI 1)) hx hb dX4_takeHelpers_52 rfl ?_
          refine lv_iadd hx hb dX4_takeHelpers_53 ?_
          obtain ⟨T_helpers10, e_T_helpers10⟩ : ∃ y : Nat → Int32, y = upd T_helpers x1.toNatClampNeg ((T_helpers x1.toNatClampNeg) + (nI 1)) := ⟨_, rfl⟩
          refine va_iast hx hb hKw.1 hwd.1 hwd.2.1 hwd.2.2 3 0 rfl rfl hw.1 dX4_takeHelpers_54 (fun H locs h1 h2 h3 => ?_)
          replace hw := hw.2 T_helpers10 e_T_helpers10
          rw [← e_T_helpers10] at h1 h2
          replace hwd : wd D A s (ww_X4_takeHelpers cI cC oT oT_order oT_needed oT_sizes oT_helpers oT_taken T_serving7 T_needed T_sizes8 T_helpers10 T_taken9) H locs := ⟨h1, h2, h3⟩
          clear h1 h2 h3
          obtain ⟨x3_11, e_x3_11⟩ : ∃ y : Int32, y = x3 + (nI 1) := ⟨_, rfl⟩
          replace hw := hw x3_11 e_x3_11
          refine lv_iinc (v := x3_11) (lv' := [(3, .int x3_11), (0, .ref oT), (1, .int x1), (2, .int x2)]) hx hb dX4_takeHelpers_55 hl (k := 3) rfl (by rw [e_x3_11]; rfl) (by decide) rfl (fun ls hl => ?_)
          refine lv_goto (tgt := 10) hx hb dX4_takeHelpers_58 (by decide) ?_
          exact ih T_serving7 T_sizes8 T_helpers10 T_taken9 x3_11 hw _ _ _ hwd (lv_sub hl [1, 2, 3, 0] rfl)
def wp_X4_takeHelpers (T_serving : Int32) (T_needed : Nat → Int32) (T_sizes : Nat → Int32) (T_helpers : Nat → Int32) (T_taken : Nat → Int32) (x1 : Int32) (x2 : Int32) (Q : Int32 → (Nat → Int32) → (Nat → Int32) → (Nat → Int32) → Prop) : Prop := wp_X6_isFloor x1 (fun r1 => ((¬ r1 = 0 → (∃ n3, wb_X4_takeHelpers_10 T_needed x1 x2 (fun T_serving4 T_sizes5 T_helpers6 T_taken7 => Q T_serving4 T_sizes5 T_helpers6 T_taken7) n3 T_serving T_sizes T_helpers T_taken (nI 0))) ∧ (r1 = 0 → Q T_serving T_sizes T_helpers T_taken)))
set_option maxRecDepth 100000 in
set_option maxHeartbeats 4000000 in
theorem c_X4_takeHelpers (l : Launch) {D : va_G} {cI cC cR : ClassId} (oT oT_order oT_needed oT_sizes oT_helpers oT_taken : Nat) (sz : Nat) (T_serving : Int32) (T_needed : Nat → Int32) (T_sizes : Nat → Int32) (T_helpers : Nat → Int32) (T_taken : Nat → Int32) (x1 : Int32) (x2 : Int32) {Q : Int32 → (Nat → Int32) → (Nat → Int32) → (Nat → Int32) → Prop} (hw : wp_X4_takeHelpers T_serving T_needed T_sizes T_helpers T_taken x1 x2 Q) : Met l yX4_takeHelpers wsX4_takeHelpers rm_X4_takeHelpers (PcW D cI cC cR [.ref oT, .int x1, .int x2] (ww_X4_takeHelpers cI cC oT oT_order oT_needed oT_sizes oT_helpers oT_taken T_serving T_needed T_sizes T_helpers T_taken) sz) (QvW D (fun (u : Int32 × (Nat → Int32) × (Nat → Int32) × (Nat → Int32)) => Q u.1 u.2.1 u.2.2.1 u.2.2.2) (fun u => (ww_X4_takeHelpers cI cC oT oT_order oT_needed oT_sizes oT_helpers oT_taken (u.1) T_needed (u.2.1) (u.2.2.1) (u.2.2.2))) (ww_X4_takeHelpers cI cC oT oT_order oT_needed oT_sizes oT_helpers oT_taken T_serving T_needed T_sizes T_helpers T_taken) sz) 0 0 (va_A (ww_X4_takeHelpers cI cC oT oT_order oT_needed oT_sizes oT_helpers oT_taken T_serving T_needed T_sizes T_helpers T_taken) sz) := by
  refine Met.ofW (cc := cX4_takeHelpers) (maxL := 4) (ret := none) (by decide) rfl ?_
  intro p e s m args below meth c s₁ B hml hv
  obtain ⟨rfl, hsz, hP, hKw, hD0⟩ := hv
  have hlocks := B.notSynchronized
  subst hsz
  have hD := hD0.self (sz := s.heap.size)
  have CX : cx cX4_takeHelpers none 4 RX4 wsX4_takeHelpers p m meth c s ([.ref oT, .int x1, .int x2] : List Value).toArray D cI cC cR (va_A (ww_X4_takeHelpers cI cC oT oT_order oT_needed oT_sizes oT_helpers oT_taken T_serving T_needed T_sizes T_helpers T_taken) s.heap.size) := ⟨B.exec, B.bytes, B.returns, hml, atoms_spec (ws := wsX4_takeHelpers) B.pre, findClass_of_methodNamed B.named, hlocks, hKw, fun q h => Or.inr h⟩
  obtain ⟨hx, hb, hr, -, hts, hown, -, -, hA⟩ := id CX
  have hwd : wd D (va_A (ww_X4_takeHelpers cI cC oT oT_order oT_needed oT_sizes oT_helpers oT_taken T_serving T_needed T_sizes T_helpers T_taken) s.heap.size) s (ww_X4_takeHelpers cI cC oT oT_order oT_needed oT_sizes oT_helpers oT_taken T_serving T_needed T_sizes T_helpers T_taken) s.heap [] := ⟨hP, hD, va_S.rf⟩
  have hl := lv_entry ([.ref oT, .int x1, .int x2]) (n := 4) (Nat.le_of_ble_eq_true rfl)
  rw [lg_entry_eq]
  generalize (lg_sl ([.ref oT, .int x1, .int x2]) ++ List.replicate (4 - (lg_sl ([.ref oT, .int x1, .int x2])).length) Slot.unset).toArray = ls at hl ⊢
  have hl : lv_has ls 4 [(0, .ref oT), (1, .int x1), (2, .int x2)] := hl
  have HR : ∀ (u0 : Int32) (u1 : Nat → Int32) (u2 : Nat → Int32) (u3 : Nat → Int32) {H : Heap} {locs : List Loc} {ls : Array Slot} {pc : Nat}, Q u0 u1 u2 u3 → wd D (va_A (ww_X4_takeHelpers cI cC oT oT_order oT_needed oT_sizes oT_helpers oT_taken T_serving T_needed T_sizes T_helpers T_taken) s.heap.size) s (ww_X4_takeHelpers cI cC oT oT_order oT_needed oT_sizes oT_helpers oT_taken u0 T_needed u1 u2 u3) H locs → decode cX4_takeHelpers pc = .ok (.return_, 1) → W p l e (headSpec wsX4_takeHelpers rm_X4_takeHelpers).room s m ([.ref oT, .int x1, .int x2] : List Value).toArray below meth c H locs 0 0 (MQ below (QvW D (fun (u : Int32 × (Nat → Int32) × (Nat → Int32) × (Nat → Int32)) => Q u.1 u.2.1 u.2.2.1 u.2.2.2) (fun u => (ww_X4_takeHelpers cI cC oT oT_order oT_needed oT_sizes oT_helpers oT_taken (u.1) T_needed (u.2.1) (u.2.2.1) (u.2.2.2))) (ww_X4_takeHelpers cI cC oT oT_order oT_needed oT_sizes oT_helpers oT_taken T_serving T_needed T_sizes T_helpers T_taken) s.heap.size) ([.ref oT, .int x1, .int x2] : List Value).toArray s 0 0 (va_A (ww_X4_takeHelpers cI cC oT oT_order oT_needed oT_sizes oT_helpers oT_taken T_serving T_needed T_sizes T_helpers T_taken) s.heap.size)) (F0 m pc ls []) := by
    intro u0 u1 u2 u3 H locs ls pc hq hw9 hd9
    exact W.vret hx hb hr (fun t ht hW => ⟨⟨(u0, u1, u2, u3), rfl, hq, by rw [ht]; exact hw9.1, hw9.2.1⟩, hw9.2.2.F ht⟩) hw9.2.2.2.2 hd9
  unfold wp_X4_takeHelpers at hw
  refine lv_iload_n hx hb dX4_takeHelpers_0 rfl (lv_at hl 1 rfl) ?_
  refine kcNi (rest := []) (As := [.int x1]) ⟨Nat.le_of_ble_eq_true rfl, Nat.le_of_ble_eq_true rfl⟩ ⟨hx, hb, hml, hown, hts⟩ (c_X6_isFloor l s.heap.size x1 hw) ⟨va_cnB 1 hts gX4_takeHelpers_X6_isFloor_n64 rfl rfl rfl (nwm_4 hKw.2) (hts (.initialized RX6) (List.mem_of_getElem? (i := 4) rfl)) hd_X6_isFloor ⟨Nat.le_of_ble_eq_true rfl, Nat.le_of_ble_eq_true rfl⟩, hts (.static yX6_isFloor) (List.mem_of_getElem? (i := 3) rfl), trivial⟩ hKw hA hwd rfl hl.1 rfl (lv_room (Nat.le_of_ble_eq_true rfl)) dX4_takeHelpers_1 (fun r1 H locs hw hwd => ?_)
  try dsimp only at hw
  refine lv_if_ne (tgt := 8) hx hb dX4_takeHelpers_4 (by decide) (fun c2 => ?_) (fun c2 => ?_)
  · replace hw := hw.1 c2
    refine lv_iconst (v := (nI 0)) hx hb dX4_takeHelpers_8 rfl ?_
    refine lv_istore_n (lv' := [(3, .int (nI 0)), (0, .ref oT), (1, .int x1), (2, .int x2)]) hx hb dX4_takeHelpers_9 rfl hl (by decide) rfl (fun ls hl => ?_)
    obtain ⟨n3, hw⟩ := hw
    refine blk_X4_takeHelpers_10 (CX := CX) (oT := oT) (oT_order := oT_order) (oT_needed := oT_needed) (oT_sizes := oT_sizes) (oT_helpers := oT_helpers) (oT_taken := oT_taken) (T_needed := T_needed) (x1 := x1) (x2 := x2) (HR := HR) (HK_61 := fun T_serving4 T_sizes5 T_helpers6 T_taken7 hw H locs ls hwd hl => ?_) n3 T_serving T_sizes T_helpers T_taken (nI 0) hw _ _ _ hwd (lv_sub hl [1, 2, 3, 0] rfl)
    try dsimp only at hw
    exact HR T_serving4 T_sizes5 T_helpers6 T_taken7 hw hwd dX4_takeHelpers_61
  · replace hw := hw.2 c2
    exact HR T_serving T_sizes T_helpers T_taken hw hwd dX4_takeHelpers_7
abbrev ww_X4_takenAt (cI cC : ClassId) (oT oT_order oT_needed oT_sizes oT_helpers oT_taken : Nat) (T_serving : Int32) (T_sizes : Nat → Int32) (T_taken : Nat → Int32) : va_W := [(oT, .inr (4, [.ref oT_order, .ref oT_needed, .ref oT_sizes, .ref oT_helpers, .ref oT_taken, .int T_serving])), (oT_sizes, .inl (cI, 10, .inl T_sizes)), (oT_taken, .inl (cI, 30, .inl T_taken))]
abbrev rm_X4_takenAt : Room := { frames := 1, cells := 0, slots := 0, locals := 22 }
theorem ic_X4_takenAt_X4 : ∀ w ∈ u_ws RX4 TX4 6, w ∈ wsX4_takenAt := by
  intro w h
  simp only [wsX4_takenAt, List.mem_cons, List.mem_append]
  simp only [h, or_true, true_or]
def wp_X4_takenAt (T_sizes : Nat → Int32) (T_taken : Nat → Int32) (x1 : Int32) (x2 : Int32) (Q : Int32 → Prop) : Prop := wp_X6_isFloor x1 (fun r1 => ((r1 = 0 → Q (-5)) ∧ (¬ r1 = 0 → wp_X6_isWithin x2 (nI 0) (nI 2) (fun r3 => ((r3 = 0 → Q (-5)) ∧ (¬ r3 = 0 → vp_in x1 10 ∧ ((x2 < (T_sizes x1.toNatClampNeg) → vp_in ((x1 * (nI 3)) + x2) 30 ∧ Q (T_taken ((x1 * (nI 3)) + x2).toNatClampNeg)) ∧ (¬ x2 < (T_sizes x1.toNatClampNeg) → Q (-5)))))))))
set_option maxRecDepth 100000 in
set_option maxHeartbeats 4000000 in
theorem c_X4_takenAt (l : Launch) {D : va_G} {cI cC cR : ClassId} (oT oT_order oT_needed oT_sizes oT_helpers oT_taken : Nat) (sz : Nat) (T_serving : Int32) (T_sizes : Nat → Int32) (T_taken : Nat → Int32) (x1 : Int32) (x2 : Int32) {Q : Int32 → Prop} (hw : wp_X4_takenAt T_sizes T_taken x1 x2 Q) : Met l yX4_takenAt wsX4_takenAt rm_X4_takenAt (PcW D cI cC cR [.ref oT, .int x1, .int x2] (ww_X4_takenAt cI cC oT oT_order oT_needed oT_sizes oT_helpers oT_taken T_serving T_sizes T_taken) sz) (QiW D (fun (r : Int32) (u : Unit) => Q r ) (fun u => (ww_X4_takenAt cI cC oT oT_order oT_needed oT_sizes oT_helpers oT_taken T_serving T_sizes T_taken)) (ww_X4_takenAt cI cC oT oT_order oT_needed oT_sizes oT_helpers oT_taken T_serving T_sizes T_taken) sz) 0 0 (va_A (ww_X4_takenAt cI cC oT oT_order oT_needed oT_sizes oT_helpers oT_taken T_serving T_sizes T_taken) sz) := by
  refine Met.ofW (cc := cX4_takenAt) (maxL := 3) (ret := (some .int)) (by decide) rfl ?_
  intro p e s m args below meth c s₁ B hml hv
  obtain ⟨rfl, hsz, hP, hKw, hD0⟩ := hv
  have hlocks := B.notSynchronized
  subst hsz
  have hD := hD0.self (sz := s.heap.size)
  have CX : cx cX4_takenAt (some .int) 3 RX4 wsX4_takenAt p m meth c s ([.ref oT, .int x1, .int x2] : List Value).toArray D cI cC cR (va_A (ww_X4_takenAt cI cC oT oT_order oT_needed oT_sizes oT_helpers oT_taken T_serving T_sizes T_taken) s.heap.size) := ⟨B.exec, B.bytes, B.returns, hml, atoms_spec (ws := wsX4_takenAt) B.pre, findClass_of_methodNamed B.named, hlocks, hKw, fun q h => Or.inr h⟩
  obtain ⟨hx, hb, hr, -, hts, hown, -, -, hA⟩ := id CX
  have hwd : wd D (va_A (ww_X4_takenAt cI cC oT oT_order oT_needed oT_sizes oT_helpers oT_taken T_serving T_sizes T_taken) s.heap.size) s (ww_X4_takenAt cI cC oT oT_order oT_needed oT_sizes oT_helpers oT_taken T_serving T_sizes T_taken) s.heap [] := ⟨hP, hD, va_S.rf⟩
  have hl := lv_entry ([.ref oT, .int x1, .int x2]) (n := 3) (Nat.le_of_ble_eq_true rfl)
  rw [lg_entry_eq]
  generalize (lg_sl ([.ref oT, .int x1, .int x2]) ++ List.replicate (3 - (lg_sl ([.ref oT, .int x1, .int x2])).length) Slot.unset).toArray = ls at hl ⊢
  have hl : lv_has ls 3 [(0, .ref oT), (1, .int x1), (2, .int x2)] := hl
  have HR : ∀ (r : Int32) {H : Heap} {locs : List Loc} {ls : Array Slot} {pc : Nat}, Q r → wd D (va_A (ww_X4_takenAt cI cC oT oT_order oT_needed oT_sizes oT_helpers oT_taken T_serving T_sizes T_taken) s.heap.size) s (ww_X4_takenAt cI cC oT oT_order oT_needed oT_sizes oT_helpers oT_taken T_serving T_sizes T_taken) H locs → decode cX4_takenAt pc = .ok (.ireturn, 1) → W p l e (headSpec wsX4_takenAt rm_X4_takenAt).room s m ([.ref oT, .int x1, .int x2] : List Value).toArray below meth c H locs 0 0 (MQ below (QiW D (fun (r : Int32) (u : Unit) => Q r ) (fun u => (ww_X4_takenAt cI cC oT oT_order oT_needed oT_sizes oT_helpers oT_taken T_serving T_sizes T_taken)) (ww_X4_takenAt cI cC oT oT_order oT_needed oT_sizes oT_helpers oT_taken T_serving T_sizes T_taken) s.heap.size) ([.ref oT, .int x1, .int x2] : List Value).toArray s 0 0 (va_A (ww_X4_takenAt cI cC oT oT_order oT_needed oT_sizes oT_helpers oT_taken T_serving T_sizes T_taken) s.heap.size)) (F0 m pc ls [.int r]) := by
    intro r H locs ls pc hq hw9 hd9
    exact W.iret (v := r) hx hb hr (fun t ht hW => ⟨⟨r, (), rfl, hq, by rw [ht]; exact hw9.1, hw9.2.1⟩, hw9.2.2.F ht⟩) hw9.2.2.2.2 hd9
  unfold wp_X4_takenAt at hw
  refine lv_iload_n hx hb dX4_takenAt_0 rfl (lv_at hl 1 rfl) ?_
  refine kcNi (rest := []) (As := [.int x1]) ⟨Nat.le_of_ble_eq_true rfl, Nat.le_of_ble_eq_true rfl⟩ ⟨hx, hb, hml, hown, hts⟩ (c_X6_isFloor l s.heap.size x1 hw) ⟨va_cnB 1 hts gX4_takenAt_X6_isFloor_n64 rfl rfl rfl (nwm_4 hKw.2) (hts (.initialized RX6) (List.mem_of_getElem? (i := 4) rfl)) hd_X6_isFloor ⟨Nat.le_of_ble_eq_true rfl, Nat.le_of_ble_eq_true rfl⟩, hts (.static yX6_isFloor) (List.mem_of_getElem? (i := 3) rfl), trivial⟩ hKw hA hwd rfl hl.1 rfl (lv_room (Nat.le_of_ble_eq_true rfl)) dX4_takenAt_1 (fun r1 H locs hw hwd => ?_)
  try dsimp only at hw
  refine lv_if_eq (tgt := 26) hx hb dX4_takenAt_4 (by decide) (fun c2 => ?_) (fun c2 => ?_)
  · replace hw := hw.1 c2
    refine lv_bipush (v := (-5)) hx hb dX4_takenAt_26 rfl ?_
    exact HR (-5) hw hwd dX4_takenAt_28
  · replace hw := hw.2 c2
    refine lv_iload_n hx hb dX4_takenAt_7 rfl (lv_at hl 2 rfl) ?_
    refine lv_iconst (v := (nI 0)) hx hb dX4_takenAt_8 rfl ?_
    refine lv_iconst (v := (nI 2)) hx hb dX4_takenAt_9 rfl ?_
    refine kcNi (rest := []) (As := [.int x2, .int (nI 0), .int (nI 2)]) ⟨Nat.le_of_ble_eq_true rfl, Nat.le_of_ble_eq_true rfl⟩ ⟨hx, hb, hml, hown, hts⟩ (c_X6_isWithin l H.size x2 (nI 0) (nI 2) hw) ⟨va_cnB 3 hts gX4_takenAt_X6_isWithin_n87 rfl rfl rfl (nwm_8 hKw.2) (hts (.initialized RX6) (List.mem_of_getElem? (i := 4) rfl)) hd_X6_isWithin ⟨Nat.le_of_ble_eq_true rfl, Nat.le_of_ble_eq_true rfl⟩, hts (.static yX6_isWithin) (List.mem_of_getElem? (i := 6) rfl), trivial⟩ hKw hA hwd rfl hl.1 rfl (lv_room (Nat.le_of_ble_eq_true rfl)) dX4_takenAt_10 (fun r3 H locs hw hwd => ?_)
    try dsimp only at hw
    refine lv_if_eq (tgt := 26) hx hb dX4_takenAt_13 (by decide) (fun c4 => ?_) (fun c4 => ?_)
    · replace hw := hw.1 c4
      refine lv_bipush (v := (-5)) hx hb dX4_takenAt_26 rfl ?_
      exact HR (-5) hw hwd dX4_takenAt_28
    · replace hw := hw.2 c4
      refine lv_iload_n hx hb dX4_takenAt_16 rfl (lv_at hl 2 rfl) ?_
      refine lv_aload_n hx hb dX4_takenAt_17 rfl (lv_at hl 0 rfl) ?_
      refine va_get (D := D) (ci := 4) (v := .ref oT_sizes) (C := RX4) (T := TX4) (N := 6) hx hb hts ic_X4_takenAt_X4 hown hKw.1 hwd.1 0 rfl rfl 2 (by decide) (hts (.fieldLink RX4 18 "DrillWardens$Roster" "sizes" "[I") (List.mem_of_getElem? (i := 1) rfl)) (fun _ h9 => h9) rfl dX4_takenAt_18 ?_
      refine lv_iload_n hx hb dX4_takenAt_21 rfl (lv_at hl 1 rfl) ?_
      refine va_iald hx hb hKw.1 hwd.1 1 0 rfl rfl hw.1 dX4_takenAt_22 ?_
      replace hw := hw.2
      refine lv_icmp_lt (tgt := 29) hx hb dX4_takenAt_23 (by decide) (fun c5 => ?_) (fun c5 => ?_)
      · replace hw := hw.1 c5
        refine lv_aload_n hx hb dX4_takenAt_29 rfl (lv_at hl 0 rfl) ?_
        refine va_get (D := D) (ci := 4) (v := .ref oT_taken) (C := RX4) (T := TX4) (N := 6) hx hb hts ic_X4_takenAt_X4 hown hKw.1 hwd.1 0 rfl rfl 4 (by decide) (hts (.fieldLink RX4 24 "DrillWardens$Roster" "taken" "[I") (List.mem_of_getElem? (i := 2) rfl)) (fun _ h9 => h9) rfl dX4_takenAt_30 ?_
        refine lv_iload_n hx hb dX4_takenAt_33 rfl (lv_at hl 1 rfl) ?_
        refine lv_iconst (v := (nI 3)) hx hb dX4_takenAt_34 rfl ?_
        refine lv_imul hx hb dX4_takenAt_35 ?_
        refine lv_iload_n hx hb dX4_takenAt_36 rfl (lv_at hl 2 rfl) ?_
        refine lv_iadd hx hb dX4_takenAt_37 ?_
        refine va_iald hx hb hKw.1 hwd.1 2 0 rfl rfl hw.1 dX4_takenAt_38 ?_
        replace hw := hw.2
        exact HR (T_taken ((x1 * (nI 3)) + x2).toNatClampNeg) hw hwd dX4_takenAt_39
      · replace hw := hw.2 c5
        refine lv_bipush (v := (-5)) hx hb dX4_takenAt_26 rfl ?_
        exact HR (-5) hw hwd dX4_takenAt_28
abbrev ww_X4_floorOf (cI cC : ClassId) (oT oT_order oT_needed oT_sizes oT_helpers oT_taken : Nat) (T_serving : Int32) (T_sizes : Nat → Int32) (T_taken : Nat → Int32) : va_W := [(oT, .inr (4, [.ref oT_order, .ref oT_needed, .ref oT_sizes, .ref oT_helpers, .ref oT_taken, .int T_serving])), (oT_sizes, .inl (cI, 10, .inl T_sizes)), (oT_taken, .inl (cI, 30, .inl T_taken))]
abbrev rm_X4_floorOf : Room := { frames := 2, cells := 0, slots := 0, locals := 44 }
theorem ic_X4_floorOf_X4 : ∀ w ∈ u_ws RX4 TX4 6, w ∈ wsX4_floorOf := by
  intro w h
  simp only [wsX4_floorOf, List.mem_cons, List.mem_append]
  simp only [h, or_true, true_or]
def wb_X4_floorOf_24 (T_sizes : Nat → Int32) (T_taken : Nat → Int32) (x1 : Int32) (x2 : Int32) (K_47 : Prop) (Q : Int32 → Prop) : Nat → Int32 → Prop
  | 0, _ => False
  | n + 1, x3 => (((nI 3) ≤ x3 → K_47) ∧ (¬ (nI 3) ≤ x3 → wp_X4_takenAt T_sizes T_taken x2 x3 (fun r2 => ((¬ r2 = x1 → ∀ x3_4, x3_4 = x3 + (nI 1) → wb_X4_floorOf_24 T_sizes T_taken x1 x2 K_47 Q n x3_4) ∧ (r2 = x1 → Q x2)))))
set_option maxRecDepth 100000 in
set_option maxHeartbeats 4000000 in
theorem blk_X4_floorOf_24 {p : Program} {l : Launch} {e : Env} {s : State} {m : MethodId} {args : Array Value} {below : List Frame} {meth : Method} {c : Code} {D : va_G} {cI cC cR : ClassId} {A : Nat → Prop} {Z : State → Prop} (CX : cx cX4_floorOf (some .int) 4 RX4 wsX4_floorOf p m meth c s args D cI cC cR A) (oT oT_order oT_needed oT_sizes oT_helpers oT_taken : Nat) (T_serving : Int32) (T_sizes : Nat → Int32) (T_taken : Nat → Int32) (x1 : Int32) (x2 : Int32) {K_47 : Prop} {Q : Int32 → Prop} (HR : ∀ (r : Int32) {H : Heap} {locs : List Loc} {ls : Array Slot} {pc : Nat}, Q r → wd D A s (ww_X4_floorOf cI cC oT oT_order oT_needed oT_sizes oT_helpers oT_taken T_serving T_sizes T_taken) H locs → decode cX4_floorOf pc = .ok (.ireturn, 1) → W p l e (headSpec wsX4_floorOf rm_X4_floorOf).room s m args below meth c H locs 0 0 Z (F0 m pc ls [.int r])) (HK_47 : K_47 → ∀ (H : Heap) (locs : List Loc) (ls : Array Slot), wd D A s (ww_X4_floorOf cI cC oT oT_order oT_needed oT_sizes oT_helpers oT_taken T_serving T_sizes T_taken) H locs → lv_has ls 4 [(0, .ref oT), (1, .int x1), (2, .int x2)] → W p l e (headSpec wsX4_floorOf rm_X4_floorOf).room s m args below meth c H locs 0 0 Z (F0 m 47 ls [])) : ∀ (n : Nat) (x3 : Int32), wb_X4_floorOf_24 T_sizes T_taken x1 x2 K_47 Q n x3 → ∀ (H : Heap) (locs : List Loc) (ls : Array Slot), wd D A s (ww_X4_floorOf cI cC oT oT_order oT_needed oT_sizes oT_helpers oT_taken T_serving T_sizes T_taken) H locs → lv_has ls 4 [(0, .ref oT), (1, .int x1), (2, .int x2), (3, .int x3)] → W p l e (headSpec wsX4_floorOf rm_X4_floorOf).room s m args below meth c H locs 0 0 Z (F0 m 24 ls []) := by
  obtain ⟨hx, hb, hr, hml, hts, hown, hlocks, hKw, hA⟩ := id CX
  intro n
  induction n with
  | zero => intro x3 hw; exact False.elim hw
  | succ n ih =>
    intro x3 hw H locs ls hwd hl
    rw [wb_X4_floorOf_24] at hw
    refine lv_iload_n hx hb dX4_floorOf_24 rfl (lv_at hl 3 rfl) ?_
    refine lv_iconst (v := (nI 3)) hx hb dX4_floorOf_25 rfl ?_
    refine lv_icmp_ge (tgt := 47) hx hb dX4_floorOf_26 (by decide) (fun c1 => ?_) (fun c1 => ?_)
    · replace hw := hw.1 c1
      exact HK_47  hw _ _ _ hwd (lv_sub hl [0, 1, 2] rfl)
    · replace hw := hw.2 c1
      refine lv_aload_n hx hb dX4_floorOf_29 rfl (lv_at hl 0 rfl) ?_
      refine lv_iload_n hx hb dX4_floorOf_30 rfl (lv_at hl 2 rfl) ?_
      refine lv_iload_n hx hb dX4_floorOf_31 rfl (lv_at hl 3 rfl) ?_
      refine kcVi (W1 := (fun u => (ww_X4_floorOf cI cC oT oT_order oT_needed oT_sizes oT_helpers oT_taken T_serving T_sizes T_taken))) (rest := []) (As := [.int x2, .int x3]) ⟨Nat.le_of_ble_eq_true rfl, Nat.le_of_ble_eq_true rfl⟩ ⟨hx, hb, hml, hown, hts⟩ (c_X4_takenAt l oT oT_order oT_needed oT_sizes oT_helpers oT_taken H.size T_serving T_sizes T_taken x2 x3 hw) (cwV 2 hts gX4_floorOf_X4_takenAt rfl rfl rfl ⟨rfl, hd_X4_takenAt⟩ ⟨Nat.le_of_ble_eq_true rfl, Nat.le_of_ble_eq_true rfl⟩) hKw hA hwd [0, 1, 2] [] [0, 1, 2] [] rfl rfl rfl rfl (by decide) rfl (fun _ => rfl) 0 4 rfl rfl rfl rfl hl.1 rfl (lv_room (Nat.le_of_ble_eq_true rfl)) dX4_floorOf_32 (fun r2 u H locs hw hwd => ?_)
      try dsimp only at hw
      replace hwd : wd D A s (ww_X4_floorOf cI cC oT oT_order oT_needed oT_sizes oT_helpers oT_taken T_serving T_sizes T_taken) H locs := hwd
      refine lv_iload_n hx hb dX4_floorOf_35 rfl (lv_at hl 1 rfl) ?_
      refine lv_icmp_ne (tgt := 41) hx hb dX4_floorOf_36 (by decide) (fun c3 => ?_) (fun c3 => ?_)
      · replace hw := hw.1 c3
        obtain ⟨x3_4, e_x3_4⟩ : ∃ y : Int32, y = x3 + (nI 1) := ⟨_, rfl⟩
        replace hw := hw x3_4 e_x3_4
        refine lv_iinc (v := x3_4) (lv' := [(3, .int x3_4), (0, .ref oT), (1, .int x1), (2, .int x2)]) hx hb dX4_floorOf_41 hl (k := 3) rfl (by rw [e_x3_4]; rfl) (by decide) rfl (fun ls hl => ?_)
        refine lv_goto (tgt := 24) hx hb dX4_floorOf_44 (by decide) ?_
        exact ih x3_4 hw _ _ _ hwd (lv_sub hl [1, 2, 3, 0] rfl)
      · replace hw := hw.2 c3
        refine lv_iload_n hx hb dX4_floorOf_39 rfl (lv_at hl 2 rfl) ?_
        exact HR x2 hw hwd dX4_floorOf_40
def wb_X4_floorOf_16 (T_sizes : Nat → Int32) (T_taken : Nat → Int32) (x1 : Int32) (K_53 : Prop) (Q : Int32 → Prop) : Nat → Int32 → Prop
  | 0, _ => False
  | n + 1, x2 => (((nI 10) ≤ x2 → K_53) ∧ (¬ (nI 10) ≤ x2 → (∃ n2, wb_X4_floorOf_24 T_sizes T_taken x1 x2 (∀ x2_3, x2_3 = x2 + (nI 1) → wb_X4_floorOf_16 T_sizes T_taken x1 K_53 Q n x2_3) Q n2 (nI 0))))
set_option maxRecDepth 100000 in
set_option maxHeartbeats 4000000 in
theorem blk_X4_floorOf_16 {p : Program} {l : Launch} {e : Env} {s : State} {m : MethodId} {args : Array Value} {below : List Frame} {meth : Method} {c : Code} {D : va_G} {cI cC cR : ClassId} {A : Nat → Prop} {Z : State → Prop} (CX : cx cX4_floorOf (some .int) 4 RX4 wsX4_floorOf p m meth c s args D cI cC cR A) (oT oT_order oT_needed oT_sizes oT_helpers oT_taken : Nat) (T_serving : Int32) (T_sizes : Nat → Int32) (T_taken : Nat → Int32) (x1 : Int32) {K_53 : Prop} {Q : Int32 → Prop} (HR : ∀ (r : Int32) {H : Heap} {locs : List Loc} {ls : Array Slot} {pc : Nat}, Q r → wd D A s (ww_X4_floorOf cI cC oT oT_order oT_needed oT_sizes oT_helpers oT_taken T_serving T_sizes T_taken) H locs → decode cX4_floorOf pc = .ok (.ireturn, 1) → W p l e (headSpec wsX4_floorOf rm_X4_floorOf).room s m args below meth c H locs 0 0 Z (F0 m pc ls [.int r])) (HK_53 : K_53 → ∀ (H : Heap) (locs : List Loc) (ls : Array Slot), wd D A s (ww_X4_floorOf cI cC oT oT_order oT_needed oT_sizes oT_helpers oT_taken T_serving T_sizes T_taken) H locs → lv_has ls 4 [] → W p l e (headSpec wsX4_floorOf rm_X4_floorOf).room s m args below meth c H locs 0 0 Z (F0 m 53 ls [])) : ∀ (n : Nat) (x2 : Int32), wb_X4_floorOf_16 T_sizes T_taken x1 K_53 Q n x2 → ∀ (H : Heap) (locs : List Loc) (ls : Array Slot), wd D A s (ww_X4_floorOf cI cC oT oT_order oT_needed oT_sizes oT_helpers oT_taken T_serving T_sizes T_taken) H locs → lv_has ls 4 [(0, .ref oT), (1, .int x1), (2, .int x2)] → W p l e (headSpec wsX4_floorOf rm_X4_floorOf).room s m args below meth c H locs 0 0 Z (F0 m 16 ls []) := by
  obtain ⟨hx, hb, hr, hml, hts, hown, hlocks, hKw, hA⟩ := id CX
  intro n
  induction n with
  | zero => intro x2 hw; exact False.elim hw
  | succ n ih =>
    intro x2 hw H locs ls hwd hl
    rw [wb_X4_floorOf_16] at hw
    refine lv_iload_n hx hb dX4_floorOf_16 rfl (lv_at hl 2 rfl) ?_
    refine lv_bipush (v := (nI 10)) hx hb dX4_floorOf_17 rfl ?_
    refine lv_icmp_ge (tgt := 53) hx hb dX4_floorOf_19 (by decide) (fun c1 => ?_) (fun c1 => ?_)
    · replace hw := hw.1 c1
      exact HK_53  hw _ _ _ hwd (lv_sub hl [] rfl)
    · replace hw := hw.2 c1
      refine lv_iconst (v := (nI 0)) hx hb dX4_floorOf_22 rfl ?_
      refine lv_istore_n (lv' := [(3, .int (nI 0)), (0, .ref oT), (1, .int x1), (2, .int x2)]) hx hb dX4_floorOf_23 rfl hl (by decide) rfl (fun ls hl => ?_)
      obtain ⟨n2, hw⟩ := hw
      refine blk_X4_floorOf_24 (CX := CX) (oT := oT) (oT_order := oT_order) (oT_needed := oT_needed) (oT_sizes := oT_sizes) (oT_helpers := oT_helpers) (oT_taken := oT_taken) (T_serving := T_serving) (T_sizes := T_sizes) (T_taken := T_taken) (x1 := x1) (x2 := x2) (HR := HR) (HK_47 := fun  hw H locs ls hwd hl => ?_) n2 (nI 0) hw _ _ _ hwd (lv_sub hl [1, 2, 3, 0] rfl)
      try dsimp only at hw
      obtain ⟨x2_3, e_x2_3⟩ : ∃ y : Int32, y = x2 + (nI 1) := ⟨_, rfl⟩
      replace hw := hw x2_3 e_x2_3
      refine lv_iinc (v := x2_3) (lv' := [(2, .int x2_3), (0, .ref oT), (1, .int x1)]) hx hb dX4_floorOf_47 hl (k := 2) rfl (by rw [e_x2_3]; rfl) (by decide) rfl (fun ls hl => ?_)
      refine lv_goto (tgt := 16) hx hb dX4_floorOf_50 (by decide) ?_
      exact ih x2_3 hw _ _ _ hwd (lv_sub hl [1, 2, 0] rfl)
def wp_X4_floorOf (T_serving : Int32) (T_sizes : Nat → Int32) (T_taken : Nat → Int32) (x1 : Int32) (Q : Int32 → Prop) : Prop := wp_X6_isIn T_serving x1 (fun r1 => ((¬ r1 = 0 → (∃ n3, wb_X4_floorOf_16 T_sizes T_taken x1 (Q (-5)) Q n3 (nI 0))) ∧ (r1 = 0 → Q (-5))))
set_option maxRecDepth 100000 in
set_option maxHeartbeats 4000000 in
theorem c_X4_floorOf (l : Launch) {D : va_G} {cI cC cR : ClassId} (oT oT_order oT_needed oT_sizes oT_helpers oT_taken : Nat) (sz : Nat) (T_serving : Int32) (T_sizes : Nat → Int32) (T_taken : Nat → Int32) (x1 : Int32) {Q : Int32 → Prop} (hw : wp_X4_floorOf T_serving T_sizes T_taken x1 Q) : Met l yX4_floorOf wsX4_floorOf rm_X4_floorOf (PcW D cI cC cR [.ref oT, .int x1] (ww_X4_floorOf cI cC oT oT_order oT_needed oT_sizes oT_helpers oT_taken T_serving T_sizes T_taken) sz) (QiW D (fun (r : Int32) (u : Unit) => Q r ) (fun u => (ww_X4_floorOf cI cC oT oT_order oT_needed oT_sizes oT_helpers oT_taken T_serving T_sizes T_taken)) (ww_X4_floorOf cI cC oT oT_order oT_needed oT_sizes oT_helpers oT_taken T_serving T_sizes T_taken) sz) 0 0 (va_A (ww_X4_floorOf cI cC oT oT_order oT_needed oT_sizes oT_helpers oT_taken T_serving T_sizes T_taken) sz) := by
  refine Met.ofW (cc := cX4_floorOf) (maxL := 4) (ret := (some .int)) (by decide) rfl ?_
  intro p e s m args below meth c s₁ B hml hv
  obtain ⟨rfl, hsz, hP, hKw, hD0⟩ := hv
  have hlocks := B.notSynchronized
  subst hsz
  have hD := hD0.self (sz := s.heap.size)
  have CX : cx cX4_floorOf (some .int) 4 RX4 wsX4_floorOf p m meth c s ([.ref oT, .int x1] : List Value).toArray D cI cC cR (va_A (ww_X4_floorOf cI cC oT oT_order oT_needed oT_sizes oT_helpers oT_taken T_serving T_sizes T_taken) s.heap.size) := ⟨B.exec, B.bytes, B.returns, hml, atoms_spec (ws := wsX4_floorOf) B.pre, findClass_of_methodNamed B.named, hlocks, hKw, fun q h => Or.inr h⟩
  obtain ⟨hx, hb, hr, -, hts, hown, -, -, hA⟩ := id CX
  have hwd : wd D (va_A (ww_X4_floorOf cI cC oT oT_order oT_needed oT_sizes oT_helpers oT_taken T_serving T_sizes T_taken) s.heap.size) s (ww_X4_floorOf cI cC oT oT_order oT_needed oT_sizes oT_helpers oT_taken T_serving T_sizes T_taken) s.heap [] := ⟨hP, hD, va_S.rf⟩
  have hl := lv_entry ([.ref oT, .int x1]) (n := 4) (Nat.le_of_ble_eq_true rfl)
  rw [lg_entry_eq]
  generalize (lg_sl ([.ref oT, .int x1]) ++ List.replicate (4 - (lg_sl ([.ref oT, .int x1])).length) Slot.unset).toArray = ls at hl ⊢
  have hl : lv_has ls 4 [(0, .ref oT), (1, .int x1)] := hl
  have HR : ∀ (r : Int32) {H : Heap} {locs : List Loc} {ls : Array Slot} {pc : Nat}, Q r → wd D (va_A (ww_X4_floorOf cI cC oT oT_order oT_needed oT_sizes oT_helpers oT_taken T_serving T_sizes T_taken) s.heap.size) s (ww_X4_floorOf cI cC oT oT_order oT_needed oT_sizes oT_helpers oT_taken T_serving T_sizes T_taken) H locs → decode cX4_floorOf pc = .ok (.ireturn, 1) → W p l e (headSpec wsX4_floorOf rm_X4_floorOf).room s m ([.ref oT, .int x1] : List Value).toArray below meth c H locs 0 0 (MQ below (QiW D (fun (r : Int32) (u : Unit) => Q r ) (fun u => (ww_X4_floorOf cI cC oT oT_order oT_needed oT_sizes oT_helpers oT_taken T_serving T_sizes T_taken)) (ww_X4_floorOf cI cC oT oT_order oT_needed oT_sizes oT_helpers oT_taken T_serving T_sizes T_taken) s.heap.size) ([.ref oT, .int x1] : List Value).toArray s 0 0 (va_A (ww_X4_floorOf cI cC oT oT_order oT_needed oT_sizes oT_helpers oT_taken T_serving T_sizes T_taken) s.heap.size)) (F0 m pc ls [.int r]) := by
    intro r H locs ls pc hq hw9 hd9
    exact W.iret (v := r) hx hb hr (fun t ht hW => ⟨⟨r, (), rfl, hq, by rw [ht]; exact hw9.1, hw9.2.1⟩, hw9.2.2.F ht⟩) hw9.2.2.2.2 hd9
  unfold wp_X4_floorOf at hw
  refine lv_aload_n hx hb dX4_floorOf_0 rfl (lv_at hl 0 rfl) ?_
  refine va_get (D := D) (ci := 4) (v := .int T_serving) (C := RX4) (T := TX4) (N := 6) hx hb hts ic_X4_floorOf_X4 hown hKw.1 hwd.1 0 rfl rfl 5 (by decide) (hts (.fieldLink RX4 51 "DrillWardens$Roster" "serving" "I") (List.mem_of_getElem? (i := 1) rfl)) (fun _ h9 => h9) rfl dX4_floorOf_1 ?_
  refine lv_iload_n hx hb dX4_floorOf_4 rfl (lv_at hl 1 rfl) ?_
  refine kcNi (rest := []) (As := [.int T_serving, .int x1]) ⟨Nat.le_of_ble_eq_true rfl, Nat.le_of_ble_eq_true rfl⟩ ⟨hx, hb, hml, hown, hts⟩ (c_X6_isIn l s.heap.size T_serving x1 hw) ⟨va_cnB 2 hts gX4_floorOf_X6_isIn_n75 rfl rfl rfl (nwm_5 hKw.2) (hts (.initialized RX6) (List.mem_of_getElem? (i := 3) rfl)) hd_X6_isIn ⟨Nat.le_of_ble_eq_true rfl, Nat.le_of_ble_eq_true rfl⟩, hts (.static yX6_isIn) (List.mem_of_getElem? (i := 2) rfl), trivial⟩ hKw hA hwd rfl hl.1 rfl (lv_room (Nat.le_of_ble_eq_true rfl)) dX4_floorOf_5 (fun r1 H locs hw hwd => ?_)
  try dsimp only at hw
  refine lv_if_ne (tgt := 14) hx hb dX4_floorOf_8 (by decide) (fun c2 => ?_) (fun c2 => ?_)
  · replace hw := hw.1 c2
    refine lv_iconst (v := (nI 0)) hx hb dX4_floorOf_14 rfl ?_
    refine lv_istore_n (lv' := [(2, .int (nI 0)), (0, .ref oT), (1, .int x1)]) hx hb dX4_floorOf_15 rfl hl (by decide) rfl (fun ls hl => ?_)
    obtain ⟨n3, hw⟩ := hw
    refine blk_X4_floorOf_16 (CX := CX) (oT := oT) (oT_order := oT_order) (oT_needed := oT_needed) (oT_sizes := oT_sizes) (oT_helpers := oT_helpers) (oT_taken := oT_taken) (T_serving := T_serving) (T_sizes := T_sizes) (T_taken := T_taken) (x1 := x1) (HR := HR) (HK_53 := fun  hw H locs ls hwd hl => ?_) n3 (nI 0) hw _ _ _ hwd (lv_sub hl [1, 2, 0] rfl)
    try dsimp only at hw
    refine lv_bipush (v := (-5)) hx hb dX4_floorOf_53 rfl ?_
    exact HR (-5) hw hwd dX4_floorOf_55
  · replace hw := hw.2 c2
    refine lv_bipush (v := (-5)) hx hb dX4_floorOf_11 rfl ?_
    exact HR (-5) hw hwd dX4_floorOf_13
abbrev ww_X4_lay (cI cC : ClassId) (oT oT_order oT_needed oT_sizes oT_helpers oT_taken oa1 oa1_settings oa1_needs oa1_rowSizes oa1_rows oa1_trainedUntil oa1_leaves oa1_drills oa1_leaves_persons oa1_leaves_firstDays oa1_leaves_lastDays : Nat) (T_serving : Int32) (T_order : Nat → Int32) (T_needed : Nat → Int32) (T_sizes : Nat → Int32) (T_helpers : Nat → Int32) (T_taken : Nat → Int32) (a1_today : Int32) (a1_settings : Nat → Int32) (a1_needs : Nat → Int32) (a1_rowSizes : Nat → Int32) (a1_rows : Nat → Int32) (a1_trainedUntil : Nat → Int32) (a1_leaves_granted : Int32) (a1_leaves_persons : Nat → Int32) (a1_leaves_firstDays : Nat → Int32) (a1_leaves_lastDays : Nat → Int32) : va_W := [(oT, .inr (4, [.ref oT_order, .ref oT_needed, .ref oT_sizes, .ref oT_helpers, .ref oT_taken, .int T_serving])), (oT_order, .inl (cI, 10, .inl T_order)), (oT_needed, .inl (cI, 10, .inl T_needed)), (oT_sizes, .inl (cI, 10, .inl T_sizes)), (oT_helpers, .inl (cI, 10, .inl T_helpers)), (oT_taken, .inl (cI, 30, .inl T_taken)), (oa1, .inr (5, [.int a1_today, .ref oa1_settings, .ref oa1_needs, .ref oa1_rowSizes, .ref oa1_rows, .ref oa1_trainedUntil, .ref oa1_leaves, .ref oa1_drills])), (oa1_settings, .inl (cI, 3, .inl a1_settings)), (oa1_needs, .inl (cI, 10, .inl a1_needs)), (oa1_rowSizes, .inl (cI, 10, .inl a1_rowSizes)), (oa1_rows, .inl (cI, 50, .inl a1_rows)), (oa1_trainedUntil, .inl (cI, 16, .inl a1_trainedUntil)), (oa1_leaves, .inr (2, [.int a1_leaves_granted, .ref oa1_leaves_persons, .ref oa1_leaves_firstDays, .ref oa1_leaves_lastDays])), (oa1_leaves_persons, .inl (cI, 40, .inl a1_leaves_persons)), (oa1_leaves_firstDays, .inl (cI, 40, .inl a1_leaves_firstDays)), (oa1_leaves_lastDays, .inl (cI, 40, .inl a1_leaves_lastDays))]
abbrev rm_X4_lay : Room := { frames := 2, cells := 0, slots := 0, locals := 48 }
theorem ic_X4_lay_X4 : ∀ w ∈ u_ws RX4 TX4 6, w ∈ wsX4_lay := by
  intro w h
  simp only [wsX4_lay, List.mem_cons, List.mem_append]
  simp only [h, or_true, true_or]
theorem ic_X4_lay_X5 : ∀ w ∈ u_ws RX5 TX5 8, w ∈ wsX4_lay := by
  intro w h
  simp only [wsX4_lay, List.mem_cons, List.mem_append]
  simp only [h, or_true, true_or]
def wb_X4_lay_24 (T_order : Nat → Int32) (T_needed : Nat → Int32) (a1_rowSizes : Nat → Int32) (a1_rows : Nat → Int32) (x4 : Int32) (K_51 : Int32 → (Nat → Int32) → (Nat → Int32) → Prop) : Nat → Int32 → (Nat → Int32) → (Nat → Int32) → Int32 → Prop
  | 0, _, _, _, _ => False
  | n + 1, T_serving, T_sizes, T_taken, x5 => (((nI 10) ≤ x5 → K_51 T_serving T_sizes T_taken) ∧ (¬ (nI 10) ≤ x5 → vp_in x5 10 ∧ wp_X4_takeFromRow T_serving T_needed T_sizes T_taken a1_rowSizes a1_rows (T_order x5.toNatClampNeg) x4 (fun T_serving2 T_sizes3 T_taken4 => ∀ x5_5, x5_5 = x5 + (nI 1) → wb_X4_lay_24 T_order T_needed a1_rowSizes a1_rows x4 K_51 n T_serving2 T_sizes3 T_taken4 x5_5)))
set_option maxRecDepth 100000 in
set_option maxHeartbeats 4000000 in
theorem blk_X4_lay_24 {p : Program} {l : Launch} {e : Env} {s : State} {m : MethodId} {args : Array Value} {below : List Frame} {meth : Method} {c : Code} {D : va_G} {cI cC cR : ClassId} {A : Nat → Prop} {Z : State → Prop} (CX : cx cX4_lay none 6 RX4 wsX4_lay p m meth c s args D cI cC cR A) (oT oT_order oT_needed oT_sizes oT_helpers oT_taken oa1 oa1_settings oa1_needs oa1_rowSizes oa1_rows oa1_trainedUntil oa1_leaves oa1_drills oa1_leaves_persons oa1_leaves_firstDays oa1_leaves_lastDays : Nat) (T_order : Nat → Int32) (T_needed : Nat → Int32) (T_helpers : Nat → Int32) (a1_today : Int32) (a1_settings : Nat → Int32) (a1_needs : Nat → Int32) (a1_rowSizes : Nat → Int32) (a1_rows : Nat → Int32) (a1_trainedUntil : Nat → Int32) (a1_leaves_granted : Int32) (a1_leaves_persons : Nat → Int32) (a1_leaves_firstDays : Nat → Int32) (a1_leaves_lastDays : Nat → Int32) (x4 : Int32) {K_51 : Int32 → (Nat → Int32) → (Nat → Int32) → Prop} {Q : Int32 → (Nat → Int32) → (Nat → Int32) → (Nat → Int32) → (Nat → Int32) → (Nat → Int32) → Prop} (HR : ∀ (u0 : Int32) (u1 : Nat → Int32) (u2 : Nat → Int32) (u3 : Nat → Int32) (u4 : Nat → Int32) (u5 : Nat → Int32) {H : Heap} {locs : List Loc} {ls : Array Slot} {pc : Nat}, Q u0 u1 u2 u3 u4 u5 → wd D A s (ww_X4_lay cI cC oT oT_order oT_needed oT_sizes oT_helpers oT_taken oa1 oa1_settings oa1_needs oa1_rowSizes oa1_rows oa1_trainedUntil oa1_leaves oa1_drills oa1_leaves_persons oa1_leaves_firstDays oa1_leaves_lastDays u0 u1 u2 u3 u4 u5 a1_today a1_settings a1_needs a1_rowSizes a1_rows a1_trainedUntil a1_leaves_granted a1_leaves_persons a1_leaves_firstDays a1_leaves_lastDays) H locs → decode cX4_lay pc = .ok (.return_, 1) → W p l e (headSpec wsX4_lay rm_X4_lay).room s m args below meth c H locs 0 0 Z (F0 m pc ls [])) (HK_51 : ∀ (T_servingy : Int32) (T_sizesy : Nat → Int32) (T_takeny : Nat → Int32), K_51 T_servingy T_sizesy T_takeny → ∀ (H : Heap) (locs : List Loc) (ls : Array Slot), wd D A s (ww_X4_lay cI cC oT oT_order oT_needed oT_sizes oT_helpers oT_taken oa1 oa1_settings oa1_needs oa1_rowSizes oa1_rows oa1_trainedUntil oa1_leaves oa1_drills oa1_leaves_persons oa1_leaves_firstDays oa1_leaves_lastDays T_servingy T_order T_needed T_sizesy T_helpers T_takeny a1_today a1_settings a1_needs a1_rowSizes a1_rows a1_trainedUntil a1_leaves_granted a1_leaves_persons a1_leaves_firstDays a1_leaves_lastDays) H locs → lv_has ls 6 [(0, .ref oT), (1, .ref oa1), (4, .int x4)] → W p l e (headSpec wsX4_lay rm_X4_lay).room s m args below meth c H locs 0 0 Z (F0 m 51 ls [])) : ∀ (n : Nat) (T_serving : Int32) (T_sizes : Nat → Int32) (T_taken : Nat → Int32) (x5 : Int32), wb_X4_lay_24 T_order T_needed a1_rowSizes a1_rows x4 K_51 n T_serving T_sizes T_taken x5 → ∀ (H : Heap) (locs : List Loc) (ls : Array Slot), wd D A s (ww_X4_lay cI cC oT oT_order oT_needed oT_sizes oT_helpers oT_taken oa1 oa1_settings oa1_needs oa1_rowSizes oa1_rows oa1_trainedUntil oa1_leaves oa1_drills oa1_leaves_persons oa1_leaves_firstDays oa1_leaves_lastDays T_serving T_order T_needed T_sizes T_helpers T_taken a1_today a1_settings a1_needs a1_rowSizes a1_rows a1_trainedUntil a1_leaves_granted a1_leaves_persons a1_leaves_firstDays a1_leaves_lastDays) H locs → lv_has ls 6 [(0, .ref oT), (1, .ref oa1), (4, .int x4), (5, .int x5)] → W p l e (headSpec wsX4_lay rm_X4_lay).room s m args below meth c H locs 0 0 Z (F0 m 24 ls []) := by
  obtain ⟨hx, hb, hr, hml, hts, hown, hlocks, hKw, hA⟩ := id CX
  intro n
  induction n with
  | zero => intro T_serving T_sizes T_taken x5 hw; exact False.elim hw
  | succ n ih =>
    intro T_serving T_sizes T_taken x5 hw H locs ls hwd hl
    rw [wb_X4_lay_24] at hw
    refine lv_iload hx hb dX4_lay_24 (lv_at hl 3 rfl) ?_
    refine lv_bipush (v := (nI 10)) hx hb dX4_lay_26 rfl ?_
    refine lv_icmp_ge (tgt := 51) hx hb dX4_lay_28 (by decide) (fun c1 => ?_) (fun c1 => ?_)
    · replace hw := hw.1 c1
      exact HK_51 T_serving T_sizes T_taken hw _ _ _ hwd (lv_sub hl [0, 1, 2] rfl)
    · replace hw := hw.2 c1
      refine lv_aload_n hx hb dX4_lay_31 rfl (lv_at hl 0 rfl) ?_
      refine lv_aload_n hx hb dX4_lay_32 rfl (lv_at hl 1 rfl) ?_
      refine lv_aload_n hx hb dX4_lay_33 rfl (lv_at hl 0 rfl) ?_
      refine va_get (D := D) (ci := 4) (v := .ref oT_order) (C := RX4) (T := TX4) (N := 6) hx hb hts ic_X4_lay_X4 hown hKw.1 hwd.1 0 rfl rfl 0 (by decide) (hts (.fieldLink RX4 9 "DrillWardens$Roster" "order" "[I") (List.mem_of_getElem? (i := 1) rfl)) (fun _ h9 => h9) rfl dX4_lay_34 ?_
      refine lv_iload hx hb dX4_lay_37 (lv_at hl 3 rfl) ?_
      refine va_iald hx hb hKw.1 hwd.1 1 0 rfl rfl hw.1 dX4_lay_39 ?_
      replace hw := hw.2
      refine lv_iload hx hb dX4_lay_40 (lv_at hl 2 rfl) ?_
      refine kcVv (W1 := (fun u => (ww_X4_lay cI cC oT oT_order oT_needed oT_sizes oT_helpers oT_taken oa1 oa1_settings oa1_needs oa1_rowSizes oa1_rows oa1_trainedUntil oa1_leaves oa1_drills oa1_leaves_persons oa1_leaves_firstDays oa1_leaves_lastDays (u.1) T_order T_needed (u.2.1) T_helpers (u.2.2) a1_today a1_settings a1_needs a1_rowSizes a1_rows a1_trainedUntil a1_leaves_granted a1_leaves_persons a1_leaves_firstDays a1_leaves_lastDays))) (rest := []) (As := [.ref oa1, .int (T_order x5.toNatClampNeg), .int x4]) ⟨Nat.le_of_ble_eq_true rfl, Nat.le_of_ble_eq_true rfl⟩ ⟨hx, hb, hml, hown, hts⟩ (c_X4_takeFromRow l oT oT_order oT_needed oT_sizes oT_helpers oT_taken oa1 oa1_settings oa1_needs oa1_rowSizes oa1_rows oa1_trainedUntil oa1_leaves oa1_drills H.size T_serving T_needed T_sizes T_taken a1_today a1_rowSizes a1_rows (T_order x5.toNatClampNeg) x4 hw) (cwV 3 hts gX4_lay_X4_takeFromRow rfl rfl rfl ⟨rfl, hd_X4_takeFromRow⟩ ⟨Nat.le_of_ble_eq_true rfl, Nat.le_of_ble_eq_true rfl⟩) hKw hA hwd [0, 2, 3, 5, 6, 9, 10] [1, 4, 7, 8, 11, 12, 13, 14, 15] [9, 0, 10, 11, 1, 12, 13, 2, 3, 14, 15, 4, 5, 6, 7, 8] [(oT_order, .inl (cI, 10, .inl T_order)), (oT_helpers, .inl (cI, 10, .inl T_helpers)), (oa1_settings, .inl (cI, 3, .inl a1_settings)), (oa1_needs, .inl (cI, 10, .inl a1_needs)), (oa1_trainedUntil, .inl (cI, 16, .inl a1_trainedUntil)), (oa1_leaves, .inr (2, [.int a1_leaves_granted, .ref oa1_leaves_persons, .ref oa1_leaves_firstDays, .ref oa1_leaves_lastDays])), (oa1_leaves_persons, .inl (cI, 40, .inl a1_leaves_persons)), (oa1_leaves_firstDays, .inl (cI, 40, .inl a1_leaves_firstDays)), (oa1_leaves_lastDays, .inl (cI, 40, .inl a1_leaves_lastDays))] rfl rfl rfl rfl (by decide) rfl (fun _ => rfl) 0 4 rfl rfl rfl rfl hl.1 rfl (lv_room (Nat.le_of_ble_eq_true rfl)) dX4_lay_42 (fun u H locs hw hwd => ?_)
      obtain ⟨T_serving2, T_sizes3, T_taken4⟩ := u
      try dsimp only at hw
      replace hwd : wd D A s (ww_X4_lay cI cC oT oT_order oT_needed oT_sizes oT_helpers oT_taken oa1 oa1_settings oa1_needs oa1_rowSizes oa1_rows oa1_trainedUntil oa1_leaves oa1_drills oa1_leaves_persons oa1_leaves_firstDays oa1_leaves_lastDays T_serving2 T_order T_needed T_sizes3 T_helpers T_taken4 a1_today a1_settings a1_needs a1_rowSizes a1_rows a1_trainedUntil a1_leaves_granted a1_leaves_persons a1_leaves_firstDays a1_leaves_lastDays) H locs := hwd
      obtain ⟨x5_5, e_x5_5⟩ : ∃ y : Int32, y = x5 + (nI 1) := ⟨_, rfl⟩
      replace hw := hw x5_5 e_x5_5
      refine lv_iinc (v := x5_5) (lv' := [(5, .int x5_5), (0, .ref oT), (1, .ref oa1), (4, .int x4)]) hx hb dX4_lay_45 hl (k := 3) rfl (by rw [e_x5_5]; rfl) (by decide) rfl (fun ls hl => ?_)
      refine lv_goto (tgt := 24) hx hb dX4_lay_48 (by decide) ?_
      exact ih T_serving2 T_sizes3 T_taken4 x5_5 hw _ _ _ hwd (lv_sub hl [1, 2, 3, 0] rfl)
def wb_X4_lay_64 (T_order : Nat → Int32) (T_needed : Nat → Int32) (x4 : Int32) (K_90 : Int32 → (Nat → Int32) → (Nat → Int32) → (Nat → Int32) → Prop) : Nat → Int32 → (Nat → Int32) → (Nat → Int32) → (Nat → Int32) → Int32 → Prop
  | 0, _, _, _, _, _ => False
  | n + 1, T_serving, T_sizes, T_helpers, T_taken, x5 => (((nI 10) ≤ x5 → K_90 T_serving T_sizes T_helpers T_taken) ∧ (¬ (nI 10) ≤ x5 → vp_in x5 10 ∧ wp_X4_takeHelpers T_serving T_needed T_sizes T_helpers T_taken (T_order x5.toNatClampNeg) x4 (fun T_serving2 T_sizes3 T_helpers4 T_taken5 => ∀ x5_6, x5_6 = x5 + (nI 1) → wb_X4_lay_64 T_order T_needed x4 K_90 n T_serving2 T_sizes3 T_helpers4 T_taken5 x5_6)))
set_option maxRecDepth 100000 in
set_option maxHeartbeats 4000000 in
theorem blk_X4_lay_64 {p : Program} {l : Launch} {e : Env} {s : State} {m : MethodId} {args : Array Value} {below : List Frame} {meth : Method} {c : Code} {D : va_G} {cI cC cR : ClassId} {A : Nat → Prop} {Z : State → Prop} (CX : cx cX4_lay none 6 RX4 wsX4_lay p m meth c s args D cI cC cR A) (oT oT_order oT_needed oT_sizes oT_helpers oT_taken oa1 oa1_settings oa1_needs oa1_rowSizes oa1_rows oa1_trainedUntil oa1_leaves oa1_drills oa1_leaves_persons oa1_leaves_firstDays oa1_leaves_lastDays : Nat) (T_order : Nat → Int32) (T_needed : Nat → Int32) (a1_today : Int32) (a1_settings : Nat → Int32) (a1_needs : Nat → Int32) (a1_rowSizes : Nat → Int32) (a1_rows : Nat → Int32) (a1_trainedUntil : Nat → Int32) (a1_leaves_granted : Int32) (a1_leaves_persons : Nat → Int32) (a1_leaves_firstDays : Nat → Int32) (a1_leaves_lastDays : Nat → Int32) (x4 : Int32) {K_90 : Int32 → (Nat → Int32) → (Nat → Int32) → (Nat → Int32) → Prop} {Q : Int32 → (Nat → Int32) → (Nat → Int32) → (Nat → Int32) → (Nat → Int32) → (Nat → Int32) → Prop} (HR : ∀ (u0 : Int32) (u1 : Nat → Int32) (u2 : Nat → Int32) (u3 : Nat → Int32) (u4 : Nat → Int32) (u5 : Nat → Int32) {H : Heap} {locs : List Loc} {ls : Array Slot} {pc : Nat}, Q u0 u1 u2 u3 u4 u5 → wd D A s (ww_X4_lay cI cC oT oT_order oT_needed oT_sizes oT_helpers oT_taken oa1 oa1_settings oa1_needs oa1_rowSizes oa1_rows oa1_trainedUntil oa1_leaves oa1_drills oa1_leaves_persons oa1_leaves_firstDays oa1_leaves_lastDays u0 u1 u2 u3 u4 u5 a1_today a1_settings a1_needs a1_rowSizes a1_rows a1_trainedUntil a1_leaves_granted a1_leaves_persons a1_leaves_firstDays a1_leaves_lastDays) H locs → decode cX4_lay pc = .ok (.return_, 1) → W p l e (headSpec wsX4_lay rm_X4_lay).room s m args below meth c H locs 0 0 Z (F0 m pc ls [])) (HK_90 : ∀ (T_servingy : Int32) (T_sizesy : Nat → Int32) (T_helpersy : Nat → Int32) (T_takeny : Nat → Int32), K_90 T_servingy T_sizesy T_helpersy T_takeny → ∀ (H : Heap) (locs : List Loc) (ls : Array Slot), wd D A s (ww_X4_lay cI cC oT oT_order oT_needed oT_sizes oT_helpers oT_taken oa1 oa1_settings oa1_needs oa1_rowSizes oa1_rows oa1_trainedUntil oa1_leaves oa1_drills oa1_leaves_persons oa1_leaves_firstDays oa1_leaves_lastDays T_servingy T_order T_needed T_sizesy T_helpersy T_takeny a1_today a1_settings a1_needs a1_rowSizes a1_rows a1_trainedUntil a1_leaves_granted a1_leaves_persons a1_leaves_firstDays a1_leaves_lastDays) H locs → lv_has ls 6 [] → W p l e (headSpec wsX4_lay rm_X4_lay).room s m args below meth c H locs 0 0 Z (F0 m 90 ls [])) : ∀ (n : Nat) (T_serving : Int32) (T_sizes : Nat → Int32) (T_helpers : Nat → Int32) (T_taken : Nat → Int32) (x5 : Int32), wb_X4_lay_64 T_order T_needed x4 K_90 n T_serving T_sizes T_helpers T_taken x5 → ∀ (H : Heap) (locs : List Loc) (ls : Array Slot), wd D A s (ww_X4_lay cI cC oT oT_order oT_needed oT_sizes oT_helpers oT_taken oa1 oa1_settings oa1_needs oa1_rowSizes oa1_rows oa1_trainedUntil oa1_leaves oa1_drills oa1_leaves_persons oa1_leaves_firstDays oa1_leaves_lastDays T_serving T_order T_needed T_sizes T_helpers T_taken a1_today a1_settings a1_needs a1_rowSizes a1_rows a1_trainedUntil a1_leaves_granted a1_leaves_persons a1_leaves_firstDays a1_leaves_lastDays) H locs → lv_has ls 6 [(0, .ref oT), (4, .int x4), (5, .int x5)] → W p l e (headSpec wsX4_lay rm_X4_lay).room s m args below meth c H locs 0 0 Z (F0 m 64 ls []) := by
  obtain ⟨hx, hb, hr, hml, hts, hown, hlocks, hKw, hA⟩ := id CX
  intro n
  induction n with
  | zero => intro T_serving T_sizes T_helpers T_taken x5 hw; exact False.elim hw
  | succ n ih =>
    intro T_serving T_sizes T_helpers T_taken x5 hw H locs ls hwd hl
    rw [wb_X4_lay_64] at hw
    refine lv_iload hx hb dX4_lay_64 (lv_at hl 2 rfl) ?_
    refine lv_bipush (v := (nI 10)) hx hb dX4_lay_66 rfl ?_
    refine lv_icmp_ge (tgt := 90) hx hb dX4_lay_68 (by decide) (fun c1 => ?_) (fun c1 => ?_)
    · replace hw := hw.1 c1
      exact HK_90 T_serving T_sizes T_helpers T_taken hw _ _ _ hwd (lv_sub hl [] rfl)
    · replace hw := hw.2 c1
      refine lv_aload_n hx hb dX4_lay_71 rfl (lv_at hl 0 rfl) ?_
      refine lv_aload_n hx hb dX4_lay_72 rfl (lv_at hl 0 rfl) ?_
      refine va_get (D := D) (ci := 4) (v := .ref oT_order) (C := RX4) (T := TX4) (N := 6) hx hb hts ic_X4_lay_X4 hown hKw.1 hwd.1 0 rfl rfl 0 (by decide) (hts (.fieldLink RX4 9 "DrillWardens$Roster" "order" "[I") (List.mem_of_getElem? (i := 1) rfl)) (fun _ h9 => h9) rfl dX4_lay_73 ?_
      refine lv_iload hx hb dX4_lay_76 (lv_at hl 2 rfl) ?_
      refine va_iald hx hb hKw.1 hwd.1 1 0 rfl rfl hw.1 dX4_lay_78 ?_
      replace hw := hw.2
      refine lv_iload hx hb dX4_lay_79 (lv_at hl 1 rfl) ?_
      refine kcVv (W1 := (fun u => (ww_X4_lay cI cC oT oT_order oT_needed oT_sizes oT_helpers oT_taken oa1 oa1_settings oa1_needs oa1_rowSizes oa1_rows oa1_trainedUntil oa1_leaves oa1_drills oa1_leaves_persons oa1_leaves_firstDays oa1_leaves_lastDays (u.1) T_order T_needed (u.2.1) (u.2.2.1) (u.2.2.2) a1_today a1_settings a1_needs a1_rowSizes a1_rows a1_trainedUntil a1_leaves_granted a1_leaves_persons a1_leaves_firstDays a1_leaves_lastDays))) (rest := []) (As := [.int (T_order x5.toNatClampNeg), .int x4]) ⟨Nat.le_of_ble_eq_true rfl, Nat.le_of_ble_eq_true rfl⟩ ⟨hx, hb, hml, hown, hts⟩ (c_X4_takeHelpers l oT oT_order oT_needed oT_sizes oT_helpers oT_taken H.size T_serving T_needed T_sizes T_helpers T_taken (T_order x5.toNatClampNeg) x4 hw) (cwV 2 hts gX4_lay_X4_takeHelpers rfl rfl rfl ⟨rfl, hd_X4_takeHelpers⟩ ⟨Nat.le_of_ble_eq_true rfl, Nat.le_of_ble_eq_true rfl⟩) hKw hA hwd [0, 2, 3, 4, 5] [1, 6, 7, 8, 9, 10, 11, 12, 13, 14, 15] [11, 0, 12, 13, 14, 15, 1, 2, 3, 4, 5, 6, 7, 8, 9, 10] [(oT_order, .inl (cI, 10, .inl T_order)), (oa1, .inr (5, [.int a1_today, .ref oa1_settings, .ref oa1_needs, .ref oa1_rowSizes, .ref oa1_rows, .ref oa1_trainedUntil, .ref oa1_leaves, .ref oa1_drills])), (oa1_settings, .inl (cI, 3, .inl a1_settings)), (oa1_needs, .inl (cI, 10, .inl a1_needs)), (oa1_rowSizes, .inl (cI, 10, .inl a1_rowSizes)), (oa1_rows, .inl (cI, 50, .inl a1_rows)), (oa1_trainedUntil, .inl (cI, 16, .inl a1_trainedUntil)), (oa1_leaves, .inr (2, [.int a1_leaves_granted, .ref oa1_leaves_persons, .ref oa1_leaves_firstDays, .ref oa1_leaves_lastDays])), (oa1_leaves_persons, .inl (cI, 40, .inl a1_leaves_persons)), (oa1_leaves_firstDays, .inl (cI, 40, .inl a1_leaves_firstDays)), (oa1_leaves_lastDays, .inl (cI, 40, .inl a1_leaves_lastDays))] rfl rfl rfl rfl (by decide) rfl (fun _ => rfl) 0 4 rfl rfl rfl rfl hl.1 rfl (lv_room (Nat.le_of_ble_eq_true rfl)) dX4_lay_81 (fun u H locs hw hwd => ?_)
      obtain ⟨T_serving2, T_sizes3, T_helpers4, T_taken5⟩ := u
      try dsimp only at hw
      replace hwd : wd D A s (ww_X4_lay cI cC oT oT_order oT_needed oT_sizes oT_helpers oT_taken oa1 oa1_settings oa1_needs oa1_rowSizes oa1_rows oa1_trainedUntil oa1_leaves oa1_drills oa1_leaves_persons oa1_leaves_firstDays oa1_leaves_lastDays T_serving2 T_order T_needed T_sizes3 T_helpers4 T_taken5 a1_today a1_settings a1_needs a1_rowSizes a1_rows a1_trainedUntil a1_leaves_granted a1_leaves_persons a1_leaves_firstDays a1_leaves_lastDays) H locs := hwd
      obtain ⟨x5_6, e_x5_6⟩ : ∃ y : Int32, y = x5 + (nI 1) := ⟨_, rfl⟩
      replace hw := hw x5_6 e_x5_6
      refine lv_iinc (v := x5_6) (lv' := [(5, .int x5_6), (0, .ref oT), (4, .int x4)]) hx hb dX4_lay_84 hl (k := 2) rfl (by rw [e_x5_6]; rfl) (by decide) rfl (fun ls hl => ?_)
      refine lv_goto (tgt := 64) hx hb dX4_lay_87 (by decide) ?_
      exact ih T_serving2 T_sizes3 T_helpers4 T_taken5 x5_6 hw _ _ _ hwd (lv_sub hl [1, 2, 0] rfl)
def wp_X4_lay (T_serving : Int32) (T_order : Nat → Int32) (T_needed : Nat → Int32) (T_sizes : Nat → Int32) (T_helpers : Nat → Int32) (T_taken : Nat → Int32) (a1_settings : Nat → Int32) (a1_needs : Nat → Int32) (a1_rowSizes : Nat → Int32) (a1_rows : Nat → Int32) (a1_trainedUntil : Nat → Int32) (a1_leaves_granted : Int32) (a1_leaves_persons : Nat → Int32) (a1_leaves_firstDays : Nat → Int32) (a1_leaves_lastDays : Nat → Int32) (x2 : Int32) (x3 : Int32) (Q : Int32 → (Nat → Int32) → (Nat → Int32) → (Nat → Int32) → (Nat → Int32) → (Nat → Int32) → Prop) : Prop := wp_X4_clearFor T_serving T_needed T_sizes T_helpers a1_needs (fun T_serving1 T_needed2 T_sizes3 T_helpers4 => wp_X4_arrangeFloors T_order a1_settings a1_rowSizes (fun T_order5 => wp_X5_ableOn a1_trainedUntil a1_leaves_granted a1_leaves_persons a1_leaves_firstDays a1_leaves_lastDays x2 (fun r6 => ∀ x4_7, x4_7 = r6 &&& (x3 ^^^ (-1)) → (∃ n8, wb_X4_lay_24 T_order5 T_needed2 a1_rowSizes a1_rows x4_7 (fun T_serving9 T_sizes10 T_taken11 => vp_in (nI 1) 3 ∧ ((¬ (a1_settings (nI 1).toNatClampNeg) = (nI 1) → Q T_serving9 T_order5 T_needed2 T_sizes10 T_helpers4 T_taken11) ∧ ((a1_settings (nI 1).toNatClampNeg) = (nI 1) → (∃ n13, wb_X4_lay_64 T_order5 T_needed2 x4_7 (fun T_serving14 T_sizes15 T_helpers16 T_taken17 => Q T_serving14 T_order5 T_needed2 T_sizes15 T_helpers16 T_taken17) n13 T_serving9 T_sizes10 T_helpers4 T_taken11 (nI 0))))) n8 T_serving1 T_sizes3 T_taken (nI 0)))))
set_option maxRecDepth 100000 in
set_option maxHeartbeats 4000000 in
theorem c_X4_lay (l : Launch) {D : va_G} {cI cC cR : ClassId} (oT oT_order oT_needed oT_sizes oT_helpers oT_taken oa1 oa1_settings oa1_needs oa1_rowSizes oa1_rows oa1_trainedUntil oa1_leaves oa1_drills oa1_leaves_persons oa1_leaves_firstDays oa1_leaves_lastDays : Nat) (sz : Nat) (T_serving : Int32) (T_order : Nat → Int32) (T_needed : Nat → Int32) (T_sizes : Nat → Int32) (T_helpers : Nat → Int32) (T_taken : Nat → Int32) (a1_today : Int32) (a1_settings : Nat → Int32) (a1_needs : Nat → Int32) (a1_rowSizes : Nat → Int32) (a1_rows : Nat → Int32) (a1_trainedUntil : Nat → Int32) (a1_leaves_granted : Int32) (a1_leaves_persons : Nat → Int32) (a1_leaves_firstDays : Nat → Int32) (a1_leaves_lastDays : Nat → Int32) (x2 : Int32) (x3 : Int32) {Q : Int32 → (Nat → Int32) → (Nat → Int32) → (Nat → Int32) → (Nat → Int32) → (Nat → Int32) → Prop} (hw : wp_X4_lay T_serving T_order T_needed T_sizes T_helpers T_taken a1_settings a1_needs a1_rowSizes a1_rows a1_trainedUntil a1_leaves_granted a1_leaves_persons a1_leaves_firstDays a1_leaves_lastDays x2 x3 Q) : Met l yX4_lay wsX4_lay rm_X4_lay (PcW D cI cC cR [.ref oT, .ref oa1, .int x2, .int x3] (ww_X4_lay cI cC oT oT_order oT_needed oT_sizes oT_helpers oT_taken oa1 oa1_settings oa1_needs oa1_rowSizes oa1_rows oa1_trainedUntil oa1_leaves oa1_drills oa1_leaves_persons oa1_leaves_firstDays oa1_leaves_lastDays T_serving T_order T_needed T_sizes T_helpers T_taken a1_today a1_settings a1_needs a1_rowSizes a1_rows a1_trainedUntil a1_leaves_granted a1_leaves_persons a1_leaves_firstDays a1_leaves_lastDays) sz) (QvW D (fun (u : Int32 × (Nat → Int32) × (Nat → Int32) × (Nat → Int32) × (Nat → Int32) × (Nat → Int32)) => Q u.1 u.2.1 u.2.2.1 u.2.2.2.1 u.2.2.2.2.1 u.2.2.2.2.2) (fun u => (ww_X4_lay cI cC oT oT_order oT_needed oT_sizes oT_helpers oT_taken oa1 oa1_settings oa1_needs oa1_rowSizes oa1_rows oa1_trainedUntil oa1_leaves oa1_drills oa1_leaves_persons oa1_leaves_firstDays oa1_leaves_lastDays (u.1) (u.2.1) (u.2.2.1) (u.2.2.2.1) (u.2.2.2.2.1) (u.2.2.2.2.2) a1_today a1_settings a1_needs a1_rowSizes a1_rows a1_trainedUntil a1_leaves_granted a1_leaves_persons a1_leaves_firstDays a1_leaves_lastDays)) (ww_X4_lay cI cC oT oT_order oT_needed oT_sizes oT_helpers oT_taken oa1 oa1_settings oa1_needs oa1_rowSizes oa1_rows oa1_trainedUntil oa1_leaves oa1_drills oa1_leaves_persons oa1_leaves_firstDays oa1_leaves_lastDays T_serving T_order T_needed T_sizes T_helpers T_taken a1_today a1_settings a1_needs a1_rowSizes a1_rows a1_trainedUntil a1_leaves_granted a1_leaves_persons a1_leaves_firstDays a1_leaves_lastDays) sz) 0 0 (va_A (ww_X4_lay cI cC oT oT_order oT_needed oT_sizes oT_helpers oT_taken oa1 oa1_settings oa1_needs oa1_rowSizes oa1_rows oa1_trainedUntil oa1_leaves oa1_drills oa1_leaves_persons oa1_leaves_firstDays oa1_leaves_lastDays T_serving T_order T_needed T_sizes T_helpers T_taken a1_today a1_settings a1_needs a1_rowSizes a1_rows a1_trainedUntil a1_leaves_granted a1_leaves_persons a1_leaves_firstDays a1_leaves_lastDays) sz) := by
  refine Met.ofW (cc := cX4_lay) (maxL := 6) (ret := none) (by decide) rfl ?_
  intro p e s m args below meth c s₁ B hml hv
  obtain ⟨rfl, hsz, hP, hKw, hD0⟩ := hv
  have hlocks := B.notSynchronized
  subst hsz
  have hD := hD0.self (sz := s.heap.size)
  have CX : cx cX4_lay none 6 RX4 wsX4_lay p m meth c s ([.ref oT, .ref oa1, .int x2, .int x3] : List Value).toArray D cI cC cR (va_A (ww_X4_lay cI cC oT oT_order oT_needed oT_sizes oT_helpers oT_taken oa1 oa1_settings oa1_needs oa1_rowSizes oa1_rows oa1_trainedUntil oa1_leaves oa1_drills oa1_leaves_persons oa1_leaves_firstDays oa1_leaves_lastDays T_serving T_order T_needed T_sizes T_helpers T_taken a1_today a1_settings a1_needs a1_rowSizes a1_rows a1_trainedUntil a1_leaves_granted a1_leaves_persons a1_leaves_firstDays a1_leaves_lastDays) s.heap.size) := ⟨B.exec, B.bytes, B.returns, hml, atoms_spec (ws := wsX4_lay) B.pre, findClass_of_methodNamed B.named, hlocks, hKw, fun q h => Or.inr h⟩
  obtain ⟨hx, hb, hr, -, hts, hown, -, -, hA⟩ := id CX
  have hwd : wd D (va_A (ww_X4_lay cI cC oT oT_order oT_needed oT_sizes oT_helpers oT_taken oa1 oa1_settings oa1_needs oa1_rowSizes oa1_rows oa1_trainedUntil oa1_leaves oa1_drills oa1_leaves_persons oa1_leaves_firstDays oa1_leaves_lastDays T_serving T_order T_needed T_sizes T_helpers T_taken a1_today a1_settings a1_needs a1_rowSizes a1_rows a1_trainedUntil a1_leaves_granted a1_leaves_persons a1_leaves_firstDays a1_leaves_lastDays) s.heap.size) s (ww_X4_lay cI cC oT oT_order oT_needed oT_sizes oT_helpers oT_taken oa1 oa1_settings oa1_needs oa1_rowSizes oa1_rows oa1_trainedUntil oa1_leaves oa1_drills oa1_leaves_persons oa1_leaves_firstDays oa1_leaves_lastDays T_serving T_order T_needed T_sizes T_helpers T_taken a1_today a1_settings a1_needs a1_rowSizes a1_rows a1_trainedUntil a1_leaves_granted a1_leaves_persons a1_leaves_firstDays a1_leaves_lastDays) s.heap [] := ⟨hP, hD, va_S.rf⟩
  have hl := lv_entry ([.ref oT, .ref oa1, .int x2, .int x3]) (n := 6) (Nat.le_of_ble_eq_true rfl)
  rw [lg_entry_eq]
  generalize (lg_sl ([.ref oT, .ref oa1, .int x2, .int x3]) ++ List.replicate (6 - (lg_sl ([.ref oT, .ref oa1, .int x2, .int x3])).length) Slot.unset).toArray = ls at hl ⊢
  have hl : lv_has ls 6 [(0, .ref oT), (1, .ref oa1), (2, .int x2), (3, .int x3)] := hl
  have HR : ∀ (u0 : Int32) (u1 : Nat → Int32) (u2 : Nat → Int32) (u3 : Nat → Int32) (u4 : Nat → Int32) (u5 : Nat → Int32) {H : Heap} {locs : List Loc} {ls : Array Slot} {pc : Nat}, Q u0 u1 u2 u3 u4 u5 → wd D (va_A (ww_X4_lay cI cC oT oT_order oT_needed oT_sizes oT_helpers oT_taken oa1 oa1_settings oa1_needs oa1_rowSizes oa1_rows oa1_trainedUntil oa1_leaves oa1_drills oa1_leaves_persons oa1_leaves_firstDays oa1_leaves_lastDays T_serving T_order T_needed T_sizes T_helpers T_taken a1_today a1_settings a1_needs a1_rowSizes a1_rows a1_trainedUntil a1_leaves_granted a1_leaves_persons a1_leaves_firstDays a1_leaves_lastDays) s.heap.size) s (ww_X4_lay cI cC oT oT_order oT_needed oT_sizes oT_helpers oT_taken oa1 oa1_settings oa1_needs oa1_rowSizes oa1_rows oa1_trainedUntil oa1_leaves oa1_drills oa1_leaves_persons oa1_leaves_firstDays oa1_leaves_lastDays u0 u1 u2 u3 u4 u5 a1_today a1_settings a1_needs a1_rowSizes a1_rows a1_trainedUntil a1_leaves_granted a1_leaves_persons a1_leaves_firstDays a1_leaves_lastDays) H locs → decode cX4_lay pc = .ok (.return_, 1) → W p l e (headSpec wsX4_lay rm_X4_lay).room s m ([.ref oT, .ref oa1, .int x2, .int x3] : List Value).toArray below meth c H locs 0 0 (MQ below (QvW D (fun (u : Int32 × (Nat → Int32) × (Nat → Int32) × (Nat → Int32) × (Nat → Int32) × (Nat → Int32)) => Q u.1 u.2.1 u.2.2.1 u.2.2.2.1 u.2.2.2.2.1 u.2.2.2.2.2) (fun u => (ww_X4_lay cI cC oT oT_order oT_needed oT_sizes oT_helpers oT_taken oa1 oa1_settings oa1_needs oa1_rowSizes oa1_rows oa1_trainedUntil oa1_leaves oa1_drills oa1_leaves_persons oa1_leaves_firstDays oa1_leaves_lastDays (u.1) (u.2.1) (u.2.2.1) (u.2.2.2.1) (u.2.2.2.2.1) (u.2.2.2.2.2) a1_today a1_settings a1_needs a1_rowSizes a1_rows a1_trainedUntil a1_leaves_granted a1_leaves_persons a1_leaves_firstDays a1_leaves_lastDays)) (ww_X4_lay cI cC oT oT_order oT_needed oT_sizes oT_helpers oT_taken oa1 oa1_settings oa1_needs oa1_rowSizes oa1_rows oa1_trainedUntil oa1_leaves oa1_drills oa1_leaves_persons oa1_leaves_firstDays oa1_leaves_lastDays T_serving T_order T_needed T_sizes T_helpers T_taken a1_today a1_settings a1_needs a1_rowSizes a1_rows a1_trainedUntil a1_leaves_granted a1_leaves_persons a1_leaves_firstDays a1_leaves_lastDays) s.heap.size) ([.ref oT, .ref oa1, .int x2, .int x3] : List Value).toArray s 0 0 (va_A (ww_X4_lay cI cC oT oT_order oT_needed oT_sizes oT_helpers oT_taken oa1 oa1_settings oa1_needs oa1_rowSizes oa1_rows oa1_trainedUntil oa1_leaves oa1_drills oa1_leaves_persons oa1_leaves_firstDays oa1_leaves_lastDays T_serving T_order T_needed T_sizes T_helpers T_taken a1_today a1_settings a1_needs a1_rowSizes a1_rows a1_trainedUntil a1_leaves_granted a1_leaves_persons a1_leaves_firstDays a1_leaves_lastDays) s.heap.size)) (F0 m pc ls []) := by
    intro u0 u1 u2 u3 u4 u5 H locs ls pc hq hw9 hd9
    exact W.vret hx hb hr (fun t ht hW => ⟨⟨(u0, u1, u2, u3, u4, u5), rfl, hq, by rw [ht]; exact hw9.1, hw9.2.1⟩, hw9.2.2.F ht⟩) hw9.2.2.2.2 hd9
  unfold wp_X4_lay at hw
  refine lv_aload_n hx hb dX4_lay_0 rfl (lv_at hl 0 rfl) ?_
  refine lv_aload_n hx hb dX4_lay_1 rfl (lv_at hl 1 rfl) ?_
  refine kcVv (W1 := (fun u => (ww_X4_lay cI cC oT oT_order oT_needed oT_sizes oT_helpers oT_taken oa1 oa1_settings oa1_needs oa1_rowSizes oa1_rows oa1_trainedUntil oa1_leaves oa1_drills oa1_leaves_persons oa1_leaves_firstDays oa1_leaves_lastDays (u.1) T_order (u.2.1) (u.2.2.1) (u.2.2.2) T_taken a1_today a1_settings a1_needs a1_rowSizes a1_rows a1_trainedUntil a1_leaves_granted a1_leaves_persons a1_leaves_firstDays a1_leaves_lastDays))) (rest := []) (As := [.ref oa1]) ⟨Nat.le_of_ble_eq_true rfl, Nat.le_of_ble_eq_true rfl⟩ ⟨hx, hb, hml, hown, hts⟩ (c_X4_clearFor l oT oT_order oT_needed oT_sizes oT_helpers oT_taken oa1 oa1_settings oa1_needs oa1_rowSizes oa1_rows oa1_trainedUntil oa1_leaves oa1_drills s.heap.size T_serving T_needed T_sizes T_helpers a1_today a1_needs hw) (cwV 1 hts gX4_lay_X4_clearFor rfl rfl rfl ⟨rfl, hd_X4_clearFor⟩ ⟨Nat.le_of_ble_eq_true rfl, Nat.le_of_ble_eq_true rfl⟩) hKw hA hwd [0, 2, 3, 4, 6, 8] [1, 5, 7, 9, 10, 11, 12, 13, 14, 15] [10, 0, 11, 12, 13, 1, 14, 2, 15, 3, 4, 5, 6, 7, 8, 9] [(oT_order, .inl (cI, 10, .inl T_order)), (oT_taken, .inl (cI, 30, .inl T_taken)), (oa1_settings, .inl (cI, 3, .inl a1_settings)), (oa1_rowSizes, .inl (cI, 10, .inl a1_rowSizes)), (oa1_rows, .inl (cI, 50, .inl a1_rows)), (oa1_trainedUntil, .inl (cI, 16, .inl a1_trainedUntil)), (oa1_leaves, .inr (2, [.int a1_leaves_granted, .ref oa1_leaves_persons, .ref oa1_leaves_firstDays, .ref oa1_leaves_lastDays])), (oa1_leaves_persons, .inl (cI, 40, .inl a1_leaves_persons)), (oa1_leaves_firstDays, .inl (cI, 40, .inl a1_leaves_firstDays)), (oa1_leaves_lastDays, .inl (cI, 40, .inl a1_leaves_lastDays))] rfl rfl rfl rfl (by decide) rfl (fun _ => rfl) 0 4 rfl rfl rfl rfl hl.1 rfl (lv_room (Nat.le_of_ble_eq_true rfl)) dX4_lay_2 (fun u H locs hw hwd => ?_)
  obtain ⟨T_serving1, T_needed2, T_sizes3, T_helpers4⟩ := u
  try dsimp only at hw
  replace hwd : wd D (va_A (ww_X4_lay cI cC oT oT_order oT_needed oT_sizes oT_helpers oT_taken oa1 oa1_settings oa1_needs oa1_rowSizes oa1_rows oa1_trainedUntil oa1_leaves oa1_drills oa1_leaves_persons oa1_leaves_firstDays oa1_leaves_lastDays T_serving T_order T_needed T_sizes T_helpers T_taken a1_today a1_settings a1_needs a1_rowSizes a1_rows a1_trainedUntil a1_leaves_granted a1_leaves_persons a1_leaves_firstDays a1_leaves_lastDays) s.heap.size) s (ww_X4_lay cI cC oT oT_order oT_needed oT_sizes oT_helpers oT_taken oa1 oa1_settings oa1_needs oa1_rowSizes oa1_rows oa1_trainedUntil oa1_leaves oa1_drills oa1_leaves_persons oa1_leaves_firstDays oa1_leaves_lastDays T_serving1 T_order T_needed2 T_sizes3 T_helpers4 T_taken a1_today a1_settings a1_needs a1_rowSizes a1_rows a1_trainedUntil a1_leaves_granted a1_leaves_persons a1_leaves_firstDays a1_leaves_lastDays) H locs := hwd
  refine lv_aload_n hx hb dX4_lay_5 rfl (lv_at hl 0 rfl) ?_
  refine lv_aload_n hx hb dX4_lay_6 rfl (lv_at hl 1 rfl) ?_
  refine kcVv (W1 := (fun u => (ww_X4_lay cI cC oT oT_order oT_needed oT_sizes oT_helpers oT_taken oa1 oa1_settings oa1_needs oa1_rowSizes oa1_rows oa1_trainedUntil oa1_leaves oa1_drills oa1_leaves_persons oa1_leaves_firstDays oa1_leaves_lastDays T_serving1 u T_needed2 T_sizes3 T_helpers4 T_taken a1_today a1_settings a1_needs a1_rowSizes a1_rows a1_trainedUntil a1_leaves_granted a1_leaves_persons a1_leaves_firstDays a1_leaves_lastDays))) (rest := []) (As := [.ref oa1]) ⟨Nat.le_of_ble_eq_true rfl, Nat.le_of_ble_eq_true rfl⟩ ⟨hx, hb, hml, hown, hts⟩ (c_X4_arrangeFloors l oT oT_order oT_needed oT_sizes oT_helpers oT_taken oa1 oa1_settings oa1_needs oa1_rowSizes oa1_rows oa1_trainedUntil oa1_leaves oa1_drills H.size T_serving1 T_order a1_today a1_settings a1_rowSizes hw) (cwV 1 hts gX4_lay_X4_arrangeFloors rfl rfl rfl ⟨rfl, hd_X4_arrangeFloors⟩ ⟨Nat.le_of_ble_eq_true rfl, Nat.le_of_ble_eq_true rfl⟩) hKw hA hwd [0, 1, 6, 7, 9] [2, 3, 4, 5, 8, 10, 11, 12, 13, 14, 15] [11, 12, 0, 1, 2, 3, 13, 14, 4, 15, 5, 6, 7, 8, 9, 10] [(oT_needed, .inl (cI, 10, .inl T_needed2)), (oT_sizes, .inl (cI, 10, .inl T_sizes3)), (oT_helpers, .inl (cI, 10, .inl T_helpers4)), (oT_taken, .inl (cI, 30, .inl T_taken)), (oa1_needs, .inl (cI, 10, .inl a1_needs)), (oa1_rows, .inl (cI, 50, .inl a1_rows)), (oa1_trainedUntil, .inl (cI, 16, .inl a1_trainedUntil)), (oa1_leaves, .inr (2, [.int a1_leaves_granted, .ref oa1_leaves_persons, .ref oa1_leaves_firstDays, .ref oa1_leaves_lastDays])), (oa1_leaves_persons, .inl (cI, 40, .inl a1_leaves_persons)), (oa1_leaves_firstDays, .inl (cI, 40, .inl a1_leaves_firstDays)), (oa1_leaves_lastDays, .inl (cI, 40, .inl a1_leaves_lastDays))] rfl rfl rfl rfl (by decide) rfl (fun _ => rfl) 0 4 rfl rfl rfl rfl hl.1 rfl (lv_room (Nat.le_of_ble_eq_true rfl)) dX4_lay_7 (fun u H locs hw hwd => ?_)
  obtain ⟨T_order5, rfl⟩ : ∃ z, z = u := ⟨_, rfl⟩
  try dsimp only at hw
  replace hwd : wd D (va_A (ww_X4_lay cI cC oT oT_order oT_needed oT_sizes oT_helpers oT_taken oa1 oa1_settings oa1_needs oa1_rowSizes oa1_rows oa1_trainedUntil oa1_leaves oa1_drills oa1_leaves_persons oa1_leaves_firstDays oa1_leaves_lastDays T_serving T_order T_needed T_sizes T_helpers T_taken a1_today a1_settings a1_needs a1_rowSizes a1_rows a1_trainedUntil a1_leaves_granted a1_leaves_persons a1_leaves_firstDays a1_leaves_lastDays) s.heap.size) s (ww_X4_lay cI cC oT oT_order oT_needed oT_sizes oT_helpers oT_taken oa1 oa1_settings oa1_needs oa1_rowSizes oa1_rows oa1_trainedUntil oa1_leaves oa1_drills oa1_leaves_persons oa1_leaves_firstDays oa1_leaves_lastDays T_serving1 T_order5 T_needed2 T_sizes3 T_helpers4 T_taken a1_today a1_settings a1_needs a1_rowSizes a1_rows a1_trainedUntil a1_leaves_granted a1_leaves_persons a1_leaves_firstDays a1_leaves_lastDays) H locs := hwd
  refine lv_aload_n hx hb dX4_lay_10 rfl (lv_at hl 1 rfl) ?_
  refine lv_iload_n hx hb dX4_lay_11 rfl (lv_at hl 2 rfl) ?_
  refine kcVi (W1 := (fun u => (ww_X4_lay cI cC oT oT_order oT_needed oT_sizes oT_helpers oT_taken oa1 oa1_settings oa1_needs oa1_rowSizes oa1_rows oa1_trainedUntil oa1_leaves oa1_drills oa1_leaves_persons oa1_leaves_firstDays oa1_leaves_lastDays T_serving1 T_order5 T_needed2 T_sizes3 T_helpers4 T_taken a1_today a1_settings a1_needs a1_rowSizes a1_rows a1_trainedUntil a1_leaves_granted a1_leaves_persons a1_leaves_firstDays a1_leaves_lastDays))) (rest := []) (As := [.int x2]) ⟨Nat.le_of_ble_eq_true rfl, Nat.le_of_ble_eq_true rfl⟩ ⟨hx, hb, hml, hown, hts⟩ (c_X5_ableOn l oa1 oa1_settings oa1_needs oa1_rowSizes oa1_rows oa1_trainedUntil oa1_leaves oa1_drills oa1_leaves_persons oa1_leaves_firstDays oa1_leaves_lastDays H.size a1_today a1_trainedUntil a1_leaves_granted a1_leaves_persons a1_leaves_firstDays a1_leaves_lastDays x2 hw) (cwV 1 hts gX4_lay_X5_ableOn rfl rfl rfl ⟨rfl, hd_X5_ableOn⟩ ⟨Nat.le_of_ble_eq_true rfl, Nat.le_of_ble_eq_true rfl⟩) hKw hA hwd [6, 11, 12, 13, 14, 15] [0, 1, 2, 3, 4, 5, 7, 8, 9, 10] [0, 1, 2, 3, 4, 5, 10, 6, 7, 8, 9, 11, 12, 13, 14, 15] [(oT, .inr (4, [.ref oT_order, .ref oT_needed, .ref oT_sizes, .ref oT_helpers, .ref oT_taken, .int T_serving1])), (oT_order, .inl (cI, 10, .inl T_order5)), (oT_needed, .inl (cI, 10, .inl T_needed2)), (oT_sizes, .inl (cI, 10, .inl T_sizes3)), (oT_helpers, .inl (cI, 10, .inl T_helpers4)), (oT_taken, .inl (cI, 30, .inl T_taken)), (oa1_settings, .inl (cI, 3, .inl a1_settings)), (oa1_needs, .inl (cI, 10, .inl a1_needs)), (oa1_rowSizes, .inl (cI, 10, .inl a1_rowSizes)), (oa1_rows, .inl (cI, 50, .inl a1_rows))] rfl rfl rfl rfl (by decide) rfl (fun _ => rfl) 6 5 rfl rfl rfl rfl hl.1 rfl (lv_room (Nat.le_of_ble_eq_true rfl)) dX4_lay_12 (fun r6 u H locs hw hwd => ?_)
  try dsimp only at hw
  replace hwd : wd D (va_A (ww_X4_lay cI cC oT oT_order oT_needed oT_sizes oT_helpers oT_taken oa1 oa1_settings oa1_needs oa1_rowSizes oa1_rows oa1_trainedUntil oa1_leaves oa1_drills oa1_leaves_persons oa1_leaves_firstDays oa1_leaves_lastDays T_serving T_order T_needed T_sizes T_helpers T_taken a1_today a1_settings a1_needs a1_rowSizes a1_rows a1_trainedUntil a1_leaves_granted a1_leaves_persons a1_leaves_firstDays a1_leaves_lastDays) s.heap.size) s (ww_X4_lay cI cC oT oT_order oT_needed oT_sizes oT_helpers oT_taken oa1 oa1_settings oa1_needs oa1_rowSizes oa1_rows oa1_trainedUntil oa1_leaves oa1_drills oa1_leaves_persons oa1_leaves_firstDays oa1_leaves_lastDays T_serving1 T_order5 T_needed2 T_sizes3 T_helpers4 T_taken a1_today a1_settings a1_needs a1_rowSizes a1_rows a1_trainedUntil a1_leaves_granted a1_leaves_persons a1_leaves_firstDays a1_leaves_lastDays) H locs := hwd
  refine lv_iload_n hx hb dX4_lay_15 rfl (lv_at hl 3 rfl) ?_
  refine lv_iconst (v := (-1)) hx hb dX4_lay_16 rfl ?_
  refine lv_ixor hx hb dX4_lay_17 ?_
  refine lv_iand hx hb dX4_lay_18 ?_
  refine lv_topi (fun x4_7 e_x4_7 => ?_)
  replace hw := hw x4_7 e_x4_7
  refine lv_istore (lv' := [(4, .int x4_7), (0, .ref oT), (1, .ref oa1), (2, .int x2), (3, .int x3)]) hx hb dX4_lay_19 hl (by decide) rfl (fun ls hl => ?_)
  refine lv_iconst (v := (nI 0)) hx hb dX4_lay_21 rfl ?_
  refine lv_istore (lv' := [(5, .int (nI 0)), (4, .int x4_7), (0, .ref oT), (1, .ref oa1), (2, .int x2), (3, .int x3)]) hx hb dX4_lay_22 hl (by decide) rfl (fun ls hl => ?_)
  obtain ⟨n8, hw⟩ := hw
  refine blk_X4_lay_24 (CX := CX) (oT := oT) (oT_order := oT_order) (oT_needed := oT_needed) (oT_sizes := oT_sizes) (oT_helpers := oT_helpers) (oT_taken := oT_taken) (oa1 := oa1) (oa1_settings := oa1_settings) (oa1_needs := oa1_needs) (oa1_rowSizes := oa1_rowSizes) (oa1_rows := oa1_rows) (oa1_trainedUntil := oa1_trainedUntil) (oa1_leaves := oa1_leaves) (oa1_drills := oa1_drills) (oa1_leaves_persons := oa1_leaves_persons) (oa1_leaves_firstDays := oa1_leaves_firstDays) (oa1_leaves_lastDays := oa1_leaves_lastDays) (T_order := T_order5) (T_needed := T_needed2) (T_helpers := T_helpers4) (a1_today := a1_today) (a1_settings := a1_settings) (a1_needs := a1_needs) (a1_rowSizes := a1_rowSizes) (a1_rows := a1_rows) (a1_trainedUntil := a1_trainedUntil) (a1_leaves_granted := a1_leaves_granted) (a1_leaves_persons := a1_leaves_persons) (a1_leaves_firstDays := a1_leaves_firstDays) (a1_leaves_lastDays := a1_leaves_lastDays) (x4 := x4_7) (HR := HR) (HK_51 := fun T_serving9 T_sizes10 T_taken11 hw H locs ls hwd hl => ?_) n8 T_serving1 T_sizes3 T_taken (nI 0) hw _ _ _ hwd (lv_sub hl [2, 3, 1, 0] rfl)
  try dsimp only at hw
  refine lv_aload_n hx hb dX4_lay_51 rfl (lv_at hl 1 rfl) ?_
  refine va_getN (D := D) (ci := 5) (v := .ref oa1_settings) (C := RX5) (T := TX5) (N := 8) hx hb hts ic_X4_lay_X5 hown hKw.1 hwd.1 6 rfl rfl 1 (by decide) (va_Nw.use rfl (nwf_6 hKw.2)) (fun _ h9 => h9) rfl dX4_lay_52 ?_
  refine lv_iconst (v := (nI 1)) hx hb dX4_lay_55 rfl ?_
  refine va_iald hx hb hKw.1 hwd.1 7 0 rfl rfl hw.1 dX4_lay_56 ?_
  replace hw := hw.2
  refine lv_iconst (v := (nI 1)) hx hb dX4_lay_57 rfl ?_
  refine lv_icmp_ne (tgt := 90) hx hb dX4_lay_58 (by decide) (fun c12 => ?_) (fun c12 => ?_)
  · replace hw := hw.1 c12
    exact HR T_serving9 T_order5 T_needed2 T_sizes10 T_helpers4 T_taken11 hw hwd dX4_lay_90
  · replace hw := hw.2 c12
    refine lv_iconst (v := (nI 0)) hx hb dX4_lay_61 rfl ?_
    refine lv_istore (lv' := [(5, .int (nI 0)), (0, .ref oT), (1, .ref oa1), (4, .int x4_7)]) hx hb dX4_lay_62 hl (by decide) rfl (fun ls hl => ?_)
    obtain ⟨n13, hw⟩ := hw
    refine blk_X4_lay_64 (CX := CX) (oT := oT) (oT_order := oT_order) (oT_needed := oT_needed) (oT_sizes := oT_sizes) (oT_helpers := oT_helpers) (oT_taken := oT_taken) (oa1 := oa1) (oa1_settings := oa1_settings) (oa1_needs := oa1_needs) (oa1_rowSizes := oa1_rowSizes) (oa1_rows := oa1_rows) (oa1_trainedUntil := oa1_trainedUntil) (oa1_leaves := oa1_leaves) (oa1_drills := oa1_drills) (oa1_leaves_persons := oa1_leaves_persons) (oa1_leaves_firstDays := oa1_leaves_firstDays) (oa1_leaves_lastDays := oa1_leaves_lastDays) (T_order := T_order5) (T_needed := T_needed2) (a1_today := a1_today) (a1_settings := a1_settings) (a1_needs := a1_needs) (a1_rowSizes := a1_rowSizes) (a1_rows := a1_rows) (a1_trainedUntil := a1_trainedUntil) (a1_leaves_granted := a1_leaves_granted) (a1_leaves_persons := a1_leaves_persons) (a1_leaves_firstDays := a1_leaves_firstDays) (a1_leaves_lastDays := a1_leaves_lastDays) (x4 := x4_7) (HR := HR) (HK_90 := fun T_serving14 T_sizes15 T_helpers16 T_taken17 hw H locs ls hwd hl => ?_) n13 T_serving9 T_sizes10 T_helpers4 T_taken11 (nI 0) hw _ _ _ hwd (lv_sub hl [1, 3, 0] rfl)
    try dsimp only at hw
    exact HR T_serving14 T_order5 T_needed2 T_sizes15 T_helpers16 T_taken17 hw hwd dX4_lay_90
