abbrev ww_X5_init (cI cC : ClassId) (oT oT_settings oT_needs oT_rowSizes oT_rows oT_trainedUntil oT_leaves oT_drills oT_leaves_persons oT_leaves_firstDays oT_leaves_lastDays oT_drills_held oT_drills_quarters oT_drills_led oT_drills_logDays oT_drills_logMinutes oT_drills_logLeaders : Nat) (T_today : Int32) (T_settings : Nat → Int32) (T_needs : Nat → Int32) (T_rowSizes : Nat → Int32) (T_rows : Nat → Int32) (T_trainedUntil : Nat → Int32) (T_leaves_granted : Int32) (T_leaves_persons : Nat → Int32) (T_leaves_firstDays : Nat → Int32) (T_leaves_lastDays : Nat → Int32) (T_drills_minutes : Int32) (T_drills_held : Nat → Int32) (T_drills_quarters : Nat → Int32) (T_drills_led : Nat → Int32) (T_drills_logDays : Nat → Int32) (T_drills_logMinutes : Nat → Int32) (T_drills_logLeaders : Nat → Int32) : va_W := [(oT, .inr (5, [.int T_today, .ref oT_settings, .ref oT_needs, .ref oT_rowSizes, .ref oT_rows, .ref oT_trainedUntil, .ref oT_leaves, .ref oT_drills])), (oT_settings, .inl (cI, 3, .inl T_settings)), (oT_needs, .inl (cI, 10, .inl T_needs)), (oT_rowSizes, .inl (cI, 10, .inl T_rowSizes)), (oT_rows, .inl (cI, 50, .inl T_rows)), (oT_trainedUntil, .inl (cI, 16, .inl T_trainedUntil)), (oT_leaves, .inr (2, [.int T_leaves_granted, .ref oT_leaves_persons, .ref oT_leaves_firstDays, .ref oT_leaves_lastDays])), (oT_leaves_persons, .inl (cI, 40, .inl T_leaves_persons)), (oT_leaves_firstDays, .inl (cI, 40, .inl T_leaves_firstDays)), (oT_leaves_lastDays, .inl (cI, 40, .inl T_leaves_lastDays)), (oT_drills, .inr (0, [.int T_drills_minutes, .ref oT_drills_held, .ref oT_drills_quarters, .ref oT_drills_led, .ref oT_drills_logDays, .ref oT_drills_logMinutes, .ref oT_drills_logLeaders])), (oT_drills_held, .inl (cI, 10, .inl T_drills_held)), (oT_drills_quarters, .inl (cI, 10, .inl T_drills_quarters)), (oT_drills_led, .inl (cI, 16, .inl T_drills_led)), (oT_drills_logDays, .inl (cI, 60, .inl T_drills_logDays)), (oT_drills_logMinutes, .inl (cI, 60, .inl T_drills_logMinutes)), (oT_drills_logLeaders, .inl (cI, 60, .inl T_drills_logLeaders))]
abbrev rm_X5_init : Room := { frames := 2, cells := 16, slots := 436, locals := 32 }
theorem ic_X5_init_X0 : ∀ w ∈ u_ws RX0 TX0 7, w ∈ wsX5_init := by
  intro w h
  simp only [wsX5_init, List.mem_cons, List.mem_append]
  simp only [h, or_true, true_or]
theorem ic_X5_init_X2 : ∀ w ∈ u_ws RX2 TX2 4, w ∈ wsX5_init := by
  intro w h
  simp only [wsX5_init, List.mem_cons, List.mem_append]
  simp only [h, or_true, true_or]
theorem ic_X5_init_X5 : ∀ w ∈ u_ws RX5 TX5 8, w ∈ wsX5_init := by
  intro w h
  simp only [wsX5_init, List.mem_cons, List.mem_append]
  simp only [h, or_true, true_or]
def wb_X5_init_67  (K_86 : (Nat → Int32) → Prop) : Nat → (Nat → Int32) → Int32 → Prop
  | 0, _, _ => False
  | n + 1, T_needs, x1 => (((nI 10) ≤ x1 → K_86 T_needs) ∧ (¬ (nI 10) ≤ x1 → vp_in x1 10 ∧ ∀ T_needs2, T_needs2 = upd T_needs x1.toNatClampNeg (nI 1) → ∀ x1_3, x1_3 = x1 + (nI 1) → wb_X5_init_67 K_86 n T_needs2 x1_3))
set_option maxRecDepth 100000 in
set_option maxHeartbeats 4000000 in
theorem blk_X5_init_67 {p : Program} {l : Launch} {e : Env} {s : State} {m : MethodId} {args : Array Value} {below : List Frame} {meth : Method} {c : Code} {D : va_G} {cI cC cR : ClassId} {A : Nat → Prop} {Z : State → Prop} (CX : cx cX5_init none 2 RX5 wsX5_init p m meth c s args D cI cC cR A) (oT oT_settings oT_needs oT_rowSizes oT_rows oT_trainedUntil oT_leaves oT_drills oT_leaves_persons oT_leaves_firstDays oT_leaves_lastDays oT_drills_held oT_drills_quarters oT_drills_led oT_drills_logDays oT_drills_logMinutes oT_drills_logLeaders : Nat) (T_today : Int32) (T_settings : Nat → Int32) (T_rowSizes : Nat → Int32) (T_rows : Nat → Int32) (T_trainedUntil : Nat → Int32) (T_leaves_granted : Int32) (T_leaves_persons : Nat → Int32) (T_leaves_firstDays : Nat → Int32) (T_leaves_lastDays : Nat → Int32) (T_drills_minutes : Int32) (T_drills_held : Nat → Int32) (T_drills_quarters : Nat → Int32) (T_drills_led : Nat → Int32) (T_drills_logDays : Nat → Int32) (T_drills_logMinutes : Nat → Int32) (T_drills_logLeaders : Nat → Int32) {K_86 : (Nat → Int32) → Prop} {Q : (Nat → Int32) → (Nat → Int32) → Prop} (HR : ∀ (u0 : Nat → Int32) (u1 : Nat → Int32) {H : Heap} {locs : List Loc} {ls : Array Slot} {pc : Nat}, Q u0 u1 → wd D A s (ww_X5_init cI cC oT oT_settings oT_needs oT_rowSizes oT_rows oT_trainedUntil oT_leaves oT_drills oT_leaves_persons oT_leaves_firstDays oT_leaves_lastDays oT_drills_held oT_drills_quarters oT_drills_led oT_drills_logDays oT_drills_logMinutes oT_drills_logLeaders T_today T_settings u0 T_rowSizes T_rows u1 T_leaves_granted T_leaves_persons T_leaves_firstDays T_leaves_lastDays T_drills_minutes T_drills_held T_drills_quarters T_drills_led T_drills_logDays T_drills_logMinutes T_drills_logLeaders) H locs → decode cX5_init pc = .ok (.return_, 1) → W p l e (headSpec wsX5_init rm_X5_init).room s m args below meth c H locs 16 436 Z (F0 m pc ls [])) (HK_86 : ∀ (T_needsy : Nat → Int32), K_86 T_needsy → ∀ (H : Heap) (locs : List Loc) (ls : Array Slot), wd D A s (ww_X5_init cI cC oT oT_settings oT_needs oT_rowSizes oT_rows oT_trainedUntil oT_leaves oT_drills oT_leaves_persons oT_leaves_firstDays oT_leaves_lastDays oT_drills_held oT_drills_quarters oT_drills_led oT_drills_logDays oT_drills_logMinutes oT_drills_logLeaders T_today T_settings T_needsy T_rowSizes T_rows T_trainedUntil T_leaves_granted T_leaves_persons T_leaves_firstDays T_leaves_lastDays T_drills_minutes T_drills_held T_drills_quarters T_drills_led T_drills_logDays T_drills_logMinutes T_drills_logLeaders) H locs → lv_has ls 2 [(0, .ref oT)] → W p l e (headSpec wsX5_init rm_X5_init).room s m args below meth c H locs 16 436 Z (F0 m 86 ls [])) : ∀ (n : Nat) (T_needs : Nat → Int32) (x1 : Int32), wb_X5_init_67 K_86 n T_needs x1 → ∀ (H : Heap) (locs : List Loc) (ls : Array Slot), wd D A s (ww_X5_init cI cC oT oT_settings oT_needs oT_rowSizes oT_rows oT_trainedUntil oT_leaves oT_drills oT_leaves_persons oT_leaves_firstDays oT_leaves_lastDays oT_drills_held oT_drills_quarters oT_drills_led oT_drills_logDays oT_drills_logMinutes oT_drills_logLeaders T_today T_settings T_needs T_rowSizes T_rows T_trainedUntil T_leaves_granted T_leaves_persons T_leaves_firstDays T_leaves_lastDays T_drills_minutes T_drills_held T_drills_quarters T_drills_led T_drills_logDays T_drills_logMinutes T_drills_logLeaders) H locs → lv_has ls 2 [(0, .ref oT), (1, .int x1)] → W p l e (headSpec wsX5_init rm_X5_init).room s m args below meth c H locs 16 436 Z (F0 m 67 ls []) := by
  obtain ⟨hx, hb, hr, hml, hts, hown, hlocks, hKw, hA⟩ := id CX
  intro n
  induction n with
  | zero => intro T_needs x1 hw; exact False.elim hw
  | succ n ih =>
    intro T_needs x1 hw H locs ls hwd hl
    rw [wb_X5_init_67] at hw
    refine lv_iload_n hx hb dX5_init_67 rfl (lv_at hl 1 rfl) ?_
    refine lv_bipush (v := (nI 10)) hx hb dX5_init_68 rfl ?_
    refine lv_icmp_ge (tgt := 86) hx hb dX5_init_70 (by decide) (fun c1 => ?_) (fun c1 => ?_)
    · replace hw := hw.1 c1
      exact HK_86 T_needs hw _ _ _ hwd (lv_sub hl [0] rfl)
    · replace hw := hw.2 c1
      refine lv_aload_n hx hb dX5_init_73 rfl (lv_at hl 0 rfl) ?_
      refine va_get (D := D) (ci := 5) (v := .ref oT_needs) (C := RX5) (T := TX5) (N := 8) hx hb hts ic_X5_init_X5 hown hKw.1 hwd.1 0 rfl rfl 2 (by decide) (hts (.fieldLink RX5 15 "DrillWardens$State" "needs" "[I") (List.mem_of_getElem? (i := 6) rfl)) (fun _ h9 => h9) rfl dX5_init_74 ?_
      refine lv_iload_n hx hb dX5_init_77 rfl (lv_at hl 1 rfl) ?_
      refine lv_iconst (v := (nI 1)) hx hb dX5_init_78 rfl ?_
      obtain ⟨T_needs2, e_T_needs2⟩ : ∃ y : Nat → Int32, y = upd T_needs x1.toNatClampNeg (nI 1) := ⟨_, rfl⟩
      refine va_iast hx hb hKw.1 hwd.1 hwd.2.1 hwd.2.2 2 0 rfl rfl hw.1 dX5_init_79 (fun H locs h1 h2 h3 => ?_)
      replace hw := hw.2 T_needs2 e_T_needs2
      rw [← e_T_needs2] at h1 h2
      replace hwd : wd D A s (ww_X5_init cI cC oT oT_settings oT_needs oT_rowSizes oT_rows oT_trainedUntil oT_leaves oT_drills oT_leaves_persons oT_leaves_firstDays oT_leaves_lastDays oT_drills_held oT_drills_quarters oT_drills_led oT_drills_logDays oT_drills_logMinutes oT_drills_logLeaders T_today T_settings T_needs2 T_rowSizes T_rows T_trainedUntil T_leaves_granted T_leaves_persons T_leaves_firstDays T_leaves_lastDays T_drills_minutes T_drills_held T_drills_quarters T_drills_led T_drills_logDays T_drills_logMinutes T_drills_logLeaders) H locs := ⟨h1, h2, h3⟩
      clear h1 h2 h3
      obtain ⟨x1_3, e_x1_3⟩ : ∃ y : Int32, y = x1 + (nI 1) := ⟨_, rfl⟩
      replace hw := hw x1_3 e_x1_3
      refine lv_iinc (v := x1_3) (lv' := [(1, .int x1_3), (0, .ref oT)]) hx hb dX5_init_80 hl (k := 1) rfl (by rw [e_x1_3]; rfl) (by decide) rfl (fun ls hl => ?_)
      refine lv_goto (tgt := 67) hx hb dX5_init_83 (by decide) ?_
      exact ih T_needs2 x1_3 hw _ _ _ hwd (lv_sub hl [1, 0] rfl)
def wb_X5_init_88  (K_109 : (Nat → Int32) → Prop) : Nat → (Nat → Int32) → Int32 → Prop
  | 0, _, _ => False
  | n + 1, T_trainedUntil, x1 => (((nI 16) ≤ x1 → K_109 T_trainedUntil) ∧ (¬ (nI 16) ≤ x1 → vp_in x1 16 ∧ ∀ T_trainedUntil2, T_trainedUntil2 = upd T_trainedUntil x1.toNatClampNeg (nI 399) → ∀ x1_3, x1_3 = x1 + (nI 1) → wb_X5_init_88 K_109 n T_trainedUntil2 x1_3))
set_option maxRecDepth 100000 in
set_option maxHeartbeats 4000000 in
theorem blk_X5_init_88 {p : Program} {l : Launch} {e : Env} {s : State} {m : MethodId} {args : Array Value} {below : List Frame} {meth : Method} {c : Code} {D : va_G} {cI cC cR : ClassId} {A : Nat → Prop} {Z : State → Prop} (CX : cx cX5_init none 2 RX5 wsX5_init p m meth c s args D cI cC cR A) (oT oT_settings oT_needs oT_rowSizes oT_rows oT_trainedUntil oT_leaves oT_drills oT_leaves_persons oT_leaves_firstDays oT_leaves_lastDays oT_drills_held oT_drills_quarters oT_drills_led oT_drills_logDays oT_drills_logMinutes oT_drills_logLeaders : Nat) (T_today : Int32) (T_settings : Nat → Int32) (T_needs : Nat → Int32) (T_rowSizes : Nat → Int32) (T_rows : Nat → Int32) (T_leaves_granted : Int32) (T_leaves_persons : Nat → Int32) (T_leaves_firstDays : Nat → Int32) (T_leaves_lastDays : Nat → Int32) (T_drills_minutes : Int32) (T_drills_held : Nat → Int32) (T_drills_quarters : Nat → Int32) (T_drills_led : Nat → Int32) (T_drills_logDays : Nat → Int32) (T_drills_logMinutes : Nat → Int32) (T_drills_logLeaders : Nat → Int32) {K_109 : (Nat → Int32) → Prop} {Q : (Nat → Int32) → (Nat → Int32) → Prop} (HR : ∀ (u0 : Nat → Int32) (u1 : Nat → Int32) {H : Heap} {locs : List Loc} {ls : Array Slot} {pc : Nat}, Q u0 u1 → wd D A s (ww_X5_init cI cC oT oT_settings oT_needs oT_rowSizes oT_rows oT_trainedUntil oT_leaves oT_drills oT_leaves_persons oT_leaves_firstDays oT_leaves_lastDays oT_drills_held oT_drills_quarters oT_drills_led oT_drills_logDays oT_drills_logMinutes oT_drills_logLeaders T_today T_settings u0 T_rowSizes T_rows u1 T_leaves_granted T_leaves_persons T_leaves_firstDays T_leaves_lastDays T_drills_minutes T_drills_held T_drills_quarters T_drills_led T_drills_logDays T_drills_logMinutes T_drills_logLeaders) H locs → decode cX5_init pc = .ok (.return_, 1) → W p l e (headSpec wsX5_init rm_X5_init).room s m args below meth c H locs 16 436 Z (F0 m pc ls [])) (HK_109 : ∀ (T_trainedUntily : Nat → Int32), K_109 T_trainedUntily → ∀ (H : Heap) (locs : List Loc) (ls : Array Slot), wd D A s (ww_X5_init cI cC oT oT_settings oT_needs oT_rowSizes oT_rows oT_trainedUntil oT_leaves oT_drills oT_leaves_persons oT_leaves_firstDays oT_leaves_lastDays oT_drills_held oT_drills_quarters oT_drills_led oT_drills_logDays oT_drills_logMinutes oT_drills_logLeaders T_today T_settings T_needs T_rowSizes T_rows T_trainedUntily T_leaves_granted T_leaves_persons T_leaves_firstDays T_leaves_lastDays T_drills_minutes T_drills_held T_drills_quarters T_drills_led T_drills_logDays T_drills_logMinutes T_drills_logLeaders) H locs → lv_has ls 2 [] → W p l e (headSpec wsX5_init rm_X5_init).room s m args below meth c H locs 16 436 Z (F0 m 109 ls [])) : ∀ (n : Nat) (T_trainedUntil : Nat → Int32) (x1 : Int32), wb_X5_init_88 K_109 n T_trainedUntil x1 → ∀ (H : Heap) (locs : List Loc) (ls : Array Slot), wd D A s (ww_X5_init cI cC oT oT_settings oT_needs oT_rowSizes oT_rows oT_trainedUntil oT_leaves oT_drills oT_leaves_persons oT_leaves_firstDays oT_leaves_lastDays oT_drills_held oT_drills_quarters oT_drills_led oT_drills_logDays oT_drills_logMinutes oT_drills_logLeaders T_today T_settings T_needs T_rowSizes T_rows T_trainedUntil T_leaves_granted T_leaves_persons T_leaves_firstDays T_leaves_lastDays T_drills_minutes T_drills_held T_drills_quarters T_drills_led T_drills_logDays T_drills_logMinutes T_drills_logLeaders) H locs → lv_has ls 2 [(0, .ref oT), (1, .int x1)] → W p l e (headSpec wsX5_init rm_X5_init).room s m args below meth c H locs 16 436 Z (F0 m 88 ls []) := by
  obtain ⟨hx, hb, hr, hml, hts, hown, hlocks, hKw, hA⟩ := id CX
  intro n
  induction n with
  | zero => intro T_trainedUntil x1 hw; exact False.elim hw
  | succ n ih =>
    intro T_trainedUntil x1 hw H locs ls hwd hl
    rw [wb_X5_init_88] at hw
    refine lv_iload_n hx hb dX5_init_88 rfl (lv_at hl 1 rfl) ?_
    refine lv_bipush (v := (nI 16)) hx hb dX5_init_89 rfl ?_
    refine lv_icmp_ge (tgt := 109) hx hb dX5_init_91 (by decide) (fun c1 => ?_) (fun c1 => ?_)
    · replace hw := hw.1 c1
      exact HK_109 T_trainedUntil hw _ _ _ hwd (lv_sub hl [] rfl)
    · replace hw := hw.2 c1
      refine lv_aload_n hx hb dX5_init_94 rfl (lv_at hl 0 rfl) ?_
      refine va_get (D := D) (ci := 5) (v := .ref oT_trainedUntil) (C := RX5) (T := TX5) (N := 8) hx hb hts ic_X5_init_X5 hown hKw.1 hwd.1 0 rfl rfl 5 (by decide) (hts (.fieldLink RX5 24 "DrillWardens$State" "trainedUntil" "[I") (List.mem_of_getElem? (i := 9) rfl)) (fun _ h9 => h9) rfl dX5_init_95 ?_
      refine lv_iload_n hx hb dX5_init_98 rfl (lv_at hl 1 rfl) ?_
      refine lv_sipush (v := (nI 399)) hx hb dX5_init_99 rfl ?_
      obtain ⟨T_trainedUntil2, e_T_trainedUntil2⟩ : ∃ y : Nat → Int32, y = upd T_trainedUntil x1.toNatClampNeg (nI 399) := ⟨_, rfl⟩
      refine va_iast hx hb hKw.1 hwd.1 hwd.2.1 hwd.2.2 5 0 rfl rfl hw.1 dX5_init_102 (fun H locs h1 h2 h3 => ?_)
      replace hw := hw.2 T_trainedUntil2 e_T_trainedUntil2
      rw [← e_T_trainedUntil2] at h1 h2
      replace hwd : wd D A s (ww_X5_init cI cC oT oT_settings oT_needs oT_rowSizes oT_rows oT_trainedUntil oT_leaves oT_drills oT_leaves_persons oT_leaves_firstDays oT_leaves_lastDays oT_drills_held oT_drills_quarters oT_drills_led oT_drills_logDays oT_drills_logMinutes oT_drills_logLeaders T_today T_settings T_needs T_rowSizes T_rows T_trainedUntil2 T_leaves_granted T_leaves_persons T_leaves_firstDays T_leaves_lastDays T_drills_minutes T_drills_held T_drills_quarters T_drills_led T_drills_logDays T_drills_logMinutes T_drills_logLeaders) H locs := ⟨h1, h2, h3⟩
      clear h1 h2 h3
      obtain ⟨x1_3, e_x1_3⟩ : ∃ y : Int32, y = x1 + (nI 1) := ⟨_, rfl⟩
      replace hw := hw x1_3 e_x1_3
      refine lv_iinc (v := x1_3) (lv' := [(1, .int x1_3), (0, .ref oT)]) hx hb dX5_init_103 hl (k := 1) rfl (by rw [e_x1_3]; rfl) (by decide) rfl (fun ls hl => ?_)
      refine lv_goto (tgt := 88) hx hb dX5_init_106 (by decide) ?_
      exact ih T_trainedUntil2 x1_3 hw _ _ _ hwd (lv_sub hl [1, 0] rfl)
def wp_X5_init (Q : (Nat → Int32) → (Nat → Int32) → Prop) : Prop := (∃ n1, wb_X5_init_67 (fun T_needs2 => (∃ n3, wb_X5_init_88 (fun T_trainedUntil4 => Q T_needs2 T_trainedUntil4) n3 (fun _ => 0) (nI 0))) n1 (fun _ => 0) (nI 0))
set_option maxRecDepth 100000 in
set_option maxHeartbeats 4000000 in
theorem c_X5_init (l : Launch) {D : va_G} {cI cC cR : ClassId} (oT sz : Nat) {Q : (Nat → Int32) → (Nat → Int32) → Prop} (hw : wp_X5_init Q) : Met l yX5_init wsX5_init rm_X5_init (PcW D cI cC cR [.ref oT] [(oT, .inr (5, [.int 0, .null, .null, .null, .null, .null, .null, .null]))] sz) (QvW D (fun (u : (Nat → Nat) × (Nat → Int32) × (Nat → Int32)) => Q u.2.1 u.2.2) (fun u => (ww_X5_init cI cC oT (u.1 0) (u.1 1) (u.1 2) (u.1 3) (u.1 4) (u.1 5) (u.1 6) (u.1 7) (u.1 8) (u.1 9) (u.1 10) (u.1 11) (u.1 12) (u.1 13) (u.1 14) (u.1 15) 0 (fun _ => 0) (u.2.1) (fun _ => 0) (fun _ => 0) (u.2.2) 0 (fun _ => 0) (fun _ => 0) (fun _ => 0) 0 (fun _ => 0) (fun _ => 0) (fun _ => 0) (fun _ => 0) (fun _ => 0) (fun _ => 0))) [(oT, .inr (5, [.int 0, .null, .null, .null, .null, .null, .null, .null]))] sz) 16 436 (va_A [(oT, .inr (5, [.int 0, .null, .null, .null, .null, .null, .null, .null]))] sz) := by
  refine Met.ofW (cc := cX5_init) (maxL := 2) (ret := none) (by decide) rfl ?_
  intro p e s m args below meth c s₁ B hml hv
  obtain ⟨rfl, hsz, hP, hKw, hD0⟩ := hv
  have hlocks := B.notSynchronized
  have hin : meth.name = "<init>" := (name_of_methodNamed B.named B.method).1
  subst hsz
  have hD := hD0.self (sz := s.heap.size)
  obtain ⟨A, hAe⟩ : ∃ z, z = va_A [(oT, .inr (5, [.int 0, .null, .null, .null, .null, .null, .null, .null]))] s.heap.size := ⟨_, rfl⟩
  rw [← hAe] at hD
  have hA : ∀ q : Nat, s.heap.size ≤ q → A q := fun q h => by rw [hAe]; exact Or.inr h
  have CX : cx cX5_init none 2 RX5 wsX5_init p m meth c s ([.ref oT] : List Value).toArray D cI cC cR A := ⟨B.exec, B.bytes, B.returns, hml, atoms_spec (ws := wsX5_init) B.pre, findClass_of_methodNamed B.named, hlocks, hKw, hA⟩
  obtain ⟨hx, hb, hr, -, hts, hown, -, -, -⟩ := id CX
  obtain ⟨locs, hlocs⟩ : ∃ z : List Loc, z = [] := ⟨_, rfl⟩
  rw [← hlocs]
  have hwd : wd D A s [(oT, .inr (5, [.int 0, .null, .null, .null, .null, .null, .null, .null]))] s.heap locs := ⟨hP, hD, by rw [hlocs]; exact va_S.rf⟩
  have hl := lv_entry ([.ref oT]) (n := 2) (Nat.le_of_ble_eq_true rfl)
  rw [lg_entry_eq]
  generalize (lg_sl ([.ref oT]) ++ List.replicate (2 - (lg_sl ([.ref oT])).length) Slot.unset).toArray = ls at hl ⊢
  have hl : lv_has ls 2 [(0, .ref oT)] := hl
  have HR0 : ∀ (u0 : Nat → Int32) (u1 : Nat → Int32) (oT_settings oT_needs oT_rowSizes oT_rows oT_trainedUntil oT_leaves oT_drills oT_leaves_persons oT_leaves_firstDays oT_leaves_lastDays oT_drills_held oT_drills_quarters oT_drills_led oT_drills_logDays oT_drills_logMinutes oT_drills_logLeaders : Nat) {H : Heap} {locs : List Loc} {ls : Array Slot} {pc : Nat}, Q u0 u1 → wd D A s (ww_X5_init cI cC oT oT_settings oT_needs oT_rowSizes oT_rows oT_trainedUntil oT_leaves oT_drills oT_leaves_persons oT_leaves_firstDays oT_leaves_lastDays oT_drills_held oT_drills_quarters oT_drills_led oT_drills_logDays oT_drills_logMinutes oT_drills_logLeaders 0 (fun _ => 0) u0 (fun _ => 0) (fun _ => 0) u1 0 (fun _ => 0) (fun _ => 0) (fun _ => 0) 0 (fun _ => 0) (fun _ => 0) (fun _ => 0) (fun _ => 0) (fun _ => 0) (fun _ => 0)) H locs → decode cX5_init pc = .ok (.return_, 1) → W p l e (headSpec wsX5_init rm_X5_init).room s m ([.ref oT] : List Value).toArray below meth c H locs 16 436 (MQ below (QvW D (fun (u : (Nat → Nat) × (Nat → Int32) × (Nat → Int32)) => Q u.2.1 u.2.2) (fun u => (ww_X5_init cI cC oT (u.1 0) (u.1 1) (u.1 2) (u.1 3) (u.1 4) (u.1 5) (u.1 6) (u.1 7) (u.1 8) (u.1 9) (u.1 10) (u.1 11) (u.1 12) (u.1 13) (u.1 14) (u.1 15) 0 (fun _ => 0) (u.2.1) (fun _ => 0) (fun _ => 0) (u.2.2) 0 (fun _ => 0) (fun _ => 0) (fun _ => 0) 0 (fun _ => 0) (fun _ => 0) (fun _ => 0) (fun _ => 0) (fun _ => 0) (fun _ => 0))) [(oT, .inr (5, [.int 0, .null, .null, .null, .null, .null, .null, .null]))] s.heap.size) ([.ref oT] : List Value).toArray s 16 436 (va_A [(oT, .inr (5, [.int 0, .null, .null, .null, .null, .null, .null, .null]))] s.heap.size)) (F0 m pc ls []) := by
    intro u0 u1 oT_settings oT_needs oT_rowSizes oT_rows oT_trainedUntil oT_leaves oT_drills oT_leaves_persons oT_leaves_firstDays oT_leaves_lastDays oT_drills_held oT_drills_quarters oT_drills_led oT_drills_logDays oT_drills_logMinutes oT_drills_logLeaders H locs ls pc hq hw9 hd9
    subst hAe
    exact W.vret hx hb hr (fun t ht hW => ⟨⟨((fun i => [oT_settings, oT_needs, oT_rowSizes, oT_rows, oT_trainedUntil, oT_leaves, oT_drills, oT_leaves_persons, oT_leaves_firstDays, oT_leaves_lastDays, oT_drills_held, oT_drills_quarters, oT_drills_led, oT_drills_logDays, oT_drills_logMinutes, oT_drills_logLeaders].getD i 0), u0, u1), rfl, hq, by rw [ht]; exact hw9.1, hw9.2.1⟩, hw9.2.2.F ht⟩) hw9.2.2.2.2 hd9
  unfold wp_X5_init at hw
  refine lv_aload_n hx hb dX5_init_0 rfl (lv_at hl 0 rfl) ?_
  refine W.objInit hx hb hown (hts (.methodLink RX5 3 objectInit) (List.mem_of_getElem? (i := 1) rfl)) (hts (.instanceMethod objectInit) (List.mem_of_getElem? (i := 2) rfl)) (hts (.code objectInit ⟨#[0xb1]⟩ 1 none) (List.mem_of_getElem? (i := 3) rfl)) rfl (by rw [hml]; exact hl.1) rfl dX5_init_1 (Nat.le_of_ble_eq_true rfl) (Nat.le_of_ble_eq_true rfl) ?_
  refine W.eq (g2 := F0 m 4 ls []) rfl ?_
  refine lv_aload_n hx hb dX5_init_4 rfl (lv_at hl 0 rfl) ?_
  refine lv_iconst (v := (nI 3)) hx hb dX5_init_5 rfl ?_
  refine kna hx hb (hts (.arrayClass .int) (List.mem_of_getElem? (i := 4) rfl)) hKw hA hwd 3 (Nat.le_of_ble_eq_true rfl) (Nat.le_of_ble_eq_true rfl) (Nat.le_of_ble_eq_true rfl) dX5_init_6 (fun oT_settings H hwd => ?_)
  replace hwd : wd D A s [(oT, .inr (5, [.int 0, .null, .null, .null, .null, .null, .null, .null])), (oT_settings, .inl (cI, 3, .inl (fun _ => 0)))] H locs := hwd
  refine W.widen (k := 1) (n := 3) (by omega) (by omega) ?_
  refine va_putF (D := D) (ci := 5) (v := .ref oT_settings) (ty := .array .int) (C := RX5) (T := TX5) (N := 8) hx hb hts ic_X5_init_X5 tyX5 tyX5_ok nmX5 hown hKw.1 hwd.1 hwd.2.1 hwd.2.2 0 rfl rfl 1 (by decide) (hts (.fieldLink RX5 9 "DrillWardens$State" "settings" "[I") (List.mem_of_getElem? (i := 5) rfl)) (fun _ h9 => h9) rfl hin rfl (tyX5_ok 1 (by decide)) rfl rfl (Nat.le_of_ble_eq_true rfl) dX5_init_8 (fun H locs h1 h2 h3 => ?_)
  replace hwd : wd D A s [(oT, .inr (5, [.int 0, .ref oT_settings, .null, .null, .null, .null, .null, .null])), (oT_settings, .inl (cI, 3, .inl (fun _ => 0)))] H locs := ⟨h1, h2, h3⟩
  clear h1 h2 h3
  refine lv_aload_n hx hb dX5_init_11 rfl (lv_at hl 0 rfl) ?_
  refine lv_bipush (v := (nI 10)) hx hb dX5_init_12 rfl ?_
  refine kna hx hb (hts (.arrayClass .int) (List.mem_of_getElem? (i := 4) rfl)) hKw hA hwd 10 (Nat.le_of_ble_eq_true rfl) (Nat.le_of_ble_eq_true rfl) (Nat.le_of_ble_eq_true rfl) dX5_init_14 (fun oT_needs H hwd => ?_)
  replace hwd : wd D A s [(oT, .inr (5, [.int 0, .ref oT_settings, .null, .null, .null, .null, .null, .null])), (oT_settings, .inl (cI, 3, .inl (fun _ => 0))), (oT_needs, .inl (cI, 10, .inl (fun _ => 0)))] H locs := hwd
  refine W.widen (k := 2) (n := 13) (by omega) (by omega) ?_
  refine va_putF (D := D) (ci := 5) (v := .ref oT_needs) (ty := .array .int) (C := RX5) (T := TX5) (N := 8) hx hb hts ic_X5_init_X5 tyX5 tyX5_ok nmX5 hown hKw.1 hwd.1 hwd.2.1 hwd.2.2 0 rfl rfl 2 (by decide) (hts (.fieldLink RX5 15 "DrillWardens$State" "needs" "[I") (List.mem_of_getElem? (i := 6) rfl)) (fun _ h9 => h9) rfl hin rfl (tyX5_ok 2 (by decide)) rfl rfl (Nat.le_of_ble_eq_true rfl) dX5_init_16 (fun H locs h1 h2 h3 => ?_)
  replace hwd : wd D A s [(oT, .inr (5, [.int 0, .ref oT_settings, .ref oT_needs, .null, .null, .null, .null, .null])), (oT_settings, .inl (cI, 3, .inl (fun _ => 0))), (oT_needs, .inl (cI, 10, .inl (fun _ => 0)))] H locs := ⟨h1, h2, h3⟩
  clear h1 h2 h3
  refine lv_aload_n hx hb dX5_init_19 rfl (lv_at hl 0 rfl) ?_
  refine lv_bipush (v := (nI 10)) hx hb dX5_init_20 rfl ?_
  refine kna hx hb (hts (.arrayClass .int) (List.mem_of_getElem? (i := 4) rfl)) hKw hA hwd 10 (Nat.le_of_ble_eq_true rfl) (Nat.le_of_ble_eq_true rfl) (Nat.le_of_ble_eq_true rfl) dX5_init_22 (fun oT_rowSizes H hwd => ?_)
  replace hwd : wd D A s [(oT, .inr (5, [.int 0, .ref oT_settings, .ref oT_needs, .null, .null, .null, .null, .null])), (oT_settings, .inl (cI, 3, .inl (fun _ => 0))), (oT_needs, .inl (cI, 10, .inl (fun _ => 0))), (oT_rowSizes, .inl (cI, 10, .inl (fun _ => 0)))] H locs := hwd
  refine W.widen (k := 3) (n := 23) (by omega) (by omega) ?_
  refine va_putF (D := D) (ci := 5) (v := .ref oT_rowSizes) (ty := .array .int) (C := RX5) (T := TX5) (N := 8) hx hb hts ic_X5_init_X5 tyX5 tyX5_ok nmX5 hown hKw.1 hwd.1 hwd.2.1 hwd.2.2 0 rfl rfl 3 (by decide) (hts (.fieldLink RX5 18 "DrillWardens$State" "rowSizes" "[I") (List.mem_of_getElem? (i := 7) rfl)) (fun _ h9 => h9) rfl hin rfl (tyX5_ok 3 (by decide)) rfl rfl (Nat.le_of_ble_eq_true rfl) dX5_init_24 (fun H locs h1 h2 h3 => ?_)
  replace hwd : wd D A s [(oT, .inr (5, [.int 0, .ref oT_settings, .ref oT_needs, .ref oT_rowSizes, .null, .null, .null, .null])), (oT_settings, .inl (cI, 3, .inl (fun _ => 0))), (oT_needs, .inl (cI, 10, .inl (fun _ => 0))), (oT_rowSizes, .inl (cI, 10, .inl (fun _ => 0)))] H locs := ⟨h1, h2, h3⟩
  clear h1 h2 h3
  refine lv_aload_n hx hb dX5_init_27 rfl (lv_at hl 0 rfl) ?_
  refine lv_bipush (v := (nI 50)) hx hb dX5_init_28 rfl ?_
  refine kna hx hb (hts (.arrayClass .int) (List.mem_of_getElem? (i := 4) rfl)) hKw hA hwd 50 (Nat.le_of_ble_eq_true rfl) (Nat.le_of_ble_eq_true rfl) (Nat.le_of_ble_eq_true rfl) dX5_init_30 (fun oT_rows H hwd => ?_)
  replace hwd : wd D A s [(oT, .inr (5, [.int 0, .ref oT_settings, .ref oT_needs, .ref oT_rowSizes, .null, .null, .null, .null])), (oT_settings, .inl (cI, 3, .inl (fun _ => 0))), (oT_needs, .inl (cI, 10, .inl (fun _ => 0))), (oT_rowSizes, .inl (cI, 10, .inl (fun _ => 0))), (oT_rows, .inl (cI, 50, .inl (fun _ => 0)))] H locs := hwd
  refine W.widen (k := 4) (n := 73) (by omega) (by omega) ?_
  refine va_putF (D := D) (ci := 5) (v := .ref oT_rows) (ty := .array .int) (C := RX5) (T := TX5) (N := 8) hx hb hts ic_X5_init_X5 tyX5 tyX5_ok nmX5 hown hKw.1 hwd.1 hwd.2.1 hwd.2.2 0 rfl rfl 4 (by decide) (hts (.fieldLink RX5 21 "DrillWardens$State" "rows" "[I") (List.mem_of_getElem? (i := 8) rfl)) (fun _ h9 => h9) rfl hin rfl (tyX5_ok 4 (by decide)) rfl rfl (Nat.le_of_ble_eq_true rfl) dX5_init_32 (fun H locs h1 h2 h3 => ?_)
  replace hwd : wd D A s [(oT, .inr (5, [.int 0, .ref oT_settings, .ref oT_needs, .ref oT_rowSizes, .ref oT_rows, .null, .null, .null])), (oT_settings, .inl (cI, 3, .inl (fun _ => 0))), (oT_needs, .inl (cI, 10, .inl (fun _ => 0))), (oT_rowSizes, .inl (cI, 10, .inl (fun _ => 0))), (oT_rows, .inl (cI, 50, .inl (fun _ => 0)))] H locs := ⟨h1, h2, h3⟩
  clear h1 h2 h3
  refine lv_aload_n hx hb dX5_init_35 rfl (lv_at hl 0 rfl) ?_
  refine lv_bipush (v := (nI 16)) hx hb dX5_init_36 rfl ?_
  refine kna hx hb (hts (.arrayClass .int) (List.mem_of_getElem? (i := 4) rfl)) hKw hA hwd 16 (Nat.le_of_ble_eq_true rfl) (Nat.le_of_ble_eq_true rfl) (Nat.le_of_ble_eq_true rfl) dX5_init_38 (fun oT_trainedUntil H hwd => ?_)
  replace hwd : wd D A s [(oT, .inr (5, [.int 0, .ref oT_settings, .ref oT_needs, .ref oT_rowSizes, .ref oT_rows, .null, .null, .null])), (oT_settings, .inl (cI, 3, .inl (fun _ => 0))), (oT_needs, .inl (cI, 10, .inl (fun _ => 0))), (oT_rowSizes, .inl (cI, 10, .inl (fun _ => 0))), (oT_rows, .inl (cI, 50, .inl (fun _ => 0))), (oT_trainedUntil, .inl (cI, 16, .inl (fun _ => 0)))] H locs := hwd
  refine W.widen (k := 5) (n := 89) (by omega) (by omega) ?_
  refine va_putF (D := D) (ci := 5) (v := .ref oT_trainedUntil) (ty := .array .int) (C := RX5) (T := TX5) (N := 8) hx hb hts ic_X5_init_X5 tyX5 tyX5_ok nmX5 hown hKw.1 hwd.1 hwd.2.1 hwd.2.2 0 rfl rfl 5 (by decide) (hts (.fieldLink RX5 24 "DrillWardens$State" "trainedUntil" "[I") (List.mem_of_getElem? (i := 9) rfl)) (fun _ h9 => h9) rfl hin rfl (tyX5_ok 5 (by decide)) rfl rfl (Nat.le_of_ble_eq_true rfl) dX5_init_40 (fun H locs h1 h2 h3 => ?_)
  replace hwd : wd D A s [(oT, .inr (5, [.int 0, .ref oT_settings, .ref oT_needs, .ref oT_rowSizes, .ref oT_rows, .ref oT_trainedUntil, .null, .null])), (oT_settings, .inl (cI, 3, .inl (fun _ => 0))), (oT_needs, .inl (cI, 10, .inl (fun _ => 0))), (oT_rowSizes, .inl (cI, 10, .inl (fun _ => 0))), (oT_rows, .inl (cI, 50, .inl (fun _ => 0))), (oT_trainedUntil, .inl (cI, 16, .inl (fun _ => 0)))] H locs := ⟨h1, h2, h3⟩
  clear h1 h2 h3
  refine lv_aload_n hx hb dX5_init_43 rfl (lv_at hl 0 rfl) ?_
  refine va_new (ci := 2) (fs := [.int 0, .null, .null, .null]) (C := RX2) (T := TX2) (N := 4) hx hb hts ic_X5_init_X2 tyX2 tyX2_ok hown (hts (.classLink RX5 27 RX2) (List.mem_of_getElem? (i := 10) rfl)) (hts (.instantiable RX2 4) (List.mem_of_getElem? (i := 11) rfl)) (hts (.initialized RX2) (List.mem_of_getElem? (i := 12) rfl)) hKw.1 hwd.1 hwd.2.1 hwd.2.2 hA rfl (fun j hj => by rcases (show j = 0 ∨ j = 1 ∨ j = 2 ∨ j = 3 by omega) with rfl | rfl | rfl | rfl <;> rfl) (Nat.le_of_ble_eq_true rfl) (Nat.le_of_ble_eq_true rfl) dX5_init_44 (fun oT_leaves H h1 h2 h3 => ?_)
  replace hwd : wd D A s [(oT, .inr (5, [.int 0, .ref oT_settings, .ref oT_needs, .ref oT_rowSizes, .ref oT_rows, .ref oT_trainedUntil, .null, .null])), (oT_settings, .inl (cI, 3, .inl (fun _ => 0))), (oT_needs, .inl (cI, 10, .inl (fun _ => 0))), (oT_rowSizes, .inl (cI, 10, .inl (fun _ => 0))), (oT_rows, .inl (cI, 50, .inl (fun _ => 0))), (oT_trainedUntil, .inl (cI, 16, .inl (fun _ => 0))), (oT_leaves, .inr (2, [.int 0, .null, .null, .null]))] H locs := ⟨h1, h2, h3⟩
  clear h1 h2 h3
  refine W.widen (k := 6) (n := 93) (by omega) (by omega) ?_
  refine lv_dup hx hb dX5_init_47 rfl ?_
  refine kcI (rest := [.ref oT_leaves, .ref oT]) (X := [(oT, .inr (5, [.int 0, .ref oT_settings, .ref oT_needs, .ref oT_rowSizes, .ref oT_rows, .ref oT_trainedUntil, .null, .null])), (oT_settings, .inl (cI, 3, .inl (fun _ => 0))), (oT_needs, .inl (cI, 10, .inl (fun _ => 0))), (oT_rowSizes, .inl (cI, 10, .inl (fun _ => 0))), (oT_rows, .inl (cI, 50, .inl (fun _ => 0))), (oT_trainedUntil, .inl (cI, 16, .inl (fun _ => 0)))]) ⟨hx, hb, hml, hown, hts⟩ (c_X2_init l oT_leaves H.size) (cwI 0 hts gX5_init_X2_init rfl rfl rfl (hts (.initialized RX2) (List.mem_of_getElem? (i := 12) rfl)) (hts (.methodLink RX5 29 yX2_init) (List.mem_of_getElem? (i := 18) rfl)) (hts (.instanceMethod yX2_init) (List.mem_of_getElem? (i := 19) rfl)) rfl hd_X2_init ⟨Nat.le_of_ble_eq_true rfl, Nat.le_of_ble_eq_true rfl⟩) hKw hA hwd rfl hl.1 rfl (lv_room (Nat.le_of_ble_eq_true rfl)) dX5_init_48 ⟨Nat.le_of_ble_eq_true rfl, Nat.le_of_ble_eq_true rfl⟩ (fun u7 H locs hw7 hwd => ?_)
  replace hwd : wd D A s [(oT, .inr (5, [.int 0, .ref oT_settings, .ref oT_needs, .ref oT_rowSizes, .ref oT_rows, .ref oT_trainedUntil, .null, .null])), (oT_settings, .inl (cI, 3, .inl (fun _ => 0))), (oT_needs, .inl (cI, 10, .inl (fun _ => 0))), (oT_rowSizes, .inl (cI, 10, .inl (fun _ => 0))), (oT_rows, .inl (cI, 50, .inl (fun _ => 0))), (oT_trainedUntil, .inl (cI, 16, .inl (fun _ => 0))), (oT_leaves, .inr (2, [.int 0, .ref (u7 0), .ref (u7 1), .ref (u7 2)])), (u7 0, .inl (cI, 40, .inl (fun _ => 0))), (u7 1, .inl (cI, 40, .inl (fun _ => 0))), (u7 2, .inl (cI, 40, .inl (fun _ => 0)))] H locs := hwd
  refine W.widen (k := 9) (n := 213) (by omega) (by omega) ?_
  refine va_putF (D := D) (ci := 5) (v := .ref oT_leaves) (ty := .object "DrillWardens$Leaves") (C := RX5) (T := TX5) (N := 8) hx hb hts ic_X5_init_X5 tyX5 tyX5_ok nmX5 hown hKw.1 hwd.1 hwd.2.1 hwd.2.2 0 rfl rfl 6 (by decide) (hts (.fieldLink RX5 30 "DrillWardens$State" "leaves" "LDrillWardens$Leaves;") (List.mem_of_getElem? (i := 13) rfl)) (fun _ h9 => h9) rfl hin rfl (tyX5_ok 6 (by decide)) rfl rfl (Nat.le_of_ble_eq_true rfl) dX5_init_51 (fun H locs h1 h2 h3 => ?_)
  replace hwd : wd D A s [(oT, .inr (5, [.int 0, .ref oT_settings, .ref oT_needs, .ref oT_rowSizes, .ref oT_rows, .ref oT_trainedUntil, .ref oT_leaves, .null])), (oT_settings, .inl (cI, 3, .inl (fun _ => 0))), (oT_needs, .inl (cI, 10, .inl (fun _ => 0))), (oT_rowSizes, .inl (cI, 10, .inl (fun _ => 0))), (oT_rows, .inl (cI, 50, .inl (fun _ => 0))), (oT_trainedUntil, .inl (cI, 16, .inl (fun _ => 0))), (oT_leaves, .inr (2, [.int 0, .ref (u7 0), .ref (u7 1), .ref (u7 2)])), (u7 0, .inl (cI, 40, .inl (fun _ => 0))), (u7 1, .inl (cI, 40, .inl (fun _ => 0))), (u7 2, .inl (cI, 40, .inl (fun _ => 0)))] H locs := ⟨h1, h2, h3⟩
  clear h1 h2 h3
  refine lv_aload_n hx hb dX5_init_54 rfl (lv_at hl 0 rfl) ?_
  refine va_new (ci := 0) (fs := [.int 0, .null, .null, .null, .null, .null, .null]) (C := RX0) (T := TX0) (N := 7) hx hb hts ic_X5_init_X0 tyX0 tyX0_ok hown (hts (.classLink RX5 34 RX0) (List.mem_of_getElem? (i := 14) rfl)) (hts (.instantiable RX0 7) (List.mem_of_getElem? (i := 15) rfl)) (hts (.initialized RX0) (List.mem_of_getElem? (i := 16) rfl)) hKw.1 hwd.1 hwd.2.1 hwd.2.2 hA rfl (fun j hj => by rcases (show j = 0 ∨ j = 1 ∨ j = 2 ∨ j = 3 ∨ j = 4 ∨ j = 5 ∨ j = 6 by omega) with rfl | rfl | rfl | rfl | rfl | rfl | rfl <;> rfl) (Nat.le_of_ble_eq_true rfl) (Nat.le_of_ble_eq_true rfl) dX5_init_55 (fun oT_drills H h1 h2 h3 => ?_)
  replace hwd : wd D A s [(oT, .inr (5, [.int 0, .ref oT_settings, .ref oT_needs, .ref oT_rowSizes, .ref oT_rows, .ref oT_trainedUntil, .ref oT_leaves, .null])), (oT_settings, .inl (cI, 3, .inl (fun _ => 0))), (oT_needs, .inl (cI, 10, .inl (fun _ => 0))), (oT_rowSizes, .inl (cI, 10, .inl (fun _ => 0))), (oT_rows, .inl (cI, 50, .inl (fun _ => 0))), (oT_trainedUntil, .inl (cI, 16, .inl (fun _ => 0))), (oT_leaves, .inr (2, [.int 0, .ref (u7 0), .ref (u7 1), .ref (u7 2)])), (u7 0, .inl (cI, 40, .inl (fun _ => 0))), (u7 1, .inl (cI, 40, .inl (fun _ => 0))), (u7 2, .inl (cI, 40, .inl (fun _ => 0))), (oT_drills, .inr (0, [.int 0, .null, .null, .null, .null, .null, .null]))] H locs := ⟨h1, h2, h3⟩
  clear h1 h2 h3
  refine W.widen (k := 10) (n := 220) (by omega) (by omega) ?_
  refine lv_dup hx hb dX5_init_58 rfl ?_
  refine kcI (rest := [.ref oT_drills, .ref oT]) (X := [(oT, .inr (5, [.int 0, .ref oT_settings, .ref oT_needs, .ref oT_rowSizes, .ref oT_rows, .ref oT_trainedUntil, .ref oT_leaves, .null])), (oT_settings, .inl (cI, 3, .inl (fun _ => 0))), (oT_needs, .inl (cI, 10, .inl (fun _ => 0))), (oT_rowSizes, .inl (cI, 10, .inl (fun _ => 0))), (oT_rows, .inl (cI, 50, .inl (fun _ => 0))), (oT_trainedUntil, .inl (cI, 16, .inl (fun _ => 0))), (oT_leaves, .inr (2, [.int 0, .ref (u7 0), .ref (u7 1), .ref (u7 2)])), (u7 0, .inl (cI, 40, .inl (fun _ => 0))), (u7 1, .inl (cI, 40, .inl (fun _ => 0))), (u7 2, .inl (cI, 40, .inl (fun _ => 0)))]) ⟨hx, hb, hml, hown, hts⟩ (c_X0_init l oT_drills H.size) (cwI 0 hts gX5_init_X0_init rfl rfl rfl (hts (.initialized RX0) (List.mem_of_getElem? (i := 16) rfl)) (hts (.methodLink RX5 36 yX0_init) (List.mem_of_getElem? (i := 25) rfl)) (hts (.instanceMethod yX0_init) (List.mem_of_getElem? (i := 26) rfl)) rfl hd_X0_init ⟨Nat.le_of_ble_eq_true rfl, Nat.le_of_ble_eq_true rfl⟩) hKw hA hwd rfl hl.1 rfl (lv_room (Nat.le_of_ble_eq_true rfl)) dX5_init_59 ⟨Nat.le_of_ble_eq_true rfl, Nat.le_of_ble_eq_true rfl⟩ (fun u9 H locs hw9 hwd => ?_)
  replace hwd : wd D A s [(oT, .inr (5, [.int 0, .ref oT_settings, .ref oT_needs, .ref oT_rowSizes, .ref oT_rows, .ref oT_trainedUntil, .ref oT_leaves, .null])), (oT_settings, .inl (cI, 3, .inl (fun _ => 0))), (oT_needs, .inl (cI, 10, .inl (fun _ => 0))), (oT_rowSizes, .inl (cI, 10, .inl (fun _ => 0))), (oT_rows, .inl (cI, 50, .inl (fun _ => 0))), (oT_trainedUntil, .inl (cI, 16, .inl (fun _ => 0))), (oT_leaves, .inr (2, [.int 0, .ref (u7 0), .ref (u7 1), .ref (u7 2)])), (u7 0, .inl (cI, 40, .inl (fun _ => 0))), (u7 1, .inl (cI, 40, .inl (fun _ => 0))), (u7 2, .inl (cI, 40, .inl (fun _ => 0))), (oT_drills, .inr (0, [.int 0, .ref (u9 0), .ref (u9 1), .ref (u9 2), .ref (u9 3), .ref (u9 4), .ref (u9 5)])), (u9 0, .inl (cI, 10, .inl (fun _ => 0))), (u9 1, .inl (cI, 10, .inl (fun _ => 0))), (u9 2, .inl (cI, 16, .inl (fun _ => 0))), (u9 3, .inl (cI, 60, .inl (fun _ => 0))), (u9 4, .inl (cI, 60, .inl (fun _ => 0))), (u9 5, .inl (cI, 60, .inl (fun _ => 0)))] H locs := hwd
  refine W.widen (k := 16) (n := 436) (by omega) (by omega) ?_
  refine va_putF (D := D) (ci := 5) (v := .ref oT_drills) (ty := .object "DrillWardens$Drills") (C := RX5) (T := TX5) (N := 8) hx hb hts ic_X5_init_X5 tyX5 tyX5_ok nmX5 hown hKw.1 hwd.1 hwd.2.1 hwd.2.2 0 rfl rfl 7 (by decide) (hts (.fieldLink RX5 37 "DrillWardens$State" "drills" "LDrillWardens$Drills;") (List.mem_of_getElem? (i := 17) rfl)) (fun _ h9 => h9) rfl hin rfl (tyX5_ok 7 (by decide)) rfl rfl (Nat.le_of_ble_eq_true rfl) dX5_init_62 (fun H locs h1 h2 h3 => ?_)
  replace hwd : wd D A s [(oT, .inr (5, [.int 0, .ref oT_settings, .ref oT_needs, .ref oT_rowSizes, .ref oT_rows, .ref oT_trainedUntil, .ref oT_leaves, .ref oT_drills])), (oT_settings, .inl (cI, 3, .inl (fun _ => 0))), (oT_needs, .inl (cI, 10, .inl (fun _ => 0))), (oT_rowSizes, .inl (cI, 10, .inl (fun _ => 0))), (oT_rows, .inl (cI, 50, .inl (fun _ => 0))), (oT_trainedUntil, .inl (cI, 16, .inl (fun _ => 0))), (oT_leaves, .inr (2, [.int 0, .ref (u7 0), .ref (u7 1), .ref (u7 2)])), (u7 0, .inl (cI, 40, .inl (fun _ => 0))), (u7 1, .inl (cI, 40, .inl (fun _ => 0))), (u7 2, .inl (cI, 40, .inl (fun _ => 0))), (oT_drills, .inr (0, [.int 0, .ref (u9 0), .ref (u9 1), .ref (u9 2), .ref (u9 3), .ref (u9 4), .ref (u9 5)])), (u9 0, .inl (cI, 10, .inl (fun _ => 0))), (u9 1, .inl (cI, 10, .inl (fun _ => 0))), (u9 2, .inl (cI, 16, .inl (fun _ => 0))), (u9 3, .inl (cI, 60, .inl (fun _ => 0))), (u9 4, .inl (cI, 60, .inl (fun _ => 0))), (u9 5, .inl (cI, 60, .inl (fun _ => 0)))] H locs := ⟨h1, h2, h3⟩
  clear h1 h2 h3
  obtain ⟨oT_leaves_persons, e_oT_leaves_persons⟩ : ∃ z, z = (u7 0) := ⟨_, rfl⟩
  obtain ⟨oT_leaves_firstDays, e_oT_leaves_firstDays⟩ : ∃ z, z = (u7 1) := ⟨_, rfl⟩
  obtain ⟨oT_leaves_lastDays, e_oT_leaves_lastDays⟩ : ∃ z, z = (u7 2) := ⟨_, rfl⟩
  obtain ⟨oT_drills_held, e_oT_drills_held⟩ : ∃ z, z = (u9 0) := ⟨_, rfl⟩
  obtain ⟨oT_drills_quarters, e_oT_drills_quarters⟩ : ∃ z, z = (u9 1) := ⟨_, rfl⟩
  obtain ⟨oT_drills_led, e_oT_drills_led⟩ : ∃ z, z = (u9 2) := ⟨_, rfl⟩
  obtain ⟨oT_drills_logDays, e_oT_drills_logDays⟩ : ∃ z, z = (u9 3) := ⟨_, rfl⟩
  obtain ⟨oT_drills_logMinutes, e_oT_drills_logMinutes⟩ : ∃ z, z = (u9 4) := ⟨_, rfl⟩
  obtain ⟨oT_drills_logLeaders, e_oT_drills_logLeaders⟩ : ∃ z, z = (u9 5) := ⟨_, rfl⟩
  replace hwd : wd D A s (ww_X5_init cI cC oT oT_settings oT_needs oT_rowSizes oT_rows oT_trainedUntil oT_leaves oT_drills oT_leaves_persons oT_leaves_firstDays oT_leaves_lastDays oT_drills_held oT_drills_quarters oT_drills_led oT_drills_logDays oT_drills_logMinutes oT_drills_logLeaders 0 (fun _ => 0) (fun _ => 0) (fun _ => 0) (fun _ => 0) (fun _ => 0) 0 (fun _ => 0) (fun _ => 0) (fun _ => 0) 0 (fun _ => 0) (fun _ => 0) (fun _ => 0) (fun _ => 0) (fun _ => 0) (fun _ => 0)) H locs := by
    subst e_oT_leaves_persons; subst e_oT_leaves_firstDays; subst e_oT_leaves_lastDays; subst e_oT_drills_held; subst e_oT_drills_quarters; subst e_oT_drills_led; subst e_oT_drills_logDays; subst e_oT_drills_logMinutes; subst e_oT_drills_logLeaders; exact wd.sub hwd [0, 1, 2, 3, 4, 5, 6, 7, 8, 9, 10, 11, 12, 13, 14, 15, 16] rfl rfl
  have HR := fun (u0 : Nat → Int32) (u1 : Nat → Int32) => @HR0 u0 u1 oT_settings oT_needs oT_rowSizes oT_rows oT_trainedUntil oT_leaves oT_drills oT_leaves_persons oT_leaves_firstDays oT_leaves_lastDays oT_drills_held oT_drills_quarters oT_drills_led oT_drills_logDays oT_drills_logMinutes oT_drills_logLeaders
  refine lv_iconst (v := (nI 0)) hx hb dX5_init_65 rfl ?_
  refine lv_istore_n (lv' := [(1, .int (nI 0)), (0, .ref oT)]) hx hb dX5_init_66 rfl hl (by decide) rfl (fun ls hl => ?_)
  obtain ⟨n1, hw⟩ := hw
  refine blk_X5_init_67 (CX := CX) (oT := oT) (oT_settings := oT_settings) (oT_needs := oT_needs) (oT_rowSizes := oT_rowSizes) (oT_rows := oT_rows) (oT_trainedUntil := oT_trainedUntil) (oT_leaves := oT_leaves) (oT_drills := oT_drills) (oT_leaves_persons := oT_leaves_persons) (oT_leaves_firstDays := oT_leaves_firstDays) (oT_leaves_lastDays := oT_leaves_lastDays) (oT_drills_held := oT_drills_held) (oT_drills_quarters := oT_drills_quarters) (oT_drills_led := oT_drills_led) (oT_drills_logDays := oT_drills_logDays) (oT_drills_logMinutes := oT_drills_logMinutes) (oT_drills_logLeaders := oT_drills_logLeaders) (T_today := 0) (T_settings := (fun _ => 0)) (T_rowSizes := (fun _ => 0)) (T_rows := (fun _ => 0)) (T_trainedUntil := (fun _ => 0)) (T_leaves_granted := 0) (T_leaves_persons := (fun _ => 0)) (T_leaves_firstDays := (fun _ => 0)) (T_leaves_lastDays := (fun _ => 0)) (T_drills_minutes := 0) (T_drills_held := (fun _ => 0)) (T_drills_quarters := (fun _ => 0)) (T_drills_led := (fun _ => 0)) (T_drills_logDays := (fun _ => 0)) (T_drills_logMinutes := (fun _ => 0)) (T_drills_logLeaders := (fun _ => 0)) (HR := HR) (HK_86 := fun T_needs2 hw H locs ls hwd hl => ?_) n1 (fun _ => 0) (nI 0) hw _ _ _ hwd (lv_sub hl [1, 0] rfl)
  try dsimp only at hw
  refine lv_iconst (v := (nI 0)) hx hb dX5_init_86 rfl ?_
  refine lv_istore_n (lv' := [(1, .int (nI 0)), (0, .ref oT)]) hx hb dX5_init_87 rfl hl (by decide) rfl (fun ls hl => ?_)
  obtain ⟨n3, hw⟩ := hw
  refine blk_X5_init_88 (CX := CX) (oT := oT) (oT_settings := oT_settings) (oT_needs := oT_needs) (oT_rowSizes := oT_rowSizes) (oT_rows := oT_rows) (oT_trainedUntil := oT_trainedUntil) (oT_leaves := oT_leaves) (oT_drills := oT_drills) (oT_leaves_persons := oT_leaves_persons) (oT_leaves_firstDays := oT_leaves_firstDays) (oT_leaves_lastDays := oT_leaves_lastDays) (oT_drills_held := oT_drills_held) (oT_drills_quarters := oT_drills_quarters) (oT_drills_led := oT_drills_led) (oT_drills_logDays := oT_drills_logDays) (oT_drills_logMinutes := oT_drills_logMinutes) (oT_drills_logLeaders := oT_drills_logLeaders) (T_today := 0) (T_settings := (fun _ => 0)) (T_needs := T_needs2) (T_rowSizes := (fun _ => 0)) (T_rows := (fun _ => 0)) (T_leaves_granted := 0) (T_leaves_persons := (fun _ => 0)) (T_leaves_firstDays := (fun _ => 0)) (T_leaves_lastDays := (fun _ => 0)) (T_drills_minutes := 0) (T_drills_held := (fun _ => 0)) (T_drills_quarters := (fun _ => 0)) (T_drills_led := (fun _ => 0)) (T_drills_logDays := (fun _ => 0)) (T_drills_logMinutes := (fun _ => 0)) (T_drills_logLeaders := (fun _ => 0)) (HR := HR) (HK_109 := fun T_trainedUntil4 hw H locs ls hwd hl => ?_) n3 (fun _ => 0) (nI 0) hw _ _ _ hwd (lv_sub hl [1, 0] rfl)
  try dsimp only at hw
  exact HR T_needs2 T_trainedUntil4 hw hwd dX5_init_109
theorem fill_67 {K : (Nat → Int32) → Prop} : ∀ (n k : Nat) (f : Nat → Int32), k ≤ 10 → 10 - k < n → (∀ j, j < k → f j = nI 1) → (∀ g, (∀ j, j < 10 → g j = nI 1) → K g) → wb_X5_init_67 K n f (nI k) := by
  intro n
  induction n with
  | zero => intro k f h1 h2; omega
  | succ n ih =>
    intro k f hk hn hf hK
    rw [wb_X5_init_67]
    refine ⟨fun c => hK f fun j hj => hf j ?_, fun c => ?_⟩
    · have := (nI_leI (a := 10) (b := k) (by omega) (by omega)).mp c
      omega
    · have hlt : k < 10 := by
        rcases Nat.lt_or_ge k 10 with q | q
        · exact q
        · exact absurd (nI_le q (by omega)) c
      refine ⟨vp_in_nI hlt (by omega), ?_⟩
      rintro g rfl x rfl
      rw [nI_add]
      refine ih (k + 1) _ (by omega) (by omega) (fun j hj => ?_) hK
      rw [nI_clamp (by omega)]
      unfold upd
      split
      · rfl
      · exact hf j (by omega)
theorem fill_88 {K : (Nat → Int32) → Prop} : ∀ (n k : Nat) (f : Nat → Int32), k ≤ 16 → 16 - k < n → (∀ j, j < k → f j = nI 399) → (∀ g, (∀ j, j < 16 → g j = nI 399) → K g) → wb_X5_init_88 K n f (nI k) := by
  intro n
  induction n with
  | zero => intro k f h1 h2; omega
  | succ n ih =>
    intro k f hk hn hf hK
    rw [wb_X5_init_88]
    refine ⟨fun c => hK f fun j hj => hf j ?_, fun c => ?_⟩
    · have := (nI_leI (a := 16) (b := k) (by omega) (by omega)).mp c
      omega
    · have hlt : k < 16 := by
        rcases Nat.lt_or_ge k 16 with q | q
        · exact q
        · exact absurd (nI_le q (by omega)) c
      refine ⟨vp_in_nI hlt (by omega), ?_⟩
      rintro g rfl x rfl
      rw [nI_add]
      refine ih (k + 1) _ (by omega) (by omega) (fun j hj => ?_) hK
      rw [nI_clamp (by omega)]
      unfold upd
      split
      · rfl
      · exact hf j (by omega)
def x5Q (n t : Nat → Int32) : Prop := (∀ j, j < 10 → n j = nI 1) ∧ ∀ j, j < 16 → t j = nI 399
theorem x5_ok : wp_X5_init x5Q := ⟨11, fill_67 11 0 _ (by omega) (by omega) (fun j hj => by omega) (fun g hg => ⟨17, fill_88 17 0 _ (by omega) (by omega) (fun j hj => by omega) (fun t ht => ⟨hg, ht⟩)⟩)⟩
theorem rf4_mk {a b c d : Nat} : va_up (va_up (va_up (va_up (fun _ => none) (nI 0).toNatClampNeg (some a)) (nI 1).toNatClampNeg (some b)) (nI 2).toNatClampNeg (some c)) (nI 3).toNatClampNeg (some d) = rf4 a b c d := by
  funext i
  show (if i = 3 then some d else if i = 2 then some c else if i = 1 then some b else if i = 0 then some a else none) = rf4 a b c d i
  rcases i with _ | _ | _ | _ | i <;> simp [rf4]
