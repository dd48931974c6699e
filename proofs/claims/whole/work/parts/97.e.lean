set_option maxRecDepth 100000 in
set_option maxHeartbeats 4000000 in
/-- YOUR PART: from the entry, for every script of at most 2048 ints, the law comes to its end with true -/
theorem whole_start {p : Program} {e : Env} {s : State} {m : MethodId} {below : List Frame} {meth : Method} {c : Code} (l : Launch) (hflags : l.flags = flags0) {b L : Nat} {xs : Nat → Int32} (hL : L ≤ 2048) (C0 : lw_At p s m meth c b L xs) : W p l e room_1 s m #[Value.ref b] below meth c s.heap [] 0 0 (lw_Z below #[Value.ref b] s) (entryFrame m ([Value.ref b] : List Value).toArray 4) := by
  obtain ⟨hx, hb, hr, hml, hown0, htsT, hX, hbl, hlocks, hgv⟩ := id C0
  have hown : s.vm.findClass RL = some m.cls := hown0
  have hts : ∀ w ∈ wsL_law, w.before #[Value.ref b] s = true := fun w h => htsT w (wsL_law_in w h)
  have hA : ∀ q : Nat, s.heap.size ≤ q → (fun q : Nat => s.heap.size ≤ q) q := fun _ h => h
  obtain ⟨D, cI, cC, cR, hKw⟩ := start_kw htsT
  obtain ⟨adK, adV, hT⟩ := start_str htsT hgv
  have hS0 : va_S (fun q : Nat => s.heap.size ≤ q) s.heap s.heap [] := va_S.rf
  have hP0 : va_P D vwCl [] s.heap := fun k q h => by simp at h
  have hD0 : va_D (fun q : Nat => s.heap.size ≤ q) [] := ⟨fun i j p q h => by simp at h, fun k q h => by simp at h⟩
  have hl := lv_entry ([.ref b]) (n := 4) (Nat.le_of_ble_eq_true rfl)
  rw [lg_entry_eq]
  generalize (lg_sl ([.ref b]) ++ List.replicate (4 - (lg_sl ([.ref b])).length) Slot.unset).toArray = ls at hl ⊢
  have hl : lv_has ls 4 [(0, .ref b)] := hl
  refine va_new (ci := 6) (fs := [.null, .null, .null, .null, .null, .null, .int 0, .int 0]) (C := RX6) (T := TX6) (N := 8) hx hb htsT inX6 tyX6 tyX6_ok hown (htsT (.classLink RL 7 RX6) (List.mem_of_getElem? (i := 84) (by decide +kernel))) (htsT (.instantiable RX6 8) (List.mem_of_getElem? (i := 85) (by decide +kernel))) (htsT (.initialized RX6) (List.mem_of_getElem? (i := 69) (by decide +kernel))) hKw.1 hP0 hD0 hS0 hA rfl (fun j hj => by rcases (show j = 0 ∨ j = 1 ∨ j = 2 ∨ j = 3 ∨ j = 4 ∨ j = 5 ∨ j = 6 ∨ j = 7 by omega) with rfl | rfl | rfl | rfl | rfl | rfl | rfl | rfl <;> rfl) (Nat.le_of_ble_eq_true rfl) (Nat.le_of_ble_eq_true rfl) dL_law_0 (fun ox H h1 h2 h3 => ?_)
  have hwd : wd D (fun q : Nat => s.heap.size ≤ q) s ([] ++ [(ox, .inr (6, [.null, .null, .null, .null, .null, .null, .int 0, .int 0]))]) H [] := ⟨h1, h2, h3⟩
  clear h1 h2 h3
  refine W.widen (k := 1) (n := 8) (by omega) (by omega) ?_
  refine lv_dup hx hb dL_law_3 rfl ?_
  refine kcI (rest := [.ref ox]) (X := []) ⟨hx, hb, hml, hown, hts⟩ (c_X6_init3 l ox H.size) (cwI 0 hts gL_law_X6_init rfl rfl rfl (htsT (.initialized RX6) (List.mem_of_getElem? (i := 69) (by decide +kernel))) (htsT (.methodLink RL 9 yX6_init) (List.mem_of_getElem? (i := 86) (by decide +kernel))) (htsT (.instanceMethod yX6_init) (List.mem_of_getElem? (i := 87) (by decide +kernel))) rfl hd_X6_init ⟨Nat.le_of_ble_eq_true rfl, Nat.le_of_ble_eq_true rfl⟩) hKw hA hwd rfl hl.1 rfl (lv_room (Nat.le_of_ble_eq_true rfl)) dL_law_4 ⟨Nat.le_of_ble_eq_true rfl, Nat.le_of_ble_eq_true rfl⟩ (fun u H locs hq hwd => ?_)
  obtain ⟨aN, aB, oh, bA, hs, aT, aR, aW, vN, vB, hV⟩ := u
  replace hwd : wd D (fun q : Nat => s.heap.size ≤ q) s (clW cI cC cR ox aN aB oh bA hs aT aR aW vN vB hV 0 0 (fun _ => 0) 0 0 0 (fun _ => 0) (fun _ => 0) (fun _ => 0) (fun _ => 0) (fun _ => 0) (fun _ => 0) (fun _ => 0) 0 (fun _ => 0) (fun _ => 0) (fun _ => 0) (fun _ => 0) (fun _ => 0) 0 (-5) (-5)) H locs := hwd
  replace hq : x5Z vN := hq
  refine W.widen (k := 138) (n := 3410) (by omega) (by omega) ?_
  refine lv_astore_n (lv' := [(1, .ref ox), (0, .ref b)]) hx hb dL_law_7 rfl hl (by decide) rfl (fun ls hl => ?_)
  refine va_new (ci := 7) (fs := [.int 0, .null, .null, .null, .int 0, .null, .int 0, .null, .int 0, .int 0, .int 0, .null, .null, .null, .null, .null, .int 0, .int 0, .null, .int 0]) (C := RX7) (T := TX7) (N := 20) hx hb htsT inX7 tyX7 tyX7_ok hown (htsT (.classLink RL 10 RX7) (List.mem_of_getElem? (i := 772) (by decide +kernel))) (htsT (.instantiable RX7 20) (List.mem_of_getElem? (i := 773) (by decide +kernel))) (htsT (.initialized RX7) (List.mem_of_getElem? (i := 76) (by decide +kernel))) hKw.1 hwd.1 hwd.2.1 hwd.2.2 hA rfl (fun j hj => by rcases (show j = 0 ∨ j = 1 ∨ j = 2 ∨ j = 3 ∨ j = 4 ∨ j = 5 ∨ j = 6 ∨ j = 7 ∨ j = 8 ∨ j = 9 ∨ j = 10 ∨ j = 11 ∨ j = 12 ∨ j = 13 ∨ j = 14 ∨ j = 15 ∨ j = 16 ∨ j = 17 ∨ j = 18 ∨ j = 19 by omega) with rfl | rfl | rfl | rfl | rfl | rfl | rfl | rfl | rfl | rfl | rfl | rfl | rfl | rfl | rfl | rfl | rfl | rfl | rfl | rfl <;> rfl) (Nat.le_of_ble_eq_true rfl) (Nat.le_of_ble_eq_true rfl) dL_law_8 (fun om H h1 h2 h3 => ?_)
  replace hwd : wd D (fun q : Nat => s.heap.size ≤ q) s (clW cI cC cR ox aN aB oh bA hs aT aR aW vN vB hV 0 0 (fun _ => 0) 0 0 0 (fun _ => 0) (fun _ => 0) (fun _ => 0) (fun _ => 0) (fun _ => 0) (fun _ => 0) (fun _ => 0) 0 (fun _ => 0) (fun _ => 0) (fun _ => 0) (fun _ => 0) (fun _ => 0) 0 (-5) (-5) ++ [(om, .inr (7, [.int 0, .null, .null, .null, .int 0, .null, .int 0, .null, .int 0, .int 0, .int 0, .null, .null, .null, .null, .null, .int 0, .int 0, .null, .int 0]))]) H locs := ⟨h1, h2, h3⟩
  clear h1 h2 h3
  refine W.widen (k := 139) (n := 3430) (by omega) (by omega) ?_
  refine lv_dup hx hb dL_law_11 rfl ?_
  refine kcI (rest := [.ref om]) (X := clW cI cC cR ox aN aB oh bA hs aT aR aW vN vB hV 0 0 (fun _ => 0) 0 0 0 (fun _ => 0) (fun _ => 0) (fun _ => 0) (fun _ => 0) (fun _ => 0) (fun _ => 0) (fun _ => 0) 0 (fun _ => 0) (fun _ => 0) (fun _ => 0) (fun _ => 0) (fun _ => 0) 0 (-5) (-5)) ⟨hx, hb, hml, hown, hts⟩ (c_X7_init l om H.size init_ok) (cwI 0 hts gL_law_X7_init rfl rfl rfl (htsT (.initialized RX7) (List.mem_of_getElem? (i := 76) (by decide +kernel))) (htsT (.methodLink RL 12 yX7_init) (List.mem_of_getElem? (i := 774) (by decide +kernel))) (htsT (.instanceMethod yX7_init) (List.mem_of_getElem? (i := 775) (by decide +kernel))) rfl hd_X7_init ⟨Nat.le_of_ble_eq_true rfl, Nat.le_of_ble_eq_true rfl⟩) hKw hA hwd rfl hl.1 rfl (lv_room (Nat.le_of_ble_eq_true rfl)) dL_law_12 ⟨Nat.le_of_ble_eq_true rfl, Nat.le_of_ble_eq_true rfl⟩ (fun u H locs hq2 hwd => ?_)
  obtain ⟨am, s7⟩ := u
  replace hq2 : s7 = sN N0 := hq2
  subst hq2
  replace hwd : wd D (fun q : Nat => s.heap.size ≤ q) s (clW cI cC cR ox aN aB oh bA hs aT aR aW vN vB hV 0 0 (fun _ => 0) 0 0 0 (fun _ => 0) (fun _ => 0) (fun _ => 0) (fun _ => 0) (fun _ => 0) (fun _ => 0) (fun _ => 0) 0 (fun _ => 0) (fun _ => 0) (fun _ => 0) (fun _ => 0) (fun _ => 0) 0 (-5) (-5) ++ ww_X7_init cI cC om (am 0) (am 1) (am 2) (am 3) (am 4) (am 5) (am 6) (am 7) (am 8) (am 9) (am 10) (nI 0) 0 0 0 (-5) 0 0 0 0 (sN N0) (fun _ => 0) (fun _ => 0) (fun _ => 0) (fun _ => 0) (fun _ => 0) (fun _ => 0) (fun _ => 0) (fun _ => 0) (fun _ => 0) (fun _ => 0)) H locs := hwd
  refine W.widen (k := 150) (n := 6968) (by omega) (by omega) ?_
  refine lv_astore_n (lv' := [(2, .ref om), (1, .ref ox), (0, .ref b)]) hx hb dL_law_15 rfl hl (by decide) rfl (fun ls hl => ?_)
  refine lv_iconst (v := nI 0) hx hb dL_law_16 (by decide) ?_
  refine lv_istore_n (lv' := [(3, .int (nI 0)), (2, .ref om), (1, .ref ox), (0, .ref b)]) hx hb dL_law_17 rfl hl (by decide) rfl (fun ls hl => ?_)
  replace hwd : wd D (fun q : Nat => s.heap.size ≤ q) s (clW cI cC cR ox aN aB oh bA hs aT aR aW vN vB hV (nI 0) (nI 0) (fun _ => nI 0) (nI 0) (nI 0) (nI 0) (fun _ => nI 0) (fun _ => nI 0) (fun _ => nI 0) (fun _ => nI 0) (fun _ => nI 0) (fun _ => nI 0) (fun _ => nI 0) (nI 0) (fun _ => nI 0) (fun _ => nI 0) (fun _ => nI 0) (fun _ => nI 0) (fun _ => nI 0) (nI 0) (-5) (-5) ++ ww_X7_init cI cC om (am 0) (am 1) (am 2) (am 3) (am 4) (am 5) (am 6) (am 7) (am 8) (am 9) (am 10) (nI 0) (nI 0) (nI 0) (nI 0) (-5) (nI 0) (nI 0) (nI 0) (nI 0) (sN N0) (fun _ => nI 0) (sN (fun _ => 0)) (sN (fun _ => 0)) (fun _ => nI 0) (fun _ => nI 0) (fun _ => nI 0) (fun _ => nI 0) (fun _ => nI 0) (fun _ => nI 0) (fun _ => nI 0)) H locs := hwd
  have hLS : LSt D cI cC cR s ox om (3 * 0) H locs := ⟨aN, aB, oh, bA, hs, aT, aR, aW, am, vN, vB, hV, (nI 0), (fun _ => nI 0), (nI 0), (nI 0), (fun _ => nI 0), (fun _ => nI 0), (fun _ => nI 0), (fun _ => nI 0), (fun _ => nI 0), (fun _ => nI 0), (fun _ => nI 0), (nI 0), (fun _ => nI 0), (fun _ => nI 0), (fun _ => nI 0), (fun _ => nI 0), (fun _ => nI 0), (nI 0), (-5), (-5), (nI 0), (-5), (nI 0), (nI 0), (nI 0), (nI 0), (fun _ => nI 0), (fun _ => nI 0), (fun _ => nI 0), (fun _ => nI 0), (fun _ => nI 0), (fun _ => nI 0), (fun _ => nI 0), (fun _ => nI 0), N0, (fun _ => 0), (fun _ => 0), (fun _ => 0), 0, 0, hwd, N0_inv, N0_rs hq, ⟨Nat.zero_le 4, fun k hk => absurd hk (Nat.not_lt_zero k), fun j _ => rfl, Or.inl rfl⟩, ⟨Nat.zero_le 80, fun j hj => absurd hj (Nat.not_lt_zero j)⟩, ⟨rfl, Or.inl ⟨rfl, rfl⟩⟩⟩
  exact law_loop (adK := adK) (adV := adV) ⟨hx, hb, hml, hown, hts, hX, hbl, hKw, hT⟩ hr hlocks hL (L + 4) 0 (by omega) (by omega) H locs hLS ls (lv_sub hl [3, 2, 1, 0] rfl)
