set_option maxRecDepth 100000 in
set_option maxHeartbeats 4000000 in
/-- YOUR PART: from the entry, for every script of at most 260 ints, the law comes to its end with true ('hflags': the launch's flags, for a law that throws: no stack traces) -/
theorem whole_start {p : Program} {e : Env} {s : State} {m : MethodId} {below : List Frame} {meth : Method} {c : Code} (l : Launch) (hflags : l.flags = flags0) {b L : Nat} {xs : Nat → Int32} (hL : L ≤ 260) (C0 : lw_At p s m meth c b L xs) : W p l e room_1 s m #[Value.ref b] below meth c s.heap [] 0 0 (lw_Z below #[Value.ref b] s) (entryFrame m ([Value.ref b] : List Value).toArray 12) := by
  obtain ⟨hx, hb, hr, hml, hown0, htsT, hX, hbl, hlocks, hgv⟩ := id C0
  have hown : s.vm.findClass RL = some m.cls := hown0
  have hts : ∀ w ∈ wsL_law, w.before #[Value.ref b] s = true := fun w h => htsT w (wsL_law_in w h)
  have hA : ∀ q : Nat, s.heap.size ≤ q → (fun q : Nat => s.heap.size ≤ q) q := fun _ h => h
  obtain ⟨D, cI, cC, cR, hKw⟩ := start_kw htsT
  have hS0 : va_S (fun q : Nat => s.heap.size ≤ q) s.heap s.heap [] := va_S.rf
  have hP0 : va_P D vwCl [] s.heap := fun k q h => by simp at h
  have hD0 : va_D (fun q : Nat => s.heap.size ≤ q) [] := ⟨fun i j p q h => by simp at h, fun k q h => by simp at h⟩
  have hl := lv_entry ([.ref b]) (n := 12) (Nat.le_of_ble_eq_true rfl)
  rw [lg_entry_eq]
  generalize (lg_sl ([.ref b]) ++ List.replicate (12 - (lg_sl ([.ref b])).length) Slot.unset).toArray = ls at hl ⊢
  have hl : lv_has ls 12 [(0, .ref b)] := hl
  refine va_new (ci := 6) (fs := [.null, .null, .null, .null, .null, .null, .int 0, .int 0]) (C := RX6) (T := TX6) (N := 8) hx hb htsT inX6 tyX6 tyX6_ok hown (htsT (.classLink RL 13 RX6) (List.mem_of_getElem? (i := 28) (by decide +kernel))) (htsT (.instantiable RX6 8) (List.mem_of_getElem? (i := 29) (by decide +kernel))) (htsT (.initialized RX6) (List.mem_of_getElem? (i := 18) (by decide +kernel))) hKw.1 hP0 hD0 hS0 hA rfl (fun j hj => by rcases (show j = 0 ∨ j = 1 ∨ j = 2 ∨ j = 3 ∨ j = 4 ∨ j = 5 ∨ j = 6 ∨ j = 7 by omega) with rfl | rfl | rfl | rfl | rfl | rfl | rfl | rfl <;> rfl) (Nat.le_of_ble_eq_true rfl) (Nat.le_of_ble_eq_true rfl) dL_law_0 (fun ox H h1 h2 h3 => ?_)
  have hwd : wd D (fun q : Nat => s.heap.size ≤ q) s ([] ++ [(ox, .inr (6, [.null, .null, .null, .null, .null, .null, .int 0, .int 0]))]) H [] := ⟨h1, h2, h3⟩
  clear h1 h2 h3
  refine W.widen (k := 1) (n := 8) (by omega) (by omega) ?_
  refine lv_dup hx hb dL_law_3 rfl ?_
  refine kcI (rest := [.ref ox]) (X := []) ⟨hx, hb, hml, hown, hts⟩ (c_X6_init3 l ox H.size) (cwI 0 hts gL_law_X6_init rfl rfl rfl (htsT (.initialized RX6) (List.mem_of_getElem? (i := 18) (by decide +kernel))) (htsT (.methodLink RL 80 yX6_init) (List.mem_of_getElem? (i := 30) (by decide +kernel))) (htsT (.instanceMethod yX6_init) (List.mem_of_getElem? (i := 31) (by decide +kernel))) rfl hd_X6_init ⟨Nat.le_of_ble_eq_true rfl, Nat.le_of_ble_eq_true rfl⟩) hKw hA hwd rfl hl.1 rfl (lv_room (Nat.le_of_ble_eq_true rfl)) dL_law_4 ⟨Nat.le_of_ble_eq_true rfl, Nat.le_of_ble_eq_true rfl⟩ (fun u H locs hq hwd => ?_)
  obtain ⟨aN, aB, oh, bA, hs, aT, aR, aW, vN, vB, hV⟩ := u
  replace hwd : wd D (fun q : Nat => s.heap.size ≤ q) s (clW cI cC cR ox aN aB oh bA hs aT aR aW vN vB hV 0 0 (fun _ => 0) 0 0 0 (fun _ => 0) (fun _ => 0) (fun _ => 0) (fun _ => 0) (fun _ => 0) (fun _ => 0) (fun _ => 0) 0 (fun _ => 0) (fun _ => 0) (fun _ => 0) (fun _ => 0) (fun _ => 0) 0 (-5) (-5)) H locs := hwd
  replace hq : x5Z vN := hq
  refine W.widen (k := 138) (n := 3410) (by omega) (by omega) ?_
  refine lv_astore_n (lv' := [(1, .ref ox), (0, .ref b)]) hx hb dL_law_7 rfl hl (by decide) rfl (fun ls hl => ?_)
  exact law_preA ⟨hx, hb, hr, hml, hts, hown, hlocks, hKw⟩ ⟨L, xs, hL, hX, hbl, Nat.not_le.mpr hbl⟩ (aN := aN) (aB := aB) (vN := vN) (vB := vB) (hV := hV) hq hwd (lv_sub hl [1, 0] rfl)
