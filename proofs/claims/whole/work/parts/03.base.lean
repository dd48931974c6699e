/-! nest mates: the words that name them, as one list each -/
def nwM : List (String × Nat × MethodName × String) := [("DrillWardens$State", 45, ⟨"DrillWardens", "copy", "([I[I)V"⟩, "DrillWardens"), ("DrillWardens$Leaves", 25, ⟨"DrillWardens", "copy", "([I[I)V"⟩, "DrillWardens"), ("DrillWardens$Drills", 34, ⟨"DrillWardens", "copy", "([I[I)V"⟩, "DrillWardens"), ("DrillWardens$State", 60, ⟨"DrillWardens", "isWithin", "(III)Z"⟩, "DrillWardens"), ("DrillWardens$History", 29, ⟨"DrillWardens", "isWithin", "(III)Z"⟩, "DrillWardens"), ("DrillWardens$Roster", 64, ⟨"DrillWardens", "isFloor", "(I)Z"⟩, "DrillWardens"), ("DrillWardens$Roster", 75, ⟨"DrillWardens", "isIn", "(II)Z"⟩, "DrillWardens"), ("DrillWardens$Roster", 87, ⟨"DrillWardens", "isWithin", "(III)Z"⟩, "DrillWardens"), ("DrillWardens$Leaves", 29, ⟨"DrillWardens", "isWithin", "(III)Z"⟩, "DrillWardens"), ("DrillWardens$Drills", 38, ⟨"DrillWardens", "isFloor", "(I)Z"⟩, "DrillWardens"), ("DrillWardens$Drills", 42, ⟨"DrillWardens", "isPerson", "(I)Z"⟩, "DrillWardens"), ("DrillWardens$OrderText", 26, ⟨"DrillWardens", "isWithin", "(III)Z"⟩, "DrillWardens"), ("DrillWardens$Drills", 45, ⟨"DrillWardens", "isWithin", "(III)Z"⟩, "DrillWardens"), ("DrillWardens$State", 79, ⟨"DrillWardens", "isIn", "(II)Z"⟩, "DrillWardens")]
def nwF : List (String × Nat × String × String × String × String) := [("DrillWardens", 235, "DrillWardens$Leaves", "granted", "I", "DrillWardens"), ("DrillWardens", 241, "DrillWardens$Drills", "minutes", "I", "DrillWardens"), ("DrillWardens", 172, "DrillWardens$Drills", "held", "[I", "DrillWardens"), ("DrillWardens$State", 76, "DrillWardens$Drills", "quarters", "[I", "DrillWardens"), ("DrillWardens", 192, "DrillWardens$Drills", "led", "[I", "DrillWardens"), ("DrillWardens", 142, "DrillWardens$State", "today", "I", "DrillWardens"), ("DrillWardens$Roster", 44, "DrillWardens$State", "settings", "[I", "DrillWardens"), ("DrillWardens", 89, "DrillWardens$State", "settings", "[I", "DrillWardens"), ("DrillWardens$Roster", 55, "DrillWardens$State", "needs", "[I", "DrillWardens"), ("DrillWardens", 73, "DrillWardens$State", "needs", "[I", "DrillWardens"), ("DrillWardens$Roster", 61, "DrillWardens$State", "rowSizes", "[I", "DrillWardens"), ("DrillWardens", 165, "DrillWardens$State", "rowSizes", "[I", "DrillWardens"), ("DrillWardens", 86, "DrillWardens$State", "trainedUntil", "[I", "DrillWardens"), ("DrillWardens", 96, "DrillWardens$State", "leaves", "LDrillWardens$Leaves;", "DrillWardens"), ("DrillWardens", 168, "DrillWardens$State", "drills", "LDrillWardens$Drills;", "DrillWardens"), ("DrillWardens", 244, "DrillWardens$History", "size", "I", "DrillWardens"), ("DrillWardens", 247, "DrillWardens$OrderText", "length", "I", "DrillWardens"), ("DrillWardens", 156, "DrillWardens$Roster", "sizes", "[I", "DrillWardens"), ("DrillWardens", 162, "DrillWardens$Roster", "helpers", "[I", "DrillWardens"), ("DrillWardens", 229, "DrillWardens$Roster", "serving", "I", "DrillWardens")]
def nwMc (q : String × Nat × MethodName × String) : Cond := .methodLinkNest q.1 q.2.1 q.2.2.1 q.2.2.2
def nwFc (q : String × Nat × String × String × String × String) : Cond := .fieldLinkNest q.1 q.2.1 q.2.2.1 q.2.2.2.1 q.2.2.2.2.1 q.2.2.2.2.2
def NW (U : State) : Prop := (∀ q ∈ nwM, va_Nw (nwMc q) U) ∧ ∀ q ∈ nwF, va_Nw (nwFc q) U
theorem NW.same {u U : State} (h : u.vm = U.vm) (k : NW u) : NW U := ⟨fun q hq => va_Nw.same rfl h (k.1 q hq), fun q hq => va_Nw.same rfl h (k.2 q hq)⟩
theorem NW.warm {s U : State} (hW : s.WarmedH U.vm) (k : NW s) : NW U := ⟨fun q hq => va_Nw.warmM hW (k.1 q hq), fun q hq => va_Nw.warmF hW (k.2 q hq)⟩
theorem nwm_0 {U : State} (h : NW U) : va_Nw (.methodLinkNest "DrillWardens$State" 45 ⟨"DrillWardens", "copy", "([I[I)V"⟩ "DrillWardens") U := h.1 _ (List.mem_of_getElem? (i := 0) rfl)
theorem nwm_1 {U : State} (h : NW U) : va_Nw (.methodLinkNest "DrillWardens$Leaves" 25 ⟨"DrillWardens", "copy", "([I[I)V"⟩ "DrillWardens") U := h.1 _ (List.mem_of_getElem? (i := 1) rfl)
theorem nwm_2 {U : State} (h : NW U) : va_Nw (.methodLinkNest "DrillWardens$Drills" 34 ⟨"DrillWardens", "copy", "([I[I)V"⟩ "DrillWardens") U := h.1 _ (List.mem_of_getElem? (i := 2) rfl)
theorem nwm_3 {U : State} (h : NW U) : va_Nw (.methodLinkNest "DrillWardens$State" 60 ⟨"DrillWardens", "isWithin", "(III)Z"⟩ "DrillWardens") U := h.1 _ (List.mem_of_getElem? (i := 3) rfl)
theorem nwm_4 {U : State} (h : NW U) : va_Nw (.methodLinkNest "DrillWardens$History" 29 ⟨"DrillWardens", "isWithin", "(III)Z"⟩ "DrillWardens") U := h.1 _ (List.mem_of_getElem? (i := 4) rfl)
theorem nwm_5 {U : State} (h : NW U) : va_Nw (.methodLinkNest "DrillWardens$Roster" 64 ⟨"DrillWardens", "isFloor", "(I)Z"⟩ "DrillWardens") U := h.1 _ (List.mem_of_getElem? (i := 5) rfl)
theorem nwm_6 {U : State} (h : NW U) : va_Nw (.methodLinkNest "DrillWardens$Roster" 75 ⟨"DrillWardens", "isIn", "(II)Z"⟩ "DrillWardens") U := h.1 _ (List.mem_of_getElem? (i := 6) rfl)
theorem nwm_7 {U : State} (h : NW U) : va_Nw (.methodLinkNest "DrillWardens$Roster" 87 ⟨"DrillWardens", "isWithin", "(III)Z"⟩ "DrillWardens") U := h.1 _ (List.mem_of_getElem? (i := 7) rfl)
theorem nwm_8 {U : State} (h : NW U) : va_Nw (.methodLinkNest "DrillWardens$Leaves" 29 ⟨"DrillWardens", "isWithin", "(III)Z"⟩ "DrillWardens") U := h.1 _ (List.mem_of_getElem? (i := 8) rfl)
theorem nwm_9 {U : State} (h : NW U) : va_Nw (.methodLinkNest "DrillWardens$Drills" 38 ⟨"DrillWardens", "isFloor", "(I)Z"⟩ "DrillWardens") U := h.1 _ (List.mem_of_getElem? (i := 9) rfl)
theorem nwm_10 {U : State} (h : NW U) : va_Nw (.methodLinkNest "DrillWardens$Drills" 42 ⟨"DrillWardens", "isPerson", "(I)Z"⟩ "DrillWardens") U := h.1 _ (List.mem_of_getElem? (i := 10) rfl)
theorem nwm_11 {U : State} (h : NW U) : va_Nw (.methodLinkNest "DrillWardens$OrderText" 26 ⟨"DrillWardens", "isWithin", "(III)Z"⟩ "DrillWardens") U := h.1 _ (List.mem_of_getElem? (i := 11) rfl)
theorem nwm_12 {U : State} (h : NW U) : va_Nw (.methodLinkNest "DrillWardens$Drills" 45 ⟨"DrillWardens", "isWithin", "(III)Z"⟩ "DrillWardens") U := h.1 _ (List.mem_of_getElem? (i := 12) rfl)
theorem nwm_13 {U : State} (h : NW U) : va_Nw (.methodLinkNest "DrillWardens$State" 79 ⟨"DrillWardens", "isIn", "(II)Z"⟩ "DrillWardens") U := h.1 _ (List.mem_of_getElem? (i := 13) rfl)
theorem nwf_0 {U : State} (h : NW U) : va_Nw (.fieldLinkNest "DrillWardens" 235 "DrillWardens$Leaves" "granted" "I" "DrillWardens") U := h.2 _ (List.mem_of_getElem? (i := 0) rfl)
theorem nwf_1 {U : State} (h : NW U) : va_Nw (.fieldLinkNest "DrillWardens" 241 "DrillWardens$Drills" "minutes" "I" "DrillWardens") U := h.2 _ (List.mem_of_getElem? (i := 1) rfl)
theorem nwf_2 {U : State} (h : NW U) : va_Nw (.fieldLinkNest "DrillWardens" 172 "DrillWardens$Drills" "held" "[I" "DrillWardens") U := h.2 _ (List.mem_of_getElem? (i := 2) rfl)
theorem nwf_3 {U : State} (h : NW U) : va_Nw (.fieldLinkNest "DrillWardens$State" 76 "DrillWardens$Drills" "quarters" "[I" "DrillWardens") U := h.2 _ (List.mem_of_getElem? (i := 3) rfl)
theorem nwf_4 {U : State} (h : NW U) : va_Nw (.fieldLinkNest "DrillWardens" 192 "DrillWardens$Drills" "led" "[I" "DrillWardens") U := h.2 _ (List.mem_of_getElem? (i := 4) rfl)
theorem nwf_5 {U : State} (h : NW U) : va_Nw (.fieldLinkNest "DrillWardens" 142 "DrillWardens$State" "today" "I" "DrillWardens") U := h.2 _ (List.mem_of_getElem? (i := 5) rfl)
theorem nwf_6 {U : State} (h : NW U) : va_Nw (.fieldLinkNest "DrillWardens$Roster" 44 "DrillWardens$State" "settings" "[I" "DrillWardens") U := h.2 _ (List.mem_of_getElem? (i := 6) rfl)
theorem nwf_7 {U : State} (h : NW U) : va_Nw (.fieldLinkNest "DrillWardens" 89 "DrillWardens$State" "settings" "[I" "DrillWardens") U := h.2 _ (List.mem_of_getElem? (i := 7) rfl)
theorem nwf_8 {U : State} (h : NW U) : va_Nw (.fieldLinkNest "DrillWardens$Roster" 55 "DrillWardens$State" "needs" "[I" "DrillWardens") U := h.2 _ (List.mem_of_getElem? (i := 8) rfl)
theorem nwf_9 {U : State} (h : NW U) : va_Nw (.fieldLinkNest "DrillWardens" 73 "DrillWardens$State" "needs" "[I" "DrillWardens") U := h.2 _ (List.mem_of_getElem? (i := 9) rfl)
theorem nwf_10 {U : State} (h : NW U) : va_Nw (.fieldLinkNest "DrillWardens$Roster" 61 "DrillWardens$State" "rowSizes" "[I" "DrillWardens") U := h.2 _ (List.mem_of_getElem? (i := 10) rfl)
theorem nwf_11 {U : State} (h : NW U) : va_Nw (.fieldLinkNest "DrillWardens" 165 "DrillWardens$State" "rowSizes" "[I" "DrillWardens") U := h.2 _ (List.mem_of_getElem? (i := 11) rfl)
theorem nwf_12 {U : State} (h : NW U) : va_Nw (.fieldLinkNest "DrillWardens" 86 "DrillWardens$State" "trainedUntil" "[I" "DrillWardens") U := h.2 _ (List.mem_of_getElem? (i := 12) rfl)
theorem nwf_13 {U : State} (h : NW U) : va_Nw (.fieldLinkNest "DrillWardens" 96 "DrillWardens$State" "leaves" "LDrillWardens$Leaves;" "DrillWardens") U := h.2 _ (List.mem_of_getElem? (i := 13) rfl)
theorem nwf_14 {U : State} (h : NW U) : va_Nw (.fieldLinkNest "DrillWardens" 168 "DrillWardens$State" "drills" "LDrillWardens$Drills;" "DrillWardens") U := h.2 _ (List.mem_of_getElem? (i := 14) rfl)
theorem nwf_15 {U : State} (h : NW U) : va_Nw (.fieldLinkNest "DrillWardens" 244 "DrillWardens$History" "size" "I" "DrillWardens") U := h.2 _ (List.mem_of_getElem? (i := 15) rfl)
theorem nwf_16 {U : State} (h : NW U) : va_Nw (.fieldLinkNest "DrillWardens" 247 "DrillWardens$OrderText" "length" "I" "DrillWardens") U := h.2 _ (List.mem_of_getElem? (i := 16) rfl)
theorem nwf_17 {U : State} (h : NW U) : va_Nw (.fieldLinkNest "DrillWardens" 156 "DrillWardens$Roster" "sizes" "[I" "DrillWardens") U := h.2 _ (List.mem_of_getElem? (i := 17) rfl)
theorem nwf_18 {U : State} (h : NW U) : va_Nw (.fieldLinkNest "DrillWardens" 162 "DrillWardens$Roster" "helpers" "[I" "DrillWardens") U := h.2 _ (List.mem_of_getElem? (i := 18) rfl)
theorem nwf_19 {U : State} (h : NW U) : va_Nw (.fieldLinkNest "DrillWardens" 229 "DrillWardens$Roster" "serving" "I" "DrillWardens") U := h.2 _ (List.mem_of_getElem? (i := 19) rfl)
/-! what holds of the tables at a frame's start -/
def kw (D : va_G) (cI cC cR : ClassId) (U : State) : Prop := va_K D vwCl [(cI, .int), (cC, .char), (cR, .object "DrillWardens$State")] U ∧ NW U
theorem kw.calling {D : va_G} {cI cC cR : ClassId} {U : State} {g : JFrame} {mk : MethodId} {a : Array Value} (h : kw D cI cC cR U) : kw D cI cC cR (U.calling g mk a) := ⟨va_K.moved (u := U) (U := U.calling g mk a) (Vm.Alike.refl U.vm) h.1, NW.same rfl h.2⟩
theorem kw.warm {D : va_G} {cI cC cR : ClassId} {s U : State} (hW : s.WarmedH U.vm) (h : kw D cI cC cR s) : kw D cI cC cR U := ⟨va_K.moved hW.alike h.1, NW.warm hW h.2⟩
/-! a world: its cells, apart, and nothing else changed -/
def wd (D : va_G) (A : Nat → Prop) (s : State) (X : va_W) (H : Heap) (locs : List Loc) : Prop := va_P D vwCl X H ∧ va_D A X ∧ va_S A s.heap H locs
def PcW (D : va_G) (cI cC cR : ClassId) (av : List Value) (ws : va_W) (sz : Nat) : Array Value → State → Prop := va_Pc av (fun U => U.heap.size = sz ∧ va_P D vwCl ws U.heap ∧ kw D cI cC cR U ∧ va_D (fun _ => True) ws)
theorem PcW.blind {D : va_G} {cI cC cR : ClassId} {av : List Value} {ws : va_W} {sz : Nat} : FrameBlind (PcW D cI cC cR av ws sz) := fun a U g mk q => by
  obtain ⟨q0, q1, qP, qK, qD⟩ := q
  exact ⟨q0, q1, qP, kw.calling qK, qD⟩
theorem PcW.of {D : va_G} {cI cC cR : ClassId} {av : List Value} {ws : va_W} {A : Nat → Prop} {s : State} {H : Heap} (hK : kw D cI cC cR s) (hP : va_P D vwCl ws H) (hD : va_D A ws) (U : State) (hU : U.heap = H) (hW : s.WarmedH U.vm) : PcW D cI cC cR av ws H.size av.toArray U :=
  ⟨rfl, by rw [hU], by rw [hU]; exact hP, hK.warm hW, hD.weaken (fun _ _ _ _ => trivial)⟩
def QiW {S : Type} (D : va_G) (post : Int32 → S → Prop) (world : S → va_W) (ws : va_W) (sz : Nat) : Array Value → State → Outcome → State → Prop := va_Qi post (fun u t => va_P D vwCl (world u) t.heap ∧ va_D (va_A ws sz) (world u)) (va_A ws sz)
def QvW {S : Type} (D : va_G) (post : S → Prop) (world : S → va_W) (ws : va_W) (sz : Nat) : Array Value → State → Outcome → State → Prop := va_Qv post (fun u t => va_P D vwCl (world u) t.heap ∧ va_D (va_A ws sz) (world u)) (va_A ws sz)
/-- a frame's own facts -/
def cx (bytes : ByteArray) (ret : Option FieldType) (nL : Nat) (own : String) (ws : List Cond) (p : Program) (m : MethodId) (meth : Method) (c : Code) (s : State) (args : Array Value) (D : va_G) (cI cC cR : ClassId) (A : Nat → Prop) : Prop :=
  p.tables.exec = Jvm.exec ∧ c.code = bytes ∧ meth.sig.returnType = ret ∧ c.maxLocals = nL ∧ (∀ w ∈ ws, w.before args s = true) ∧ s.vm.findClass own = some m.cls ∧ meth.locks = false ∧ kw D cI cC cR s ∧ (∀ q : Nat, s.heap.size ≤ q → A q)
theorem fm_of {ws wc : va_W} {is : List Nat} (h : is.map (fun i => ws[i]?) = wc.map some) : is.filterMap (fun i => ws[i]?) = wc := by
  have e : is.filterMap (fun i => ws[i]?) = (is.map (fun i => ws[i]?)).filterMap id := by rw [List.filterMap_map]; rfl
  rw [e, h, List.filterMap_map]
  exact List.filterMap_some
theorem wd.sub {D : va_G} {A : Nat → Prop} {s : State} {X X' : va_W} {H : Heap} {locs : List Loc} (h : wd D A s X H locs) (is : List Nat) (hn : va_nd is = true) (hs : is.map (fun i => X[i]?) = X'.map some) : wd D A s X' H locs := ⟨h.1.sub is (fm_of hs), h.2.1.sub is hn hs, h.2.2⟩
theorem va_nd_range' : ∀ (n s : Nat), va_nd (List.range' s n) = true := by
  intro n
  induction n with
  | zero => intro s; rfl
  | succ n ih =>
    intro s
    rw [List.range'_succ]
    show (decide (s ∉ List.range' (s + 1) n) && va_nd (List.range' (s + 1) n)) = true
    rw [ih (s + 1), Bool.and_true, decide_eq_true_eq]
    intro h
    have := (List.mem_range'_1.mp h).1
    omega
theorem va_nd_range (n : Nat) : va_nd (List.range n) = true := by
  rw [List.range_eq_range']
  exact va_nd_range' n 0
section KC
variable {p : Program} {l : Launch} {e : Env} {R : Room} {s : State} {m : MethodId} {args : Array Value} {below : List Frame} {meth : Method} {c : Code} {H : Heap} {locs : List Loc} {Z : State → Prop} {D : va_G} {cI cC cR : ClassId} {A : Nat → Prop} {pc : Nat} {ls : Array Slot} {rest As st0 : List Value} {b : Addr} {own C : String} {index n maxL nL : Nat} {y : MethodName} {bytes cc : ByteArray} {ret : Option FieldType} {ws Ts : List Cond} {rm : Room} {X wc : va_W} {k0 n0 : Nat}
theorem kj {S : Type} {world W1 : S → va_W} (hw : wd D A s X H locs) (isC isR isO : List Nat) (hC : isC.map (fun i => X[i]?) = wc.map some) (wr : va_W) (hR : isR.map (fun i => X[i]?) = wr.map some) (hnR : va_nd isR = true) (hdis : ∀ i ∈ isR, i ∉ isC) (hnO : va_nd isO = true) (hO : ∀ u, isO.map (fun i => (wr ++ world u)[i]?) = (W1 u).map some) {u : S} {H1 : Heap} {locs1 : List Loc} (hk1 : ∀ q : Nat, q < H.size → ¬ va_A wc H.size q → H1[q]? = H[q]?) (hF : ∀ q, va_A wc H.size q → A q) (hS1 : va_S A s.heap H1 locs1) (hP1 : va_P D vwCl (world u) H1) (hD1 : va_D (va_A wc H.size) (world u)) : wd D A s (W1 u) H1 locs1 := by
  obtain ⟨hP, hD, hS⟩ := hw
  obtain ⟨gP, gD⟩ := va_join (wr := wr) hP hD isC isR hC hR hnR hdis hk1 hF hP1 hD1
  exact ⟨gP.sub isO (fm_of (hO u)), gD.sub isO hnO (hO u), hS1⟩
/-- a call of an instance method that answers a whole number -/
theorem kcVi {S : Type} {post : Int32 → S → Prop} {world : S → va_W} {W1 : S → va_W} (hc0 : k0 ≤ R.cells ∧ n0 ≤ R.slots) (S0 : CallFix p m c cc nL s args Ts own) (hM : Met l y ws rm (PcW D cI cC cR (.ref b :: As) wc H.size) (QiW D post world wc H.size) 0 0 (va_A wc H.size)) (cw : CallW R s args own C index y bytes maxL ret ws rm 0 0 n) (hK : kw D cI cC cR s) (hA : ∀ q : Nat, s.heap.size ≤ q → A q) (hw : wd D A s X H locs) (isC isR isO : List Nat) (wr : va_W) (hC : isC.map (fun i => X[i]?) = wc.map some) (hR : isR.map (fun i => X[i]?) = wr.map some) (hnC : va_nd isC = true) (hnR : va_nd isR = true) (hdis : ∀ i ∈ isR, i ∉ isC) (hnO : va_nd isO = true) (hO : ∀ u, isO.map (fun i => (wr ++ world u)[i]?) = (W1 u).map some)
    (q0 ci : Nat) {cl : vw_C} {fs : List Value} (hc : vwCl[ci]? = some cl) (hcC : cl.1 = C) (he : X[q0]? = some (b, .inr (ci, fs))) (hn : As.length = n) (hsz : ls.size = nL) (hstk : st0 = As.reverse ++ .ref b :: rest) (hW : 2 * (F0 m pc ls st0).monitorRoom + (rest.map fun v => v.category).sum ≤ 8) (hdg : decode cc pc = .ok (.invokevirtual index, 3))
    (kk : ∀ (r : Int32) (u : S) (H1 : Heap) (locs1 : List Loc), post r u → wd D A s (W1 u) H1 locs1 → W p l e R s m args below meth c H1 locs1 k0 n0 Z (F0 m (pc + 3) ls (.int r :: rest))) : W p l e R s m args below meth c H locs k0 n0 Z (F0 m pc ls st0) := by
  have hPc := hw.1.sub isC (fm_of hC)
  have hDc := hw.2.1.sub isC hnC hC
  have hF := va_free hw.2.1 hw.2.2 hA isC hC
  refine va_calli (va_runV (As := As) (rest := rest) S0 hM cw ⟨PcW.blind, by subst hcC; exact va_recv hK.1 hw.1 hc he, fun U hU hW => PcW.of hK hPc hDc U hU hW⟩ rfl hn hsz hstk hW hdg hc0) hw.2.2 (fun q _ h => hF q h) hF (fun r u t H1 locs1 ht hvm hp hB hz1 hk1 hS => ?_)
  obtain ⟨hP1, hD1⟩ := hB
  rw [ht] at hP1
  exact kk r u H1 locs1 hp (kj hw isC isR isO hC wr hR hnR hdis hnO hO hk1 hF hS hP1 hD1)
/-- .. that answers nothing -/
theorem kcVv {S : Type} {post : S → Prop} {world : S → va_W} {W1 : S → va_W} (hc0 : k0 ≤ R.cells ∧ n0 ≤ R.slots) (S0 : CallFix p m c cc nL s args Ts own) (hM : Met l y ws rm (PcW D cI cC cR (.ref b :: As) wc H.size) (QvW D post world wc H.size) 0 0 (va_A wc H.size)) (cw : CallW R s args own C index y bytes maxL ret ws rm 0 0 n) (hK : kw D cI cC cR s) (hA : ∀ q : Nat, s.heap.size ≤ q → A q) (hw : wd D A s X H locs) (isC isR isO : List Nat) (wr : va_W) (hC : isC.map (fun i => X[i]?) = wc.map some) (hR : isR.map (fun i => X[i]?) = wr.map some) (hnC : va_nd isC = true) (hnR : va_nd isR = true) (hdis : ∀ i ∈ isR, i ∉ isC) (hnO : va_nd isO = true) (hO : ∀ u, isO.map (fun i => (wr ++ world u)[i]?) = (W1 u).map some)
    (q0 ci : Nat) {cl : vw_C} {fs : List Value} (hc : vwCl[ci]? = some cl) (hcC : cl.1 = C) (he : X[q0]? = some (b, .inr (ci, fs))) (hn : As.length = n) (hsz : ls.size = nL) (hstk : st0 = As.reverse ++ .ref b :: rest) (hW : 2 * (F0 m pc ls st0).monitorRoom + (rest.map fun v => v.category).sum ≤ 8) (hdg : decode cc pc = .ok (.invokevirtual index, 3))
    (kk : ∀ (u : S) (H1 : Heap) (locs1 : List Loc), post u → wd D A s (W1 u) H1 locs1 → W p l e R s m args below meth c H1 locs1 k0 n0 Z (F0 m (pc + 3) ls rest)) : W p l e R s m args below meth c H locs k0 n0 Z (F0 m pc ls st0) := by
  have hPc := hw.1.sub isC (fm_of hC)
  have hDc := hw.2.1.sub isC hnC hC
  have hF := va_free hw.2.1 hw.2.2 hA isC hC
  refine va_callv (va_runV (As := As) (rest := rest) S0 hM cw ⟨PcW.blind, by subst hcC; exact va_recv hK.1 hw.1 hc he, fun U hU hW => PcW.of hK hPc hDc U hU hW⟩ rfl hn hsz hstk hW hdg hc0) hw.2.2 (fun q _ h => hF q h) hF (fun u t H1 locs1 ht hvm hp hB hz1 hk1 hS => ?_)
  obtain ⟨hP1, hD1⟩ := hB
  rw [ht] at hP1
  exact kk u H1 locs1 hp (kj hw isC isR isO hC wr hR hnR hdis hnO hO hk1 hF hS hP1 hD1)
/-- a call of a static method (of its own class) that answers a whole number and takes no cells -/
theorem kcSi {post : Int32 → Unit → Prop} (hc0 : k0 ≤ R.cells ∧ n0 ≤ R.slots) (S0 : CallFix p m c cc nL s args Ts own) (hM : Met l y ws rm (PcW D cI cC cR As [] H.size) (QiW D post (fun _ => []) [] H.size) 0 0 (va_A [] H.size)) (cw : CallB R s args own index y bytes maxL ret ws rm 0 0 n ∧ (Cond.static y).before args s = true) (hK : kw D cI cC cR s) (hA : ∀ q : Nat, s.heap.size ≤ q → A q) (hw : wd D A s X H locs) (hn : As.length = n) (hsz : ls.size = nL) (hstk : st0 = As.reverse ++ rest) (hW : 2 * (F0 m pc ls st0).monitorRoom + (rest.map fun v => v.category).sum ≤ 8) (hdg : decode cc pc = .ok (.invokestatic index, 3))
    (kk : ∀ (r : Int32) (H1 : Heap) (locs1 : List Loc), post r () → wd D A s X H1 locs1 → W p l e R s m args below meth c H1 locs1 k0 n0 Z (F0 m (pc + 3) ls (.int r :: rest))) : W p l e R s m args below meth c H locs k0 n0 Z (F0 m pc ls st0) := by
  have hPc : va_P D vwCl [] H := fun k q h => by simp at h
  have hDc : va_D A [] := ⟨fun i j p q h => by simp at h, fun k q h => by simp at h⟩
  have hF := va_free (wc := []) hw.2.1 hw.2.2 hA [] rfl
  refine va_calli (va_runS (As := As) (rest := rest) S0 hM cw ⟨PcW.blind, fun U hU hW => PcW.of hK hPc hDc U hU hW⟩ rfl hn hsz hstk hW hdg hc0) hw.2.2 (fun q _ h => hF q h) hF (fun r u t H1 locs1 ht hvm hp hB hz1 hk1 hS => ?_)
  exact kk r H1 locs1 hp ⟨hw.1.kept (fun k q hq => hk1 q.1 (hw.1 k q hq).lt (fun h => by rcases h with ⟨k2, e2, h⟩ | h; · simp at h
                                                                                         · exact absurd (hw.1 k q hq).lt (Nat.not_lt.mpr h))), hw.2.1, hS⟩
/-- .. of a nest mate's static method -/
theorem kcNi {post : Int32 → Unit → Prop} {host : String} (hc0 : k0 ≤ R.cells ∧ n0 ≤ R.slots) (S0 : CallFix p m c cc nL s args Ts own) (hM : Met l y ws rm (PcW D cI cC cR As [] H.size) (QiW D post (fun _ => []) [] H.size) 0 0 (va_A [] H.size)) (cw : va_CN R s args own index y host bytes maxL ret ws rm 0 0 n ∧ (Cond.static y).before args s = true ∧ True) (hK : kw D cI cC cR s) (hA : ∀ q : Nat, s.heap.size ≤ q → A q) (hw : wd D A s X H locs) (hn : As.length = n) (hsz : ls.size = nL) (hstk : st0 = As.reverse ++ rest) (hW : 2 * (F0 m pc ls st0).monitorRoom + (rest.map fun v => v.category).sum ≤ 8) (hdg : decode cc pc = .ok (.invokestatic index, 3))
    (kk : ∀ (r : Int32) (H1 : Heap) (locs1 : List Loc), post r () → wd D A s X H1 locs1 → W p l e R s m args below meth c H1 locs1 k0 n0 Z (F0 m (pc + 3) ls (.int r :: rest))) : W p l e R s m args below meth c H locs k0 n0 Z (F0 m pc ls st0) := by
  have hPc : va_P D vwCl [] H := fun k q h => by simp at h
  have hDc : va_D A [] := ⟨fun i j p q h => by simp at h, fun k q h => by simp at h⟩
  have hF := va_free (wc := []) hw.2.1 hw.2.2 hA [] rfl
  refine va_calli (va_runSN (As := As) (rest := rest) S0 hM cw ⟨PcW.blind, fun U hU hW => PcW.of hK hPc hDc U hU hW⟩ rfl hn hsz hstk hW hdg hc0) hw.2.2 (fun q _ h => hF q h) hF (fun r u t H1 locs1 ht hvm hp hB hz1 hk1 hS => ?_)
  exact kk r H1 locs1 hp ⟨hw.1.kept (fun k q hq => hk1 q.1 (hw.1 k q hq).lt (fun h => by rcases h with ⟨k2, e2, h⟩ | h; · simp at h
                                                                                         · exact absurd (hw.1 k q hq).lt (Nat.not_lt.mpr h))), hw.2.1, hS⟩
/-- .. of a nest mate's static method over cells, that answers nothing -/
theorem kcNv {S : Type} {post : S → Prop} {world : S → va_W} {W1 : S → va_W} {host : String} (hc0 : k0 ≤ R.cells ∧ n0 ≤ R.slots) (S0 : CallFix p m c cc nL s args Ts own) (hM : Met l y ws rm (PcW D cI cC cR As wc H.size) (QvW D post world wc H.size) 0 0 (va_A wc H.size)) (cw : va_CN R s args own index y host bytes maxL ret ws rm 0 0 n ∧ (Cond.static y).before args s = true ∧ True) (hK : kw D cI cC cR s) (hA : ∀ q : Nat, s.heap.size ≤ q → A q) (hw : wd D A s X H locs) (isC isR isO : List Nat) (wr : va_W) (hC : isC.map (fun i => X[i]?) = wc.map some) (hR : isR.map (fun i => X[i]?) = wr.map some) (hnC : va_nd isC = true) (hnR : va_nd isR = true) (hdis : ∀ i ∈ isR, i ∉ isC) (hnO : va_nd isO = true) (hO : ∀ u, isO.map (fun i => (wr ++ world u)[i]?) = (W1 u).map some)
    (hn : As.length = n) (hsz : ls.size = nL) (hstk : st0 = As.reverse ++ rest) (hW : 2 * (F0 m pc ls st0).monitorRoom + (rest.map fun v => v.category).sum ≤ 8) (hdg : decode cc pc = .ok (.invokestatic index, 3))
    (kk : ∀ (u : S) (H1 : Heap) (locs1 : List Loc), post u → wd D A s (W1 u) H1 locs1 → W p l e R s m args below meth c H1 locs1 k0 n0 Z (F0 m (pc + 3) ls rest)) : W p l e R s m args below meth c H locs k0 n0 Z (F0 m pc ls st0) := by
  have hPc := hw.1.sub isC (fm_of hC)
  have hDc := hw.2.1.sub isC hnC hC
  have hF := va_free hw.2.1 hw.2.2 hA isC hC
  refine va_callv (va_runSN (As := As) (rest := rest) S0 hM cw ⟨PcW.blind, fun U hU hW => PcW.of hK hPc hDc U hU hW⟩ rfl hn hsz hstk hW hdg hc0) hw.2.2 (fun q _ h => hF q h) hF (fun u t H1 locs1 ht hvm hp hB hz1 hk1 hS => ?_)
  obtain ⟨hP1, hD1⟩ := hB
  rw [ht] at hP1
  exact kk u H1 locs1 hp (kj hw isC isR isO hC wr hR hnR hdis hnO hO hk1 hF hS hP1 hD1)
/-- a new row of whole numbers -/
theorem kna (hx : p.tables.exec = Jvm.exec) (hb : c.code = cc) (harr : (Cond.arrayClass .int).before args s = true) (hK : kw D cI cC cR s) (hA : ∀ q : Nat, s.heap.size ≤ q → A q) (hw : wd D A s X H locs) (n : Nat) (hn : n ≤ 100000) (hcells : k0 + 1 ≤ R.cells) (hslots : n0 + n ≤ R.slots) (hdg : decode cc pc = .ok (.newarray .int, 2))
    (kk : ∀ (q : Nat) (H1 : Heap), wd D A s (X ++ [(q, .inl (cI, n, .inl (fun _ => 0)))]) H1 locs → W p l e R s m args below meth c H1 locs (k0 + 1) (n0 + n) Z (F0 m (pc + 2) ls (.ref q :: rest))) : W p l e R s m args below meth c H locs k0 n0 Z (F0 m pc ls (.int (nI n) :: rest)) := by
  refine va_newa (atype := .int) (ty := .int) (a0 := (n, .inl (fun _ => 0))) hx hb harr rfl hK.1 hw.1 hw.2.1 hw.2.2 hA (fun _ => rfl) (nI_pos (by omega)) (nI_clamp (by omega)) (show n * 4 ≤ _ by omega) hcells hslots hdg (fun q cA H1 hK1 hP1 hD1 hS1 => ?_)
  obtain rfl : cA = cI := Option.some.inj ((hK1.2 3 _ rfl).2.symm.trans (hK.1.2 0 _ rfl).2)
  exact kk q H1 ⟨hP1, hD1, hS1⟩
/-- a new row of signs -/
theorem knc (hx : p.tables.exec = Jvm.exec) (hb : c.code = cc) (harr : (Cond.arrayClass .char).before args s = true) (hK : kw D cI cC cR s) (hA : ∀ q : Nat, s.heap.size ≤ q → A q) (hw : wd D A s X H locs) (n : Nat) (hn : n ≤ 100000) (hcells : k0 + 1 ≤ R.cells) (hslots : n0 + n ≤ R.slots) (hdg : decode cc pc = .ok (.newarray .char, 2))
    (kk : ∀ (q : Nat) (H1 : Heap), wd D A s (X ++ [(q, .inl (cC, n, .inl (fun _ => 0)))]) H1 locs → W p l e R s m args below meth c H1 locs (k0 + 1) (n0 + n) Z (F0 m (pc + 2) ls (.ref q :: rest))) : W p l e R s m args below meth c H locs k0 n0 Z (F0 m pc ls (.int (nI n) :: rest)) := by
  refine va_newa (atype := .char) (ty := .char) (a0 := (n, .inl (fun _ => 0))) hx hb harr rfl hK.1 hw.1 hw.2.1 hw.2.2 hA (fun _ => rfl) (nI_pos (by omega)) (nI_clamp (by omega)) (show n * 2 ≤ _ by omega) hcells hslots hdg (fun q cA H1 hK1 hP1 hD1 hS1 => ?_)
  obtain rfl : cA = cC := Option.some.inj ((hK1.2 3 _ rfl).2.symm.trans (hK.1.2 1 _ rfl).2)
  exact kk q H1 ⟨hP1, hD1, hS1⟩
/-- a new row of references to states -/
theorem knr (hx : p.tables.exec = Jvm.exec) (hb : c.code = cc) (hown : s.vm.findClass own = some m.cls) (hclink : (Cond.classLink own index "DrillWardens$State").before args s = true) (hover : (Cond.arrayOver (.object "DrillWardens$State")).before args s = true) (hK : kw D cI cC cR s) (hA : ∀ q : Nat, s.heap.size ≤ q → A q) (hw : wd D A s X H locs) (n : Nat) (hn : n ≤ 100000) (hcells : k0 + 1 ≤ R.cells) (hslots : n0 + n ≤ R.slots) (hdg : decode cc pc = .ok (.anewarray index, 3))
    (kk : ∀ (q : Nat) (H1 : Heap), wd D A s (X ++ [(q, .inl (cR, n, .inr (.inr (.inr (.inr (fun _ => none))))))]) H1 locs → W p l e R s m args below meth c H1 locs (k0 + 1) (n0 + n) Z (F0 m (pc + 3) ls (.ref q :: rest))) : W p l e R s m args below meth c H locs k0 n0 Z (F0 m pc ls (.int (nI n) :: rest)) := by
  refine va_newq (C := "DrillWardens$State") hx hb hown hclink (va_AO.of hover) hK.1 hw.1 hw.2.1 hw.2.2 hA (nI_pos (by omega)) (nI_clamp (by omega)) (by omega) hcells hslots hdg (fun q cA H1 hK1 hP1 hD1 hS1 => ?_)
  obtain ⟨k1, c1, -, -, -, e1⟩ := (hK1.2 3 _ rfl).2
  obtain ⟨k2, c2, -, -, -, e2⟩ := (hK.1.2 2 _ rfl).2
  obtain rfl : cA = cR := Option.some.inj (e1.symm.trans e2)
  exact kk q H1 ⟨hP1, hD1, hS1⟩
theorem rng_map {a b : va_W} : (List.range a.length).map (fun i => (a ++ b)[i]?) = a.map some := by
  apply List.ext_getElem?
  intro i
  rw [List.getElem?_map, List.getElem?_map]
  by_cases h : i < a.length
  · rw [List.getElem?_range h]
    simp [List.getElem?_append_left h, List.getElem?_eq_getElem h]
  · have h1 : (List.range a.length)[i]? = none := List.getElem?_eq_none (by simpa using h)
    have h2 : a[i]? = none := List.getElem?_eq_none (by omega)
    rw [h1, h2]
    rfl
theorem kjn {S : Type} {X : va_W} {x : Nat × va_E} {world : S → va_W} (hw : wd D A s (X ++ [x]) H locs) {u : S} {H1 : Heap} {locs1 : List Loc} (hk1 : ∀ q : Nat, q < H.size → ¬ va_A [x] H.size q → H1[q]? = H[q]?) (hF : ∀ q, va_A [x] H.size q → A q) (hS1 : va_S A s.heap H1 locs1) (hP1 : va_P D vwCl (world u) H1) (hD1 : va_D (va_A [x] H.size) (world u)) : wd D A s (X ++ world u) H1 locs1 := by
  obtain ⟨hP, hD, hS⟩ := hw
  have hC : [X.length].map (fun i => (X ++ [x])[i]?) = [x].map some := by simp
  obtain ⟨gP, gD⟩ := va_join (wr := X) hP hD [X.length] (List.range X.length) hC rng_map (va_nd_range _) (fun i hi h => by simp at hi h; omega) hk1 hF hP1 hD1
  exact ⟨gP, gD, hS1⟩
/-- a constructor's call on the cell made last -/
theorem kcI {S : Type} {post : S → Prop} {world : S → va_W} {mc ms : Nat} {x : va_E} (S0 : CallFix p m c cc nL s args Ts own) (hM : Met l y ws rm (PcW D cI cC cR [.ref b] [(b, x)] H.size) (QvW D post world [(b, x)] H.size) mc ms (va_A [(b, x)] H.size)) (cw : CallB R s args own index y bytes maxL none ws rm mc ms n ∧ y.name = "<init>" ∧ (Cond.instanceMethod y).before args s = true) (hK : kw D cI cC cR s) (hA : ∀ q : Nat, s.heap.size ≤ q → A q) (hw : wd D A s (X ++ [(b, x)]) H locs) (hn : 0 = n) (hsz : ls.size = nL) (hstk : st0 = .ref b :: rest) (hW : 2 * (F0 m pc ls st0).monitorRoom + (rest.map fun v => v.category).sum ≤ 8) (hdg : decode cc pc = .ok (.invokespecial index, 3)) (hf : k0 + mc ≤ R.cells ∧ n0 + ms ≤ R.slots)
    (kk : ∀ (u : S) (H1 : Heap) (locs1 : List Loc), post u → wd D A s (X ++ world u) H1 locs1 → W p l e R s m args below meth c H1 locs1 (k0 + mc) (n0 + ms) Z (F0 m (pc + 3) ls rest)) : W p l e R s m args below meth c H locs k0 n0 Z (F0 m pc ls st0) := by
  have hC : [X.length].map (fun i => (X ++ [(b, x)])[i]?) = [(b, x)].map some := by simp
  have hPc := hw.1.sub [X.length] (fm_of hC)
  have hDc := hw.2.1.sub [X.length] rfl hC
  have hF := va_free hw.2.1 hw.2.2 hA [X.length] hC
  refine va_callv (va_runI (As := []) (rest := rest) S0 hM cw ⟨PcW.blind, fun U hU hW => PcW.of hK hPc hDc U hU hW⟩ rfl hn hsz hstk hW hdg hf) hw.2.2 (fun q _ h => hF q h) hF (fun u t H1 locs1 ht hvm hp hB hz1 hk1 hS => ?_)
  obtain ⟨hP1, hD1⟩ := hB
  rw [ht] at hP1
  exact kk u H1 locs1 hp (kjn hw hk1 hF hS hP1 hD1)
end KC
theorem sw_out {x : Int32} {lo hi : Int} (h : ∀ j : Int, lo ≤ j → j ≤ hi → ¬ x = Int32.ofInt j) : x.toInt < lo ∨ hi < x.toInt := by
  rcases Int.lt_or_le x.toInt lo with q | q
  · exact Or.inl q
  · rcases Int.lt_or_le hi x.toInt with r | r
    · exact Or.inr r
    · exact absurd (Int32.ofInt_toInt x).symm (h _ q r)

