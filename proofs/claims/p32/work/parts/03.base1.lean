/-! what holds of the tables at a frame's start -/
def kw (D : va_G) (cI cC cR : ClassId) (U : State) : Prop := va_K D vwCl [(cI, .int), (cC, .char), (cR, .object "DrillWardens$State")] U ∧ NW U
theorem kw.calling {D : va_G} {cI cC cR : ClassId} {U : State} {g : JFrame} {mk : MethodId} {a : Array Value} (h : kw D cI cC cR U) : kw D cI cC cR (U.calling g mk a) := ⟨va_K.moved (u := U) (U := U.calling g mk a) (Vm.Alike.refl U.vm) h.1, NW.same rfl h.2⟩
theorem kw.warm {D : va_G} {cI cC cR : ClassId} {s U : State} (hW : s.WarmedH U.vm) (h : kw D cI cC cR s) : kw D cI cC cR U := ⟨va_K.moved hW.alike h.1, NW.warm hW h.2⟩
/-! a world: its cells, apart, and nothing else changed -/
def wd (D : va_G) (A : Nat → Prop) (s : State) (X : va_W) (H : Heap) (locs : List Loc) : Prop := va_P D vwCl X H ∧ va_D A X ∧ va_S A s.heap H locs
def PcW (D : va_G) (cI cC cR : ClassId) (av : List Value) (ws : va_W) (sz : Nat) : Array Value → State → Prop := va_Pc av (fun U => U.heap.size = sz ∧ va_P D vwCl ws U.heap ∧ kw D cI cC cR U ∧ va_D (fun _ => True) ws)
theorem PcW.blind {D : va_G} {cI cC cR : ClassId} {av : List Value} {ws : va_W} {sz : Nat} : FrameBlind (PcW D cI cC cR av ws sz) := fun a U g mk q => by
  obtain ⟨q0, q1, qP, qK, qD⟩ := q
  exact ⟨q0, q1, qP, kw.calling qK, qD⟩
theorem PcW.of {D : va_G} {cI cC cR : ClassId} {av : List Value} {ws : va_W} {A : Nat → Prop} {s : State} {H : Heap} (hK : kw D cI cC cR s) (hP : va_P D vwCl ws H) (hD : va_D A ws) (U : State) (hU : U.heap = H) (hW : s.WarmedH U.vm) : PcW D cI cC cR av ws H.size av.toArray U :=
  ⟨rfl, by rw [hU], by rw [hU]; exact hP, hK.warm hW, hD.weaken (fun _ _ _ _ => trivial)⟩
def QiW {S : Type} (D : va_G) (post : Int32 → S → Prop) (world : S → va_W) (ws : va_W) (sz : Nat) : Array Value → State → Outcome → State → Prop := va_Qi post (fun u t => va_P D vwCl (world u) t.heap ∧ va_D (va_A ws sz) (world u)) (va_A ws sz)
def QvW {S : Type} (D : va_G) (post : S → Prop) (world : S → va_W) (ws : va_W) (sz : Nat) : Array Value → State → Outcome → State → Prop := va_Qv post (fun u t => va_P D vwCl (world u) t.heap ∧ va_D (va_A ws sz) (world u)) (va_A ws sz)
/-- a frame's own facts -/
def cx (bytes : ByteArray) (ret : Option FieldType) (nL : Nat) (own : String) (ws : List Cond) (p : Program) (m : MethodId) (meth : Method) (c : Code) (s : State) (args : Array Value) (D : va_G) (cI cC cR : ClassId) (A : Nat → Prop) : Prop :=
  p.tables.exec = Jvm.exec ∧ c.code = bytes ∧ meth.sig.returnType = ret ∧ c.maxLocals = nL ∧ (∀ w ∈ ws, w.before args s = true) ∧ s.vm.findClass own = some m.cls ∧ meth.locks = false ∧ kw D cI cC cR s ∧ (∀ q : Nat, s.heap.size ≤ q → A q)
theorem fm_of {ws wc : va_W} {is : List Nat} (h : is.map (fun i => ws[i]?) = wc.map some) : is.filterMap (fun i => ws[i]?) = wc := by
  have e : is.filterMap (fun i => ws[i]?) = (is.map (fun i => ws[i]?)).filterMap id := by rw [List.filterMap_map]; rfl
  rw [e, h, List.filterMap_map]
  exact List.filterMap_some
theorem wd.sub {D : va_G} {A : Nat → Prop} {s : State} {X X' : va_W} {H : Heap} {locs : List Loc} (h : wd D A s X H locs) (is : List Nat) (hn : va_nd is = true) (hs : is.map (fun i => X[i]?) = X'.map some) : wd D A s X' H locs := ⟨h.1.sub is (fm_of hs), h.2.1.sub is hn hs, h.2.2⟩
theorem va_nd_range' : ∀ (n s : Nat), va_nd (List.range' s n) = true := by
  intro n
  induction n with
  | zero => intro s; rfl
  | succ n ih =>
    intro s
    rw [List.range'_succ]
    show (decide (s ∉ List.range' (s + 1) n) && va_nd (List.range' (s + 1) n)) = true
    rw [ih (s + 1), Bool.and_true, decide_eq_true_eq]
    intro h
    have := (List.mem_range'_1.mp h).1
    omega
theorem va_nd_range (n : Nat) : va_nd (List.range n) = true := by
  rw [List.range_eq_range']
  exact va_nd_range' n 0
