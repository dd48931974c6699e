section KC
variable {p : Program} {l : Launch} {e : Env} {R : Room} {s : State} {m : MethodId} {args : Array Value} {below : List Frame} {meth : Method} {c : Code} {H : Heap} {locs : List Loc} {Z : State → Prop} {D : va_G} {cI cC cR : ClassId} {A : Nat → Prop} {pc : Nat} {ls : Array Slot} {rest As st0 : List Value} {b : Addr} {own C : String} {index n maxL nL : Nat} {y : MethodName} {bytes cc : ByteArray} {ret : Option FieldType} {ws Ts : List Cond} {rm : Room} {X wc : va_W} {k0 n0 : Nat}
/-- a new row of whole numbers -/
theorem kna (hx : p.tables.exec = Jvm.exec) (hb : c.code = cc) (harr : (Cond.arrayClass .int).before args s = true) (hK : kw D cI cC cR s) (hA : ∀ q : Nat, s.heap.size ≤ q → A q) (hw : wd D A s X H locs) (n : Nat) (hn : n ≤ 100000) (hcells : k0 + 1 ≤ R.cells) (hslots : n0 + n ≤ R.slots) (hdg : decode cc pc = .ok (.newarray .int, 2))
    (kk : ∀ (q : Nat) (H1 : Heap), wd D A s (X ++ [(q, .inl (cI, n, .inl (fun _ => 0)))]) H1 locs → W p l e R s m args below meth c H1 locs (k0 + 1) (n0 + n) Z (F0 m (pc + 2) ls (.ref q :: rest))) : W p l e R s m args below meth c H locs k0 n0 Z (F0 m pc ls (.int (nI n) :: rest)) := by
  refine va_newa (atype := .int) (ty := .int) (a0 := (n, .inl (fun _ => 0))) hx hb harr rfl hK.1 hw.1 hw.2.1 hw.2.2 hA (fun _ => rfl) (nI_pos (by omega)) (nI_clamp (by omega)) (show n * 4 ≤ _ by omega) hcells hslots hdg (fun q cA H1 hK1 hP1 hD1 hS1 => ?_)
  obtain rfl : cA = cI := Option.some.inj ((hK1.2 3 _ rfl).2.symm.trans (hK.1.2 0 _ rfl).2)
  exact kk q H1 ⟨hP1, hD1, hS1⟩
/-- a new row of signs -/
theorem knc (hx : p.tables.exec = Jvm.exec) (hb : c.code = cc) (harr : (Cond.arrayClass .char).before args s = true) (hK : kw D cI cC cR s) (hA : ∀ q : Nat, s.heap.size ≤ q → A q) (hw : wd D A s X H locs) (n : Nat) (hn : n ≤ 100000) (hcells : k0 + 1 ≤ R.cells) (hslots : n0 + n ≤ R.slots) (hdg : decode cc pc = .ok (.newarray .char, 2))
    (kk : ∀ (q : Nat) (H1 : Heap), wd D A s (X ++ [(q, .inl (cC, n, .inl (fun _ => 0)))]) H1 locs → W p l e R s m args below meth c H1 locs (k0 + 1) (n0 + n) Z (F0 m (pc + 2) ls (.ref q :: rest))) : W p l e R s m args below meth c H locs k0 n0 Z (F0 m pc ls (.int (nI n) :: rest)) := by
  refine va_newa (atype := .char) (ty := .char) (a0 := (n, .inl (fun _ => 0))) hx hb harr rfl hK.1 hw.1 hw.2.1 hw.2.2 hA (fun _ => rfl) (nI_pos (by omega)) (nI_clamp (by omega)) (show n * 2 ≤ _ by omega) hcells hslots hdg (fun q cA H1 hK1 hP1 hD1 hS1 => ?_)
  obtain rfl : cA = cC := Option.some.inj ((hK1.2 3 _ rfl).2.symm.trans (hK.1.2 1 _ rfl).2)
  exact kk q H1 ⟨hP1, hD1, hS1⟩
/-- a new row of references to states -/
theorem knr (hx : p.tables.exec = Jvm.exec) (hb : c.code = cc) (hown : s.vm.findClass own = some m.cls) (hclink : (Cond.classLink own index "DrillWardens$State").before args s = true) (hK : kw D cI cC cR s) (hA : ∀ q : Nat, s.heap.size ≤ q → A q) (hw : wd D A s X H locs) (n : Nat) (hn : n ≤ 100000) (hcells : k0 + 1 ≤ R.cells) (hslots : n0 + n ≤ R.slots) (hdg : decode cc pc = .ok (.anewarray index, 3))
    (kk : ∀ (q : Nat) (H1 : Heap), wd D A s (X ++ [(q, .inl (cR, n, .inr (.inr (.inr (.inr (fun _ => none))))))]) H1 locs → W p l e R s m args below meth c H1 locs (k0 + 1) (n0 + n) Z (F0 m (pc + 3) ls (.ref q :: rest))) : W p l e R s m args below meth c H locs k0 n0 Z (F0 m pc ls (.int (nI n) :: rest)) := by
  refine va_newq (C := "DrillWardens$State") hx hb hown hclink hK.2.2.2 hK.1 hw.1 hw.2.1 hw.2.2 hA (nI_pos (by omega)) (nI_clamp (by omega)) (by omega) hcells hslots hdg (fun q cA H1 hK1 hP1 hD1 hS1 => ?_)
  obtain ⟨k1, c1, -, -, -, e1⟩ := (hK1.2 3 _ rfl).2
  obtain ⟨k2, c2, -, -, -, e2⟩ := (hK.1.2 2 _ rfl).2
  obtain rfl : cA = cR := Option.some.inj (e1.symm.trans e2)
  exact kk q H1 ⟨hP1, hD1, hS1⟩
theorem rng_map {a b : va_W} : (List.range a.length).map (fun i => (a ++ b)[i]?) = a.map some := by
  apply List.ext_getElem?
  intro i
  rw [List.getElem?_map, List.getElem?_map]
  by_cases h : i < a.length
  · rw [List.getElem?_range h]
    simp [List.getElem?_append_left h, List.getElem?_eq_getElem h]
  · have h1 : (List.range a.length)[i]? = none := List.getElem?_eq_none (by simpa using h)
    have h2 : a[i]? = none := List.getElem?_eq_none (by omega)
    rw [h1, h2]
    rfl
theorem kjn {S : Type} {X : va_W} {x : Nat × va_E} {world : S → va_W} (hw : wd D A s (X ++ [x]) H locs) {u : S} {H1 : Heap} {locs1 : List Loc} (hk1 : ∀ q : Nat, q < H.size → ¬ va_A [x] H.size q → H1[q]? = H[q]?) (hF : ∀ q, va_A [x] H.size q → A q) (hS1 : va_S A s.heap H1 locs1) (hP1 : va_P D vwCl (world u) H1) (hD1 : va_D (va_A [x] H.size) (world u)) : wd D A s (X ++ world u) H1 locs1 := by
  obtain ⟨hP, hD, hS⟩ := hw
  have hC : [X.length].map (fun i => (X ++ [x])[i]?) = [x].map some := by simp
  obtain ⟨gP, gD⟩ := va_join (wr := X) hP hD [X.length] (List.range X.length) hC rng_map (va_nd_range _) (fun i hi h => by simp at hi h; omega) hk1 hF hP1 hD1
  exact ⟨gP, gD, hS1⟩
/-- a constructor's call on the cell made last -/
theorem kcI {S : Type} {post : S → Prop} {world : S → va_W} {mc ms : Nat} {x : va_E} (S0 : CallFix p m c cc nL s args Ts own) (hM : Met l y ws rm (PcW D cI cC cR [.ref b] [(b, x)] H.size) (QvW D post world [(b, x)] H.size) mc ms (va_A [(b, x)] H.size)) (cw : CallB R s args own index y bytes maxL none ws rm mc ms n ∧ y.name = "<init>" ∧ (Cond.instanceMethod y).before args s = true) (hK : kw D cI cC cR s) (hA : ∀ q : Nat, s.heap.size ≤ q → A q) (hw : wd D A s (X ++ [(b, x)]) H locs) (hn : 0 = n) (hsz : ls.size = nL) (hstk : st0 = .ref b :: rest) (hW : 2 * (F0 m pc ls st0).monitorRoom + (rest.map fun v => v.category).sum ≤ 8) (hdg : decode cc pc = .ok (.invokespecial index, 3)) (hf : k0 + mc ≤ R.cells ∧ n0 + ms ≤ R.slots)
    (kk : ∀ (u : S) (H1 : Heap) (locs1 : List Loc), post u → wd D A s (X ++ world u) H1 locs1 → W p l e R s m args below meth c H1 locs1 (k0 + mc) (n0 + ms) Z (F0 m (pc + 3) ls rest)) : W p l e R s m args below meth c H locs k0 n0 Z (F0 m pc ls st0) := by
  have hC : [X.length].map (fun i => (X ++ [(b, x)])[i]?) = [(b, x)].map some := by simp
  have hPc := hw.1.sub [X.length] (fm_of hC)
  have hDc := hw.2.1.sub [X.length] rfl hC
  have hF := va_free hw.2.1 hw.2.2 hA [X.length] hC
  refine va_callv (va_runI (As := []) (rest := rest) S0 hM cw ⟨PcW.blind, fun U hU hW => PcW.of hK hPc hDc U hU hW⟩ rfl hn hsz hstk hW hdg hf) hw.2.2 (fun q _ h => hF q h) hF (fun u t H1 locs1 ht hvm hp hB hz1 hk1 hS => ?_)
  obtain ⟨hP1, hD1⟩ := hB
  rw [ht] at hP1
  exact kk u H1 locs1 hp (kjn hw hk1 hF hS hP1 hD1)
end KC
theorem sw_out {x : Int32} {lo hi : Int} (h : ∀ j : Int, lo ≤ j → j ≤ hi → ¬ x = Int32.ofInt j) : x.toInt < lo ∨ hi < x.toInt := by
  rcases Int.lt_or_le x.toInt lo with q | q
  · exact Or.inl q
  · rcases Int.lt_or_le hi x.toInt with r | r
    · exact Or.inr r
    · exact absurd (Int32.ofInt_toInt x).symm (h _ q r)
theorem lk_ne {x : Int32} {k : Nat} (h : ¬ x = nI k) : ¬ (k : Int) = x.toInt := by
  intro e
  apply h
  have h1 : Int32.ofInt x.toInt = x := Int32.ofInt_toInt x
  rw [← e] at h1
  rw [← h1]
  rfl
