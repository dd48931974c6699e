/-! the law's own static methods: calls over cells, answers of 64 bits, the script's reader -/
def QlW {S : Type} (D : va_G) (post : Int64 → S → Prop) (world : S → va_W) (ws : va_W) (sz : Nat) : Array Value → State → Outcome → State → Prop := va_Ql post (fun u t => va_P D vwCl (world u) t.heap ∧ va_D (va_A ws sz) (world u)) (va_A ws sz)
/-- the script at a cell, outside of what may change -/
def scrOK (A : Nat → Prop) (s : State) (b : Nat) : Prop := ∃ (L : Nat) (xs : Nat → Int32), L ≤ 260 ∧ va_X b L xs s s.heap ∧ b < s.heap.size ∧ ¬ A b
def PcX (b L : Nat) (xs : Nat → Int32) (k : Int32) (sz : Nat) : Array Value → State → Prop := va_Pc [.ref b, .int k] (fun U => U.heap.size = sz ∧ va_X b L xs U U.heap ∧ b < U.heap.size)
theorem PcX.blind {b L : Nat} {xs : Nat → Int32} {k : Int32} {sz : Nat} : FrameBlind (PcX b L xs k sz) := fun a U g mk q => by
  obtain ⟨q0, q1, q2, q3⟩ := q
  exact ⟨q0, q1, va_X.moved (u := U) (U := U.calling g mk a) (Vm.Alike.refl U.vm) q2, q3⟩
abbrev rm_L_cell : Room := { frames := 0, cells := 0, slots := 0, locals := 0 }
set_option maxRecDepth 100000 in
set_option maxHeartbeats 4000000 in
theorem c_L_cell (l : Launch) (b L sz : Nat) (xs : Nat → Int32) (k : Int32) (hk : ¬ k < 0) (hL : L ≤ 260) : Met l yL_cell wsL_cell rm_L_cell (PcX b L xs k sz) (va_Qi (fun (_ : Int32) (_ : Unit) => True) (fun _ _ => True) (va_A [] sz)) 0 0 (va_A [] sz) := by
  refine Met.ofW (cc := cL_cell) (maxL := 2) (ret := some .int) (by decide) rfl ?_
  intro p e s m args below meth c s₁ B hml hv
  obtain ⟨rfl, hsz, hX, hbl⟩ := hv
  have hlocks := B.notSynchronized
  subst hsz
  have hx := B.exec
  have hb := B.bytes
  have hr := B.returns
  have hl := lv_entry ([.ref b, .int k]) (n := 2) (Nat.le_of_ble_eq_true rfl)
  rw [lg_entry_eq]
  generalize (lg_sl ([.ref b, .int k]) ++ List.replicate (2 - (lg_sl ([.ref b, .int k])).length) Slot.unset).toArray = ls at hl ⊢
  have hl : lv_has ls 2 [(0, .ref b), (1, .int k)] := hl
  have hbA : ¬ va_A [] s.heap.size b := fun h => by
    rcases h with ⟨k2, e2, h⟩ | h
    · simp at h
    · exact absurd hbl (Nat.not_lt.mpr h)
  have hS : va_S (va_A [] s.heap.size) s.heap s.heap [] := va_S.rf
  have hend : ∀ (v : Int32) (ls : Array Slot), W p l e (headSpec wsL_cell rm_L_cell).room s m ([.ref b, .int k] : List Value).toArray below meth c s.heap [] 0 0 (MQ below (va_Qi (fun (_ : Int32) (_ : Unit) => True) (fun _ _ => True) (va_A [] s.heap.size)) ([.ref b, .int k] : List Value).toArray s 0 0 (va_A [] s.heap.size)) (F0 m 24 ls [.int v]) := fun v ls =>
    W.iret (v := v) hx hb hr (fun t ht hW => ⟨⟨v, (), rfl, trivial, trivial⟩, hS.F ht⟩) (fun q h => by cases h) dL_cell_24
  refine lv_iload_n hx hb dL_cell_0 rfl (lv_at hl 1 rfl) ?_
  refine lv_aload_n hx hb dL_cell_1 rfl (lv_at hl 0 rfl) ?_
  refine va_slen hx hb hX hbl hbA hS dL_cell_2 ?_
  refine lv_icmp_ge (tgt := 12) hx hb dL_cell_3 (by decide) (fun c1 => ?_) (fun c1 => ?_)
  · refine lv_sipush (v := 7919) hx hb dL_cell_12 rfl ?_
    refine lv_iload_n hx hb dL_cell_15 rfl (lv_at hl 1 rfl) ?_
    refine lv_iconst (v := 3) hx hb dL_cell_16 rfl ?_
    refine lv_iadd hx hb dL_cell_17 ?_
    refine lv_imul hx hb dL_cell_18 ?_
    refine lv_iload_n hx hb dL_cell_19 rfl (lv_at hl 1 rfl) ?_
    refine lv_bipush (v := 11) hx hb dL_cell_20 rfl ?_
    refine lv_iadd hx hb dL_cell_22 ?_
    refine lv_imul hx hb dL_cell_23 ?_
    exact hend _ _
  · rcases pk_ix k (n := L) (by omega) with q | q | ⟨j, hj, q⟩
    · exact absurd q hk
    · exact absurd q c1
    · refine lv_aload_n hx hb dL_cell_6 rfl (lv_at hl 0 rfl) ?_
      refine lv_iload_n hx hb dL_cell_7 rfl (lv_at hl 1 rfl) ?_
      refine va_sld hx hb hX hbl hbA hS (by rw [q]; exact vp_in_nI hj (by omega)) dL_cell_8 ?_
      refine lv_goto (tgt := 24) hx hb dL_cell_9 (by decide) ?_
      exact hend _ _
section KL
variable {p : Program} {l : Launch} {e : Env} {R : Room} {s : State} {m : MethodId} {args : Array Value} {below : List Frame} {meth : Method} {c : Code} {H : Heap} {locs : List Loc} {Z : State → Prop} {D : va_G} {cI cC cR : ClassId} {A : Nat → Prop} {pc : Nat} {ls : Array Slot} {rest As st0 : List Value} {b : Addr} {own C : String} {index n maxL nL : Nat} {y : MethodName} {bytes cc : ByteArray} {ret : Option FieldType} {ws Ts : List Cond} {rm : Room} {X wc : va_W} {k0 n0 : Nat}
/-- the script's reader, called by the law -/
theorem kcCell {k : Int32} (hCell : scrOK A s b) (hk : ¬ k < 0) (hc0 : k0 ≤ R.cells ∧ n0 ≤ R.slots) (S0 : CallFix p m c cc nL s args wsL_law RL) (cw : CallB R s args RL 90 yL_cell cL_cell 2 (some .int) wsL_cell rm_L_cell 0 0 2 ∧ (Cond.static yL_cell).before args s = true) (hA : ∀ q : Nat, s.heap.size ≤ q → A q) (hw : wd D A s X H locs) (hsz : ls.size = nL) (hstk : st0 = .int k :: .ref b :: rest) (hW : 2 * (F0 m pc ls st0).monitorRoom + (rest.map fun v => v.category).sum ≤ 8) (hdg : decode cc pc = .ok (.invokestatic 90, 3))
    (kk : ∀ (r : Int32) (H1 : Heap) (locs1 : List Loc), wd D A s X H1 locs1 → W p l e R s m args below meth c H1 locs1 k0 n0 Z (F0 m (pc + 3) ls (.int r :: rest))) : W p l e R s m args below meth c H locs k0 n0 Z (F0 m pc ls st0) := by
  obtain ⟨L, xs, hL, hX, hbl, hbA⟩ := hCell
  have hF := va_free (wc := []) hw.2.1 hw.2.2 hA [] rfl
  refine va_calli (va_runS (As := [.ref b, .int k]) (rest := rest) S0 (c_L_cell l b L H.size xs k hk hL) cw ⟨PcX.blind, fun U hU hW => ⟨rfl, by rw [hU], va_X.moved hW.alike (by rw [hU]; exact hX.kept (hw.2.2.2.1 b hbl hbA)), by rw [hU]; exact Nat.lt_of_lt_of_le hbl hw.2.2.1⟩⟩ rfl rfl hsz hstk hW hdg hc0) hw.2.2 (fun q _ h => hF q h) hF (fun r u t H1 locs1 ht hvm hp hB hz1 hk1 hS => ?_)
  exact kk r H1 locs1 ⟨hw.1.kept (fun k q hq => hk1 q.1 (hw.1 k q hq).lt (fun h => by rcases h with ⟨k2, e2, h⟩ | h; · simp at h
                                                                                      · exact absurd (hw.1 k q hq).lt (Nat.not_lt.mpr h))), hw.2.1, hS⟩
/-- a call of a static method of its own, over cells, that answers a whole number -/
theorem kcSwi {S : Type} {post : Int32 → S → Prop} {world : S → va_W} {W1 : S → va_W} (hc0 : k0 ≤ R.cells ∧ n0 ≤ R.slots) (S0 : CallFix p m c cc nL s args Ts own) (hM : Met l y ws rm (PcW D cI cC cR As wc H.size) (QiW D post world wc H.size) 0 0 (va_A wc H.size)) (cw : CallB R s args own index y bytes maxL ret ws rm 0 0 n ∧ (Cond.static y).before args s = true) (hK : kw D cI cC cR s) (hA : ∀ q : Nat, s.heap.size ≤ q → A q) (hw : wd D A s X H locs) (isC isR isO : List Nat) (wr : va_W) (hC : isC.map (fun i => X[i]?) = wc.map some) (hR : isR.map (fun i => X[i]?) = wr.map some) (hnC : va_nd isC = true) (hnR : va_nd isR = true) (hdis : ∀ i ∈ isR, i ∉ isC) (hnO : va_nd isO = true) (hO : ∀ u, isO.map (fun i => (wr ++ world u)[i]?) = (W1 u).map some)
    (hn : As.length = n) (hsz : ls.size = nL) (hstk : st0 = As.reverse ++ rest) (hW : 2 * (F0 m pc ls st0).monitorRoom + (rest.map fun v => v.category).sum ≤ 8) (hdg : decode cc pc = .ok (.invokestatic index, 3))
    (kk : ∀ (r : Int32) (u : S) (H1 : Heap) (locs1 : List Loc), post r u → wd D A s (W1 u) H1 locs1 → W p l e R s m args below meth c H1 locs1 k0 n0 Z (F0 m (pc + 3) ls (.int r :: rest))) : W p l e R s m args below meth c H locs k0 n0 Z (F0 m pc ls st0) := by
  have hPc := hw.1.sub isC (fm_of hC)
  have hDc := hw.2.1.sub isC hnC hC
  have hF := va_free hw.2.1 hw.2.2 hA isC hC
  refine va_calli (va_runS (As := As) (rest := rest) S0 hM cw ⟨PcW.blind, fun U hU hW => PcW.of hK hPc hDc U hU hW⟩ rfl hn hsz hstk hW hdg hc0) hw.2.2 (fun q _ h => hF q h) hF (fun r u t H1 locs1 ht hvm hp hB hz1 hk1 hS => ?_)
  obtain ⟨hP1, hD1⟩ := hB
  rw [ht] at hP1
  exact kk r u H1 locs1 hp (kj hw isC isR isO hC wr hR hnR hdis hnO hO hk1 hF hS hP1 hD1)
/-- .. that answers 64 bits -/
theorem kcSwl {S : Type} {post : Int64 → S → Prop} {world : S → va_W} {W1 : S → va_W} (hc0 : k0 ≤ R.cells ∧ n0 ≤ R.slots) (S0 : CallFix p m c cc nL s args Ts own) (hM : Met l y ws rm (PcW D cI cC cR As wc H.size) (QlW D post world wc H.size) 0 0 (va_A wc H.size)) (cw : CallB R s args own index y bytes maxL ret ws rm 0 0 n ∧ (Cond.static y).before args s = true) (hK : kw D cI cC cR s) (hA : ∀ q : Nat, s.heap.size ≤ q → A q) (hw : wd D A s X H locs) (isC isR isO : List Nat) (wr : va_W) (hC : isC.map (fun i => X[i]?) = wc.map some) (hR : isR.map (fun i => X[i]?) = wr.map some) (hnC : va_nd isC = true) (hnR : va_nd isR = true) (hdis : ∀ i ∈ isR, i ∉ isC) (hnO : va_nd isO = true) (hO : ∀ u, isO.map (fun i => (wr ++ world u)[i]?) = (W1 u).map some)
    (hn : As.length = n) (hsz : ls.size = nL) (hstk : st0 = As.reverse ++ rest) (hW : 2 * (F0 m pc ls st0).monitorRoom + (rest.map fun v => v.category).sum ≤ 8) (hdg : decode cc pc = .ok (.invokestatic index, 3))
    (kk : ∀ (r : Int64) (u : S) (H1 : Heap) (locs1 : List Loc), post r u → wd D A s (W1 u) H1 locs1 → W p l e R s m args below meth c H1 locs1 k0 n0 Z (F0 m (pc + 3) ls (.long r :: rest))) : W p l e R s m args below meth c H locs k0 n0 Z (F0 m pc ls st0) := by
  have hPc := hw.1.sub isC (fm_of hC)
  have hDc := hw.2.1.sub isC hnC hC
  have hF := va_free hw.2.1 hw.2.2 hA isC hC
  refine va_calll (va_runS (As := As) (rest := rest) S0 hM cw ⟨PcW.blind, fun U hU hW => PcW.of hK hPc hDc U hU hW⟩ rfl hn hsz hstk hW hdg hc0) hw.2.2 (fun q _ h => hF q h) hF (fun r u t H1 locs1 ht hvm hp hB hz1 hk1 hS => ?_)
  obtain ⟨hP1, hD1⟩ := hB
  rw [ht] at hP1
  exact kk r u H1 locs1 hp (kj hw isC isR isO hC wr hR hnR hdis hnO hO hk1 hF hS hP1 hD1)
end KL
