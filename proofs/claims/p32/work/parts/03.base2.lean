section KC
variable {p : Program} {l : Launch} {e : Env} {R : Room} {s : State} {m : MethodId} {args : Array Value} {below : List Frame} {meth : Method} {c : Code} {H : Heap} {locs : List Loc} {Z : State → Prop} {D : va_G} {cI cC cR : ClassId} {A : Nat → Prop} {pc : Nat} {ls : Array Slot} {rest As st0 : List Value} {b : Addr} {own C : String} {index n maxL nL : Nat} {y : MethodName} {bytes cc : ByteArray} {ret : Option FieldType} {ws Ts : List Cond} {rm : Room} {X wc : va_W} {k0 n0 : Nat}
theorem kj {S : Type} {world W1 : S → va_W} (hw : wd D A s X H locs) (isC isR isO : List Nat) (hC : isC.map (fun i => X[i]?) = wc.map some) (wr : va_W) (hR : isR.map (fun i => X[i]?) = wr.map some) (hnR : va_nd isR = true) (hdis : ∀ i ∈ isR, i ∉ isC) (hnO : va_nd isO = true) (hO : ∀ u, isO.map (fun i => (wr ++ world u)[i]?) = (W1 u).map some) {u : S} {H1 : Heap} {locs1 : List Loc} (hk1 : ∀ q : Nat, q < H.size → ¬ va_A wc H.size q → H1[q]? = H[q]?) (hF : ∀ q, va_A wc H.size q → A q) (hS1 : va_S A s.heap H1 locs1) (hP1 : va_P D vwCl (world u) H1) (hD1 : va_D (va_A wc H.size) (world u)) : wd D A s (W1 u) H1 locs1 := by
  obtain ⟨hP, hD, hS⟩ := hw
  obtain ⟨gP, gD⟩ := va_join (wr := wr) hP hD isC isR hC hR hnR hdis hk1 hF hP1 hD1
  exact ⟨gP.sub isO (fm_of (hO u)), gD.sub isO hnO (hO u), hS1⟩
/-- a call of an instance method that answers a whole number -/
theorem kcVi {S : Type} {post : Int32 → S → Prop} {world : S → va_W} {W1 : S → va_W} (hc0 : k0 ≤ R.cells ∧ n0 ≤ R.slots) (S0 : CallFix p m c cc nL s args Ts own) (hM : Met l y ws rm (PcW D cI cC cR (.ref b :: As) wc H.size) (QiW D post world wc H.size) 0 0 (va_A wc H.size)) (cw : CallW R s args own C index y bytes maxL ret ws rm 0 0 n) (hK : kw D cI cC cR s) (hA : ∀ q : Nat, s.heap.size ≤ q → A q) (hw : wd D A s X H locs) (isC isR isO : List Nat) (wr : va_W) (hC : isC.map (fun i => X[i]?) = wc.map some) (hR : isR.map (fun i => X[i]?) = wr.map some) (hnC : va_nd isC = true) (hnR : va_nd isR = true) (hdis : ∀ i ∈ isR, i ∉ isC) (hnO : va_nd isO = true) (hO : ∀ u, isO.map (fun i => (wr ++ world u)[i]?) = (W1 u).map some)
    (q0 ci : Nat) {cl : vw_C} {fs : List Value} (hc : vwCl[ci]? = some cl) (hcC : cl.1 = C) (he : X[q0]? = some (b, .inr (ci, fs))) (hn : As.length = n) (hsz : ls.size = nL) (hstk : st0 = As.reverse ++ .ref b :: rest) (hW : 2 * (F0 m pc ls st0).monitorRoom + (rest.map fun v => v.category).sum ≤ 8) (hdg : decode cc pc = .ok (.invokevirtual index, 3))
    (kk : ∀ (r : Int32) (u : S) (H1 : Heap) (locs1 : List Loc), post r u → wd D A s (W1 u) H1 locs1 → W p l e R s m args below meth c H1 locs1 k0 n0 Z (F0 m (pc + 3) ls (.int r :: rest))) : W p l e R s m args below meth c H locs k0 n0 Z (F0 m pc ls st0) := by
  have hPc := hw.1.sub isC (fm_of hC)
  have hDc := hw.2.1.sub isC hnC hC
  have hF := va_free hw.2.1 hw.2.2 hA isC hC
  refine va_calli (va_runV (As := As) (rest := rest) S0 hM cw ⟨PcW.blind, by subst hcC; exact va_recv hK.1 hw.1 hc he, fun U hU hW => PcW.of hK hPc hDc U hU hW⟩ rfl hn hsz hstk hW hdg hc0) hw.2.2 (fun q _ h => hF q h) hF (fun r u t H1 locs1 ht hvm hp hB hz1 hk1 hS => ?_)
  obtain ⟨hP1, hD1⟩ := hB
  rw [ht] at hP1
  exact kk r u H1 locs1 hp (kj hw isC isR isO hC wr hR hnR hdis hnO hO hk1 hF hS hP1 hD1)
/-- .. that answers nothing -/
theorem kcVv {S : Type} {post : S → Prop} {world : S → va_W} {W1 : S → va_W} (hc0 : k0 ≤ R.cells ∧ n0 ≤ R.slots) (S0 : CallFix p m c cc nL s args Ts own) (hM : Met l y ws rm (PcW D cI cC cR (.ref b :: As) wc H.size) (QvW D post world wc H.size) 0 0 (va_A wc H.size)) (cw : CallW R s args own C index y bytes maxL ret ws rm 0 0 n) (hK : kw D cI cC cR s) (hA : ∀ q : Nat, s.heap.size ≤ q → A q) (hw : wd D A s X H locs) (isC isR isO : List Nat) (wr : va_W) (hC : isC.map (fun i => X[i]?) = wc.map some) (hR : isR.map (fun i => X[i]?) = wr.map some) (hnC : va_nd isC = true) (hnR : va_nd isR = true) (hdis : ∀ i ∈ isR, i ∉ isC) (hnO : va_nd isO = true) (hO : ∀ u, isO.map (fun i => (wr ++ world u)[i]?) = (W1 u).map some)
    (q0 ci : Nat) {cl : vw_C} {fs : List Value} (hc : vwCl[ci]? = some cl) (hcC : cl.1 = C) (he : X[q0]? = some (b, .inr (ci, fs))) (hn : As.length = n) (hsz : ls.size = nL) (hstk : st0 = As.reverse ++ .ref b :: rest) (hW : 2 * (F0 m pc ls st0).monitorRoom + (rest.map fun v => v.category).sum ≤ 8) (hdg : decode cc pc = .ok (.invokevirtual index, 3))
    (kk : ∀ (u : S) (H1 : Heap) (locs1 : List Loc), post u → wd D A s (W1 u) H1 locs1 → W p l e R s m args below meth c H1 locs1 k0 n0 Z (F0 m (pc + 3) ls rest)) : W p l e R s m args below meth c H locs k0 n0 Z (F0 m pc ls st0) := by
  have hPc := hw.1.sub isC (fm_of hC)
  have hDc := hw.2.1.sub isC hnC hC
  have hF := va_free hw.2.1 hw.2.2 hA isC hC
  refine va_callv (va_runV (As := As) (rest := rest) S0 hM cw ⟨PcW.blind, by subst hcC; exact va_recv hK.1 hw.1 hc he, fun U hU hW => PcW.of hK hPc hDc U hU hW⟩ rfl hn hsz hstk hW hdg hc0) hw.2.2 (fun q _ h => hF q h) hF (fun u t H1 locs1 ht hvm hp hB hz1 hk1 hS => ?_)
  obtain ⟨hP1, hD1⟩ := hB
  rw [ht] at hP1
  exact kk u H1 locs1 hp (kj hw isC isR isO hC wr hR hnR hdis hnO hO hk1 hF hS hP1 hD1)
/-- a call of a static method (of its own class) that answers a whole number and takes no cells -/
theorem kcSi {post : Int32 → Unit → Prop} (hc0 : k0 ≤ R.cells ∧ n0 ≤ R.slots) (S0 : CallFix p m c cc nL s args Ts own) (hM : Met l y ws rm (PcW D cI cC cR As [] H.size) (QiW D post (fun _ => []) [] H.size) 0 0 (va_A [] H.size)) (cw : CallB R s args own index y bytes maxL ret ws rm 0 0 n ∧ (Cond.static y).before args s = true) (hK : kw D cI cC cR s) (hA : ∀ q : Nat, s.heap.size ≤ q → A q) (hw : wd D A s X H locs) (hn : As.length = n) (hsz : ls.size = nL) (hstk : st0 = As.reverse ++ rest) (hW : 2 * (F0 m pc ls st0).monitorRoom + (rest.map fun v => v.category).sum ≤ 8) (hdg : decode cc pc = .ok (.invokestatic index, 3))
    (kk : ∀ (r : Int32) (H1 : Heap) (locs1 : List Loc), post r () → wd D A s X H1 locs1 → W p l e R s m args below meth c H1 locs1 k0 n0 Z (F0 m (pc + 3) ls (.int r :: rest))) : W p l e R s m args below meth c H locs k0 n0 Z (F0 m pc ls st0) := by
  have hPc : va_P D vwCl [] H := fun k q h => by simp at h
  have hDc : va_D A [] := ⟨fun i j p q h => by simp at h, fun k q h => by simp at h⟩
  have hF := va_free (wc := []) hw.2.1 hw.2.2 hA [] rfl
  refine va_calli (va_runS (As := As) (rest := rest) S0 hM cw ⟨PcW.blind, fun U hU hW => PcW.of hK hPc hDc U hU hW⟩ rfl hn hsz hstk hW hdg hc0) hw.2.2 (fun q _ h => hF q h) hF (fun r u t H1 locs1 ht hvm hp hB hz1 hk1 hS => ?_)
  exact kk r H1 locs1 hp ⟨hw.1.kept (fun k q hq => hk1 q.1 (hw.1 k q hq).lt (fun h => by rcases h with ⟨k2, e2, h⟩ | h; · simp at h
                                                                                         · exact absurd (hw.1 k q hq).lt (Nat.not_lt.mpr h))), hw.2.1, hS⟩
/-- .. of a nest mate's static method -/
theorem kcNi {post : Int32 → Unit → Prop} {host : String} (hc0 : k0 ≤ R.cells ∧ n0 ≤ R.slots) (S0 : CallFix p m c cc nL s args Ts own) (hM : Met l y ws rm (PcW D cI cC cR As [] H.size) (QiW D post (fun _ => []) [] H.size) 0 0 (va_A [] H.size)) (cw : va_CN R s args own index y host bytes maxL ret ws rm 0 0 n ∧ (Cond.static y).before args s = true ∧ True) (hK : kw D cI cC cR s) (hA : ∀ q : Nat, s.heap.size ≤ q → A q) (hw : wd D A s X H locs) (hn : As.length = n) (hsz : ls.size = nL) (hstk : st0 = As.reverse ++ rest) (hW : 2 * (F0 m pc ls st0).monitorRoom + (rest.map fun v => v.category).sum ≤ 8) (hdg : decode cc pc = .ok (.invokestatic index, 3))
    (kk : ∀ (r : Int32) (H1 : Heap) (locs1 : List Loc), post r () → wd D A s X H1 locs1 → W p l e R s m args below meth c H1 locs1 k0 n0 Z (F0 m (pc + 3) ls (.int r :: rest))) : W p l e R s m args below meth c H locs k0 n0 Z (F0 m pc ls st0) := by
  have hPc : va_P D vwCl [] H := fun k q h => by simp at h
  have hDc : va_D A [] := ⟨fun i j p q h => by simp at h, fun k q h => by simp at h⟩
  have hF := va_free (wc := []) hw.2.1 hw.2.2 hA [] rfl
  refine va_calli (va_runSN (As := As) (rest := rest) S0 hM cw ⟨PcW.blind, fun U hU hW => PcW.of hK hPc hDc U hU hW⟩ rfl hn hsz hstk hW hdg hc0) hw.2.2 (fun q _ h => hF q h) hF (fun r u t H1 locs1 ht hvm hp hB hz1 hk1 hS => ?_)
  exact kk r H1 locs1 hp ⟨hw.1.kept (fun k q hq => hk1 q.1 (hw.1 k q hq).lt (fun h => by rcases h with ⟨k2, e2, h⟩ | h; · simp at h
                                                                                         · exact absurd (hw.1 k q hq).lt (Nat.not_lt.mpr h))), hw.2.1, hS⟩
/-- .. of a nest mate's static method over cells, that answers nothing -/
theorem kcNv {S : Type} {post : S → Prop} {world : S → va_W} {W1 : S → va_W} {host : String} (hc0 : k0 ≤ R.cells ∧ n0 ≤ R.slots) (S0 : CallFix p m c cc nL s args Ts own) (hM : Met l y ws rm (PcW D cI cC cR As wc H.size) (QvW D post world wc H.size) 0 0 (va_A wc H.size)) (cw : va_CN R s args own index y host bytes maxL ret ws rm 0 0 n ∧ (Cond.static y).before args s = true ∧ True) (hK : kw D cI cC cR s) (hA : ∀ q : Nat, s.heap.size ≤ q → A q) (hw : wd D A s X H locs) (isC isR isO : List Nat) (wr : va_W) (hC : isC.map (fun i => X[i]?) = wc.map some) (hR : isR.map (fun i => X[i]?) = wr.map some) (hnC : va_nd isC = true) (hnR : va_nd isR = true) (hdis : ∀ i ∈ isR, i ∉ isC) (hnO : va_nd isO = true) (hO : ∀ u, isO.map (fun i => (wr ++ world u)[i]?) = (W1 u).map some)
    (hn : As.length = n) (hsz : ls.size = nL) (hstk : st0 = As.reverse ++ rest) (hW : 2 * (F0 m pc ls st0).monitorRoom + (rest.map fun v => v.category).sum ≤ 8) (hdg : decode cc pc = .ok (.invokestatic index, 3))
    (kk : ∀ (u : S) (H1 : Heap) (locs1 : List Loc), post u → wd D A s (W1 u) H1 locs1 → W p l e R s m args below meth c H1 locs1 k0 n0 Z (F0 m (pc + 3) ls rest)) : W p l e R s m args below meth c H locs k0 n0 Z (F0 m pc ls st0) := by
  have hPc := hw.1.sub isC (fm_of hC)
  have hDc := hw.2.1.sub isC hnC hC
  have hF := va_free hw.2.1 hw.2.2 hA isC hC
  refine va_callv (va_runSN (As := As) (rest := rest) S0 hM cw ⟨PcW.blind, fun U hU hW => PcW.of hK hPc hDc U hU hW⟩ rfl hn hsz hstk hW hdg hc0) hw.2.2 (fun q _ h => hF q h) hF (fun u t H1 locs1 ht hvm hp hB hz1 hk1 hS => ?_)
  obtain ⟨hP1, hD1⟩ := hB
  rw [ht] at hP1
  exact kk u H1 locs1 hp (kj hw isC isR isO hC wr hR hnR hdis hnO hO hk1 hF hS hP1 hD1)
end KC
