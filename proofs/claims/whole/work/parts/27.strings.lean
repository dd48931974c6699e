/-! the five words of the text's orders: String constants -/
def slen : List Nat := [3, 3, 5, 5, 4]
def sbyt : List (List Int32) := [[114, 111, 119], [111, 102, 102], [108, 101, 97, 118, 101], [100, 114, 105, 108, 108], [112, 97, 115, 115]]
def scod : List (List Nat) := [[114, 111, 119], [111, 102, 102], [108, 101, 97, 118, 101], [100, 114, 105, 108, 108], [112, 97, 115, 115]]
/-- the length of a word; its sign at a place -/
def swl (i : Nat) : Nat := slen.getD i 0
def swc (i k : Nat) : Nat := (scod.getD i []).getD k 0
theorem sw_all : ∀ i, i < 5 → (0 < swl i ∧ swl i ≤ 5) ∧ ∀ k, k < swl i → swc i k < 128 ∧ ((((sbyt.getD i []).getD k 0) &&& (nI 255)).toUInt32 % 65536).toInt32 = nI (swc i k) := by decide +kernel
def STR (adK adV : Nat → Nat) (A : Nat → Prop) (U : State) (H : Heap) : Prop := vk_S 5 slen sbyt adK adV A U H ∧ va_Z "java/lang/String" "COMPACT_STRINGS" "Z" (.int 1) A U H ∧ va_Zq "jdk/internal/util/Preconditions" "SIOOBE_FORMATTER" "Ljava/util/function/BiFunction;" A U H ∧ vk_R "DrillWardens$OrderText" 84 "row" (adK 0) U ∧ vk_R "DrillWardens$OrderText" 86 "off" (adK 1) U ∧ vk_R "DrillWardens$OrderText" 88 "leave" (adK 2) U ∧ vk_R "DrillWardens$OrderText" 90 "drill" (adK 3) U ∧ vk_R "DrillWardens$OrderText" 92 "pass" (adK 4) U
theorem STR.step {adK adV : Nat → Nat} {A B : Nat → Prop} {s U : State} {H : Heap} {locs : List Loc} (h : STR adK adV A s s.heap) (hS : va_S A s.heap H locs) (hF : ∀ q, B q → A q) (hU : U.heap = H) (hW : s.WarmedH U.vm) : STR adK adV B U U.heap := by
  obtain ⟨h1, h2, h3, h4, h5, h6, h7, h8⟩ := h
  rw [hU]
  exact ⟨((h1.kept hS.2.1).narrow hF).moved hW.alike, ((h2.kept hS.2.1).narrow hF).moved hW.alike, ((h3.kept hS.2.1).narrow hF).moved hW.alike, h4.warm hW, h5.warm hW, h6.warm hW, h7.warm hW, h8.warm hW⟩
theorem STR.calling {adK adV : Nat → Nat} {A : Nat → Prop} {U : State} {g : JFrame} {mk : MethodId} {a : Array Value} (h : STR adK adV A U U.heap) : STR adK adV A (U.calling g mk a) (U.calling g mk a).heap := by
  obtain ⟨h1, h2, h3, h4, h5, h6, h7, h8⟩ := h
  have e : U.vm.Alike (U.calling g mk a).vm := Vm.Alike.refl U.vm
  exact ⟨h1.moved e, h2.moved e, h3.moved e, h4.same rfl, h5.same rfl, h6.same rfl, h7.same rfl, h8.same rfl⟩
def PcS (D : va_G) (cI cC cR : ClassId) (adK adV : Nat → Nat) (av : List Value) (ws : va_W) (sz : Nat) : Array Value → State → Prop := va_Pc av (fun U => U.heap.size = sz ∧ va_P D vwCl ws U.heap ∧ kw D cI cC cR U ∧ va_D (fun _ => True) ws ∧ STR adK adV (va_A ws sz) U U.heap)
theorem PcS.blind {D : va_G} {cI cC cR : ClassId} {adK adV : Nat → Nat} {av : List Value} {ws : va_W} {sz : Nat} : FrameBlind (PcS D cI cC cR adK adV av ws sz) := fun a U g mk q => by
  obtain ⟨q0, q1, qP, qK, qD, qS⟩ := q
  exact ⟨q0, q1, qP, kw.calling qK, qD, STR.calling qS⟩
theorem PcS.of {D : va_G} {cI cC cR : ClassId} {adK adV : Nat → Nat} {av : List Value} {ws : va_W} {A : Nat → Prop} {s : State} {H : Heap} {locs : List Loc} (hK : kw D cI cC cR s) (hP : va_P D vwCl ws H) (hD : va_D A ws) (hT : STR adK adV A s s.heap) (hS : va_S A s.heap H locs) (hF : ∀ q, va_A ws H.size q → A q) (U : State) (hU : U.heap = H) (hW : s.WarmedH U.vm) : PcS D cI cC cR adK adV av ws H.size av.toArray U :=
  ⟨rfl, by rw [hU], by rw [hU]; exact hP, hK.warm hW, hD.weaken (fun _ _ _ _ => trivial), hT.step hS hF hU hW⟩
section KS
variable {p : Program} {l : Launch} {e : Env} {R : Room} {s : State} {m : MethodId} {args : Array Value} {below : List Frame} {meth : Method} {c : Code} {H : Heap} {locs : List Loc} {Z : State → Prop} {D : va_G} {cI cC cR : ClassId} {A : Nat → Prop} {pc : Nat} {ls : Array Slot} {rest As st0 : List Value} {b : Addr} {own C : String} {index n maxL nL : Nat} {y : MethodName} {bytes cc : ByteArray} {ret : Option FieldType} {ws Ts : List Cond} {rm : Room} {X wc : va_W} {k0 n0 : Nat} {adK adV : Nat → Nat}
theorem wd.keep0 {H1 : Heap} {locs1 : List Loc} (hw : wd D A s X H locs) (hk1 : ∀ q : Nat, q < H.size → ¬ va_A [] H.size q → H1[q]? = H[q]?) (hS : va_S A s.heap H1 locs1) : wd D A s X H1 locs1 :=
  ⟨hw.1.kept (fun k q hq => hk1 q.1 (hw.1 k q hq).lt (fun h => by rcases h with ⟨k2, e2, h⟩ | h; · simp at h
                                                                  · exact absurd (hw.1 k q hq).lt (Nat.not_lt.mpr h))), hw.2.1, hS⟩
/-- a call on a word -/
theorem kcK {post : Int32 → Unit → Prop} {i : Nat} (hc0 : k0 ≤ R.cells ∧ n0 ≤ R.slots) (S0 : CallFix p m c cc nL s args Ts own) (hi : i < 5) (hM : Met l y ws rm (PcS D cI cC cR adK adV (.ref (adK i) :: As) [] H.size) (QiW D post (fun _ => []) [] H.size) 0 0 (va_A [] H.size)) (cw : CallW R s args own "java/lang/String" index y bytes maxL ret ws rm 0 0 n) (hK : kw D cI cC cR s) (hA : ∀ q : Nat, s.heap.size ≤ q → A q) (hw : wd D A s X H locs) (hT : STR adK adV A s s.heap) (hn : As.length = n) (hsz : ls.size = nL) (hstk : st0 = As.reverse ++ .ref (adK i) :: rest) (hW : 2 * (F0 m pc ls st0).monitorRoom + (rest.map fun v => v.category).sum ≤ 8) (hdg : decode cc pc = .ok (.invokevirtual index, 3))
    (kk : ∀ (r : Int32) (H1 : Heap) (locs1 : List Loc), post r () → wd D A s X H1 locs1 → W p l e R s m args below meth c H1 locs1 k0 n0 Z (F0 m (pc + 3) ls (.int r :: rest))) : W p l e R s m args below meth c H locs k0 n0 Z (F0 m pc ls st0) := by
  have hPc : va_P D vwCl [] H := fun k q h => by simp at h
  have hDc : va_D A [] := ⟨fun i j p q h => by simp at h, fun k q h => by simp at h⟩
  have hF := va_free (wc := []) hw.2.1 hw.2.2 hA [] rfl
  refine va_calli (va_runV (As := As) (rest := rest) S0 hM cw ⟨PcS.blind, vk_recv hT.1 hi hw.2.2, fun U hU hW => PcS.of hK hPc hDc hT hw.2.2 hF U hU hW⟩ rfl hn hsz hstk hW hdg hc0) hw.2.2 (fun q _ h => hF q h) hF (fun r u t H1 locs1 ht hvm hp hB hz1 hk1 hS => ?_)
  exact kk r H1 locs1 hp (hw.keep0 hk1 hS)
/-- a static call without cells, over the words: an answer -/
theorem kcSsi {post : Int32 → Unit → Prop} (hc0 : k0 ≤ R.cells ∧ n0 ≤ R.slots) (S0 : CallFix p m c cc nL s args Ts own) (hM : Met l y ws rm (PcS D cI cC cR adK adV As [] H.size) (QiW D post (fun _ => []) [] H.size) 0 0 (va_A [] H.size)) (cw : CallB R s args own index y bytes maxL ret ws rm 0 0 n ∧ (Cond.static y).before args s = true) (hK : kw D cI cC cR s) (hA : ∀ q : Nat, s.heap.size ≤ q → A q) (hw : wd D A s X H locs) (hT : STR adK adV A s s.heap) (hn : As.length = n) (hsz : ls.size = nL) (hstk : st0 = As.reverse ++ rest) (hW : 2 * (F0 m pc ls st0).monitorRoom + (rest.map fun v => v.category).sum ≤ 8) (hdg : decode cc pc = .ok (.invokestatic index, 3))
    (kk : ∀ (r : Int32) (H1 : Heap) (locs1 : List Loc), post r () → wd D A s X H1 locs1 → W p l e R s m args below meth c H1 locs1 k0 n0 Z (F0 m (pc + 3) ls (.int r :: rest))) : W p l e R s m args below meth c H locs k0 n0 Z (F0 m pc ls st0) := by
  have hPc : va_P D vwCl [] H := fun k q h => by simp at h
  have hDc : va_D A [] := ⟨fun i j p q h => by simp at h, fun k q h => by simp at h⟩
  have hF := va_free (wc := []) hw.2.1 hw.2.2 hA [] rfl
  refine va_calli (va_runS (As := As) (rest := rest) S0 hM cw ⟨PcS.blind, fun U hU hW => PcS.of hK hPc hDc hT hw.2.2 hF U hU hW⟩ rfl hn hsz hstk hW hdg hc0) hw.2.2 (fun q _ h => hF q h) hF (fun r u t H1 locs1 ht hvm hp hB hz1 hk1 hS => ?_)
  exact kk r H1 locs1 hp (hw.keep0 hk1 hS)
/-- .. nothing -/
theorem kcSsv {post : Unit → Prop} (hc0 : k0 ≤ R.cells ∧ n0 ≤ R.slots) (S0 : CallFix p m c cc nL s args Ts own) (hM : Met l y ws rm (PcS D cI cC cR adK adV As [] H.size) (QvW D post (fun _ => []) [] H.size) 0 0 (va_A [] H.size)) (cw : CallB R s args own index y bytes maxL ret ws rm 0 0 n ∧ (Cond.static y).before args s = true) (hK : kw D cI cC cR s) (hA : ∀ q : Nat, s.heap.size ≤ q → A q) (hw : wd D A s X H locs) (hT : STR adK adV A s s.heap) (hn : As.length = n) (hsz : ls.size = nL) (hstk : st0 = As.reverse ++ rest) (hW : 2 * (F0 m pc ls st0).monitorRoom + (rest.map fun v => v.category).sum ≤ 8) (hdg : decode cc pc = .ok (.invokestatic index, 3))
    (kk : ∀ (H1 : Heap) (locs1 : List Loc), post () → wd D A s X H1 locs1 → W p l e R s m args below meth c H1 locs1 k0 n0 Z (F0 m (pc + 3) ls rest)) : W p l e R s m args below meth c H locs k0 n0 Z (F0 m pc ls st0) := by
  have hPc : va_P D vwCl [] H := fun k q h => by simp at h
  have hDc : va_D A [] := ⟨fun i j p q h => by simp at h, fun k q h => by simp at h⟩
  have hF := va_free (wc := []) hw.2.1 hw.2.2 hA [] rfl
  refine va_callv (va_runS (As := As) (rest := rest) S0 hM cw ⟨PcS.blind, fun U hU hW => PcS.of hK hPc hDc hT hw.2.2 hF U hU hW⟩ rfl hn hsz hstk hW hdg hc0) hw.2.2 (fun q _ h => hF q h) hF (fun u t H1 locs1 ht hvm hp hB hz1 hk1 hS => ?_)
  exact kk H1 locs1 hp (hw.keep0 hk1 hS)
/-- .. a word -/
theorem kcSsr {post : Nat → Prop} (hc0 : k0 ≤ R.cells ∧ n0 ≤ R.slots) (S0 : CallFix p m c cc nL s args Ts own) (hM : Met l y ws rm (PcS D cI cC cR adK adV As [] H.size) (va_Qr post (fun i a _ => a = adK i) (va_A [] H.size)) 0 0 (va_A [] H.size)) (cw : CallB R s args own index y bytes maxL ret ws rm 0 0 n ∧ (Cond.static y).before args s = true) (hK : kw D cI cC cR s) (hA : ∀ q : Nat, s.heap.size ≤ q → A q) (hw : wd D A s X H locs) (hT : STR adK adV A s s.heap) (hn : As.length = n) (hsz : ls.size = nL) (hstk : st0 = As.reverse ++ rest) (hW : 2 * (F0 m pc ls st0).monitorRoom + (rest.map fun v => v.category).sum ≤ 8) (hdg : decode cc pc = .ok (.invokestatic index, 3))
    (kk : ∀ (i : Nat) (H1 : Heap) (locs1 : List Loc), post i → wd D A s X H1 locs1 → W p l e R s m args below meth c H1 locs1 k0 n0 Z (F0 m (pc + 3) ls (.ref (adK i) :: rest))) : W p l e R s m args below meth c H locs k0 n0 Z (F0 m pc ls st0) := by
  have hPc : va_P D vwCl [] H := fun k q h => by simp at h
  have hDc : va_D A [] := ⟨fun i j p q h => by simp at h, fun k q h => by simp at h⟩
  have hF := va_free (wc := []) hw.2.1 hw.2.2 hA [] rfl
  refine va_callr (va_runS (As := As) (rest := rest) S0 hM cw ⟨PcS.blind, fun U hU hW => PcS.of hK hPc hDc hT hw.2.2 hF U hU hW⟩ rfl hn hsz hstk hW hdg hc0) hw.2.2 (fun q _ h => hF q h) hF (fun i ra t H1 locs1 ht hvm hp hB hz1 hk1 hS => ?_)
  rw [hB]
  exact kk i H1 locs1 hp (hw.keep0 hk1 hS)
/-- a call of an instance method over cells and the words -/
theorem kcVsi {S : Type} {post : Int32 → S → Prop} {world : S → va_W} {W1 : S → va_W} (hc0 : k0 ≤ R.cells ∧ n0 ≤ R.slots) (S0 : CallFix p m c cc nL s args Ts own) (hM : Met l y ws rm (PcS D cI cC cR adK adV (.ref b :: As) wc H.size) (QiW D post world wc H.size) 0 0 (va_A wc H.size)) (cw : CallW R s args own C index y bytes maxL ret ws rm 0 0 n) (hK : kw D cI cC cR s) (hA : ∀ q : Nat, s.heap.size ≤ q → A q) (hw : wd D A s X H locs) (hT : STR adK adV A s s.heap) (isC isR isO : List Nat) (wr : va_W) (hC : isC.map (fun i => X[i]?) = wc.map some) (hR : isR.map (fun i => X[i]?) = wr.map some) (hnC : va_nd isC = true) (hnR : va_nd isR = true) (hdis : ∀ i ∈ isR, i ∉ isC) (hnO : va_nd isO = true) (hO : ∀ u, isO.map (fun i => (wr ++ world u)[i]?) = (W1 u).map some)
    (q0 ci : Nat) {cl : vw_C} {fs : List Value} (hc : vwCl[ci]? = some cl) (hcC : cl.1 = C) (he : X[q0]? = some (b, .inr (ci, fs))) (hn : As.length = n) (hsz : ls.size = nL) (hstk : st0 = As.reverse ++ .ref b :: rest) (hW : 2 * (F0 m pc ls st0).monitorRoom + (rest.map fun v => v.category).sum ≤ 8) (hdg : decode cc pc = .ok (.invokevirtual index, 3))
    (kk : ∀ (r : Int32) (u : S) (H1 : Heap) (locs1 : List Loc), post r u → wd D A s (W1 u) H1 locs1 → W p l e R s m args below meth c H1 locs1 k0 n0 Z (F0 m (pc + 3) ls (.int r :: rest))) : W p l e R s m args below meth c H locs k0 n0 Z (F0 m pc ls st0) := by
  have hPc := hw.1.sub isC (fm_of hC)
  have hDc := hw.2.1.sub isC hnC hC
  have hF := va_free hw.2.1 hw.2.2 hA isC hC
  refine va_calli (va_runV (As := As) (rest := rest) S0 hM cw ⟨PcS.blind, by subst hcC; exact va_recv hK.1 hw.1 hc he, fun U hU hW => PcS.of hK hPc hDc hT hw.2.2 hF U hU hW⟩ rfl hn hsz hstk hW hdg hc0) hw.2.2 (fun q _ h => hF q h) hF (fun r u t H1 locs1 ht hvm hp hB hz1 hk1 hS => ?_)
  obtain ⟨hP1, hD1⟩ := hB
  rw [ht] at hP1
  exact kk r u H1 locs1 hp (kj hw isC isR isO hC wr hR hnR hdis hnO hO hk1 hF hS hP1 hD1)
end KS

theorem hd_J3_checkIndex_8e157 : yJ3_checkIndex_8e157.cls ≠ "java/lang/invoke/MethodHandle" ∧ yJ3_checkIndex_8e157.cls ≠ "java/lang/invoke/VarHandle" ∧ (parseMethodDescriptor yJ3_checkIndex_8e157.desc).map (fun d => d.parameters.length) = some 3 := by decide +kernel
theorem hd_J0_checkIndex_df160 : yJ0_checkIndex_df160.cls ≠ "java/lang/invoke/MethodHandle" ∧ yJ0_checkIndex_df160.cls ≠ "java/lang/invoke/VarHandle" ∧ (parseMethodDescriptor yJ0_checkIndex_df160.desc).map (fun d => d.parameters.length) = some 2 := by decide +kernel
theorem hd_J1_charAt_3b067 : yJ1_charAt_3b067.cls ≠ "java/lang/invoke/MethodHandle" ∧ yJ1_charAt_3b067.cls ≠ "java/lang/invoke/VarHandle" ∧ (parseMethodDescriptor yJ1_charAt_3b067.desc).map (fun d => d.parameters.length) = some 2 := by decide +kernel
theorem hd_J0_charAt_5068e : yJ0_charAt_5068e.cls ≠ "java/lang/invoke/MethodHandle" ∧ yJ0_charAt_5068e.cls ≠ "java/lang/invoke/VarHandle" ∧ (parseMethodDescriptor yJ0_charAt_5068e.desc).map (fun d => d.parameters.length) = some 1 := by decide +kernel
theorem hd_J0_isLatin1_aae02 : yJ0_isLatin1_aae02.cls ≠ "java/lang/invoke/MethodHandle" ∧ yJ0_isLatin1_aae02.cls ≠ "java/lang/invoke/VarHandle" ∧ (parseMethodDescriptor yJ0_isLatin1_aae02.desc).map (fun d => d.parameters.length) = some 0 := by decide +kernel
theorem hd_J0_coder_7d493 : yJ0_coder_7d493.cls ≠ "java/lang/invoke/MethodHandle" ∧ yJ0_coder_7d493.cls ≠ "java/lang/invoke/VarHandle" ∧ (parseMethodDescriptor yJ0_coder_7d493.desc).map (fun d => d.parameters.length) = some 0 := by decide +kernel
theorem hd_J0_length_8abf5 : yJ0_length_8abf5.cls ≠ "java/lang/invoke/MethodHandle" ∧ yJ0_length_8abf5.cls ≠ "java/lang/invoke/VarHandle" ∧ (parseMethodDescriptor yJ0_length_8abf5.desc).map (fun d => d.parameters.length) = some 0 := by decide +kernel
theorem hd_J0_isEmpty_aae02 : yJ0_isEmpty_aae02.cls ≠ "java/lang/invoke/MethodHandle" ∧ yJ0_isEmpty_aae02.cls ≠ "java/lang/invoke/VarHandle" ∧ (parseMethodDescriptor yJ0_isEmpty_aae02.desc).map (fun d => d.parameters.length) = some 0 := by decide +kernel
abbrev rm_J3_checkIndex_8e157 : Room := { frames := 0, cells := 0, slots := 0, locals := 0 }
set_option maxRecDepth 100000 in
set_option maxHeartbeats 4000000 in
theorem c_J3_checkIndex_8e157 (l : Launch) {D : va_G} {cI cC cR : ClassId} (adK adV : Nat → Nat) (sz : Nat) (k n t : Nat) (hk : k < n) (hn : n < 1000) : Met l yJ3_checkIndex_8e157 wsJ3_checkIndex_8e157 rm_J3_checkIndex_8e157 (PcS D cI cC cR adK adV [.int (nI k), .int (nI n), .ref t] [] sz) (QiW D (fun (r : Int32) (_ : Unit) => r = nI k) (fun _ => []) [] sz) 0 0 (va_A [] sz) := by
  refine Met.ofW (cc := cJ3_checkIndex_8e157) (maxL := 3) (ret := (some .int)) (by decide) rfl ?_
  intro p e s m args below meth c s₁ B hml hv
  obtain ⟨rfl, hsz, hP, hKw, hD0, hT⟩ := hv
  have hlocks := B.notSynchronized
  subst hsz
  have hD := hD0.self (sz := s.heap.size)
  have hx := B.exec
  have hb := B.bytes
  have hr := B.returns
  have hts := atoms_spec (ws := wsJ3_checkIndex_8e157) B.pre
  have hown : s.vm.findClass RJ3 = some m.cls := findClass_of_methodNamed B.named
  have hA : ∀ q : Nat, s.heap.size ≤ q → va_A [] s.heap.size q := fun q h => Or.inr h
  have hwd : wd D (va_A [] s.heap.size) s [] s.heap [] := ⟨hP, hD, va_S.rf⟩
  have hl := lv_entry ([.int (nI k), .int (nI n), .ref t]) (n := 3) (Nat.le_of_ble_eq_true rfl)
  rw [lg_entry_eq]
  generalize (lg_sl ([.int (nI k), .int (nI n), .ref t]) ++ List.replicate (3 - (lg_sl ([.int (nI k), .int (nI n), .ref t])).length) Slot.unset).toArray = ls at hl ⊢
  have hl : lv_has ls 3 [(0, .int (nI k)), (1, .int (nI n)), (2, .ref t)] := hl
  refine lv_iload_n hx hb dJ3_checkIndex_8e157_0 rfl (lv_at hl 0 rfl) ?_
  refine lv_if_lt (tgt := 9) hx hb dJ3_checkIndex_8e157_1 (by decide) (fun c1 => absurd c1 (nI_pos (by omega))) (fun c1 => ?_)
  refine lv_iload_n hx hb dJ3_checkIndex_8e157_4 rfl (lv_at hl 0 rfl) ?_
  refine lv_iload_n hx hb dJ3_checkIndex_8e157_5 rfl (lv_at hl 1 rfl) ?_
  refine lv_icmp_lt (tgt := 16) hx hb dJ3_checkIndex_8e157_6 (by decide) (fun c2 => ?_) (fun c2 => absurd (nI_lt hk (by omega)) c2)
  refine lv_iload_n hx hb dJ3_checkIndex_8e157_16 rfl (lv_at hl 0 rfl) ?_
  exact W.iret (v := nI k) hx hb hr (fun t ht hW => ⟨⟨nI k, (), rfl, rfl, by rw [ht]; exact hwd.1, hwd.2.1⟩, hwd.2.2.F ht⟩) hwd.2.2.2.2 dJ3_checkIndex_8e157_17
set_option maxRecDepth 100000 in
set_option maxHeartbeats 4000000 in
theorem c_J3_checkIndex_8e157_null (l : Launch) {D : va_G} {cI cC cR : ClassId} (adK adV : Nat → Nat) (sz : Nat) (k n : Nat) (hk : k < n) (hn : n < 1000) : Met l yJ3_checkIndex_8e157 wsJ3_checkIndex_8e157 rm_J3_checkIndex_8e157 (PcS D cI cC cR adK adV [.int (nI k), .int (nI n), .null] [] sz) (QiW D (fun (r : Int32) (_ : Unit) => r = nI k) (fun _ => []) [] sz) 0 0 (va_A [] sz) := by
  refine Met.ofW (cc := cJ3_checkIndex_8e157) (maxL := 3) (ret := (some .int)) (by decide) rfl ?_
  intro p e s m args below meth c s₁ B hml hv
  obtain ⟨rfl, hsz, hP, hKw, hD0, hT⟩ := hv
  have hlocks := B.notSynchronized
  subst hsz
  have hD := hD0.self (sz := s.heap.size)
  have hx := B.exec
  have hb := B.bytes
  have hr := B.returns
  have hts := atoms_spec (ws := wsJ3_checkIndex_8e157) B.pre
  have hown : s.vm.findClass RJ3 = some m.cls := findClass_of_methodNamed B.named
  have hA : ∀ q : Nat, s.heap.size ≤ q → va_A [] s.heap.size q := fun q h => Or.inr h
  have hwd : wd D (va_A [] s.heap.size) s [] s.heap [] := ⟨hP, hD, va_S.rf⟩
  have hl := lv_entry ([.int (nI k), .int (nI n), .null]) (n := 3) (Nat.le_of_ble_eq_true rfl)
  rw [lg_entry_eq]
  generalize (lg_sl ([.int (nI k), .int (nI n), .null]) ++ List.replicate (3 - (lg_sl ([.int (nI k), .int (nI n), .null])).length) Slot.unset).toArray = ls at hl ⊢
  have hl : lv_has ls 3 [(0, .int (nI k)), (1, .int (nI n)), (2, .null)] := hl
  refine lv_iload_n hx hb dJ3_checkIndex_8e157_0 rfl (lv_at hl 0 rfl) ?_
  refine lv_if_lt (tgt := 9) hx hb dJ3_checkIndex_8e157_1 (by decide) (fun c1 => absurd c1 (nI_pos (by omega))) (fun c1 => ?_)
  refine lv_iload_n hx hb dJ3_checkIndex_8e157_4 rfl (lv_at hl 0 rfl) ?_
  refine lv_iload_n hx hb dJ3_checkIndex_8e157_5 rfl (lv_at hl 1 rfl) ?_
  refine lv_icmp_lt (tgt := 16) hx hb dJ3_checkIndex_8e157_6 (by decide) (fun c2 => ?_) (fun c2 => absurd (nI_lt hk (by omega)) c2)
  refine lv_iload_n hx hb dJ3_checkIndex_8e157_16 rfl (lv_at hl 0 rfl) ?_
  exact W.iret (v := nI k) hx hb hr (fun t ht hW => ⟨⟨nI k, (), rfl, rfl, by rw [ht]; exact hwd.1, hwd.2.1⟩, hwd.2.2.F ht⟩) hwd.2.2.2.2 dJ3_checkIndex_8e157_17
abbrev rm_J0_checkIndex_df160 : Room := { frames := 1, cells := 0, slots := 0, locals := 22 }
set_option maxRecDepth 100000 in
set_option maxHeartbeats 4000000 in
theorem c_J0_checkIndex_df160 (l : Launch) {D : va_G} {cI cC cR : ClassId} (adK adV : Nat → Nat) (sz : Nat) (k n : Nat) (hk : k < n) (hn : n < 1000) : Met l yJ0_checkIndex_df160 wsJ0_checkIndex_df160 rm_J0_checkIndex_df160 (PcS D cI cC cR adK adV [.int (nI k), .int (nI n)] [] sz) (QvW D (fun (_ : Unit) => True) (fun _ => []) [] sz) 0 0 (va_A [] sz) := by
  refine Met.ofW (cc := cJ0_checkIndex_df160) (maxL := 2) (ret := none) (by decide) rfl ?_
  intro p e s m args below meth c s₁ B hml hv
  obtain ⟨rfl, hsz, hP, hKw, hD0, hT⟩ := hv
  have hlocks := B.notSynchronized
  subst hsz
  have hD := hD0.self (sz := s.heap.size)
  have hx := B.exec
  have hb := B.bytes
  have hr := B.returns
  have hts := atoms_spec (ws := wsJ0_checkIndex_df160) B.pre
  have hown : s.vm.findClass RJ0 = some m.cls := findClass_of_methodNamed B.named
  have hA : ∀ q : Nat, s.heap.size ≤ q → va_A [] s.heap.size q := fun q h => Or.inr h
  have hwd : wd D (va_A [] s.heap.size) s [] s.heap [] := ⟨hP, hD, va_S.rf⟩
  have hl := lv_entry ([.int (nI k), .int (nI n)]) (n := 2) (Nat.le_of_ble_eq_true rfl)
  rw [lg_entry_eq]
  generalize (lg_sl ([.int (nI k), .int (nI n)]) ++ List.replicate (2 - (lg_sl ([.int (nI k), .int (nI n)])).length) Slot.unset).toArray = ls at hl ⊢
  have hl : lv_has ls 2 [(0, .int (nI k)), (1, .int (nI n))] := hl
  rcases hT.2.2.1 with hZ | ⟨t0, hZ⟩
  · refine lv_iload_n hx hb dJ0_checkIndex_df160_0 rfl (lv_at hl 0 rfl) ?_
    refine lv_iload_n hx hb dJ0_checkIndex_df160_1 rfl (lv_at hl 1 rfl) ?_
    refine va_gets hx hb hZ hwd.2.2 hown (hts (.fieldLink RJ0 1053 "jdk/internal/util/Preconditions" "SIOOBE_FORMATTER" "Ljava/util/function/BiFunction;") (List.mem_of_getElem? (i := 1) rfl)) (fun _ h9 => h9) dJ0_checkIndex_df160_2 ?_
    refine kcSsi (rest := []) (As := [.int (nI k), .int (nI n), .null]) ⟨Nat.le_of_ble_eq_true rfl, Nat.le_of_ble_eq_true rfl⟩ ⟨hx, hb, hml, hown, hts⟩ (c_J3_checkIndex_8e157_null l adK adV s.heap.size k n hk hn) (va_cwS 3 hts gJ0_checkIndex_df160_J3_checkIndex_8e157 rfl rfl rfl hd_J3_checkIndex_8e157 ⟨Nat.le_of_ble_eq_true rfl, Nat.le_of_ble_eq_true rfl⟩) hKw hA hwd hT rfl hl.1 rfl (lv_room (Nat.le_of_ble_eq_true rfl)) dJ0_checkIndex_df160_5 (fun r H locs hr1 hwd => ?_)
    refine lv_pop hx hb dJ0_checkIndex_df160_8 rfl ?_
    exact W.vret hx hb hr (fun t ht hW => ⟨⟨(), rfl, trivial, by rw [ht]; exact hwd.1, hwd.2.1⟩, hwd.2.2.F ht⟩) hwd.2.2.2.2 dJ0_checkIndex_df160_9
  · refine lv_iload_n hx hb dJ0_checkIndex_df160_0 rfl (lv_at hl 0 rfl) ?_
    refine lv_iload_n hx hb dJ0_checkIndex_df160_1 rfl (lv_at hl 1 rfl) ?_
    refine va_gets hx hb hZ hwd.2.2 hown (hts (.fieldLink RJ0 1053 "jdk/internal/util/Preconditions" "SIOOBE_FORMATTER" "Ljava/util/function/BiFunction;") (List.mem_of_getElem? (i := 1) rfl)) (fun _ h9 => h9) dJ0_checkIndex_df160_2 ?_
    refine kcSsi (rest := []) (As := [.int (nI k), .int (nI n), .ref t0]) ⟨Nat.le_of_ble_eq_true rfl, Nat.le_of_ble_eq_true rfl⟩ ⟨hx, hb, hml, hown, hts⟩ (c_J3_checkIndex_8e157 l adK adV s.heap.size k n t0 hk hn) (va_cwS 3 hts gJ0_checkIndex_df160_J3_checkIndex_8e157 rfl rfl rfl hd_J3_checkIndex_8e157 ⟨Nat.le_of_ble_eq_true rfl, Nat.le_of_ble_eq_true rfl⟩) hKw hA hwd hT rfl hl.1 rfl (lv_room (Nat.le_of_ble_eq_true rfl)) dJ0_checkIndex_df160_5 (fun r H locs hr1 hwd => ?_)
    refine lv_pop hx hb dJ0_checkIndex_df160_8 rfl ?_
    exact W.vret hx hb hr (fun t ht hW => ⟨⟨(), rfl, trivial, by rw [ht]; exact hwd.1, hwd.2.1⟩, hwd.2.2.F ht⟩) hwd.2.2.2.2 dJ0_checkIndex_df160_9
abbrev rm_J0_isLatin1_aae02 : Room := { frames := 0, cells := 0, slots := 0, locals := 0 }
set_option maxRecDepth 100000 in
set_option maxHeartbeats 4000000 in
theorem c_J0_isLatin1_aae02 (l : Launch) {D : va_G} {cI cC cR : ClassId} (adK adV : Nat → Nat) (sz : Nat) (i : Nat) (hi : i < 5) : Met l yJ0_isLatin1_aae02 wsJ0_isLatin1_aae02 rm_J0_isLatin1_aae02 (PcS D cI cC cR adK adV [.ref (adK i)] [] sz) (QiW D (fun (r : Int32) (_ : Unit) => r = nI 1) (fun _ => []) [] sz) 0 0 (va_A [] sz) := by
  refine Met.ofW (cc := cJ0_isLatin1_aae02) (maxL := 1) (ret := (some .boolean)) (by decide) rfl ?_
  intro p e s m args below meth c s₁ B hml hv
  obtain ⟨rfl, hsz, hP, hKw, hD0, hT⟩ := hv
  have hlocks := B.notSynchronized
  subst hsz
  have hD := hD0.self (sz := s.heap.size)
  have hx := B.exec
  have hb := B.bytes
  have hr := B.returns
  have hts := atoms_spec (ws := wsJ0_isLatin1_aae02) B.pre
  have hown : s.vm.findClass RJ0 = some m.cls := findClass_of_methodNamed B.named
  have hA : ∀ q : Nat, s.heap.size ≤ q → va_A [] s.heap.size q := fun q h => Or.inr h
  have hwd : wd D (va_A [] s.heap.size) s [] s.heap [] := ⟨hP, hD, va_S.rf⟩
  have hl := lv_entry ([.ref (adK i)]) (n := 1) (Nat.le_of_ble_eq_true rfl)
  rw [lg_entry_eq]
  generalize (lg_sl ([.ref (adK i)]) ++ List.replicate (1 - (lg_sl ([.ref (adK i)])).length) Slot.unset).toArray = ls at hl ⊢
  have hl : lv_has ls 1 [(0, .ref (adK i))] := hl
  obtain ⟨hO, hcod, hval, hbyt⟩ := hT.1.1 i hi
  refine va_gets hx hb hT.2.1 hwd.2.2 hown (hts (.fieldLink RJ0 38 "java/lang/String" "COMPACT_STRINGS" "Z") (List.mem_of_getElem? (i := 1) rfl)) (fun _ h9 => h9) dJ0_isLatin1_aae02_0 ?_
  refine lv_if_eq (tgt := 17) hx hb dJ0_isLatin1_aae02_3 (by decide) (fun c1 => absurd c1 (by decide)) (fun c1 => ?_)
  refine lv_aload_n hx hb dJ0_isLatin1_aae02_6 rfl (lv_at hl 0 rfl) ?_
  refine vk_getf hx hb hcod hwd.2.2 hown (hts (.fieldLink RJ0 15 "java/lang/String" "coder" "B") (List.mem_of_getElem? (i := 2) rfl)) (fun _ h9 => h9) dJ0_isLatin1_aae02_7 ?_
  refine lv_if_ne (tgt := 17) hx hb dJ0_isLatin1_aae02_10 (by decide) (fun c2 => absurd rfl c2) (fun c2 => ?_)
  refine lv_iconst (v := nI 1) hx hb dJ0_isLatin1_aae02_13 rfl ?_
  refine lv_goto (tgt := 18) hx hb dJ0_isLatin1_aae02_14 (by decide) ?_
  exact W.zret (v := nI 1) hx hb hr (rfl) (fun t ht hW => ⟨⟨nI 1, (), rfl, rfl, by rw [ht]; exact hwd.1, hwd.2.1⟩, hwd.2.2.F ht⟩) hwd.2.2.2.2 dJ0_isLatin1_aae02_18
abbrev rm_J0_coder_7d493 : Room := { frames := 0, cells := 0, slots := 0, locals := 0 }
set_option maxRecDepth 100000 in
set_option maxHeartbeats 4000000 in
theorem c_J0_coder_7d493 (l : Launch) {D : va_G} {cI cC cR : ClassId} (adK adV : Nat → Nat) (sz : Nat) (i : Nat) (hi : i < 5) : Met l yJ0_coder_7d493 wsJ0_coder_7d493 rm_J0_coder_7d493 (PcS D cI cC cR adK adV [.ref (adK i)] [] sz) (QiW D (fun (r : Int32) (_ : Unit) => r = 0) (fun _ => []) [] sz) 0 0 (va_A [] sz) := by
  refine Met.ofW (cc := cJ0_coder_7d493) (maxL := 1) (ret := (some .byte)) (by decide) rfl ?_
  intro p e s m args below meth c s₁ B hml hv
  obtain ⟨rfl, hsz, hP, hKw, hD0, hT⟩ := hv
  have hlocks := B.notSynchronized
  subst hsz
  have hD := hD0.self (sz := s.heap.size)
  have hx := B.exec
  have hb := B.bytes
  have hr := B.returns
  have hts := atoms_spec (ws := wsJ0_coder_7d493) B.pre
  have hown : s.vm.findClass RJ0 = some m.cls := findClass_of_methodNamed B.named
  have hA : ∀ q : Nat, s.heap.size ≤ q → va_A [] s.heap.size q := fun q h => Or.inr h
  have hwd : wd D (va_A [] s.heap.size) s [] s.heap [] := ⟨hP, hD, va_S.rf⟩
  have hl := lv_entry ([.ref (adK i)]) (n := 1) (Nat.le_of_ble_eq_true rfl)
  rw [lg_entry_eq]
  generalize (lg_sl ([.ref (adK i)]) ++ List.replicate (1 - (lg_sl ([.ref (adK i)])).length) Slot.unset).toArray = ls at hl ⊢
  have hl : lv_has ls 1 [(0, .ref (adK i))] := hl
  obtain ⟨hO, hcod, hval, hbyt⟩ := hT.1.1 i hi
  refine va_gets hx hb hT.2.1 hwd.2.2 hown (hts (.fieldLink RJ0 38 "java/lang/String" "COMPACT_STRINGS" "Z") (List.mem_of_getElem? (i := 1) rfl)) (fun _ h9 => h9) dJ0_coder_7d493_0 ?_
  refine lv_if_eq (tgt := 13) hx hb dJ0_coder_7d493_3 (by decide) (fun c1 => absurd c1 (by decide)) (fun c1 => ?_)
  refine lv_aload_n hx hb dJ0_coder_7d493_6 rfl (lv_at hl 0 rfl) ?_
  refine vk_getf hx hb hcod hwd.2.2 hown (hts (.fieldLink RJ0 15 "java/lang/String" "coder" "B") (List.mem_of_getElem? (i := 2) rfl)) (fun _ h9 => h9) dJ0_coder_7d493_7 ?_
  refine lv_goto (tgt := 14) hx hb dJ0_coder_7d493_10 (by decide) ?_
  exact W.zret (v := (0 : Int32)) hx hb hr (rfl) (fun t ht hW => ⟨⟨(0 : Int32), (), rfl, rfl, by rw [ht]; exact hwd.1, hwd.2.1⟩, hwd.2.2.F ht⟩) hwd.2.2.2.2 dJ0_coder_7d493_14
abbrev rm_J0_isEmpty_aae02 : Room := { frames := 0, cells := 0, slots := 0, locals := 0 }
set_option maxRecDepth 100000 in
set_option maxHeartbeats 4000000 in
theorem c_J0_isEmpty_aae02 (l : Launch) {D : va_G} {cI cC cR : ClassId} (adK adV : Nat → Nat) (sz : Nat) (i : Nat) (hi : i < 5) : Met l yJ0_isEmpty_aae02 wsJ0_isEmpty_aae02 rm_J0_isEmpty_aae02 (PcS D cI cC cR adK adV [.ref (adK i)] [] sz) (QiW D (fun (r : Int32) (_ : Unit) => r = nI 0) (fun _ => []) [] sz) 0 0 (va_A [] sz) := by
  refine Met.ofW (cc := cJ0_isEmpty_aae02) (maxL := 1) (ret := (some .boolean)) (by decide) rfl ?_
  intro p e s m args below meth c s₁ B hml hv
  obtain ⟨rfl, hsz, hP, hKw, hD0, hT⟩ := hv
  have hlocks := B.notSynchronized
  subst hsz
  have hD := hD0.self (sz := s.heap.size)
  have hx := B.exec
  have hb := B.bytes
  have hr := B.returns
  have hts := atoms_spec (ws := wsJ0_isEmpty_aae02) B.pre
  have hown : s.vm.findClass RJ0 = some m.cls := findClass_of_methodNamed B.named
  have hA : ∀ q : Nat, s.heap.size ≤ q → va_A [] s.heap.size q := fun q h => Or.inr h
  have hwd : wd D (va_A [] s.heap.size) s [] s.heap [] := ⟨hP, hD, va_S.rf⟩
  have hl := lv_entry ([.ref (adK i)]) (n := 1) (Nat.le_of_ble_eq_true rfl)
  rw [lg_entry_eq]
  generalize (lg_sl ([.ref (adK i)]) ++ List.replicate (1 - (lg_sl ([.ref (adK i)])).length) Slot.unset).toArray = ls at hl ⊢
  have hl : lv_has ls 1 [(0, .ref (adK i))] := hl
  obtain ⟨hO, hcod, hval, hbyt⟩ := hT.1.1 i hi
  have hlen := (sw_all i hi).1
  refine lv_aload_n hx hb dJ0_isEmpty_aae02_0 rfl (lv_at hl 0 rfl) ?_
  refine vk_getf hx hb hval hwd.2.2 hown (hts (.fieldLink RJ0 9 "java/lang/String" "value" "[B") (List.mem_of_getElem? (i := 1) rfl)) (fun _ h9 => h9) dJ0_isEmpty_aae02_1 ?_
  refine va_tlen hx hb hbyt hwd.2.2 (v := nI (swl i)) rfl dJ0_isEmpty_aae02_4 ?_
  refine lv_if_ne (tgt := 12) hx hb dJ0_isEmpty_aae02_5 (by decide) (fun c1 => ?_) (fun c1 => absurd c1 (nI_ne0 hlen.1 (by omega)))
  refine lv_iconst (v := nI 0) hx hb dJ0_isEmpty_aae02_12 rfl ?_
  exact W.zret (v := nI 0) hx hb hr (rfl) (fun t ht hW => ⟨⟨nI 0, (), rfl, rfl, by rw [ht]; exact hwd.1, hwd.2.1⟩, hwd.2.2.F ht⟩) hwd.2.2.2.2 dJ0_isEmpty_aae02_13
abbrev rm_J0_length_8abf5 : Room := { frames := 1, cells := 0, slots := 0, locals := 20 }
set_option maxRecDepth 100000 in
set_option maxHeartbeats 4000000 in
theorem c_J0_length_8abf5 (l : Launch) {D : va_G} {cI cC cR : ClassId} (adK adV : Nat → Nat) (sz : Nat) (i : Nat) (hi : i < 5) : Met l yJ0_length_8abf5 wsJ0_length_8abf5 rm_J0_length_8abf5 (PcS D cI cC cR adK adV [.ref (adK i)] [] sz) (QiW D (fun (r : Int32) (_ : Unit) => r = nI (swl i)) (fun _ => []) [] sz) 0 0 (va_A [] sz) := by
  refine Met.ofW (cc := cJ0_length_8abf5) (maxL := 1) (ret := (some .int)) (by decide) rfl ?_
  intro p e s m args below meth c s₁ B hml hv
  obtain ⟨rfl, hsz, hP, hKw, hD0, hT⟩ := hv
  have hlocks := B.notSynchronized
  subst hsz
  have hD := hD0.self (sz := s.heap.size)
  have hx := B.exec
  have hb := B.bytes
  have hr := B.returns
  have hts := atoms_spec (ws := wsJ0_length_8abf5) B.pre
  have hown : s.vm.findClass RJ0 = some m.cls := findClass_of_methodNamed B.named
  have hA : ∀ q : Nat, s.heap.size ≤ q → va_A [] s.heap.size q := fun q h => Or.inr h
  have hwd : wd D (va_A [] s.heap.size) s [] s.heap [] := ⟨hP, hD, va_S.rf⟩
  have hl := lv_entry ([.ref (adK i)]) (n := 1) (Nat.le_of_ble_eq_true rfl)
  rw [lg_entry_eq]
  generalize (lg_sl ([.ref (adK i)]) ++ List.replicate (1 - (lg_sl ([.ref (adK i)])).length) Slot.unset).toArray = ls at hl ⊢
  have hl : lv_has ls 1 [(0, .ref (adK i))] := hl
  obtain ⟨hO, hcod, hval, hbyt⟩ := hT.1.1 i hi
  refine lv_aload_n hx hb dJ0_length_8abf5_0 rfl (lv_at hl 0 rfl) ?_
  refine vk_getf hx hb hval hwd.2.2 hown (hts (.fieldLink RJ0 9 "java/lang/String" "value" "[B") (List.mem_of_getElem? (i := 1) rfl)) (fun _ h9 => h9) dJ0_length_8abf5_1 ?_
  refine va_tlen hx hb hbyt hwd.2.2 (v := nI (swl i)) rfl dJ0_length_8abf5_4 ?_
  refine lv_aload_n hx hb dJ0_length_8abf5_5 rfl (lv_at hl 0 rfl) ?_
  refine kcK (rest := [.int (nI (swl i))]) (As := []) ⟨Nat.le_of_ble_eq_true rfl, Nat.le_of_ble_eq_true rfl⟩ ⟨hx, hb, hml, hown, hts⟩ hi (c_J0_coder_7d493 l adK adV s.heap.size i hi) (cwV 0 hts gJ0_length_8abf5_J0_coder_7d493 rfl rfl rfl ⟨rfl, hd_J0_coder_7d493⟩ ⟨Nat.le_of_ble_eq_true rfl, Nat.le_of_ble_eq_true rfl⟩) hKw hA hwd hT rfl hl.1 rfl (lv_room (Nat.le_of_ble_eq_true rfl)) dJ0_length_8abf5_6 (fun r H locs hr1 hwd => ?_)
  refine lv_ishr hx hb dJ0_length_8abf5_9 ?_
  have e1 : nI (swl i) >>> (r &&& 31) = nI (swl i) := by rw [show r = 0 from hr1]; exact (show ∀ i, i < 5 → nI (swl i) >>> ((0 : Int32) &&& 31) = nI (swl i) by decide +kernel) i hi
  rw [e1]
  exact W.iret (v := nI (swl i)) hx hb hr (fun t ht hW => ⟨⟨nI (swl i), (), rfl, rfl, by rw [ht]; exact hwd.1, hwd.2.1⟩, hwd.2.2.F ht⟩) hwd.2.2.2.2 dJ0_length_8abf5_10
abbrev rm_J1_charAt_3b067 : Room := { frames := 2, cells := 0, slots := 0, locals := 43 }
set_option maxRecDepth 100000 in
set_option maxHeartbeats 4000000 in
theorem c_J1_charAt_3b067 (l : Launch) {D : va_G} {cI cC cR : ClassId} (adK adV : Nat → Nat) (sz : Nat) (i k : Nat) (hi : i < 5) (hk : k < swl i) : Met l yJ1_charAt_3b067 wsJ1_charAt_3b067 rm_J1_charAt_3b067 (PcS D cI cC cR adK adV [.ref (adV i), .int (nI k)] [] sz) (QiW D (fun (r : Int32) (_ : Unit) => r = nI (swc i k)) (fun _ => []) [] sz) 0 0 (va_A [] sz) := by
  refine Met.ofW (cc := cJ1_charAt_3b067) (maxL := 2) (ret := (some .char)) (by decide) rfl ?_
  intro p e s m args below meth c s₁ B hml hv
  obtain ⟨rfl, hsz, hP, hKw, hD0, hT⟩ := hv
  have hlocks := B.notSynchronized
  subst hsz
  have hD := hD0.self (sz := s.heap.size)
  have hx := B.exec
  have hb := B.bytes
  have hr := B.returns
  have hts := atoms_spec (ws := wsJ1_charAt_3b067) B.pre
  have hown : s.vm.findClass RJ1 = some m.cls := findClass_of_methodNamed B.named
  have hA : ∀ q : Nat, s.heap.size ≤ q → va_A [] s.heap.size q := fun q h => Or.inr h
  have hwd : wd D (va_A [] s.heap.size) s [] s.heap [] := ⟨hP, hD, va_S.rf⟩
  have hl := lv_entry ([.ref (adV i), .int (nI k)]) (n := 2) (Nat.le_of_ble_eq_true rfl)
  rw [lg_entry_eq]
  generalize (lg_sl ([.ref (adV i), .int (nI k)]) ++ List.replicate (2 - (lg_sl ([.ref (adV i), .int (nI k)])).length) Slot.unset).toArray = ls at hl ⊢
  have hl : lv_has ls 2 [(0, .ref (adV i)), (1, .int (nI k))] := hl
  obtain ⟨hO, hcod, hval, hbyt⟩ := hT.1.1 i hi
  have hlen := (sw_all i hi).1
  refine lv_iload_n hx hb dJ1_charAt_3b067_0 rfl (lv_at hl 1 rfl) ?_
  refine lv_aload_n hx hb dJ1_charAt_3b067_1 rfl (lv_at hl 0 rfl) ?_
  refine va_tlen hx hb hbyt hwd.2.2 (v := nI (swl i)) rfl dJ1_charAt_3b067_2 ?_
  refine kcSsv (rest := []) (As := [.int (nI k), .int (nI (swl i))]) ⟨Nat.le_of_ble_eq_true rfl, Nat.le_of_ble_eq_true rfl⟩ ⟨hx, hb, hml, hown, hts⟩ (c_J0_checkIndex_df160 l adK adV s.heap.size k (swl i) hk (by omega)) (va_cwS 2 hts gJ1_charAt_3b067_J0_checkIndex_df160 rfl rfl rfl hd_J0_checkIndex_df160 ⟨Nat.le_of_ble_eq_true rfl, Nat.le_of_ble_eq_true rfl⟩) hKw hA hwd hT rfl hl.1 rfl (lv_room (Nat.le_of_ble_eq_true rfl)) dJ1_charAt_3b067_3 (fun H locs hr1 hwd => ?_)
  refine lv_aload_n hx hb dJ1_charAt_3b067_6 rfl (lv_at hl 0 rfl) ?_
  refine lv_iload_n hx hb dJ1_charAt_3b067_7 rfl (lv_at hl 1 rfl) ?_
  refine va_tb hx hb hbyt hwd.2.2 (vp_in_nI (N := swl i) hk (by omega)) (v := .int ((sbyt.getD i []).getD k 0)) (by rw [nI_clamp (by omega)]) dJ1_charAt_3b067_8 ?_
  refine lv_sipush (v := nI 255) hx hb dJ1_charAt_3b067_9 rfl ?_
  refine lv_iand hx hb dJ1_charAt_3b067_12 ?_
  refine lv_i2c (v := nI (swc i k)) hx hb dJ1_charAt_3b067_13 ((sw_all i hi).2 k hk).2 ?_
  exact W.zret (v := nI (swc i k)) hx hb hr ((pk_charN (Nat.lt_of_lt_of_le ((sw_all i hi).2 k hk).1 (by decide))).1) (fun t ht hW => ⟨⟨nI (swc i k), (), rfl, rfl, by rw [ht]; exact hwd.1, hwd.2.1⟩, hwd.2.2.F ht⟩) hwd.2.2.2.2 dJ1_charAt_3b067_14
abbrev rm_J0_charAt_5068e : Room := { frames := 3, cells := 0, slots := 0, locals := 64 }
set_option maxRecDepth 100000 in
set_option maxHeartbeats 4000000 in
theorem c_J0_charAt_5068e (l : Launch) {D : va_G} {cI cC cR : ClassId} (adK adV : Nat → Nat) (sz : Nat) (i k : Nat) (hi : i < 5) (hk : k < swl i) : Met l yJ0_charAt_5068e wsJ0_charAt_5068e rm_J0_charAt_5068e (PcS D cI cC cR adK adV [.ref (adK i), .int (nI k)] [] sz) (QiW D (fun (r : Int32) (_ : Unit) => r = nI (swc i k)) (fun _ => []) [] sz) 0 0 (va_A [] sz) := by
  refine Met.ofW (cc := cJ0_charAt_5068e) (maxL := 2) (ret := (some .char)) (by decide) rfl ?_
  intro p e s m args below meth c s₁ B hml hv
  obtain ⟨rfl, hsz, hP, hKw, hD0, hT⟩ := hv
  have hlocks := B.notSynchronized
  subst hsz
  have hD := hD0.self (sz := s.heap.size)
  have hx := B.exec
  have hb := B.bytes
  have hr := B.returns
  have hts := atoms_spec (ws := wsJ0_charAt_5068e) B.pre
  have hown : s.vm.findClass RJ0 = some m.cls := findClass_of_methodNamed B.named
  have hA : ∀ q : Nat, s.heap.size ≤ q → va_A [] s.heap.size q := fun q h => Or.inr h
  have hwd : wd D (va_A [] s.heap.size) s [] s.heap [] := ⟨hP, hD, va_S.rf⟩
  have hl := lv_entry ([.ref (adK i), .int (nI k)]) (n := 2) (Nat.le_of_ble_eq_true rfl)
  rw [lg_entry_eq]
  generalize (lg_sl ([.ref (adK i), .int (nI k)]) ++ List.replicate (2 - (lg_sl ([.ref (adK i), .int (nI k)])).length) Slot.unset).toArray = ls at hl ⊢
  have hl : lv_has ls 2 [(0, .ref (adK i)), (1, .int (nI k))] := hl
  obtain ⟨hO, hcod, hval, hbyt⟩ := hT.1.1 i hi
  refine lv_aload_n hx hb dJ0_charAt_5068e_0 rfl (lv_at hl 0 rfl) ?_
  refine kcK (rest := []) (As := []) ⟨Nat.le_of_ble_eq_true rfl, Nat.le_of_ble_eq_true rfl⟩ ⟨hx, hb, hml, hown, hts⟩ hi (c_J0_isLatin1_aae02 l adK adV s.heap.size i hi) (cwV 0 hts gJ0_charAt_5068e_J0_isLatin1_aae02 rfl rfl rfl ⟨rfl, hd_J0_isLatin1_aae02⟩ ⟨Nat.le_of_ble_eq_true rfl, Nat.le_of_ble_eq_true rfl⟩) hKw hA hwd hT rfl hl.1 rfl (lv_room (Nat.le_of_ble_eq_true rfl)) dJ0_charAt_5068e_1 (fun r H locs hr1 hwd => ?_)
  obtain rfl : r = nI 1 := hr1
  refine lv_if_eq (tgt := 16) hx hb dJ0_charAt_5068e_4 (by decide) (fun c1 => absurd c1 (by decide)) (fun c1 => ?_)
  refine lv_aload_n hx hb dJ0_charAt_5068e_7 rfl (lv_at hl 0 rfl) ?_
  refine vk_getf hx hb hval hwd.2.2 hown (hts (.fieldLink RJ0 9 "java/lang/String" "value" "[B") (List.mem_of_getElem? (i := 1) rfl)) (fun _ h9 => h9) dJ0_charAt_5068e_8 ?_
  refine lv_iload_n hx hb dJ0_charAt_5068e_11 rfl (lv_at hl 1 rfl) ?_
  refine kcSsi (rest := []) (As := [.ref (adV i), .int (nI k)]) ⟨Nat.le_of_ble_eq_true rfl, Nat.le_of_ble_eq_true rfl⟩ ⟨hx, hb, hml, hown, hts⟩ (c_J1_charAt_3b067 l adK adV H.size i k hi hk) (va_cwS 2 hts gJ0_charAt_5068e_J1_charAt_3b067 rfl rfl rfl hd_J1_charAt_3b067 ⟨Nat.le_of_ble_eq_true rfl, Nat.le_of_ble_eq_true rfl⟩) hKw hA hwd hT rfl hl.1 rfl (lv_room (Nat.le_of_ble_eq_true rfl)) dJ0_charAt_5068e_12 (fun r H locs hr2 hwd => ?_)
  obtain rfl : r = nI (swc i k) := hr2
  exact W.zret (v := nI (swc i k)) hx hb hr ((pk_charN (Nat.lt_of_lt_of_le ((sw_all i hi).2 k hk).1 (by decide))).1) (fun t ht hW => ⟨⟨nI (swc i k), (), rfl, rfl, by rw [ht]; exact hwd.1, hwd.2.1⟩, hwd.2.2.F ht⟩) hwd.2.2.2.2 dJ0_charAt_5068e_15
def wp_X3_wordOf (x0 : Int32) (Q : Nat → Prop) : Prop := ((x0 = nI 0 → Q 0) ∧ (¬ x0 = nI 0 → (x0 = nI 1 → Q 1) ∧ (¬ x0 = nI 1 → (x0 = nI 2 → Q 2) ∧ (¬ x0 = nI 2 → (x0 = nI 3 → Q 3) ∧ (¬ x0 = nI 3 → Q 4)))))
abbrev rm_X3_wordOf : Room := { frames := 0, cells := 0, slots := 0, locals := 0 }
set_option maxRecDepth 100000 in
set_option maxHeartbeats 4000000 in
theorem c_X3_wordOf (l : Launch) {D : va_G} {cI cC cR : ClassId} (adK adV : Nat → Nat) (sz : Nat) (x0 : Int32) {Q : Nat → Prop} (hw : wp_X3_wordOf x0 Q) : Met l yX3_wordOf wsX3_wordOf rm_X3_wordOf (PcS D cI cC cR adK adV [.int x0] [] sz) (va_Qr (fun (i : Nat) => Q i) (fun i a _ => a = adK i) (va_A [] sz)) 0 0 (va_A [] sz) := by
  refine Met.ofW (cc := cX3_wordOf) (maxL := 1) (ret := (some (.object "java/lang/String"))) (by decide) rfl ?_
  intro p e s m args below meth c s₁ B hml hv
  obtain ⟨rfl, hsz, hP, hKw, hD0, hT⟩ := hv
  have hlocks := B.notSynchronized
  subst hsz
  have hD := hD0.self (sz := s.heap.size)
  have hx := B.exec
  have hb := B.bytes
  have hr := B.returns
  have hts := atoms_spec (ws := wsX3_wordOf) B.pre
  have hown : s.vm.findClass RX3 = some m.cls := findClass_of_methodNamed B.named
  have hA : ∀ q : Nat, s.heap.size ≤ q → va_A [] s.heap.size q := fun q h => Or.inr h
  have hwd : wd D (va_A [] s.heap.size) s [] s.heap [] := ⟨hP, hD, va_S.rf⟩
  have hl := lv_entry ([.int x0]) (n := 1) (Nat.le_of_ble_eq_true rfl)
  rw [lg_entry_eq]
  generalize (lg_sl ([.int x0]) ++ List.replicate (1 - (lg_sl ([.int x0])).length) Slot.unset).toArray = ls at hl ⊢
  have hl : lv_has ls 1 [(0, .int x0)] := hl
  unfold wp_X3_wordOf at hw
  refine lv_iload_n hx hb dX3_wordOf_0 rfl (lv_at hl 0 rfl) ?_
  rcases Classical.em (x0 = nI 0) with c0 | c0
  · replace hw := hw.1 c0
    refine lv_tableIn (off := 31) (tgt := 32) hx hb dX3_wordOf_1 (by rw [c0]; decide) (by rw [c0]; decide) (by rw [c0]; rfl) (by decide) ?_
    refine va_ldcS hx hb hown hT.2.2.2.1 dX3_wordOf_32 ?_
    exact W.aret (v := .ref (adK 0)) hx hb hr (Or.inl ⟨_, rfl⟩) (Or.inr ⟨_, rfl⟩) (fun t ht hW => ⟨⟨0, adK 0, rfl, hw, rfl⟩, hwd.2.2.F ht⟩) hwd.2.2.2.2 dX3_wordOf_34
  · replace hw := hw.2 c0
    rcases Classical.em (x0 = nI 1) with c1 | c1
    · replace hw := hw.1 c1
      refine lv_tableIn (off := 34) (tgt := 35) hx hb dX3_wordOf_1 (by rw [c1]; decide) (by rw [c1]; decide) (by rw [c1]; rfl) (by decide) ?_
      refine va_ldcS hx hb hown hT.2.2.2.2.1 dX3_wordOf_35 ?_
      exact W.aret (v := .ref (adK 1)) hx hb hr (Or.inl ⟨_, rfl⟩) (Or.inr ⟨_, rfl⟩) (fun t ht hW => ⟨⟨1, adK 1, rfl, hw, rfl⟩, hwd.2.2.F ht⟩) hwd.2.2.2.2 dX3_wordOf_37
    · replace hw := hw.2 c1
      rcases Classical.em (x0 = nI 2) with c2 | c2
      · replace hw := hw.1 c2
        refine lv_tableIn (off := 37) (tgt := 38) hx hb dX3_wordOf_1 (by rw [c2]; decide) (by rw [c2]; decide) (by rw [c2]; rfl) (by decide) ?_
        refine va_ldcS hx hb hown hT.2.2.2.2.2.1 dX3_wordOf_38 ?_
        exact W.aret (v := .ref (adK 2)) hx hb hr (Or.inl ⟨_, rfl⟩) (Or.inr ⟨_, rfl⟩) (fun t ht hW => ⟨⟨2, adK 2, rfl, hw, rfl⟩, hwd.2.2.F ht⟩) hwd.2.2.2.2 dX3_wordOf_40
      · replace hw := hw.2 c2
        rcases Classical.em (x0 = nI 3) with c3 | c3
        · replace hw := hw.1 c3
          refine lv_tableIn (off := 40) (tgt := 41) hx hb dX3_wordOf_1 (by rw [c3]; decide) (by rw [c3]; decide) (by rw [c3]; rfl) (by decide) ?_
          refine va_ldcS hx hb hown hT.2.2.2.2.2.2.1 dX3_wordOf_41 ?_
          exact W.aret (v := .ref (adK 3)) hx hb hr (Or.inl ⟨_, rfl⟩) (Or.inr ⟨_, rfl⟩) (fun t ht hW => ⟨⟨3, adK 3, rfl, hw, rfl⟩, hwd.2.2.F ht⟩) hwd.2.2.2.2 dX3_wordOf_43
        · replace hw := hw.2 c3
          refine lv_tableOut (tgt := 44) hx hb dX3_wordOf_1 (sw_out (fun j h1 h2 => by rcases (show j = 0 ∨ j = 1 ∨ j = 2 ∨ j = 3 by omega) with rfl | rfl | rfl | rfl <;> first | exact c0 | exact c1 | exact c2 | exact c3)) (by decide) ?_
          refine va_ldcS hx hb hown hT.2.2.2.2.2.2.2 dX3_wordOf_44 ?_
          exact W.aret (v := .ref (adK 4)) hx hb hr (Or.inl ⟨_, rfl⟩) (Or.inr ⟨_, rfl⟩) (fun t ht hW => ⟨⟨4, adK 4, rfl, hw, rfl⟩, hwd.2.2.F ht⟩) hwd.2.2.2.2 dX3_wordOf_46
def wp_J0_isEmpty (i : Nat) (Q : Int32 → Prop) : Prop := i < 5 ∧ Q (nI 0)
def wp_J0_length (i : Nat) (Q : Int32 → Prop) : Prop := i < 5 ∧ Q (nI (swl i))
def wp_J0_charAt (i : Nat) (x : Int32) (Q : Int32 → Prop) : Prop := ∃ k, i < 5 ∧ k < swl i ∧ x = nI k ∧ Q (nI (swc i k))
theorem Met.postI {l : Launch} {y : MethodName} {ws : List Cond} {rm : Room} {Pc : Array Value → State → Prop} {D : va_G} {sz : Nat} {S : Type} {post post2 : Int32 → S → Prop} {world : S → va_W} {wc : va_W} (h : Met l y ws rm Pc (QiW D post world wc sz) 0 0 (va_A wc sz)) (hp : ∀ r u, post r u → post2 r u) : Met l y ws rm Pc (QiW D post2 world wc sz) 0 0 (va_A wc sz) := by
  refine MetFree.mono h (fun _ _ h => h) (fun _ _ _ _ _ h => h) ?_
  rintro a s o t - ⟨⟨⟨r, u, ho, hpu, hB⟩, hF⟩, hL⟩
  exact ⟨⟨⟨r, u, ho, hp r u hpu, hB⟩, hF⟩, hL⟩
theorem k_isEmpty_lt {i : Nat} {Q : Int32 → Prop} (hw : wp_J0_isEmpty i Q) : i < 5 := hw.1
theorem k_length_lt {i : Nat} {Q : Int32 → Prop} (hw : wp_J0_length i Q) : i < 5 := hw.1
theorem k_charAt_lt {i : Nat} {x : Int32} {Q : Int32 → Prop} (hw : wp_J0_charAt i x Q) : i < 5 := hw.choose_spec.1
theorem k_isEmpty (l : Launch) {D : va_G} {cI cC cR : ClassId} (adK adV : Nat → Nat) (sz i : Nat) {Q : Int32 → Prop} (hw : wp_J0_isEmpty i Q) : Met l yJ0_isEmpty_aae02 wsJ0_isEmpty_aae02 rm_J0_isEmpty_aae02 (PcS D cI cC cR adK adV [.ref (adK i)] [] sz) (QiW D (fun (r : Int32) (_ : Unit) => Q r) (fun _ => []) [] sz) 0 0 (va_A [] sz) := Met.postI (c_J0_isEmpty_aae02 l adK adV sz i hw.1) (fun r u e => by rw [e]; exact hw.2)
theorem k_length (l : Launch) {D : va_G} {cI cC cR : ClassId} (adK adV : Nat → Nat) (sz i : Nat) {Q : Int32 → Prop} (hw : wp_J0_length i Q) : Met l yJ0_length_8abf5 wsJ0_length_8abf5 rm_J0_length_8abf5 (PcS D cI cC cR adK adV [.ref (adK i)] [] sz) (QiW D (fun (r : Int32) (_ : Unit) => Q r) (fun _ => []) [] sz) 0 0 (va_A [] sz) := Met.postI (c_J0_length_8abf5 l adK adV sz i hw.1) (fun r u e => by rw [e]; exact hw.2)
theorem k_charAt (l : Launch) {D : va_G} {cI cC cR : ClassId} (adK adV : Nat → Nat) (sz i : Nat) (x : Int32) {Q : Int32 → Prop} (hw : wp_J0_charAt i x Q) : Met l yJ0_charAt_5068e wsJ0_charAt_5068e rm_J0_charAt_5068e (PcS D cI cC cR adK adV [.ref (adK i), .int x] [] sz) (QiW D (fun (r : Int32) (_ : Unit) => Q r) (fun _ => []) [] sz) 0 0 (va_A [] sz) := by
  obtain ⟨k, hi, hk, rfl, hq⟩ := hw
  exact Met.postI (c_J0_charAt_5068e l adK adV sz i k hi hk) (fun r u e => by rw [e]; exact hq)
