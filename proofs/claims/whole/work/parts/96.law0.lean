/-! the law's loop: what holds at its head -/
def hsnp (hV : Nat → SV) (v : SV) : Nat → SV := fun i => match i with
  | 0 => hV 0
  | 1 => hV 1
  | 2 => hV 2
  | 3 => hV 3
  | _ => v
/-- class and reference agree -/
def LRt (b mh : Nat) (has : Int32) (vN : SV) (hV : Nat → SV) (N HN SN tc : Nat → Nat) (Lt : Nat) (chars tx : Nat → Int32) (so se rn re : Int32) : Prop := Inv b N ∧ RS vN N ∧ Hist b mh has hV HN SN ∧ Txt tc Lt chars tx ∧ StpR so se rn re
theorem LRt_mk {b d mh : Nat} {has : Int32} {vN : SV} {hV : Nat → SV} {N HN SN tc : Nat → Nat} {Lt : Nat} {chars tx : Nat → Int32} {so se rn re : Int32} (hI : Inv b N) (hS : RS vN N) (hH : Hist b mh has hV HN SN) (hd : b ≤ d) (hT : Txt tc Lt chars tx) (hst : StpR so se rn re) : LRt d mh has vN hV N HN SN tc Lt chars tx so se rn re := ⟨Inv_m hI hd, hS, Hist_m hH hd, hT, hst⟩
theorem Hist_keep {b mh : Nat} {has : Int32} {hV : Nat → SV} {HN SN N : Nat → Nat} {v : SV} (h : Hist b mh has hV HN SN) (hS : RS v N) (hI : Inv b N) : Hist b mh (nI 1) (hsnp hV v) HN N := by
  obtain ⟨h1, h2, h3, h4⟩ := h
  refine ⟨h1, fun k hk => ?_, hI.fin, Or.inr ⟨rfl, hS, hI⟩⟩
  have e : hsnp hV v k = hV k := by
    match k, (show k < 4 by omega) with
    | 0, _ => rfl
    | 1, _ => rfl
    | 2, _ => rfl
    | 3, _ => rfl
  rw [e]
  exact h2 k hk
theorem i2c_ex (x : Int32) : ∃ n, n < 65536 ∧ (x.toUInt32 % 65536).toInt32 = nI n := by
  refine ⟨x.toUInt32.toNat % 65536, Nat.mod_lt _ (by decide), ?_⟩
  apply Int32.toBitVec_inj.1
  apply BitVec.eq_of_toNat_eq
  show (x.toUInt32 % 65536).toNat = (BitVec.ofNat 32 (x.toUInt32.toNat % 65536)).toNat
  rw [BitVec.toNat_ofNat, UInt32.toNat_mod, Nat.mod_eq_of_lt (Nat.lt_of_lt_of_le (Nat.mod_lt _ (by decide)) (by decide))]
  rfl
def LSt (D : va_G) (cI cC cR : ClassId) (s : State) (ox om β : Nat) (H : Heap) (locs : List Loc) : Prop := ∃ (aN aB : Nat → Nat) (oh : Nat) (bA : Nat → Nat → Nat) (hs : Nat) (aT aR aW am : Nat → Nat) (vN vB : SV) (hV : Nat → SV) (has : Int32) (chars : Nat → Int32) (at1 ord1 : Int32) (kinds numbers o1 n1 z1 h1 t1 : Nat → Int32) (v1 : Int32) (o2 n2 z2 h2 t2 : Nat → Int32) (v2 so se th rn re at2 wl rm : Int32) (asd tx sv7 tk7 ct7 hp7 bf7 rd7 : Nat → Int32) (N HN SN tc : Nat → Nat) (mh Lt : Nat), wd D (fun q : Nat => s.heap.size ≤ q) s (clW cI cC cR ox aN aB oh bA hs aT aR aW vN vB hV (nI mh) has chars (nI Lt) at1 ord1 kinds numbers o1 n1 z1 h1 t1 v1 o2 n2 z2 h2 t2 v2 so se ++ ww_X7_init cI cC om (am 0) (am 1) (am 2) (am 3) (am 4) (am 5) (am 6) (am 7) (am 8) (am 9) (am 10) th (nI mh) has (nI Lt) rn re at2 wl rm (sN N) asd (sN HN) (sN SN) tx sv7 tk7 ct7 hp7 bf7 rd7) H locs ∧ LRt β mh has vN hV N HN SN tc Lt chars tx so se rn re
/-- the law's own frame, and what stands all along -/
def lwC (p : Program) (s : State) (m : MethodId) (meth : Method) (c : Code) (b L : Nat) (xs : Nat → Int32) (D : va_G) (cI cC cR : ClassId) (adK adV : Nat → Nat) : Prop := p.tables.exec = Jvm.exec ∧ c.code = cL_law ∧ c.maxLocals = 4 ∧ s.vm.findClass RL = some m.cls ∧ (∀ w ∈ wsL_law, w.before #[Value.ref b] s = true) ∧ va_X b L xs s s.heap ∧ b < s.heap.size ∧ kw D cI cC cR s ∧ STR adK adV (fun q : Nat => s.heap.size ≤ q) s s.heap
