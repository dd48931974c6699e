/-! the law's loop -/
theorem lowV_lt {x : Int32} : ∃ d, d < 400 ∧ lowV x (nI 400) = nI d := by
  have h : x &&& nI 2147483647 = nI (x.toBitVec.toNat % 2 ^ 31) := pk_and x 31 (by decide)
  have hlt : x.toBitVec.toNat % 2 ^ 31 < 2147483648 := Nat.mod_lt _ (by decide)
  refine ⟨x.toBitVec.toNat % 2 ^ 31 % 400, Nat.mod_lt _ (by decide), ?_⟩
  unfold lowV
  rw [h]
  exact pk_rem hlt (by decide) (by decide)
theorem lg_cmp_rf {x : Int64} : lg_cmp x x = 0 := by
  simp [lg_cmp]
theorem law_249 {b m t : Nat} {V B : SV} {hV : Nat → SV} {N : Nat → Nat} {L : Int32} {s1 : Int32} {O1 n1 z1 h1 t1 : Nat → Int32} {s2 : Int32} {O2 n2 z2 h2 t2 : Nat → Int32} (hb : b < 1000000) (hK2 : K2 b N) (hS : RS V N) (ht : t < 32) {x4 : Int32} {K : Int32 → (Nat → Int32) → (Nat → Int32) → (Nat → Int32) → (Nat → Int32) → (Nat → Int32) → Int32 → (Nat → Int32) → (Nat → Int32) → (Nat → Int32) → Int32 → (Nat → Int32) → (Nat → Int32) → (Nat → Int32) → (Nat → Int32) → (Nat → Int32) → (Nat → Int32) → Int32 → (Nat → Int32) → (Nat → Int32) → (Nat → Int32) → (Nat → Int32) → (Nat → Int32) → Int32 → (Nat → Int32) → (Nat → Int32) → (Nat → Int32) → Int32 → (Nat → Int32) → (Nat → Int32) → (Nat → Int32) → (Nat → Int32) → (Nat → Int32) → (Nat → Int32) → Int32 → (Nat → Int32) → (Nat → Int32) → (Nat → Int32) → (Nat → Int32) → (Nat → Int32) → Int32 → (Nat → Int32) → (Nat → Int32) → (Nat → Int32) → (Nat → Int32) → (Nat → Int32) → (Nat → SV) → Int32 → Int32 → Prop} {Q : Int32 → Int32 → (Nat → Int32) → (Nat → Int32) → (Nat → Int32) → (Nat → Int32) → (Nat → Int32) → Int32 → (Nat → Int32) → (Nat → Int32) → (Nat → Int32) → Int32 → (Nat → Int32) → (Nat → Int32) → (Nat → Int32) → (Nat → Int32) → (Nat → Int32) → (Nat → Int32) → Int32 → (Nat → Int32) → (Nat → Int32) → (Nat → Int32) → (Nat → Int32) → (Nat → Int32) → Int32 → (Nat → Int32) → (Nat → Int32) → (Nat → Int32) → Int32 → (Nat → Int32) → (Nat → Int32) → (Nat → Int32) → (Nat → Int32) → (Nat → Int32) → (Nat → Int32) → Int32 → (Nat → Int32) → (Nat → Int32) → (Nat → Int32) → (Nat → Int32) → (Nat → Int32) → Int32 → (Nat → Int32) → (Nat → Int32) → (Nat → Int32) → (Nat → Int32) → (Nat → Int32) → (Nat → Nat → Nat → Int32) → Int32 → Prop} (hK : ∀ s1 O1 n1 z1 h1 t1, K (V 14 0) (V 0) (V 1) (V 2) (V 3) (V 4) (V 14 1) (V 5) (V 6) (V 7) (V 14 2) (V 8) (V 9) (V 10) (V 11) (V 12) (V 13) (B 14 0) (B 0) (B 1) (B 2) (B 3) (B 4) (B 14 1) (B 5) (B 6) (B 7) (B 14 2) (B 8) (B 9) (B 10) (B 11) (B 12) (B 13) s1 O1 n1 z1 h1 t1 s2 O2 n2 z2 h2 t2 hV (nI m) (nI (t + 1))) : wb_L_law_249 (V 14 0) (V 0) (V 1) (V 2) (V 3) (V 4) (V 14 1) (V 5) (V 6) (V 7) (V 14 2) (V 8) (V 9) (V 10) (V 11) (V 12) (V 13) (B 14 0) (B 0) (B 1) (B 2) (B 3) (B 4) (B 14 1) (B 5) (B 6) (B 7) (B 14 2) (B 8) (B 9) (B 10) (B 11) (B 12) (B 13) L s1 O1 n1 z1 h1 t1 s2 O2 n2 z2 h2 t2 hV (nI m) (nI t) x4 K Q := by
  have h3 := hK2.1.2.2.2.1
  unfold wb_L_law_249
  refine ⟨fun _ x e => ?_, fun _ => holds_ok hb hK2 hS (fun s1 O1 n1 z1 h1 t1 => ifN nz10 ⟨fun _ => low_ok (by decide) ?_, fun _ => t_count (w := 0) hK2.1 hS (by omega) (fun s1 O1 n1 z1 h1 t1 => staffed_ok (d := N 3) hb hK2.1 hS (by omega) (fun s1 O1 n1 z1 h1 t1 => ifN' nz10 (fun x e => ?_)))⟩)⟩
  · rw [nI_add] at e
    subst e
    exact hK s1 O1 n1 z1 h1 t1
  · obtain ⟨d, hd, e⟩ := lowV_lt (x := x4 >>> (nI 1 &&& 31))
    rw [e]
    refine staffed_ok (d := d) hb hK2.1 hS hd (fun s1 O1 n1 z1 h1 t1 => ifN' nz10 (fun x e => ?_))
    rw [nI_add] at e
    subst e
    exact hK s1 O1 n1 z1 h1 t1
  · rw [nI_add] at e
    subst e
    exact hK s1 O1 n1 z1 h1 t1
/-- what stands at the loop's head -/
def KG (b : Nat) (SN : Nat → Nat) (x : Int32) (K : Int32 → (Nat → Int32) → (Nat → Int32) → (Nat → Int32) → (Nat → Int32) → (Nat → Int32) → Int32 → (Nat → Int32) → (Nat → Int32) → (Nat → Int32) → Int32 → (Nat → Int32) → (Nat → Int32) → (Nat → Int32) → (Nat → Int32) → (Nat → Int32) → (Nat → Int32) → Int32 → (Nat → Int32) → (Nat → Int32) → (Nat → Int32) → (Nat → Int32) → (Nat → Int32) → Int32 → (Nat → Int32) → (Nat → Int32) → (Nat → Int32) → Int32 → (Nat → Int32) → (Nat → Int32) → (Nat → Int32) → (Nat → Int32) → (Nat → Int32) → (Nat → Int32) → Int32 → (Nat → Int32) → (Nat → Int32) → (Nat → Int32) → (Nat → Int32) → (Nat → Int32) → Int32 → (Nat → Int32) → (Nat → Int32) → (Nat → Int32) → (Nat → Int32) → (Nat → Int32) → (Nat → SV) → Int32 → Int32 → Prop) : Prop := ∀ (V B : SV) (s1 : Int32) (O1 n1 z1 h1 t1 : Nat → Int32) (s2 : Int32) (O2 n2 z2 h2 t2 : Nat → Int32) (hV : Nat → SV) (m : Nat) (N : Nat → Nat), K2 b N → RS V N → RS (hV 4) SN → m ≤ 4 → K (V 14 0) (V 0) (V 1) (V 2) (V 3) (V 4) (V 14 1) (V 5) (V 6) (V 7) (V 14 2) (V 8) (V 9) (V 10) (V 11) (V 12) (V 13) (B 14 0) (B 0) (B 1) (B 2) (B 3) (B 4) (B 14 1) (B 5) (B 6) (B 7) (B 14 2) (B 8) (B 9) (B 10) (B 11) (B 12) (B 13) s1 O1 n1 z1 h1 t1 s2 O2 n2 z2 h2 t2 hV (nI m) x
theorem law_182 {b m t : Nat} {V U B : SV} {hV hV2 : Nat → SV} {hs2 : Int32} {N N2 SN : Nat → Nat} {r L : Int32} {s1 : Int32} {O1 n1 z1 h1 t1 : Nat → Int32} {s2 : Int32} {O2 n2 z2 h2 t2 : Nat → Int32} (hb : b + 1 < 1000000) (hK2 : K2 b N) (hA : AR b N r N2) (hU : AO N2 r V U hV hV2 m hs2) (hS : RS V N) (hS4 : RS (hV 4) SN) (hm : m ≤ 4) (ht : t < 32) {x3 x4 : Int32} {K : Int32 → (Nat → Int32) → (Nat → Int32) → (Nat → Int32) → (Nat → Int32) → (Nat → Int32) → Int32 → (Nat → Int32) → (Nat → Int32) → (Nat → Int32) → Int32 → (Nat → Int32) → (Nat → Int32) → (Nat → Int32) → (Nat → Int32) → (Nat → Int32) → (Nat → Int32) → Int32 → (Nat → Int32) → (Nat → Int32) → (Nat → Int32) → (Nat → Int32) → (Nat → Int32) → Int32 → (Nat → Int32) → (Nat → Int32) → (Nat → Int32) → Int32 → (Nat → Int32) → (Nat → Int32) → (Nat → Int32) → (Nat → Int32) → (Nat → Int32) → (Nat → Int32) → Int32 → (Nat → Int32) → (Nat → Int32) → (Nat → Int32) → (Nat → Int32) → (Nat → Int32) → Int32 → (Nat → Int32) → (Nat → Int32) → (Nat → Int32) → (Nat → Int32) → (Nat → Int32) → (Nat → SV) → Int32 → Int32 → Prop} {Q : Int32 → Int32 → (Nat → Int32) → (Nat → Int32) → (Nat → Int32) → (Nat → Int32) → (Nat → Int32) → Int32 → (Nat → Int32) → (Nat → Int32) → (Nat → Int32) → Int32 → (Nat → Int32) → (Nat → Int32) → (Nat → Int32) → (Nat → Int32) → (Nat → Int32) → (Nat → Int32) → Int32 → (Nat → Int32) → (Nat → Int32) → (Nat → Int32) → (Nat → Int32) → (Nat → Int32) → Int32 → (Nat → Int32) → (Nat → Int32) → (Nat → Int32) → Int32 → (Nat → Int32) → (Nat → Int32) → (Nat → Int32) → (Nat → Int32) → (Nat → Int32) → (Nat → Int32) → Int32 → (Nat → Int32) → (Nat → Int32) → (Nat → Int32) → (Nat → Int32) → (Nat → Int32) → Int32 → (Nat → Int32) → (Nat → Int32) → (Nat → Int32) → (Nat → Int32) → (Nat → Int32) → (Nat → Nat → Nat → Int32) → Int32 → Prop} (hact : ∀ (V B : SV) (s1 : Int32) (O1 n1 z1 h1 t1 : Nat → Int32) (s2 : Int32) (O2 n2 z2 h2 t2 : Nat → Int32) (hV : Nat → SV) (m : Nat), RS V N → RS (hV 4) SN → m ≤ 4 → ∀ Q : Int32 → Int32 → (Nat → Int32) → (Nat → Int32) → (Nat → Int32) → (Nat → Int32) → (Nat → Int32) → Int32 → (Nat → Int32) → (Nat → Int32) → (Nat → Int32) → Int32 → (Nat → Int32) → (Nat → Int32) → (Nat → Int32) → (Nat → Int32) → (Nat → Int32) → (Nat → Int32) → Int32 → (Nat → Int32) → (Nat → Int32) → (Nat → Int32) → (Nat → Int32) → (Nat → Int32) → Int32 → (Nat → Int32) → (Nat → Int32) → (Nat → Int32) → Int32 → (Nat → Int32) → (Nat → Int32) → (Nat → Int32) → (Nat → Int32) → (Nat → Int32) → (Nat → Int32) → Int32 → (Nat → Int32) → (Nat → Int32) → (Nat → Int32) → (Nat → Int32) → (Nat → Int32) → Int32 → (Nat → Int32) → (Nat → Int32) → (Nat → Int32) → (Nat → Int32) → (Nat → Int32) → (Nat → Nat → Nat → Int32) → Int32 → Prop, (∀ {a0 a1 a2 a3 a4 a5 a6 a7 a8 a9 a10 a11 a12 a13 a14 a15 a16 b0 b1 b2 b3 b4 b5 b6 b7 b8 b9 b10 b11 b12 b13 b14 b15 b16 d0 d1 d2 d3 d4 d5 e0 e1 e2 e3 e4 e5 hV2 hs2}, AO N2 r V (sv a0 a1 a2 a3 a4 a5 a6 a7 a8 a9 a10 a11 a12 a13 a14 a15 a16) hV hV2 m hs2 → Q r a0 a1 a2 a3 a4 a5 a6 a7 a8 a9 a10 a11 a12 a13 a14 a15 a16 b0 b1 b2 b3 b4 b5 b6 b7 b8 b9 b10 b11 b12 b13 b14 b15 b16 d0 d1 d2 d3 d4 d5 e0 e1 e2 e3 e4 e5 hV2 hs2) → wp_L_act (V 14 0) (V 0) (V 1) (V 2) (V 3) (V 4) (V 14 1) (V 5) (V 6) (V 7) (V 14 2) (V 8) (V 9) (V 10) (V 11) (V 12) (V 13) (B 14 0) (B 0) (B 1) (B 2) (B 3) (B 4) (B 14 1) (B 5) (B 6) (B 7) (B 14 2) (B 8) (B 9) (B 10) (B 11) (B 12) (B 13) s1 O1 n1 z1 h1 t1 s2 O2 n2 z2 h2 t2 hV (nI m) (nI 1) x3 x4 Q) (hK : KG (b + 1) SN (nI (t + 1)) K) : wb_L_law_182 (U 14 0) (U 0) (U 1) (U 2) (U 3) (U 4) (U 14 1) (U 5) (U 6) (U 7) (U 14 2) (U 8) (U 9) (U 10) (U 11) (U 12) (U 13) (B 14 0) (B 0) (B 1) (B 2) (B 3) (B 4) (B 14 1) (B 5) (B 6) (B 7) (B 14 2) (B 8) (B 9) (B 10) (B 11) (B 12) (B 13) L s1 O1 n1 z1 h1 t1 s2 O2 n2 z2 h2 t2 hV2 hs2 (nI 1) (nI t) x3 x4 (toldV N) r (toldV N2) K Q := by
  obtain ⟨hS2, hc⟩ := hU
  have hK3 : K2 (b + 1) N2 := by
    rcases hA with ⟨_, e⟩ | ⟨_, h⟩
    · rw [e]
      exact K2_m hK2 (Nat.le_succ b)
    · exact h
  unfold wb_L_law_182
  rcases hc with ⟨c, rfl, rfl⟩ | ⟨c, rfl, rfl⟩
  · exact ifP c (law_249 hb hK3 hS2 ht (fun s1 O1 n1 z1 h1 t1 => hK U B s1 O1 n1 z1 h1 t1 s2 O2 n2 z2 h2 t2 _ m N2 hK3 hS2 hS4 hm))
  · have h4 := hpn_le hm
    have h0 := hpn_pos hm
    have eh : recM m = hpn m - 1 := by
      have := recM_hpn hm
      omega
    have e4r : RS (hpush hV m (sv (V 14 0) (V 0) (V 1) (V 2) (V 3) (V 4) (V 14 1) (V 5) (V 6) (V 7) (V 14 2) (V 8) (V 9) (V 10) (V 11) (V 12) (V 13)) 4) SN := by
      rw [hpush_4]
      exact hS4
    have eu : RS (hpush hV m (sv (V 14 0) (V 0) (V 1) (V 2) (V 3) (V 4) (V 14 1) (V 5) (V 6) (V 7) (V 14 2) (V 8) (V 9) (V 10) (V 11) (V 12) (V 13)) (hpn m - 1)) N := by
      rw [← eh, hpush_t hm]
      exact hS
    refine ifN c ⟨fun _ => law_249 hb hK3 hS2 ht (fun s1 O1 n1 z1 h1 t1 => hK U B s1 O1 n1 z1 h1 t1 s2 O2 n2 z2 h2 t2 _ (hpn m) N2 hK3 hS2 e4r h4), fun _ => t_count12 (fun x e => a_undo (hV := hpush hV m (sv (V 14 0) (V 0) (V 1) (V 2) (V 3) (V 4) (V 14 1) (V 5) (V 6) (V 7) (V 14 2) (V 8) (V 9) (V 10) (V 11) (V 12) (V 13))) h4 h0 ?_)⟩
    rw [nz_sub (by omega)] at e
    subst e
    refine ifP' rfl (told_ok (V := hpush hV m (sv (V 14 0) (V 0) (V 1) (V 2) (V 3) (V 4) (V 14 1) (V 5) (V 6) (V 7) (V 14 2) (V 8) (V 9) (V 10) (V 11) (V 12) (V 13)) (hpn m - 1)) (b := b) (by omega) hK2.1 eu (fun s1 O1 n1 z1 h1 t1 => ifP' lg_cmp_rf ?_))
    refine hact (hpush hV m (sv (V 14 0) (V 0) (V 1) (V 2) (V 3) (V 4) (V 14 1) (V 5) (V 6) (V 7) (V 14 2) (V 8) (V 9) (V 10) (V 11) (V 12) (V 13)) (hpn m - 1)) B _ _ _ _ _ _ _ _ _ _ _ _ (hpush hV m (sv (V 14 0) (V 0) (V 1) (V 2) (V 3) (V 4) (V 14 1) (V 5) (V 6) (V 7) (V 14 2) (V 8) (V 9) (V 10) (V 11) (V 12) (V 13))) (hpn m - 1) eu e4r (by omega) _ (fun {a0 a1 a2 a3 a4 a5 a6 a7 a8 a9 a10 a11 a12 a13 a14 a15 a16 b0 b1 b2 b3 b4 b5 b6 b7 b8 b9 b10 b11 b12 b13 b14 b15 b16 d0 d1 d2 d3 d4 d5 e0 e1 e2 e3 e4 e5 hV3 hs3} h => ?_)
    obtain ⟨h5, h6⟩ := h
    rcases h6 with ⟨c2, _, _⟩ | ⟨_, rfl, rfl⟩
    · exact absurd c2 c
    · have h7 := hpn_le (m := hpn m - 1) (by omega)
      refine ifP' rfl (told_ok (V := sv a0 a1 a2 a3 a4 a5 a6 a7 a8 a9 a10 a11 a12 a13 a14 a15 a16) (b := b + 1) hb hK3.1 h5 (fun s1 O1 n1 z1 h1 t1 => ifP lg_cmp_rf (law_249 (V := sv a0 a1 a2 a3 a4 a5 a6 a7 a8 a9 a10 a11 a12 a13 a14 a15 a16) (B := sv b0 b1 b2 b3 b4 b5 b6 b7 b8 b9 b10 b11 b12 b13 b14 b15 b16) hb hK3 h5 ht (fun s1 O1 n1 z1 h1 t1 => hK (sv a0 a1 a2 a3 a4 a5 a6 a7 a8 a9 a10 a11 a12 a13 a14 a15 a16) (sv b0 b1 b2 b3 b4 b5 b6 b7 b8 b9 b10 b11 b12 b13 b14 b15 b16) s1 O1 n1 z1 h1 t1 e0 e1 e2 e3 e4 e5 _ _ N2 hK3 h5 ?_ h7))))
      rw [hpush_4]
      exact e4r
theorem nneg {x : Int32} (c : x < 0) (q : 0 ≤ x) : False := by
  rw [Int32.lt_iff_toInt_lt] at c
  rw [Int32.le_iff_toInt_le] at q
  omega
theorem law_89 {b m t : Nat} {V B : SV} {hV : Nat → SV} {N SN : Nat → Nat} {L : Int32} {s1 : Int32} {O1 n1 z1 h1 t1 : Nat → Int32} {s2 : Int32} {O2 n2 z2 h2 t2 : Nat → Int32} (hb : b + 1 < 1000000) (hK2 : K2 b N) (hKS : K2 b SN) (hS : RS V N) (hS4 : RS (hV 4) SN) (hm : m ≤ 4) (ht : t < 32) {x3 : Int32} {K : Int32 → (Nat → Int32) → (Nat → Int32) → (Nat → Int32) → (Nat → Int32) → (Nat → Int32) → Int32 → (Nat → Int32) → (Nat → Int32) → (Nat → Int32) → Int32 → (Nat → Int32) → (Nat → Int32) → (Nat → Int32) → (Nat → Int32) → (Nat → Int32) → (Nat → Int32) → Int32 → (Nat → Int32) → (Nat → Int32) → (Nat → Int32) → (Nat → Int32) → (Nat → Int32) → Int32 → (Nat → Int32) → (Nat → Int32) → (Nat → Int32) → Int32 → (Nat → Int32) → (Nat → Int32) → (Nat → Int32) → (Nat → Int32) → (Nat → Int32) → (Nat → Int32) → Int32 → (Nat → Int32) → (Nat → Int32) → (Nat → Int32) → (Nat → Int32) → (Nat → Int32) → Int32 → (Nat → Int32) → (Nat → Int32) → (Nat → Int32) → (Nat → Int32) → (Nat → Int32) → (Nat → SV) → Int32 → Int32 → Prop} {Q : Int32 → Int32 → (Nat → Int32) → (Nat → Int32) → (Nat → Int32) → (Nat → Int32) → (Nat → Int32) → Int32 → (Nat → Int32) → (Nat → Int32) → (Nat → Int32) → Int32 → (Nat → Int32) → (Nat → Int32) → (Nat → Int32) → (Nat → Int32) → (Nat → Int32) → (Nat → Int32) → Int32 → (Nat → Int32) → (Nat → Int32) → (Nat → Int32) → (Nat → Int32) → (Nat → Int32) → Int32 → (Nat → Int32) → (Nat → Int32) → (Nat → Int32) → Int32 → (Nat → Int32) → (Nat → Int32) → (Nat → Int32) → (Nat → Int32) → (Nat → Int32) → (Nat → Int32) → Int32 → (Nat → Int32) → (Nat → Int32) → (Nat → Int32) → (Nat → Int32) → (Nat → Int32) → Int32 → (Nat → Int32) → (Nat → Int32) → (Nat → Int32) → (Nat → Int32) → (Nat → Int32) → (Nat → Nat → Nat → Int32) → Int32 → Prop} (hK : KG (b + 1) SN (nI (t + 1)) K) : wb_L_law_89 (V 14 0) (V 0) (V 1) (V 2) (V 3) (V 4) (V 14 1) (V 5) (V 6) (V 7) (V 14 2) (V 8) (V 9) (V 10) (V 11) (V 12) (V 13) (B 14 0) (B 0) (B 1) (B 2) (B 3) (B 4) (B 14 1) (B 5) (B 6) (B 7) (B 14 2) (B 8) (B 9) (B 10) (B 11) (B 12) (B 13) L s1 O1 n1 z1 h1 t1 s2 O2 n2 z2 h2 t2 hV (nI m) (nI 1) (nI t) K Q x3 := by
  unfold wb_L_law_89
  refine ⟨?_, fun x4 => ?_⟩
  · rw [pk_mul, nI_add, nz_lt0 (by omega)]
    exact id
  · obtain ⟨r, N2, hA, hact⟩ := a_act hK2 hKS x3 x4
    refine told_ok (b := b) (by omega) hK2.1 hS (fun s1 O1 n1 z1 h1 t1 => t_count12 (hact V B _ _ _ _ _ _ _ _ _ _ _ _ hV m hS hS4 hm _ (fun {a0 a1 a2 a3 a4 a5 a6 a7 a8 a9 a10 a11 a12 a13 a14 a15 a16 b0 b1 b2 b3 b4 b5 b6 b7 b8 b9 b10 b11 b12 b13 b14 b15 b16 d0 d1 d2 d3 d4 d5 e0 e1 e2 e3 e4 e5 hV2 hs2} h => ?_)))
    have hK3 : K2 (b + 1) N2 := by
      rcases hA with ⟨_, e⟩ | ⟨_, h⟩
      · rw [e]
        exact K2_m hK2 (Nat.le_succ b)
      · exact h
    have h182 : ∀ s1 O1 n1 z1 h1 t1, wb_L_law_182 a0 a1 a2 a3 a4 a5 a6 a7 a8 a9 a10 a11 a12 a13 a14 a15 a16 b0 b1 b2 b3 b4 b5 b6 b7 b8 b9 b10 b11 b12 b13 b14 b15 b16 L s1 O1 n1 z1 h1 t1 e0 e1 e2 e3 e4 e5 hV2 hs2 (nI 1) (nI t) x3 x4 (toldV N) r (toldV N2) K Q := fun s1 O1 n1 z1 h1 t1 => law_182 (U := sv a0 a1 a2 a3 a4 a5 a6 a7 a8 a9 a10 a11 a12 a13 a14 a15 a16) (B := sv b0 b1 b2 b3 b4 b5 b6 b7 b8 b9 b10 b11 b12 b13 b14 b15 b16) (V := V) (m := m) hb hK2 hA h hS hS4 hm ht hact hK
    obtain ⟨h5, h6⟩ := h
    rcases h6 with ⟨c, rfl, rfl⟩ | ⟨c, rfl, rfl⟩
    · have eN : N2 = N := by
        rcases hA with ⟨_, e⟩ | ⟨c2, _⟩
        · exact e
        · exact absurd c c2
      have ht2 : toldV N2 = toldV N := by rw [eN]
      refine told_ok (V := sv a0 a1 a2 a3 a4 a5 a6 a7 a8 a9 a10 a11 a12 a13 a14 a15 a16) (b := b + 1) hb hK3.1 h5 (fun s1 O1 n1 z1 h1 t1 => ifN (fun q => ?_) (ifP' ?_ (t_count12 (V := sv a0 a1 a2 a3 a4 a5 a6 a7 a8 a9 a10 a11 a12 a13 a14 a15 a16) (ifP rfl (h182 s1 O1 n1 z1 h1 t1)))))
      · exact nneg c q
      · rw [ht2]
        exact lg_cmp_rf
    · refine told_ok (V := sv a0 a1 a2 a3 a4 a5 a6 a7 a8 a9 a10 a11 a12 a13 a14 a15 a16) (b := b + 1) hb hK3.1 h5 (fun s1 O1 n1 z1 h1 t1 => ifP (nz_nneg c) (t_count12 (V := sv a0 a1 a2 a3 a4 a5 a6 a7 a8 a9 a10 a11 a12 a13 a14 a15 a16) ⟨fun c4 => ifP ?_ (h182 s1 O1 n1 z1 h1 t1), fun c4 => ifP ?_ (h182 s1 O1 n1 z1 h1 t1)⟩))
      · have c5 := (nz_le (by omega) (by omega)).mp c4
        unfold hpn
        rw [if_neg (by omega)]
      · have c5 : ¬ 4 ≤ m := fun q => c4 ((nz_le (by omega) (by omega)).mpr q)
        rw [nI_add]
        unfold hpn
        rw [if_pos (by omega)]
theorem law_57 {SN : Nat → Nat} {L : Int32} (hKS : K2 0 SN) {Q : Int32 → Int32 → (Nat → Int32) → (Nat → Int32) → (Nat → Int32) → (Nat → Int32) → (Nat → Int32) → Int32 → (Nat → Int32) → (Nat → Int32) → (Nat → Int32) → Int32 → (Nat → Int32) → (Nat → Int32) → (Nat → Int32) → (Nat → Int32) → (Nat → Int32) → (Nat → Int32) → Int32 → (Nat → Int32) → (Nat → Int32) → (Nat → Int32) → (Nat → Int32) → (Nat → Int32) → Int32 → (Nat → Int32) → (Nat → Int32) → (Nat → Int32) → Int32 → (Nat → Int32) → (Nat → Int32) → (Nat → Int32) → (Nat → Int32) → (Nat → Int32) → (Nat → Int32) → Int32 → (Nat → Int32) → (Nat → Int32) → (Nat → Int32) → (Nat → Int32) → (Nat → Int32) → Int32 → (Nat → Int32) → (Nat → Int32) → (Nat → Int32) → (Nat → Int32) → (Nat → Int32) → (Nat → Nat → Nat → Int32) → Int32 → Prop} (hQ : ∀ (V B : SV) (s1 : Int32) (O1 n1 z1 h1 t1 : Nat → Int32) (s2 : Int32) (O2 n2 z2 h2 t2 : Nat → Int32) (hV : Nat → SV) (h : Int32), Q (nI 1) (V 14 0) (V 0) (V 1) (V 2) (V 3) (V 4) (V 14 1) (V 5) (V 6) (V 7) (V 14 2) (V 8) (V 9) (V 10) (V 11) (V 12) (V 13) (B 14 0) (B 0) (B 1) (B 2) (B 3) (B 4) (B 14 1) (B 5) (B 6) (B 7) (B 14 2) (B 8) (B 9) (B 10) (B 11) (B 12) (B 13) s1 O1 n1 z1 h1 t1 s2 O2 n2 z2 h2 t2 hV h) : ∀ (n t : Nat), t + n = 32 → KG t SN (nI t) (wb_L_law_57 L (nI 1) Q (n + 1)) := by
  intro n
  induction n with
  | zero =>
    intro t hk V B s1 O1 n1 z1 h1 t1 s2 O2 n2 z2 h2 t2 hV m N hK2 hS hS4 hm
    obtain rfl : t = 32 := by omega
    rw [wb_L_law_57]
    exact ifP ((nz_le (by omega) (by omega)).mpr (by omega)) (hQ V B s1 O1 n1 z1 h1 t1 s2 O2 n2 z2 h2 t2 hV (nI m))
  | succ n ih =>
    intro t hk V B s1 O1 n1 z1 h1 t1 s2 O2 n2 z2 h2 t2 hV m N hK2 hS hS4 hm
    rw [wb_L_law_57]
    have ng : ¬ nI 2 * nI t < 0 := by
      rw [pk_mul, nz_lt0 (by omega)]
      exact id
    exact ifN (nz_leN (by omega) (by omega) (by omega)) ⟨fun _ => ⟨ng, fun v => law_89 (b := t) (by omega) hK2 (K2_m hKS (by omega)) hS hS4 hm (by omega) (ih (t + 1) (by omega))⟩, fun _ => ⟨ng, fun v => law_89 (b := t) (by omega) hK2 (K2_m hKS (by omega)) hS hS4 hm (by omega) (ih (t + 1) (by omega))⟩⟩
