/-! a text, carried out by both -/
def oE (c : Nat → Nat) (L i : Nat) (N : Nat → Nat) : Int32 × (Nat → Nat) := doE N (kd c L (psn c L i)) (valO c L (psn c L i) 0) (valO c L (psn c L i) 1) (valO c L (psn c L i) 2)
/-- the state behind the first i orders -/
def NSq (c : Nat → Nat) (L : Nat) (N : Nat → Nat) : Nat → Nat → Nat
  | 0 => N
  | i + 1 => (oE c L i (NSq c L N i)).2
def bad (c : Nat → Nat) (L : Nat) (N : Nat → Nat) (i : Nat) : Prop := ¬ (oE c L i (NSq c L N i)).1 = 0
theorem rng_of {k : Nat} (hk : k < 5) {v : Nat → Nat} (h : ∀ w, w < many k → loN k w ≤ v w ∧ v w ≤ hiN k w) : rng k (v 0) (v 1) (v 2) := by
  match k, hk with
  | 0, _ =>
    have h0 := (h 0 (by decide)).2
    have h1 := (h 1 (by decide)).2
    have e0 : hiN 0 0 = 9 := rfl
    have e1 : hiN 0 1 = 15 := rfl
    exact ⟨by omega, by omega⟩
  | 1, _ =>
    have h0 := (h 0 (by decide)).2
    have h1 := (h 1 (by decide)).2
    have e0 : hiN 1 0 = 9 := rfl
    have e1 : hiN 1 1 = 15 := rfl
    exact ⟨by omega, by omega⟩
  | 2, _ =>
    have h0 := (h 0 (by decide)).2
    have h1 := (h 1 (by decide)).2
    have h2 := (h 2 (by decide)).2
    have e0 : hiN 2 0 = 15 := rfl
    have e1 : hiN 2 1 = 399 := rfl
    have e2 : hiN 2 2 = 399 := rfl
    exact ⟨by omega, by omega, by omega⟩
  | 3, _ =>
    have h0 := (h 0 (by decide)).2
    have h1 := h 1 (by decide)
    have e0 : hiN 3 0 = 9 := rfl
    have e1 : hiN 3 1 = 60 := rfl
    have e2 : loN 3 1 = 1 := rfl
    exact ⟨by omega, by omega, by omega⟩
  | 4, _ =>
    have h0 := h 0 (by decide)
    have e0 : hiN 4 0 = 99 := rfl
    have e1 : loN 4 0 = 1 := rfl
    exact ⟨by omega, by omega⟩
/-- the first n orders are well written -/
def WO (c : Nat → Nat) (L n : Nat) : Prop := n ≤ 12 ∧ ∀ i, i < n → kd c L (psn c L i) < 5 ∧ rng (kd c L (psn c L i)) (valO c L (psn c L i) 0) (valO c L (psn c L i) 1) (valO c L (psn c L i) 2)
theorem fin_go {c : Nat → Nat} {L : Nat} : ∀ (m o : Nat), o + m = 12 → psn c L o ≤ L → (fin c L m o).1 = 1 → o ≤ (fin c L m o).2 ∧ (fin c L m o).2 < 12 ∧ ∀ i, o ≤ i → i ≤ (fin c L m o).2 → (ordR c L (psn c L i)).1 = 1 ∧ psn c L i ≤ L := by
  intro m
  induction m with
  | zero => intro o hm ha h; cases h
  | succ m ih =>
    intro o hm ha h
    unfold fin at h ⊢
    split at h
    · rename_i q
      rw [if_pos q]
      split at h
      · rename_i q2
        rw [if_pos q2]
        refine ⟨Nat.le_refl _, by show o < 12; omega, fun i h1 h2 => ?_⟩
        have h2' : i ≤ o := h2
        rw [show i = o by omega]
        exact ⟨q, ha⟩
      · rename_i q2
        rw [if_neg q2]
        split at h
        · rename_i q3
          rw [if_pos q3]
          obtain ⟨i1, i2, i3⟩ := ih (o + 1) (by omega) (by rw [psn]; omega) h
          refine ⟨by omega, i2, fun i h1 h2 => ?_⟩
          by_cases e : i = o
          · rw [e]
            exact ⟨q, ha⟩
          · exact i3 i (by omega) h2
        · cases h
    · cases h
theorem fin_ok {c : Nat → Nat} {L : Nat} (h : (fin c L 12 0).1 = 1) : WO c L ((fin c L 12 0).2 + 1) := by
  obtain ⟨_, i2, i3⟩ := fin_go 12 0 (by omega) (Nat.zero_le _) h
  refine ⟨by omega, fun i hi => ?_⟩
  obtain ⟨j1, j2⟩ := i3 i (Nat.zero_le _) (by omega)
  obtain ⟨k1, _, _, _, _, k6⟩ := ordR_ok j2 j1
  exact ⟨k1, rng_of k1 k6⟩
theorem NSq_inv {b : Nat} {c N : Nat → Nat} {L n : Nat} (hI : Inv b N) (hW : WO c L n) : ∀ i, i ≤ n → Inv (b + i) (NSq c L N i) := by
  intro i
  induction i with
  | zero => intro _; exact hI
  | succ i ih =>
    intro hi
    obtain ⟨h1, h2⟩ := hW.2 i (by omega)
    exact doE_inv (ih (by omega)) h1 h2
theorem perform_42 {b : Nat} {c N : Nat → Nat} {L n : Nat} (hI : Inv b N) (hW : WO c L n) {V B : SV} {so se at_ orders hs : Int32} {kinds nums : Nat → Int32} {hV : Nat → SV} (hP : PK c L n kinds nums) {K : Int32 → (Nat → Int32) → (Nat → Int32) → Int32 → (Nat → Int32) → (Nat → Int32) → (Nat → Int32) → Int32 → (Nat → Int32) → (Nat → Int32) → (Nat → Int32) → (Nat → Int32) → (Nat → Int32) → (Nat → Int32) → Int32 → (Nat → Int32) → (Nat → Int32) → (Nat → Int32) → (Nat → Int32) → (Nat → Int32) → Int32 → (Nat → Int32) → (Nat → Int32) → (Nat → Int32) → (Nat → Int32) → (Nat → Int32) → Int32 → Int32 → Prop} {Q} (hK : ∀ i t W2 W3 g W5 W6 W7 mi W8 W9 W10 W11 W12 W13 s1 O1 n1 z1 h1 t1 s2 O2 n2 z2 h2 t2, i < n → (∀ j, j < i → ¬ bad c L N j) → bad c L N i → K t W2 W3 g W5 W6 W7 mi W8 W9 W10 W11 W12 W13 s1 O1 n1 z1 h1 t1 s2 O2 n2 z2 h2 t2 (nI i) (oE c L i (NSq c L N i)).1) (hD : ∀ t W2 W3 g W5 W6 W7 mi W8 W9 W10 W11 W12 W13 s1 O1 n1 z1 h1 t1 s2 O2 n2 z2 h2 t2, (∀ j, j < n → ¬ bad c L N j) → RS (sv t (V 0) (V 1) W2 W3 (V 4) g W5 W6 W7 mi W8 W9 W10 W11 W12 W13) (NSq c L N n) → wp_X6_recorded (B 14 0) (B 0) (B 1) (B 2) (B 3) (B 4) (B 14 1) (B 5) (B 6) (B 7) (B 14 2) (B 8) (B 9) (B 10) (B 11) (B 12) (B 13) hV hs (nI n) (fun r2 hV4 hs5 => Q r2 so se t (V 0) (V 1) W2 W3 (V 4) g W5 W6 W7 mi W8 W9 W10 W11 W12 W13 (B 14 0) (B 0) (B 1) (B 2) (B 3) (B 4) (B 14 1) (B 5) (B 6) (B 7) (B 14 2) (B 8) (B 9) (B 10) (B 11) (B 12) (B 13) at_ orders kinds nums s1 O1 n1 z1 h1 t1 s2 O2 n2 z2 h2 t2 hV4 hs5)) : ∀ (m i : Nat), i + m = n → ∀ t W2 W3 g W5 W6 W7 mi W8 W9 W10 W11 W12 W13 s1 O1 n1 z1 h1 t1 s2 O2 n2 z2 h2 t2, (∀ j, j < i → ¬ bad c L N j) → RS (sv t (V 0) (V 1) W2 W3 (V 4) g W5 W6 W7 mi W8 W9 W10 W11 W12 W13) (NSq c L N i) → wb_X6_perform_42 so se (V 0) (V 1) (V 4) (B 14 0) (B 0) (B 1) (B 2) (B 3) (B 4) (B 14 1) (B 5) (B 6) (B 7) (B 14 2) (B 8) (B 9) (B 10) (B 11) (B 12) (B 13) at_ orders kinds nums hV hs (nI n) K Q (m + 1) t W2 W3 g W5 W6 W7 mi W8 W9 W10 W11 W12 W13 s1 O1 n1 z1 h1 t1 s2 O2 n2 z2 h2 t2 (nI i) := by
  have hn := hW.1
  intro m
  induction m with
  | zero =>
    intro i hi t W2 W3 g W5 W6 W7 mi W8 W9 W10 W11 W12 W13 s1 O1 n1 z1 h1 t1 s2 O2 n2 z2 h2 t2 hb hS
    obtain rfl : i = n := by omega
    rw [wb_X6_perform_42]
    exact ifP ((nz_le (by omega) (by omega)).mpr (Nat.le_refl _)) (hD _ _ _ _ _ _ _ _ _ _ _ _ _ _ _ _ _ _ _ _ _ _ _ _ _ _ hb hS)
  | succ m ih =>
    intro i hi t W2 W3 g W5 W6 W7 mi W8 W9 W10 W11 W12 W13 s1 O1 n1 z1 h1 t1 s2 O2 n2 z2 h2 t2 hb hS
    obtain ⟨hk, hr⟩ := hW.2 i (by omega)
    obtain ⟨p1, p2⟩ := hP i (by omega)
    rw [wb_X6_perform_42]
    refine ifN (fun e => absurd ((nz_le (by omega) (by omega)).mp e) (by omega)) (ccarry_ok (V := sv t (V 0) (V 1) W2 W3 (V 4) g W5 W6 W7 mi W8 W9 W10 W11 W12 W13) (v := valO c L (psn c L i)) (NSq_inv hI hW i (by omega)) hS (by omega) hk p1 p2 hr (fun r t W2 W3 g W5 W6 W7 mi W8 W9 W10 W11 W12 W13 s1 O1 n1 z1 h1 t1 s2 O2 n2 z2 h2 t2 hok hS2 => ?_))
    have nb : (oE c L i (NSq c L N i)).1 = 0 → ∀ j, j < i + 1 → ¬ bad c L N j := fun e j hj => by
      by_cases q : j = i
      · rw [q]
        exact fun h => h e
      · exact hb j (by omega)
    rcases hok with ⟨e0, e5 | e6⟩ | ⟨e0, e1, e2, e3⟩
    · subst e5
      refine ifN (by decide) (ifP rfl (fun x ex => ?_))
      rw [nI_add] at ex
      subst ex
      exact ih (i + 1) (by omega) _ _ _ _ _ _ _ _ _ _ _ _ _ _ _ _ _ _ _ _ _ _ _ _ _ _ (nb e0) hS2
    · refine ifP e6 (fun x ex => ?_)
      rw [nI_add] at ex
      subst ex
      exact ih (i + 1) (by omega) _ _ _ _ _ _ _ _ _ _ _ _ _ _ _ _ _ _ _ _ _ _ _ _ _ _ (nb e0) hS2
    · refine ifN e2 (ifN e3 ?_)
      rw [e1]
      exact hK i _ _ _ _ _ _ _ _ _ _ _ _ _ _ _ _ _ _ _ _ _ _ _ _ _ _ (by omega) hb e0
theorem perform_52 {b : Nat} {c N : Nat → Nat} {L n : Nat} (hI : Inv b N) (hW : WO c L n) {rd : Nat → Int32} (hR : RK c L n rd) {K : (Nat → Int32) → (Nat → Int32) → (Nat → Int32) → (Nat → Int32) → (Nat → Int32) → (Nat → Int32) → Int32 → Int32 → Prop} (hK : ∀ i q1 q2 q3 q4 q5, i < n → (∀ j, j < i → ¬ bad c L N j) → bad c L N i → K (sN (NSq c L N (i + 1))) q1 q2 q3 q4 q5 (oE c L i (NSq c L N i)).1 (nI (i + 1))) (hD : ∀ q1 q2 q3 q4 q5 x, x = 0 → (∀ j, j < n → ¬ bad c L N j) → K (sN (NSq c L N n)) q1 q2 q3 q4 q5 x (nI n)) : ∀ (m i : Nat), i + m = n → ∀ q1 q2 q3 q4 q5 x, x = 0 → (∀ j, j < i → ¬ bad c L N j) → wb_X7_perform_52 (nI n) rd K (m + 1) (sN (NSq c L N i)) q1 q2 q3 q4 q5 x (nI i) := by
  have hn := hW.1
  intro m
  induction m with
  | zero =>
    intro i hi q1 q2 q3 q4 q5 x hx hb
    obtain rfl : i = n := by omega
    rw [wb_X7_perform_52]
    exact ifP ((nz_le (by omega) (by omega)).mpr (Nat.le_refl _)) (hD _ _ _ _ _ _ hx hb)
  | succ m ih =>
    intro i hi q1 q2 q3 q4 q5 x hx hb
    obtain ⟨hk, hr⟩ := hW.2 i (by omega)
    obtain ⟨p1, p2⟩ := hR i (by omega)
    rw [wb_X7_perform_52]
    rw [pk_mul]
    refine ifN (fun e => absurd ((nz_le (by omega) (by omega)).mp e) (by omega)) (ifP' hx (does_ok (v := valO c L (psn c L i)) (NSq_inv hI hW i (by omega)) (by omega) hk p1 p2 hr (fun q1 q2 q3 q4 q5 x3 e3 => ?_)))
    rw [nI_add] at e3
    subst e3
    by_cases e : (oE c L i (NSq c L N i)).1 = 0
    · refine ih (i + 1) (by omega) _ _ _ _ _ _ e (fun j hj => ?_)
      by_cases q : j = i
      · rw [q]
        exact fun h => h e
      · exact hb j (by omega)
    · rw [wb_X7_perform_52]
      exact ⟨fun _ => hK i _ _ _ _ _ (by omega) hb e, fun _ => ifN' e (hK i _ _ _ _ _ (by omega) hb e)⟩
theorem sN_ex (f : Nat → Int32) : ∃ B, f = sN B := ⟨fun j => (f j).toBitVec.toNat, funext (fun j => by
  apply Int32.toBitVec_inj.1
  apply BitVec.eq_of_toNat_eq
  show (f j).toBitVec.toNat = (BitVec.ofNat 32 (f j).toBitVec.toNat).toNat
  rw [BitVec.toNat_ofNat, Nat.mod_eq_of_lt (f j).toBitVec.isLt])⟩
theorem cp_in {A A2 B : Nat → Nat} {o : Nat} (h : ∀ j, j < 474 → A j = A2 j) : cp A B o 474 = cp A2 B o 474 := by
  funext j
  unfold cp
  split
  · rw [h _ (by omega)]
  · rfl
theorem cp_at {A B : Nat → Nat} {j : Nat} (hj : j < 474) : cp A B 0 474 j = A j := by
  unfold cp
  rw [if_pos (by omega), Nat.sub_zero]
