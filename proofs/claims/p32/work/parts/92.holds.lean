/-! the law's 'holds' -/
theorem bit10 {P : Nat → Bool} {f : Nat} (hf : f < 10) : ((nI (bs P 10) >>> (nI f &&& 31)) &&& nI 1) = nI (b01 (P f)) := by
  rw [nx_shr (by have := bs_lt' P (n := 10) (by omega); omega) (by omega), bs_bit, decide_eq_true hf, Bool.true_and]
theorem logV_in {N : Nat → Nat} {f r : Nat} (h : r < N (16 + 31 * f)) : logV N f r 0 = nI (N (17 + 31 * f + 3 * (N (16 + 31 * f) - 1 - r))) := by
  unfold logV
  rw [if_pos h]
theorem logV_out {N : Nat → Nat} {f r : Nat} (h : N (16 + 31 * f) ≤ r) : logV N f r 0 = -5 := if_neg (by omega)
theorem holds_87 {b : Nat} {V : SV} {N : Nat → Nat} {s1 : Int32} {O1 n1 z1 h1 t1 : Nat → Int32} (hb : b < 1000000) (hK2 : K2 b N) (hS : RS V N) {f r : Nat} (hf : f < 10) (hr : r < N (16 + 31 * f)) {K : Int32 → Prop} {Q : Int32 → Int32 → (Nat → Int32) → (Nat → Int32) → (Nat → Int32) → (Nat → Int32) → (Nat → Int32) → Prop} (hK : K (nI (r + 1))) : wb_L_holds_87 (V 1) (V 8) (V 9) (V 11) (V 12) (V 13) s1 O1 n1 z1 h1 t1 (nI f) (nI r) K Q := by
  obtain ⟨hI, k1, k2, k3⟩ := hK2
  have h6 := hI.lg hf
  have h3 := hI.2.2.2.1
  obtain ⟨d1, d2⟩ := k1 f (N (16 + 31 * f) - 1 - r) hf (by omega)
  unfold wb_L_holds_87
  refine t_log (w := 0) hb hI hS hf (by omega) (by omega) ?_
  rw [logV_in hr, show nI (N (17 + 31 * f + 3 * (N (16 + 31 * f) - 1 - r))) / nI 100 = nI (N (17 + 31 * f + 3 * (N (16 + 31 * f) - 1 - r)) / 100) from pk_div (by omega) (by omega) (by omega)]
  refine t_due hI hS (by omega) ?_
  unfold dueV
  rw [bit10 hf]
  have e : isDue N (N (17 + 31 * f + 3 * (N (16 + 31 * f) - 1 - r)) / 100) f = false := by
    unfold isDue
    rw [d2]
    simp
  rw [e]
  refine ifN' (by decide) (fun x e2 => ?_)
  subst e2
  rw [nI_add]
  exact hK
theorem holds_40 {b : Nat} {V : SV} {N : Nat → Nat} {s1 : Int32} {O1 n1 z1 h1 t1 : Nat → Int32} (hb : b < 1000000) (hK2 : K2 b N) (hS : RS V N) {f : Nat} (hf : f < 10) {K : Int32 → Prop} {Q : Int32 → Int32 → (Nat → Int32) → (Nat → Int32) → (Nat → Int32) → (Nat → Int32) → (Nat → Int32) → Prop} (hK : K (nI (N (16 + 31 * f)))) : ∀ (n r : Nat), r + n = 7 → r ≤ N (16 + 31 * f) → wb_L_holds_40 (V 1) (V 8) (V 9) (V 11) (V 12) (V 13) s1 O1 n1 z1 h1 t1 (nI f) K Q (n + 1) (nI r) := by
  obtain ⟨hI, k1, k2, k3⟩ := id hK2
  have h6 := hI.lg hf
  have h3 := hI.2.2.2.1
  intro n
  induction n with
  | zero => intro r hr h; omega
  | succ n ih =>
    intro r hr h
    rw [wb_L_holds_40]
    refine ifN (nz_leN (by omega) (by omega) (by omega)) (t_log (w := 0) hb hI hS hf (by omega) (by omega) ?_)
    by_cases c : r < N (16 + 31 * f)
    · have nx := holds_87 (s1 := s1) (O1 := O1) (n1 := n1) (z1 := z1) (h1 := h1) (t1 := t1) hb hK2 hS hf c (K := fun x => wb_L_holds_40 (V 1) (V 8) (V 9) (V 11) (V 12) (V 13) s1 O1 n1 z1 h1 t1 (nI f) K Q (n + 1) x) (Q := Q) (ih (r + 1) (by omega) (by omega))
      obtain ⟨d1, -⟩ := k1 f (N (16 + 31 * f) - 1 - r) hf (by omega)
      rw [logV_in c]
      refine ifN (fun e => (nz_lt0 (by omega)).mp e) ⟨fun _ => nx, fun e => ?_⟩
      have r0 : 0 < r := Nat.pos_of_ne_zero (fun z => e (by rw [z]; exact (nz_le0 (by omega)).mpr rfl))
      refine t_log (w := 0) hb hI hS hf (by omega) (by omega) ?_
      rw [nz_sub (by omega)]
      refine t_log (w := 0) hb hI hS hf (by omega) (by omega) ?_
      rw [logV_in c, logV_in (by omega)]
      obtain ⟨d3, -⟩ := k1 f (N (16 + 31 * f) - 1 - (r - 1)) hf (by omega)
      have d5 := k2 f (N (16 + 31 * f) - 1 - r) hf (by omega)
      rw [show N (16 + 31 * f) - 1 - r + 1 = N (16 + 31 * f) - 1 - (r - 1) by omega] at d5
      exact ifN (fun e2 => absurd ((nz_lt (by omega) (by omega)).mp e2) (by omega)) nx
    · obtain rfl : r = N (16 + 31 * f) := by omega
      rw [logV_out (Nat.le_refl _)]
      exact ifP (by decide) hK
theorem holds_136 {b s : Nat} {V : SV} {N : Nat → Nat} {s1 : Int32} {O1 n1 z1 h1 t1 : Nat → Int32} (hb : b < 1000000) (hK2 : K2 b N) (hS : RS V N) {f : Nat} (hf : f < 10) {z : Int32} {K : Int32 → Int32 → Prop} {Q : Int32 → Int32 → (Nat → Int32) → (Nat → Int32) → (Nat → Int32) → (Nat → Int32) → (Nat → Int32) → Prop} (hK : K (nI s) (nI (f + 1))) : wb_L_holds_136 (V 1) (V 2) (V 8) (V 9) (V 11) (V 12) (V 13) s1 O1 n1 z1 h1 t1 (nI s) (nI (N 3 / 100)) (nI f) K Q z z := by
  obtain ⟨hI, k1, k2, k3⟩ := id hK2
  have h3 := hI.2.2.2.1
  have h8 := (hI.1.2.1 f hf).1
  unfold wb_L_holds_136
  refine ifP' rfl (t_floor (w := 3) hb hI hS hf (by omega) (t_log (r := 0) (w := 0) hb hI hS hf (by omega) (by omega) (ifP' rfl (t_due hI hS (by omega) ?_))))
  unfold dueV
  rw [bit10 hf]
  cases e : isDue N (N 3 / 100) f
  · refine ifN' (by decide) (fun x e2 => ?_)
    subst e2
    rw [nI_add]
    exact hK
  · refine ifP' rfl (t_floor (w := 0) hb hI hS hf (by omega) ?_)
    have hp : 0 < N (8 + 31 * f) := by
      unfold isDue at e
      exact of_decide_eq_true (Bool.and_eq_true_iff.mp e).1
    refine ifN' (fun c => absurd ((nz_eq0 (by omega)).mp c) (by omega)) (fun x e2 => ?_)
    subst e2
    rw [nI_add]
    exact hK
theorem holds_16 {b : Nat} {V : SV} {N : Nat → Nat} {s1 : Int32} {O1 n1 z1 h1 t1 : Nat → Int32} (hb : b < 1000000) (hK2 : K2 b N) (hS : RS V N) {K : Int32 → Prop} {Q : Int32 → Int32 → (Nat → Int32) → (Nat → Int32) → (Nat → Int32) → (Nat → Int32) → (Nat → Int32) → Prop} (hK : K (nI (sm (fun f => N (15 + 31 * f)) 10))) : ∀ (n k : Nat), k + n = 10 → wb_L_holds_16 (V 1) (V 2) (V 8) (V 9) (V 11) (V 12) (V 13) s1 O1 n1 z1 h1 t1 (nI (N 3 / 100)) K Q (n + 1) (nI (sm (fun f => N (15 + 31 * f)) k)) (nI k) := by
  obtain ⟨hI, k1, k2, k3⟩ := id hK2
  intro n
  induction n with
  | zero =>
    intro k hk
    obtain rfl : k = 10 := by omega
    rw [wb_L_holds_16]
    exact ifP ((nz_le (by omega) (by omega)).mpr (by omega)) hK
  | succ n ih =>
    intro k hk
    have next := ih (k + 1) (by omega)
    rw [sm_add] at next
    have hh := hI.2.2.2.2.2.2.2.2.1 k (by omega)
    rw [wb_L_holds_16]
    refine ifN (nz_leN (by omega) (by omega) (by omega)) (t_floor (w := 2) hb hI hS (by omega) (by omega) (fun x1 e1 => ⟨8, holds_40 hb hK2 hS (f := k) (by omega) ⟨fun c => ?_, fun c => ?_⟩ 7 0 (by omega) (by omega)⟩))
    · replace e1 : x1 = nI (sm (fun f => N (15 + 31 * f)) k) + nI (N (15 + 31 * k)) := e1
      rw [nI_add] at e1
      subst e1
      replace c : nI 6 ≤ nI (N (15 + 31 * k)) := c
      have c2 := (nz_le (by omega) (by omega)).mp c
      rw [show N (16 + 31 * k) = 6 by omega]
      exact holds_136 hb hK2 hS (by omega) next
    · replace e1 : x1 = nI (sm (fun f => N (15 + 31 * f)) k) + nI (N (15 + 31 * k)) := e1
      rw [nI_add] at e1
      subst e1
      replace c : ¬ nI 6 ≤ nI (N (15 + 31 * k)) := c
      have c2 : ¬ 6 ≤ N (15 + 31 * k) := fun q => c ((nz_le (by omega) (by omega)).mpr q)
      rw [show N (16 + 31 * k) = N (15 + 31 * k) by omega]
      exact holds_136 (z := nI (N (15 + 31 * k))) hb hK2 hS (by omega) next
theorem holds_193 {b : Nat} {V : SV} {N : Nat → Nat} (hI : Inv b N) (hS : RS V N) {K : Int32 → (Nat → Int32) → (Nat → Int32) → (Nat → Int32) → (Nat → Int32) → (Nat → Int32) → Int32 → Int32 → Prop} (hK : ∀ s1 O1 n1 z1 h1 t1, K s1 O1 n1 z1 h1 t1 (nI (sm (fun p => N (319 + 2 * p)) 16)) (nI (sm (fun p => sm (lvMany N p) (N 6)) 16))) : ∀ (n k : Nat), k + n = 16 → ∀ s1 O1 n1 z1 h1 t1, wb_L_holds_193 (V 14 0) (V 0) (V 1) (V 2) (V 3) (V 4) (V 14 1) (V 5) (V 6) (V 7) (V 10) K (n + 1) s1 O1 n1 z1 h1 t1 (nI (sm (fun p => N (319 + 2 * p)) k)) (nI (sm (fun p => sm (lvMany N p) (N 6)) k)) (nI k) := by
  intro n
  induction n with
  | zero =>
    intro k hk s1 O1 n1 z1 h1 t1
    obtain rfl : k = 16 := by omega
    rw [wb_L_holds_193]
    exact ifP ((nz_le (by omega) (by omega)).mpr (by omega)) (hK s1 O1 n1 z1 h1 t1)
  | succ n ih =>
    intro k hk s1 O1 n1 z1 h1 t1
    have next := ih (k + 1) (by omega)
    rw [sm_add, sm_add] at next
    rw [wb_L_holds_193]
    refine ifN (nz_leN (by omega) (by omega) (by omega)) (t_person (w := 4) hI hS (by omega) (by omega) (fun s1 O1 n1 z1 h1 t1 x2 e2 => t_person (w := 1) hI hS (by omega) (by omega) (fun s1 O1 n1 z1 h1 t1 x3 e3 x5 e5 => ?_)))
    replace e2 : x2 = nI (sm (fun p => N (319 + 2 * p)) k) + nI (N (319 + 2 * k)) := e2
    replace e3 : x3 = nI (sm (fun p => sm (lvMany N p) (N 6)) k) + nI (sm (lvMany N k) (N 6)) := e3
    rw [nI_add] at e2 e3 e5
    subst e2 e3 e5
    exact next s1 O1 n1 z1 h1 t1
theorem holds_ok {b m : Nat} {V : SV} {N : Nat → Nat} {L : Int32} {s1 : Int32} {O1 n1 z1 h1 t1 : Nat → Int32} (hb : b < 1000000) (hK2 : K2 b N) (hS : RS V N) {Q : Int32 → Int32 → (Nat → Int32) → (Nat → Int32) → (Nat → Int32) → (Nat → Int32) → (Nat → Int32) → Prop} (h : ∀ s1 O1 n1 z1 h1 t1, Q (nI 1) s1 O1 n1 z1 h1 t1) : wp_L_holds (V 14 0) (V 0) (V 1) (V 2) (V 3) (V 4) (V 14 1) (V 5) (V 6) (V 7) (V 14 2) (V 8) (V 9) (V 10) (V 11) (V 12) (V 13) (nI m) L s1 O1 n1 z1 h1 t1 Q := by
  obtain ⟨hI, k1, k2, k3⟩ := id hK2
  have h6 := hI.2.1
  have h4 := hI.2.2.2.2.2.2.2.2.2
  unfold wp_L_holds
  refine t_count (w := 1) hI hS (by omega) (fun s1 O1 n1 z1 h1 t1 => ⟨11, holds_16 hb hK2 hS ⟨17, holds_193 hI hS (fun s1 O1 n1 z1 h1 t1 => t_count (w := 7) hI hS (by omega) (fun s1 O1 n1 z1 h1 t1 => ?_)) 16 0 (by omega) s1 O1 n1 z1 h1 t1⟩ 10 0 (by omega)⟩)
  refine ifP' rfl (ifP' ?_ (t_count (w := 6) hI hS (by omega) (fun s1 O1 n1 z1 h1 t1 => ifP' ?_ (t_count (w := 6) hI hS (by omega) (fun s1 O1 n1 z1 h1 t1 => ifN ?_ (h s1 O1 n1 z1 h1 t1))))))
  · rw [k3, h4]
  · rw [lv_all (N 6) (fun k hk => (hI.1.2.2.2.2.2 k hk).1)]
    rfl
  · intro c
    replace c : nI 40 < nI (N 6) := c
    have := (nz_lt (by omega) (by omega)).mp c
    omega
