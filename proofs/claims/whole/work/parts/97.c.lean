/-! what the tables give at the law's entry -/
theorem mem_r {big ws : List Cond} (ps : List Nat) (hp : ws = ps.filterMap (fun i => big[i]?)) : ∀ w ∈ ws, w ∈ big := by
  intro w h
  rw [hp] at h
  obtain ⟨i, _, hi⟩ := List.mem_filterMap.mp h
  exact List.mem_of_getElem? hi
theorem nw_m : ∀ w ∈ nwM.map nwMc, w ∈ lw_tbl := mem_r [297, 307, 312, 335, 350, 431, 437, 456, 466, 489, 490, 511, 690, 725] (by decide +kernel)
theorem nw_f : ∀ w ∈ nwF.map nwFc, w ∈ lw_tbl := mem_r [105, 126, 128, 130, 132, 152, 154, 155, 157, 158, 160, 161, 164, 166, 168, 197, 217, 245, 247, 250] (by decide +kernel)
theorem start_kw {s : State} {b : Nat} (hts : ∀ w ∈ lw_tbl, w.before #[Value.ref b] s = true) : ∃ (D : va_G) (cI cC cR : ClassId), kw D cI cC cR s := by
  obtain ⟨c0, i0, k0⟩ := u_known (C := RX0) (T := TX0) (N := 7) (n := 7) hts inX0 (hts (.instantiable RX0 7) (List.mem_of_getElem? (i := 120) (by decide +kernel)))
  obtain ⟨c1, i1, k1⟩ := u_known (C := RX1) (T := TX1) (N := 4) (n := 4) hts inX1 (hts (.instantiable RX1 4) (List.mem_of_getElem? (i := 187) (by decide +kernel)))
  obtain ⟨c2, i2, k2⟩ := u_known (C := RX2) (T := TX2) (N := 4) (n := 4) hts inX2 (hts (.instantiable RX2 4) (List.mem_of_getElem? (i := 99) (by decide +kernel)))
  obtain ⟨c3, i3, k3⟩ := u_known (C := RX3) (T := TX3) (N := 6) (n := 6) hts inX3 (hts (.instantiable RX3 6) (List.mem_of_getElem? (i := 210) (by decide +kernel)))
  obtain ⟨c4, i4, k4⟩ := u_known (C := RX4) (T := TX4) (N := 6) (n := 6) hts inX4 (hts (.instantiable RX4 6) (List.mem_of_getElem? (i := 237) (by decide +kernel)))
  obtain ⟨c5, i5, k5⟩ := u_known (C := RX5) (T := TX5) (N := 8) (n := 8) hts inX5 (hts (.instantiable RX5 8) (List.mem_of_getElem? (i := 93) (by decide +kernel)))
  obtain ⟨c6, i6, k6⟩ := u_known (C := RX6) (T := TX6) (N := 8) (n := 8) hts inX6 (hts (.instantiable RX6 8) (List.mem_of_getElem? (i := 85) (by decide +kernel)))
  obtain ⟨c7, i7, k7⟩ := u_known (C := RX7) (T := TX7) (N := 20) (n := 20) hts inX7 (hts (.instantiable RX7 20) (List.mem_of_getElem? (i := 773) (by decide +kernel)))
  obtain ⟨cI, kI, compI, fI, gI, hI⟩ := Cond.arrayClass_spec (hts (.arrayClass .int) (List.mem_of_getElem? (i := 118) (by decide +kernel)))
  obtain ⟨cC, kC, compC, fC, gC, hC⟩ := Cond.arrayClass_spec (hts (.arrayClass .char) (List.mem_of_getElem? (i := 235) (by decide +kernel)))
  have hO := hts (.arrayOver (.object "DrillWardens$State")) (List.mem_of_getElem? (i := 193) (by decide +kernel))
  obtain ⟨comp, cR, kR, f1, f2, f3, f4, f5⟩ := Cond.arrayOver_spec hO
  refine ⟨(fun k => match k with
    | 0 => c0
    | 1 => c1
    | 2 => c2
    | 3 => c3
    | 4 => c4
    | 5 => c5
    | 6 => c6
    | _ => c7, fun k => match k with
    | 0 => i0
    | 1 => i1
    | 2 => i2
    | 3 => i3
    | 4 => i4
    | 5 => i5
    | 6 => i6
    | _ => i7), cI, cC, cR, ⟨fun k q hq => ?_, fun k q hk => ?_⟩, ⟨fun q hq => va_Nw.of rfl (hts _ (nw_m _ (List.mem_map.mpr ⟨q, hq, rfl⟩))), fun q hq => va_Nw.of rfl (hts _ (nw_f _ (List.mem_map.mpr ⟨q, hq, rfl⟩))), va_AO.of hO⟩⟩
  · match k, hq with
    | 0, hq => cases hq; exact k0
    | 1, hq => cases hq; exact k1
    | 2, hq => cases hq; exact k2
    | 3, hq => cases hq; exact k3
    | 4, hq => cases hq; exact k4
    | 5, hq => cases hq; exact k5
    | 6, hq => cases hq; exact k6
    | 7, hq => cases hq; exact k7
    | k + 8, hq => simp [vwCl] at hq
  · match k, hk with
    | 0, hk =>
      cases hk
      exact ⟨fun n z => ⟨(fun k h => by cases h), kI, gI, compI, hI⟩, fI⟩
    | 1, hk =>
      cases hk
      exact ⟨fun n z => ⟨(fun k h => by cases h), kC, gC, compC, hC⟩, fC⟩
    | 2, hk =>
      cases hk
      exact ⟨fun n z => ⟨(fun k h => by cases h), kR, f3, comp, f4⟩, kR, comp, f3, f4, f1, f5⟩
    | k + 3, hk => simp at hk
def stm (i : Nat) : Term := .string "DrillWardens$OrderText" (84 + 2 * i)
theorem start_str {s : State} {b : Nat} (hts : ∀ w ∈ lw_tbl, w.before #[Value.ref b] s = true) (hgv : (Jvm.Cond.and given_1 narrow_1).before #[Value.ref b] s = true) : ∃ adK adV : Nat → Nat, STR adK adV (fun q : Nat => s.heap.size ≤ q) s s.heap := by
  have hs := flat_of_before _ hgv
  have hA : ∀ a : Nat, a < s.heap.size → ¬ (fun q : Nat => s.heap.size ≤ q) a := fun a h => Nat.not_le.mpr h
  have e1 : ∀ i : Nat, i < 5 → (Cond.exactly (stm i) "java/lang/String").before #[Value.ref b] s = true := fun i hi => match i, hi with
    | 0, _ => hs _ (by decide +kernel)
    | 1, _ => hs _ (by decide +kernel)
    | 2, _ => hs _ (by decide +kernel)
    | 3, _ => hs _ (by decide +kernel)
    | 4, _ => hs _ (by decide +kernel)
  have e2 : ∀ i : Nat, i < 5 → (Cond.eq (.field (stm i) "java/lang/String" "coder" "B") (.int 0)).before #[Value.ref b] s = true := fun i hi => match i, hi with
    | 0, _ => hs _ (by decide +kernel)
    | 1, _ => hs _ (by decide +kernel)
    | 2, _ => hs _ (by decide +kernel)
    | 3, _ => hs _ (by decide +kernel)
    | 4, _ => hs _ (by decide +kernel)
  have e3 : ∀ i : Nat, i < 5 → (Cond.arrayOf (.field (stm i) "java/lang/String" "value" "[B") .byte).before #[Value.ref b] s = true := fun i hi => match i, hi with
    | 0, _ => hs _ (by decide +kernel)
    | 1, _ => hs _ (by decide +kernel)
    | 2, _ => hs _ (by decide +kernel)
    | 3, _ => hs _ (by decide +kernel)
    | 4, _ => hs _ (by decide +kernel)
  have e4 : ∀ i : Nat, i < 5 → (Cond.eq (.length (.field (stm i) "java/lang/String" "value" "[B")) (.int (Int32.ofNat (slen.getD i 0)))).before #[Value.ref b] s = true := fun i hi => match i, hi with
    | 0, _ => hs _ (by decide +kernel)
    | 1, _ => hs _ (by decide +kernel)
    | 2, _ => hs _ (by decide +kernel)
    | 3, _ => hs _ (by decide +kernel)
    | 4, _ => hs _ (by decide +kernel)
  have e5 : ∀ i : Nat, i < 5 → ∀ j : Nat, j < slen.getD i 0 → (Cond.eq (.elem (.field (stm i) "java/lang/String" "value" "[B") (.int (Int32.ofNat j))) (.int ((sbyt.getD i []).getD j 0))).before #[Value.ref b] s = true := fun i hi j hj => match i, hi, j, hj with
    | 0, _, 0, _ => hs _ (by decide +kernel)
    | 0, _, 1, _ => hs _ (by decide +kernel)
    | 0, _, 2, _ => hs _ (by decide +kernel)
    | 0, _, j + 3, h => absurd h (Nat.not_lt.mpr (Nat.le_add_left 3 j))
    | 1, _, 0, _ => hs _ (by decide +kernel)
    | 1, _, 1, _ => hs _ (by decide +kernel)
    | 1, _, 2, _ => hs _ (by decide +kernel)
    | 1, _, j + 3, h => absurd h (Nat.not_lt.mpr (Nat.le_add_left 3 j))
    | 2, _, 0, _ => hs _ (by decide +kernel)
    | 2, _, 1, _ => hs _ (by decide +kernel)
    | 2, _, 2, _ => hs _ (by decide +kernel)
    | 2, _, 3, _ => hs _ (by decide +kernel)
    | 2, _, 4, _ => hs _ (by decide +kernel)
    | 2, _, j + 5, h => absurd h (Nat.not_lt.mpr (Nat.le_add_left 5 j))
    | 3, _, 0, _ => hs _ (by decide +kernel)
    | 3, _, 1, _ => hs _ (by decide +kernel)
    | 3, _, 2, _ => hs _ (by decide +kernel)
    | 3, _, 3, _ => hs _ (by decide +kernel)
    | 3, _, 4, _ => hs _ (by decide +kernel)
    | 3, _, j + 5, h => absurd h (Nat.not_lt.mpr (Nat.le_add_left 5 j))
    | 4, _, 0, _ => hs _ (by decide +kernel)
    | 4, _, 1, _ => hs _ (by decide +kernel)
    | 4, _, 2, _ => hs _ (by decide +kernel)
    | 4, _, 3, _ => hs _ (by decide +kernel)
    | 4, _, j + 4, h => absurd h (Nat.not_lt.mpr (Nat.le_add_left 4 j))
  have e6 : ∀ i j : Nat, i < 5 → j < 5 → i ≠ j → (Cond.not (Cond.eq (stm i) (stm j))).before #[Value.ref b] s = true ∨ (Cond.not (Cond.eq (stm j) (stm i))).before #[Value.ref b] s = true := fun i j hi hj hne => match i, hi, j, hj, hne with
    | 0, _, 0, _, h => absurd rfl h
    | 0, _, 1, _, _ => Or.inl (hs _ (by decide +kernel))
    | 0, _, 2, _, _ => Or.inl (hs _ (by decide +kernel))
    | 0, _, 3, _, _ => Or.inl (hs _ (by decide +kernel))
    | 0, _, 4, _, _ => Or.inl (hs _ (by decide +kernel))
    | 1, _, 0, _, _ => Or.inr (hs _ (by decide +kernel))
    | 1, _, 1, _, h => absurd rfl h
    | 1, _, 2, _, _ => Or.inl (hs _ (by decide +kernel))
    | 1, _, 3, _, _ => Or.inl (hs _ (by decide +kernel))
    | 1, _, 4, _, _ => Or.inl (hs _ (by decide +kernel))
    | 2, _, 0, _, _ => Or.inr (hs _ (by decide +kernel))
    | 2, _, 1, _, _ => Or.inr (hs _ (by decide +kernel))
    | 2, _, 2, _, h => absurd rfl h
    | 2, _, 3, _, _ => Or.inl (hs _ (by decide +kernel))
    | 2, _, 4, _, _ => Or.inl (hs _ (by decide +kernel))
    | 3, _, 0, _, _ => Or.inr (hs _ (by decide +kernel))
    | 3, _, 1, _, _ => Or.inr (hs _ (by decide +kernel))
    | 3, _, 2, _, _ => Or.inr (hs _ (by decide +kernel))
    | 3, _, 3, _, h => absurd rfl h
    | 3, _, 4, _, _ => Or.inl (hs _ (by decide +kernel))
    | 4, _, 0, _, _ => Or.inr (hs _ (by decide +kernel))
    | 4, _, 1, _, _ => Or.inr (hs _ (by decide +kernel))
    | 4, _, 2, _, _ => Or.inr (hs _ (by decide +kernel))
    | 4, _, 3, _, _ => Or.inr (hs _ (by decide +kernel))
    | 4, _, 4, _, h => absurd rfl h
  obtain ⟨adK, adV, hS, hE⟩ := vk_Sof (N := 5) (tm := stm) (len := slen) (byt := sbyt) (A := fun q : Nat => s.heap.size ≤ q) (by decide) e1 e2 e3 e4 e5 e6 hA
  refine ⟨adK, adV, hS, va_Zof (hts _ (List.mem_of_getElem? (i := 557) (by decide +kernel))) (hts _ (List.mem_of_getElem? (i := 79) (by decide +kernel))) (va_eqi (hs _ (by decide +kernel))) hA, ?_, vk_R.of (hts _ (List.mem_of_getElem? (i := 539) (by decide +kernel))) (hE 0 (by decide)), vk_R.of (hts _ (List.mem_of_getElem? (i := 540) (by decide +kernel))) (hE 1 (by decide)), vk_R.of (hts _ (List.mem_of_getElem? (i := 541) (by decide +kernel))) (hE 2 (by decide)), vk_R.of (hts _ (List.mem_of_getElem? (i := 542) (by decide +kernel))) (hE 3 (by decide)), vk_R.of (hts _ (List.mem_of_getElem? (i := 543) (by decide +kernel))) (hE 4 (by decide))⟩
  have hr : (Cond.isRef (.static "jdk/internal/util/Preconditions" "SIOOBE_FORMATTER" "Ljava/util/function/BiFunction;")).before #[Value.ref b] s = true := hs _ (by decide +kernel)
  obtain ⟨v, hv, hvr⟩ := Cond.isRef_spec hr
  cases v with
  | ref t => exact Or.inr ⟨t, va_Zof (hts _ (List.mem_of_getElem? (i := 565) (by decide +kernel))) (hts _ (List.mem_of_getElem? (i := 81) (by decide +kernel))) hv hA⟩
  | null => exact Or.inl (va_Zof (hts _ (List.mem_of_getElem? (i := 565) (by decide +kernel))) (hts _ (List.mem_of_getElem? (i := 81) (by decide +kernel))) hv hA)
  | _ => simp [Value.isRef] at hvr
