/-! the history, kept by both -/
def Hist (b m : Nat) (has : Int32) (hV : Nat → SV) (HN SN : Nat → Nat) : Prop := m ≤ 4 ∧ (∀ k, k < m → RS (hV k) (stK HN k) ∧ Inv b (stK HN k)) ∧ Fin474 SN ∧ (has = nI 0 ∨ (has = nI 1 ∧ RS (hV 4) SN ∧ Inv b SN))
theorem Hist_m {b c m : Nat} {has : Int32} {hV : Nat → SV} {HN SN : Nat → Nat} (h : Hist b m has hV HN SN) (hc : b ≤ c) : Hist c m has hV HN SN := by
  obtain ⟨h1, h2, h3, h4⟩ := h
  refine ⟨h1, fun k hk => ⟨(h2 k hk).1, Inv_m (h2 k hk).2 hc⟩, h3, ?_⟩
  rcases h4 with q | ⟨q1, q2, q3⟩
  · exact Or.inl q
  · exact Or.inr ⟨q1, q2, Inv_m q3 hc⟩
theorem recM_hpn {m : Nat} (hm : m ≤ 4) : recM m + 1 = hpn m := by
  unfold recM hpn
  split <;> split <;> omega
theorem hpn_le {m : Nat} (hm : m ≤ 4) : hpn m ≤ 4 := by
  unfold hpn
  split <;> omega
theorem Inv.fin {b : Nat} {N : Nat → Nat} (hI : Inv b N) : Fin474 N := Zero.fin hI.2.2.2.2.1 hI.2.1
theorem hpush_4 {hV : Nat → SV} {k : Nat} {v : SV} : hpush hV k v 4 = hV 4 := by
  unfold hpush
  split
  · rename_i c
    exact if_neg (by omega)
  · rfl
theorem hpush_t {hV : Nat → SV} {k : Nat} (hk : k ≤ 4) {v : SV} : hpush hV k v (recM k) = v := by
  unfold hpush recM
  split
  · rename_i c
    rw [if_neg (by omega)]
    exact if_pos rfl
  · rename_i c
    rw [if_pos (by omega)]
    rfl
theorem hpush_b {hV : Nat → SV} {k i : Nat} (hk : k ≤ 4) (hi : i < recM k) {v : SV} : hpush hV k v i = hV (old k i) := by
  unfold recM at hi
  unfold hpush old
  split
  · rename_i c
    rw [if_neg (by omega)] at hi
    rw [if_neg (by omega : ¬ k = 4)]
    exact if_neg (by omega)
  · rename_i c
    rw [if_pos (by omega)] at hi
    rw [if_pos (by omega : k = 4)]
    match i, hi with
    | 0, _ => rfl
    | 1, _ => rfl
    | 2, _ => rfl
    | n + 3, h => exact absurd h (by omega)
theorem Hist_push {b m : Nat} {has : Int32} {hV : Nat → SV} {HN SN N : Nat → Nat} {v : SV} (h : Hist b m has hV HN SN) (hS : RS v N) (hI : Inv b N) : Hist b (hpn m) has (hpush hV m v) (recH N HN m) SN := by
  obtain ⟨h1, h2, h3, h4⟩ := h
  refine ⟨hpn_le h1, fun k hk => ?_, h3, by rw [hpush_4]; exact h4⟩
  rw [← recM_hpn h1] at hk
  by_cases e : k = recM m
  · subst e
    rw [hpush_t h1, stK_rec_t hI.fin]
    exact ⟨hS, hI⟩
  · have hk2 : k < recM m := by omega
    rw [hpush_b h1 hk2, stK_rec_b h1 hk2]
    refine h2 _ ?_
    unfold recM at hk2
    unfold old
    split at hk2 <;> split <;> omega
/-- the class's and the reference's state, after an act -/
def Rel (b : Nat) (has : Int32) (SN : Nat → Nat) (V : SV) (hV : Nat → SV) (hs : Int32) (s st : Nat → Int32) (mm : Int32) : Prop := ∃ N HN m, s = sN N ∧ st = sN HN ∧ mm = nI m ∧ hs = nI m ∧ Inv b N ∧ RS V N ∧ Hist b m has hV HN SN
theorem Rel_mk {b m : Nat} {has : Int32} {SN N HN : Nat → Nat} {V : SV} {hV : Nat → SV} (hI : Inv b N) (hS : RS V N) (hH : Hist b m has hV HN SN) : Rel b has SN V hV (nI m) (sN N) (sN HN) (nI m) := ⟨N, HN, m, rfl, rfl, rfl, rfl, hI, hS, hH⟩
theorem Rel_m {b c : Nat} {has : Int32} {SN : Nat → Nat} {V : SV} {hV : Nat → SV} {hs mm : Int32} {s st : Nat → Int32} (h : Rel b has SN V hV hs s st mm) (hc : b ≤ c) : Rel c has SN V hV hs s st mm := by
  obtain ⟨N, HN, m, e1, e2, e3, e4, hI, hS, hH⟩ := h
  exact ⟨N, HN, m, e1, e2, e3, e4, Inv_m hI hc, hS, Hist_m hH hc⟩
/-- an act that is recorded: the class's old state goes into the history, the reference's with it -/
theorem Rel_rec {b c m : Nat} {has : Int32} {SN N M HN : Nat → Nat} {V U : SV} {hV : Nat → SV} (hI : Inv b N) (hS : RS V N) (hH : Hist b m has hV HN SN) (hc : b ≤ c) (hI2 : Inv c M) (hS2 : RS U M) : Rel c has SN U (hpush hV m V) (nI (hpn m)) (sN M) (sN (recH N HN m)) (nI (recM m + 1)) := by
  rw [recM_hpn hH.1]
  exact Rel_mk hI2 hS2 (Hist_m (Hist_push hH hS hI) hc)
theorem crec_ok {V : SV} {hV : Nat → SV} {m : Nat} (hm : m ≤ 4) {r : Nat} (hr : r < 2147483648) {Q : Int32 → (Nat → SV) → Int32 → Prop} (h : Q (nI r) (hpush hV m (sv (V 14 0) (V 0) (V 1) (V 2) (V 3) (V 4) (V 14 1) (V 5) (V 6) (V 7) (V 14 2) (V 8) (V 9) (V 10) (V 11) (V 12) (V 13))) (nI (hpn m))) : wp_X6_recorded (V 14 0) (V 0) (V 1) (V 2) (V 3) (V 4) (V 14 1) (V 5) (V 6) (V 7) (V 14 2) (V 8) (V 9) (V 10) (V 11) (V 12) (V 13) hV (nI m) (nI r) Q := by
  unfold wp_X6_recorded
  exact ⟨fun c => absurd c (by rw [nz_lt0 hr]; exact id), fun _ => ⟨m, hm, rfl, h⟩⟩
theorem crec_no {V : SV} {hV : Nat → SV} {hs : Int32} {r : Int32} (hr : r < 0) {Q : Int32 → (Nat → SV) → Int32 → Prop} (h : Q r hV hs) : wp_X6_recorded (V 14 0) (V 0) (V 1) (V 2) (V 3) (V 4) (V 14 1) (V 5) (V 6) (V 7) (V 14 2) (V 8) (V 9) (V 10) (V 11) (V 12) (V 13) hV hs r Q := by
  unfold wp_X6_recorded
  exact ⟨fun _ => h, fun c => absurd hr c⟩
theorem ccopy_ok {V B : SV} {Q : Int32 → (Nat → Int32) → (Nat → Int32) → (Nat → Int32) → (Nat → Int32) → (Nat → Int32) → Int32 → (Nat → Int32) → (Nat → Int32) → (Nat → Int32) → Int32 → (Nat → Int32) → (Nat → Int32) → (Nat → Int32) → (Nat → Int32) → (Nat → Int32) → (Nat → Int32) → Prop} (h : Q (V 14 0) (V 0) (V 1) (V 2) (V 3) (V 4) (V 14 1) (V 5) (V 6) (V 7) (V 14 2) (V 8) (V 9) (V 10) (V 11) (V 12) (V 13)) : wp_X5_copyFrom (B 14 0) (B 0) (B 1) (B 2) (B 3) (B 4) (B 14 1) (B 5) (B 6) (B 7) (B 14 2) (B 8) (B 9) (B 10) (B 11) (B 12) (B 13) (V 14 0) (V 0) (V 1) (V 2) (V 3) (V 4) (V 14 1) (V 5) (V 6) (V 7) (V 14 2) (V 8) (V 9) (V 10) (V 11) (V 12) (V 13) Q := by
  unfold wp_X5_copyFrom wp_X2_copyFrom wp_X0_copyFrom wp_X6_copy
  exact ⟨by omega, ⟨by omega, ⟨by omega, ⟨by omega, ⟨by omega, ⟨by omega, ⟨by omega, ⟨by omega, ⟨by omega, ⟨by omega, ⟨by omega, ⟨by omega, ⟨by omega, ⟨by omega, h⟩⟩⟩⟩⟩⟩⟩⟩⟩⟩⟩⟩⟩⟩

