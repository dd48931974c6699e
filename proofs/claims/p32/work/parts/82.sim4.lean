/-! history, snapshot, text, the stop's pair -/
theorem hpn_pos {m : Nat} (hm : m ≤ 4) : 0 < hpn m := by
  unfold hpn
  split <;> omega
/-- what both have of the text -/
def Txt (c : Nat → Nat) (L : Nat) (ch tx : Nat → Int32) : Prop := L ≤ 80 ∧ ∀ j, j < L → c j < 65536 ∧ ch j = nI (c j) ∧ tx j = nI (c j)
theorem fb_char {n : Nat} (h : n < 65536) : (nI n).toUInt32.toUInt16.toUInt32.toInt32 = nI n := by
  apply Int32.toBitVec_inj.1
  apply BitVec.eq_of_toNat_eq
  have e1 : (nI n).toBitVec.toNat = n := by
    show (BitVec.ofNat 32 n).toNat = n
    rw [BitVec.toNat_ofNat, Nat.mod_eq_of_lt (by omega)]
  have e2 : ((nI n).toUInt32.toUInt16.toUInt32).toNat = n := by
    rw [UInt16.toNat_toUInt32, UInt32.toNat_toUInt16]
    show (nI n).toBitVec.toNat % 2 ^ 16 = n
    rw [e1, Nat.mod_eq_of_lt (by omega)]
  rw [e1]
  exact e2
theorem nar_ch {c : Nat} (h : c < 65536) : vp_nar .char (nI c) = nI c := by rw [vp_nar_char, fb_char h]
/-- the pair of the last stop; the reference's error counts only behind a stop -/
def StpR (so se rn re : Int32) : Prop := rn = so ∧ ((so = -5 ∧ se = -5) ∨ (¬ so = -5 ∧ re = se))
