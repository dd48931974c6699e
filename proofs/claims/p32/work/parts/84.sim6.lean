def svV (P : PS) (p : Nat) : Int32 := if P.1 p = 0 then -5 else nI (P.1 p - 1)
theorem cfloorOf_v {N : Nat → Nat} (hI : PInv N) {sv : Int32} {sz tk : Nat → Int32} {P : PS} (hP : PI N P) (hR : RP4 sv sz tk P) {p : Nat} (hp : p < 16) {Q : Int32 → Prop} (h : Q (svV P p)) : wp_X4_floorOf sv sz tk (nI p) Q := by
  unfold svV at h
  refine cfloorOf_ok hI hP hR hp (fun c => ?_) (fun c => ?_)
  · rw [if_neg (by omega)] at h
    exact h
  · rw [if_pos c] at h
    exact h
theorem ea_tr {p w : Nat} : (nI 318 + nI 2 * nI p) + nI w = nI (318 + 2 * p + w) := by rw [pk_mul, nI_add, nI_add]
