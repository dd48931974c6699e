/-! class and reference, act by act: the same answer, related states -/
theorem cpush_ok {V : SV} {hV : Nat → SV} {m : Nat} (hm : m ≤ 4) {Q : (Nat → SV) → Int32 → Prop} (h : Q (hpush hV m (sv (V 14 0) (V 0) (V 1) (V 2) (V 3) (V 4) (V 14 1) (V 5) (V 6) (V 7) (V 14 2) (V 8) (V 9) (V 10) (V 11) (V 12) (V 13))) (nI (hpn m))) : wp_X1_push (V 14 0) (V 0) (V 1) (V 2) (V 3) (V 4) (V 14 1) (V 5) (V 6) (V 7) (V 14 2) (V 8) (V 9) (V 10) (V 11) (V 12) (V 13) hV (nI m) Q := ⟨m, hm, rfl, h⟩
theorem S_upd {W : Nat → Int32} {g g2 : Nat → Int32} {n k : Nat} {v : Int32} (h : ∀ j, j < n → W j = g j) (h1 : g2 k = v) (h2 : ∀ j, j < n → j ≠ k → g2 j = g j) : ∀ j, j < n → upd W k v j = g2 j := fun j hj => by
  unfold upd
  split
  · rename_i e
    rw [e, h1]
  · rename_i e
    rw [h2 j hj e]
    exact h j hj
