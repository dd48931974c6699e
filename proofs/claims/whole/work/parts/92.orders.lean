/-! an order, carried out by both -/
def doE (N : Nat → Nat) (k v0 v1 v2 : Nat) : Int32 × (Nat → Nat) := match k with
  | 0 => if inRow N v1 v0 = true then (-4, N) else if mn N v0 = 5 then (-3, N) else (nI 0, enN N v0 v1)
  | 1 => if plIn N v0 v1 < mn N v0 then (nI 0, stN N v0 (plIn N v0 v1)) else (nI 0, N)
  | 2 => if v1 ≤ v2 then (if ovOn N v0 v1 v2 < N 6 then (-4, N) else if N 6 = 40 then (-3, N) else if N 2 = 1 ∧ 0 < moreIn N v0 v1 v2 then (-6, N) else (nI 0, grN N v0 v1 v2)) else (-2, N)
  | 3 => if nd N v0 = 0 ∨ 0 < lack N (plan N (able N (N 3))) v0 then (-4, N) else (nI 0, dlN N v0 v1 ((plan N (able N (N 3))).2.1 (3 * v0)))
  | _ => if 399 < N 3 + v0 then (-3, N) else (nI 0, un N 3 (N 3 + v0))
def rng (k v0 v1 v2 : Nat) : Prop := match k with
  | 0 => v0 < 10 ∧ v1 < 16
  | 1 => v0 < 10 ∧ v1 < 16
  | 2 => v0 < 16 ∧ v1 ≤ 399 ∧ v2 ≤ 399
  | 3 => v0 < 10 ∧ 1 ≤ v1 ∧ v1 ≤ 60
  | _ => 1 ≤ v0 ∧ v0 ≤ 99
/-- the class's answer, where the order's error is er (or nothing) -/
def okR (er r : Int32) : Prop := (er = 0 ∧ (r = -5 ∨ 0 ≤ r)) ∨ (¬ er = 0 ∧ r = er ∧ ¬ 0 ≤ r ∧ ¬ r = -5)
theorem ok_m2 : okR (-2) (-2) := Or.inr (by decide)
theorem ok_m3 : okR (-3) (-3) := Or.inr (by decide)
theorem ok_m4 : okR (-4) (-4) := Or.inr (by decide)
theorem ok_m6 : okR (-6) (-6) := Or.inr (by decide)
theorem ok_n {n : Nat} (h : n < 2147483648) : okR (nI 0) (nI n) := Or.inl ⟨nI_0, Or.inr ((nz_0le h).mpr trivial)⟩
theorem ov_lt {N : Nat → Nat} {p a b : Nat} : ovOn N p a b < N 6 ∨ ovOn N p a b = N 6 := by
  have := (fnd_le (ovl N p a b) (N 6) 0).2
  unfold ovOn
  omega
theorem number3_ok {nums : Nat → Int32} {i w : Nat} (hi : i < 12) (hw : w < 3) {Q : Int32 → Prop} (h : Q (nums (3 * i + w))) : wp_X3_number nums (nI i) (nI w) Q := by
  unfold wp_X3_number
  refine cWithin_t (by omega) (by omega) (by omega) (by omega) (by omega) (ifN nz10 (cWithin_t (by omega) (by omega) (by omega) (by omega) (by omega) (ifN' nz10 ?_)))
  rw [pk_mul, nI_add, nz_cl (by omega), Nat.mul_comm i 3]
  exact ⟨vp_in_nI (by omega) (by omega), h⟩
theorem kind3_ok {kinds : Nat → Int32} {i : Nat} (hi : i < 12) {Q : Int32 → Prop} (h : Q (kinds i)) : wp_X3_kind kinds (nI i) Q := by
  unfold wp_X3_kind
  refine cWithin_t (by omega) (by omega) (by omega) (by omega) (by omega) (ifN nz10 ⟨vp_in_nI (by omega) (by omega), ?_⟩)
  rw [nz_cl (by omega)]
  exact h
theorem ccarry_ok {b : Nat} {V : SV} {N : Nat → Nat} (hI : Inv b N) (hS : RS V N) {k i : Nat} {v : Nat → Nat} {kinds nums : Nat → Int32} (hi : i < 12) (hk : k < 5) (hki : kinds i = nI k) (hnu : ∀ w, w < many k → nums (3 * i + w) = nI (v w)) (hr : rng k (v 0) (v 1) (v 2)) {s1 : Int32} {O1 n1 z1 h1 t1 : Nat → Int32} {s2 : Int32} {O2 n2 z2 h2 t2 : Nat → Int32} {Q : Int32 → Int32 → (Nat → Int32) → (Nat → Int32) → Int32 → (Nat → Int32) → (Nat → Int32) → (Nat → Int32) → Int32 → (Nat → Int32) → (Nat → Int32) → (Nat → Int32) → (Nat → Int32) → (Nat → Int32) → (Nat → Int32) → Int32 → (Nat → Int32) → (Nat → Int32) → (Nat → Int32) → (Nat → Int32) → (Nat → Int32) → Int32 → (Nat → Int32) → (Nat → Int32) → (Nat → Int32) → (Nat → Int32) → (Nat → Int32) → Prop} (h : ∀ r t W2 W3 g W5 W6 W7 mi W8 W9 W10 W11 W12 W13 s1 O1 n1 z1 h1 t1 s2 O2 n2 z2 h2 t2, okR (doE N k (v 0) (v 1) (v 2)).1 r → RS (sv t (V 0) (V 1) W2 W3 (V 4) g W5 W6 W7 mi W8 W9 W10 W11 W12 W13) (doE N k (v 0) (v 1) (v 2)).2 → Q r t W2 W3 g W5 W6 W7 mi W8 W9 W10 W11 W12 W13 s1 O1 n1 z1 h1 t1 s2 O2 n2 z2 h2 t2) : wp_X6_carryOut (V 14 0) (V 0) (V 1) (V 2) (V 3) (V 4) (V 14 1) (V 5) (V 6) (V 7) (V 14 2) (V 8) (V 9) (V 10) (V 11) (V 12) (V 13) kinds nums s1 O1 n1 z1 h1 t1 s2 O2 n2 z2 h2 t2 (nI i) Q := by
  have h6 := hI.2.1
  have h3 := hI.2.2.2.1
  unfold wp_X6_carryOut
  refine number3_ok hi (by omega) (number3_ok hi (by omega) (kind3_ok hi ?_))
  rw [hki, hnu 0 (by have := many_pos k; omega)]
  match k, hk with
  | 0, _ =>
    obtain ⟨hf, hp⟩ : v 0 < 10 ∧ v 1 < 16 := hr
    have h5 := mn_le hI.1 (v 0)
    have hm := mn_at (N := N) hf
    rw [hnu 1 (by decide)]
    refine ifP rfl (enterRow_ok hI.1 hS.2.2.1 hf hp (fun c => ?_) (fun c c2 => ?_) (fun c c2 W2 W3 hW => ?_))
    · have e : doE N 0 (v 0) (v 1) (v 2) = (-4, N) := if_pos c
      exact h _ _ _ _ _ _ _ _ _ _ _ _ _ _ _ _ _ _ _ _ _ _ _ _ _ _ _ (by rw [e]; first | exact ok_m4 | exact ok_m3 | exact ok_m2 | exact ok_m6) (by rw [e]; exact hS)
    · have e : doE N 0 (v 0) (v 1) (v 2) = (-3, N) := by
        show (if inRow N (v 1) (v 0) = true then _ else if mn N (v 0) = 5 then _ else _) = _
        rw [if_neg (by rw [c]; decide), if_pos c2]
      exact h _ _ _ _ _ _ _ _ _ _ _ _ _ _ _ _ _ _ _ _ _ _ _ _ _ _ _ (by rw [e]; first | exact ok_m4 | exact ok_m3 | exact ok_m2 | exact ok_m6) (by rw [e]; exact hS)
    · have e : doE N 0 (v 0) (v 1) (v 2) = (nI 0, enN N (v 0) (v 1)) := by
        show (if inRow N (v 1) (v 0) = true then _ else if mn N (v 0) = 5 then _ else _) = _
        rw [if_neg (by rw [c]; decide), if_neg (by omega)]
      exact h _ _ _ _ _ _ _ _ _ _ _ _ _ _ _ _ _ _ _ _ _ _ _ _ _ _ _ (by rw [e]; exact ok_n (by omega)) (by rw [e]; exact RS_3 (Ag_en hf (by omega)) hI hS hW)
  | 1, _ =>
    obtain ⟨hf, hp⟩ : v 0 < 10 ∧ v 1 < 16 := hr
    have h5 := mn_le hI.1 (v 0)
    have hm := mn_at (N := N) hf
    rw [hnu 1 (by decide)]
    refine ifN (by decide) (ifP rfl (quitRow_ok hI.1 hS.2.2.1 hf hp (fun c => ?_) (fun c W2 W3 hW => ?_)))
    · have e : doE N 1 (v 0) (v 1) (v 2) = (nI 0, N) := if_neg (by omega)
      exact h _ _ _ _ _ _ _ _ _ _ _ _ _ _ _ _ _ _ _ _ _ _ _ _ _ _ _ (by rw [e]; exact Or.inl ⟨nI_0, Or.inl rfl⟩) (by rw [e]; exact hS)
    · have e : doE N 1 (v 0) (v 1) (v 2) = (nI 0, stN N (v 0) (plIn N (v 0) (v 1))) := if_pos c
      exact h _ _ _ _ _ _ _ _ _ _ _ _ _ _ _ _ _ _ _ _ _ _ _ _ _ _ _ (by rw [e]; exact ok_n (by omega)) (by rw [e]; exact RS_3 (Ag_st hf (by omega) (by omega)) hI hS hW)
  | 2, _ =>
    obtain ⟨hp, ha, hb⟩ : v 0 < 16 ∧ v 1 ≤ 399 ∧ v 2 ≤ 399 := hr
    refine ifN (by decide) (ifN (by decide) (ifP rfl (number3_ok hi (by omega) ?_)))
    rw [hnu 1 (by decide), hnu 2 (by decide)]
    by_cases hab : v 1 ≤ v 2
    · have d : doE N 2 (v 0) (v 1) (v 2) = (if ovOn N (v 0) (v 1) (v 2) < N 6 then (-4, N) else if N 6 = 40 then (-3, N) else if N 2 = 1 ∧ 0 < moreIn N (v 0) (v 1) (v 2) then (-6, N) else (nI 0, grN N (v 0) (v 1) (v 2))) := if_pos hab
      refine grantLeave_ok hI.1 h6 hI.2.2.1 hS hp hab hb (fun d1 => ?_) (fun d1 d2 => ?_) (fun s1 O1 n1 z1 h1 t1 s2 O2 n2 z2 h2 t2 d1 d2 d3 d4 => ?_) (fun s1 O1 n1 z1 h1 t1 s2 O2 n2 z2 h2 t2 g W5 W6 W7 d1 d2 d3 hW => ?_)
      · rw [if_pos d1] at d
        exact h _ _ _ _ _ _ _ _ _ _ _ _ _ _ _ _ _ _ _ _ _ _ _ _ _ _ _ (by rw [d]; first | exact ok_m4 | exact ok_m3 | exact ok_m2 | exact ok_m6) (by rw [d]; exact hS)
      · rw [if_neg (by omega), if_pos d2] at d
        exact h _ _ _ _ _ _ _ _ _ _ _ _ _ _ _ _ _ _ _ _ _ _ _ _ _ _ _ (by rw [d]; first | exact ok_m4 | exact ok_m3 | exact ok_m2 | exact ok_m6) (by rw [d]; exact hS)
      · rw [if_neg (by omega), if_neg (by omega), if_pos ⟨d3, d4⟩] at d
        exact h _ _ _ _ _ _ _ _ _ _ _ _ _ _ _ _ _ _ _ _ _ _ _ _ _ _ _ (by rw [d]; first | exact ok_m4 | exact ok_m3 | exact ok_m2 | exact ok_m6) (by rw [d]; exact hS)
      · rw [if_neg (by omega), if_neg (by omega), if_neg (fun e => by have := d3 e.1; omega)] at d
        exact h _ _ _ _ _ _ _ _ _ _ _ _ _ _ _ _ _ _ _ _ _ _ _ _ _ _ _ (by rw [d]; exact ok_n (by omega)) (by rw [d]; exact RS_5 (Ag_gr h6) hI hS hW)
    · have e : doE N 2 (v 0) (v 1) (v 2) = (-2, N) := if_neg hab
      refine grantLeave_f2 hp (fun ⟨a, t, q1, q2, q3, q4⟩ => hab ?_) (h _ _ _ _ _ _ _ _ _ _ _ _ _ _ _ _ _ _ _ _ _ _ _ _ _ _ _ (by rw [e]; first | exact ok_m4 | exact ok_m3 | exact ok_m2 | exact ok_m6) (by rw [e]; exact hS))
      rw [(nz_eq (by omega) (by omega)).mp q3, (nz_eq (by omega) (by omega)).mp q4]
      exact q1
  | 3, _ =>
    obtain ⟨hf, h1, h2⟩ : v 0 < 10 ∧ 1 ≤ v 1 ∧ v 1 ≤ 60 := hr
    rw [hnu 1 (by decide)]
    refine ifN (by decide) (ifN (by decide) (ifN (by decide) (ifP rfl (holdDrill_ok hI hS hf h1 h2 (fun s1 O1 n1 z1 h1 t1 d1 => ?_) (fun s1 O1 n1 z1 h1 t1 l W8 W9 W10 W11 W12 W13 d1 hl el w6 w9 w10 => ?_)))))
    · have e : doE N 3 (v 0) (v 1) (v 2) = (-4, N) := if_pos d1
      exact h _ _ _ _ _ _ _ _ _ _ _ _ _ _ _ _ _ _ _ _ _ _ _ _ _ _ _ (by rw [e]; first | exact ok_m4 | exact ok_m3 | exact ok_m2 | exact ok_m6) (by rw [e]; exact hS)
    · have e : doE N 3 (v 0) (v 1) (v 2) = (nI 0, dlN N (v 0) (v 1) l) := by
        rw [el]
        exact if_neg d1
      have hh6 : N (16 + 31 * v 0) ≤ 6 := by have := (hI.2.2.2.2.2.2.2.2.1 (v 0) hf).2; omega
      exact h _ _ _ _ _ _ _ _ _ _ _ _ _ _ _ _ _ _ _ _ _ _ _ _ _ _ _ (by rw [e]; exact ok_n (by omega)) (by rw [e]; exact RS_6 (Ag_dl hf hl h3 hh6) hI hS w6 w9 w10 rfl)
  | 4, _ =>
    obtain ⟨h1, h2⟩ : 1 ≤ v 0 ∧ v 0 ≤ 99 := hr
    have hl := shortF_le (N := un N 3 (N 3 + v 0)) (d := N 3 + v 0)
    refine ifN (by decide) (ifN (by decide) (ifN (by decide) (ifN (by decide) (letPass_ok hI hS h1 h2 (fun d1 => ?_) (fun d1 s1 O1 n1 z1 h1 t1 => ?_)))))
    · have e : doE N 4 (v 0) (v 1) (v 2) = (-3, N) := if_pos d1
      exact h _ _ _ _ _ _ _ _ _ _ _ _ _ _ _ _ _ _ _ _ _ _ _ _ _ _ _ (by rw [e]; first | exact ok_m4 | exact ok_m3 | exact ok_m2 | exact ok_m6) (by rw [e]; exact hS)
    · have e : doE N 4 (v 0) (v 1) (v 2) = (nI 0, un N 3 (N 3 + v 0)) := if_neg (by omega)
      exact h _ _ _ _ _ _ _ _ _ _ _ _ _ _ _ _ _ _ _ _ _ _ _ _ _ _ _ (by rw [e]; exact ok_n (by omega)) (by rw [e]; exact RS_today hI hS)
