/-! what the class tells, as numbers of the state alone -/
def wardV (N : Nat → Nat) (d f r : Nat) : Int32 := if r < (plan N (able N d)).2.2.1 f then nI ((plan N (able N d)).2.1 (3 * f + r)) else -5
def stfV (N : Nat → Nat) (d f : Nat) : Nat → Int32
  | 0 => nI ((plan N (able N d)).2.2.1 f)
  | 1 => nI (lack N (plan N (able N d)) f)
  | _ => nI ((plan N (able N d)).2.2.2 f)
def logV (N : Nat → Nat) (f r w : Nat) : Int32 := if r < N (16 + 31 * f) then nI (N (17 + w + 31 * f + 3 * (N (16 + 31 * f) - 1 - r))) else -5
def flV (N : Nat → Nat) (f : Nat) : Nat → Int32
  | 0 => nI (N (8 + 31 * f))
  | 1 => nI (N (9 + 31 * f))
  | 2 => nI (N (15 + 31 * f))
  | _ => logV N f 0 0
def rowV (N : Nat → Nat) (f k : Nat) : Int32 := if k < mn N f then nI (rw_ N f k) else -5
def perV (N : Nat → Nat) (p : Nat) : Nat → Int32
  | 0 => nI (N (318 + 2 * p))
  | 1 => nI (sm (lvMany N p) (N 6))
  | 2 => nI (sm (lvDays N p) (N 6))
  | 3 => nI (bs (inRow N p) 10)
  | 4 => nI (N (319 + 2 * p))
  | _ => svV (plan N (able N (N 3))) p
def dueV (N : Nat → Nat) (q : Nat) : Int32 := nI (bs (isDue N q) 10)
def reaV (N : Nat → Nat) (d f p : Nat) : Nat := if svV (plan N (able N d)) p = nI f then 0 else if lvOn N p d < N 6 then 1 else if ¬ d ≤ N (318 + 2 * p) then 2 else if ¬ svV (plan N (able N d)) p = -5 then 3 else if plIn N f p = mn N f then 4 else 5
def cntV (N : Nat → Nat) : Nat → Int32
  | 0 => nI (N 3)
  | 1 => nI (N 3 / 100)
  | 2 => nI (shortF N (N 3))
  | 3 => nI (sm (lack N (plan N (able N (N 3)))) 10)
  | 4 => nI (sm (fun k => b01 (svB (plan N (able N (N 3))) k)) 16)
  | 5 => nI (sm (fun k => b01 (away N k (N 3))) 16)
  | 6 => nI (N 6)
  | 7 => nI (sm (fun f => N (15 + 31 * f)) 10)
  | 8 => nI (N 5)
  | 9 => nI (N 0)
  | 10 => nI (N 1)
  | _ => nI (N 2)
theorem t_warden {b : Nat} {V : SV} {N : Nat → Nat} {s1 : Int32} {O1 n1 z1 h1 t1 : Nat → Int32} (hI : Inv b N) (hS : RS V N) {d f r : Nat} (hd : d < 400) (hf : f < 10) (hr : r < 2147483648) {Q : Int32 → Int32 → (Nat → Int32) → (Nat → Int32) → (Nat → Int32) → (Nat → Int32) → (Nat → Int32) → Prop} (h : ∀ s1 O1 n1 z1 h1 t1, Q (wardV N d f r) s1 O1 n1 z1 h1 t1) : wp_X6_warden (V 0) (V 1) (V 2) (V 3) (V 4) (V 14 1) (V 5) (V 6) (V 7) s1 O1 n1 z1 h1 t1 (nI d) (nI f) (nI r) Q := by
  have c3 : 0 ≤ nI r := (nz_0le hr).mpr trivial
  have hP := PI_plan hI.1 (able N d)
  unfold wardV at h
  unfold wp_X6_warden
  refine cFloor_t hf (ifN' nz10 (cDay_t hd (ifN nz10 (ifP c3 (clay_ok hI.1 hI.2.1 hS (by omega) (ab := able N d) x3_0 (fun s1 O1 n1 z1 h1 t1 hR => ctaken_ok hI.1 hP hR.1 hf hr (fun c5 => ?_) (fun c5 => ?_)))))))
  · have := h s1 O1 n1 z1 h1 t1
    rw [if_pos c5] at this
    exact this
  · have := h s1 O1 n1 z1 h1 t1
    rw [if_neg (by omega)] at this
    exact this
theorem t_staff {b : Nat} {V : SV} {N : Nat → Nat} {s1 : Int32} {O1 n1 z1 h1 t1 : Nat → Int32} (hI : Inv b N) (hS : RS V N) {d f w : Nat} (hd : d < 400) (hf : f < 10) (hw : w ≤ 2) {Q : Int32 → Int32 → (Nat → Int32) → (Nat → Int32) → (Nat → Int32) → (Nat → Int32) → (Nat → Int32) → Prop} (h : ∀ s1 O1 n1 z1 h1 t1, Q (stfV N d f w) s1 O1 n1 z1 h1 t1) : wp_X6_staff (V 0) (V 1) (V 2) (V 3) (V 4) (V 14 1) (V 5) (V 6) (V 7) s1 O1 n1 z1 h1 t1 (nI d) (nI f) (nI w) Q := by
  have hP := PI_plan hI.1 (able N d)
  unfold wp_X6_staff
  refine cFloor_t hf (ifN' nz10 (cDay_t hd (ifN nz10 (cWithin_t (by omega) (by omega) (by omega) (by omega) hw (ifN' nz10 (clay_ok hI.1 hI.2.1 hS (by omega) (ab := able N d) x3_0 (fun s1 O1 n1 z1 h1 t1 hR => ⟨fun c4 => ?_, fun c4 => ⟨fun c5 => ?_, fun c5 => ?_⟩⟩)))))))
  · refine ⟨vp_in_nI hf (by omega), ?_⟩
    obtain rfl : w = 0 := (nz_eq0 (by omega)).mp c4
    rw [nz_cl (by omega), hR.1.2.1 f hf]
    exact h s1 O1 n1 z1 h1 t1
  · obtain rfl : w = 1 := (nz_eq (by omega) (by omega)).mp c5
    exact lack4_ok hR.2.1 hR.1.2.1 hP.2.1 hf (h s1 O1 n1 z1 h1 t1)
  · refine ⟨vp_in_nI hf (by omega), ?_⟩
    have c4' : w ≠ 0 := fun e => c4 ((nz_eq0 (by omega)).mpr e)
    have c5' : w ≠ 1 := fun e => c5 ((nz_eq (by omega) (by omega)).mpr e)
    obtain rfl : w = 2 := by omega
    rw [nz_cl (by omega), hR.2.2 f hf]
    exact h s1 O1 n1 z1 h1 t1
theorem t_log {b : Nat} {V : SV} {N : Nat → Nat} (hb : b < 1000000) (hI : Inv b N) (hS : RS V N) {f r w : Nat} (hf : f < 10) (hr : r < 2147483648) (hw : w ≤ 2) {Q : Int32 → Prop} (h : Q (logV N f r w)) : wp_X6_log (V 8) (V 11) (V 12) (V 13) (nI f) (nI r) (nI w) Q := by
  unfold logV at h
  unfold wp_X6_log
  refine cFloor_t hf (ifN' nz10 ⟨fun c1 => absurd ((nz_lt0 hr).mp c1) id, fun _ => cWithin_t (by omega) (by omega) (by omega) (by omega) hw (ifN' nz10 (logged_ok hb hI hS.2.2.2.2.2.1 hf hr (by omega) (fun c4 => ?_) (fun c4 => ?_)))⟩)
  · rw [if_pos c4] at h
    exact h
  · rw [if_neg (by omega)] at h
    exact h
theorem t_floor {b : Nat} {V : SV} {N : Nat → Nat} (hb : b < 1000000) (hI : Inv b N) (hS : RS V N) {f w : Nat} (hf : f < 10) (hw : w ≤ 3) {Q : Int32 → Prop} (h : Q (flV N f w)) : wp_X6_floor (V 1) (V 2) (V 8) (V 11) (V 12) (V 13) (nI f) (nI w) Q := by
  unfold wp_X6_floor
  refine cFloor_t hf (ifN' nz10 ⟨fun c0 => ?_, fun c0 => ⟨fun c1 => ?_, fun c1 => ⟨fun c2 => ?_, fun c2 => ⟨fun c3 => ?_, fun c3 => ?_⟩⟩⟩⟩)
  · obtain rfl : w = 0 := (nz_eq (by omega) (by omega)).mp c0
    refine ⟨vp_in_nI hf (by omega), ?_⟩
    rw [nz_cl (by omega), hS.2.1 f hf]
    exact h
  · obtain rfl : w = 1 := (nz_eq (by omega) (by omega)).mp c1
    refine ⟨vp_in_nI hf (by omega), ?_⟩
    rw [nz_cl (by omega), hS.2.2.1.1 f hf]
    exact h
  · obtain rfl : w = 2 := (nz_eq (by omega) (by omega)).mp c2
    refine ⟨vp_in_nI hf (by omega), ?_⟩
    rw [nz_cl (by omega), hS.2.2.2.2.2.1.1 f hf]
    exact h
  · obtain rfl : w = 3 := (nz_eq (by omega) (by omega)).mp c3
    replace h : Q (logV N f 0 0) := h
    unfold logV at h
    refine logged_ok (r := 0) (w := 0) hb hI hS.2.2.2.2.2.1 hf (by omega) (by omega) (fun c4 => ?_) (fun c4 => ?_)
    · rw [if_pos c4] at h
      exact h
    · rw [if_neg (by omega)] at h
      exact h
  · have e0 : w ≠ 0 := fun e => c0 (by rw [e])
    have e1 : w ≠ 1 := fun e => c1 (by rw [e])
    have e2 : w ≠ 2 := fun e => c2 (by rw [e])
    have e3 : w ≠ 3 := fun e => c3 (by rw [e])
    omega
theorem t_row {b : Nat} {V : SV} {N : Nat → Nat} (hI : Inv b N) (hS : RS V N) {f k : Nat} (hf : f < 10) (hk : k < 5) {Q : Int32 → Prop} (h : Q (rowV N f k)) : wp_X6_row (V 2) (V 3) (nI f) (nI k) Q := by
  unfold rowV at h
  have c2 : 0 ≤ nI k := (nz_0le (by omega)).mpr trivial
  unfold wp_X6_row
  refine cFloor_t hf (ifN' nz10 (ifP c2 (personAt_ok hI.1 hS.2.2.1 hf hk (fun c4 => ?_) (fun c4 => ?_))))
  · rw [if_pos c4] at h
    exact h
  · rw [if_neg (by omega)] at h
    exact h
theorem t_due {b : Nat} {V : SV} {N : Nat → Nat} (hI : Inv b N) (hS : RS V N) {q : Nat} (hq : q ≤ 3) {Q : Int32 → Prop} (h : Q (dueV N q)) : wp_X6_due (V 1) (V 9) (nI q) Q := by
  unfold wp_X6_due
  exact cWithin_t (by omega) (by omega) (by omega) (by omega) hq (ifN' nz10 (floorsDueIn_ok hI.1 hI.2.2.2.2.2.2.2.1 hS.2.1 hS.2.2.2.2.2.2.1 (q := q) (by omega) h))
theorem t_person {b : Nat} {V : SV} {N : Nat → Nat} {s1 : Int32} {O1 n1 z1 h1 t1 : Nat → Int32} (hI : Inv b N) (hS : RS V N) {p w : Nat} (hp : p < 16) (hw : w ≤ 5) {Q : Int32 → Int32 → (Nat → Int32) → (Nat → Int32) → (Nat → Int32) → (Nat → Int32) → (Nat → Int32) → Prop} (h : ∀ s1 O1 n1 z1 h1 t1, Q (perV N p w) s1 O1 n1 z1 h1 t1) : wp_X6_person (V 14 0) (V 0) (V 1) (V 2) (V 3) (V 4) (V 14 1) (V 5) (V 6) (V 7) (V 10) s1 O1 n1 z1 h1 t1 (nI p) (nI w) Q := by
  have h3 := hI.2.2.2.1
  have r0 := hS.2.2.2.2.2.2.2.2.1
  obtain ⟨hg, σ, hσ, hR⟩ := hS.2.2.2.2.1
  unfold wp_X6_person
  refine cPerson_t hp (ifN' nz10 ⟨fun c0 => ?_, fun c0 => ⟨fun c1 => ?_, fun c1 => ⟨fun c2 => ?_, fun c2 => ⟨fun c3 => ?_, fun c3 => ⟨fun c4 => ?_, fun c4 => ⟨fun c5 => ?_, fun c5 => ?_⟩⟩⟩⟩⟩⟩)
  · obtain rfl : w = 0 := (nz_eq (by omega) (by omega)).mp c0
    refine ⟨vp_in_nI hp (by omega), ?_⟩
    rw [nz_cl (by omega), hS.2.2.2.1 p hp]
    exact h s1 O1 n1 z1 h1 t1
  · obtain rfl : w = 1 := (nz_eq (by omega) (by omega)).mp c1
    rw [hg]
    exact cleavesOf_ok hI.1 hI.2.1 hσ hR hp (h s1 O1 n1 z1 h1 t1)
  · obtain rfl : w = 2 := (nz_eq (by omega) (by omega)).mp c2
    rw [hg]
    exact cdaysOf_ok hI.1 hI.2.1 hI.2.2.2.2.2.1 hσ hR hp (h s1 O1 n1 z1 h1 t1)
  · obtain rfl : w = 3 := (nz_eq (by omega) (by omega)).mp c3
    exact cfloorsOf_ok hI.1 hS.2.2.1 hp (h s1 O1 n1 z1 h1 t1)
  · obtain rfl : w = 4 := (nz_eq (by omega) (by omega)).mp c4
    refine ⟨vp_in_nI hp (by omega), ?_⟩
    rw [nz_cl (by omega), hS.2.2.2.2.2.2.2.1 p hp]
    exact h s1 O1 n1 z1 h1 t1
  · obtain rfl : w = 5 := (nz_eq (by omega) (by omega)).mp c5
    rw [r0]
    exact clay_ok hI.1 hI.2.1 hS (by omega) (ab := able N (N 3)) x3_0 (fun s1 O1 n1 z1 h1 t1 hR => cfloorOf_v hI.1 (PI_plan hI.1 _) hR.1 hp (h s1 O1 n1 z1 h1 t1))
  · have e0 : w ≠ 0 := fun e => c0 (by rw [e])
    have e1 : w ≠ 1 := fun e => c1 (by rw [e])
    have e2 : w ≠ 2 := fun e => c2 (by rw [e])
    have e3 : w ≠ 3 := fun e => c3 (by rw [e])
    have e4 : w ≠ 4 := fun e => c4 (by rw [e])
    have e5 : w ≠ 5 := fun e => c5 (by rw [e])
    omega
theorem t_reason {b : Nat} {V : SV} {N : Nat → Nat} {s1 : Int32} {O1 n1 z1 h1 t1 : Nat → Int32} (hI : Inv b N) (hS : RS V N) {d f p : Nat} (hd : d < 400) (hf : f < 10) (hp : p < 16) {Q : Int32 → Int32 → (Nat → Int32) → (Nat → Int32) → (Nat → Int32) → (Nat → Int32) → (Nat → Int32) → Prop} (h : ∀ s1 O1 n1 z1 h1 t1, Q (nI (reaV N d f p)) s1 O1 n1 z1 h1 t1) : wp_X6_reason (V 0) (V 1) (V 2) (V 3) (V 4) (V 14 1) (V 5) (V 6) (V 7) s1 O1 n1 z1 h1 t1 (nI d) (nI f) (nI p) Q := by
  have h5 := mn_le hI.1 f
  have h4 := hI.1.2.2.1 p hp
  have h6 := hI.2.1
  obtain ⟨hg, σ, hσ, hRl⟩ := hS.2.2.2.2.1
  unfold reaV at h
  unfold wp_X6_reason
  refine cFloor_t hf (ifN nz10 (cPerson_t hp (ifN' nz10 (cDay_t hd (ifN' nz10 (clay_ok hI.1 hI.2.1 hS (by omega) (ab := able N d) x3_0 (fun s1 O1 n1 z1 h1 t1 hR => cfloorOf_v hI.1 (PI_plan hI.1 _) hR.1 hp ⟨fun e => ?_, fun e => ?_⟩)))))))
  · rw [if_neg e] at h
    rw [hg]
    refine find_ok hI.1 h6 hσ hRl hp (by omega) (by omega) (fun i hi hv => ?_) (fun e1 => ?_)
    · have e1 : lvOn N p d < N 6 := ovOn_some (hσ.1 i hi) hv
      rw [if_pos e1] at h
      exact ifN (by rw [nz_m5 (by omega)]; exact id) (h s1 O1 n1 z1 h1 t1)
    · have e1' : lvOn N p d = N 6 := e1
      rw [if_neg (by omega)] at h
      refine ifP rfl ⟨vp_in_nI hp (by omega), ?_⟩
      rw [nz_cl (by omega), hS.2.2.2.1 p hp]
      refine ⟨fun e2 => ?_, fun e2 => ?_⟩
      · have e2' := (nz_le (by omega) (by omega)).mp e2
        rw [if_neg (fun q => q e2')] at h
        refine ⟨fun e3 => ?_, fun e3 => ?_⟩
        · rw [if_neg (fun q => q e3)] at h
          refine placeOf_ok hI.1 hS.2.2.1 hf hp (fun e4 => ?_) (fun e4 => ?_)
          · rw [if_neg (by omega)] at h
            exact ifN' (by rw [nz_m5 (by omega)]; exact id) (h s1 O1 n1 z1 h1 t1)
          · rw [if_pos e4] at h
            exact ifP' rfl (h s1 O1 n1 z1 h1 t1)
        · rw [if_pos e3] at h
          exact h s1 O1 n1 z1 h1 t1
      · have e2' : ¬ d ≤ N (318 + 2 * p) := fun q => e2 ((nz_le (by omega) (by omega)).mpr q)
        rw [if_pos e2'] at h
        exact h s1 O1 n1 z1 h1 t1
  · rw [if_pos e] at h
    exact h s1 O1 n1 z1 h1 t1
theorem t_count {b m : Nat} {V : SV} {N : Nat → Nat} {s1 : Int32} {O1 n1 z1 h1 t1 : Nat → Int32} {L : Int32} (hI : Inv b N) (hS : RS V N) {w : Nat} (hw : w < 12) {Q : Int32 → Int32 → (Nat → Int32) → (Nat → Int32) → (Nat → Int32) → (Nat → Int32) → (Nat → Int32) → Prop} (h : ∀ s1 O1 n1 z1 h1 t1, Q (cntV N w) s1 O1 n1 z1 h1 t1) : wp_X6_count (V 14 0) (V 0) (V 1) (V 2) (V 3) (V 4) (V 14 1) (V 5) (V 6) (V 7) (V 14 2) (V 8) (nI m) L s1 O1 n1 z1 h1 t1 (nI w) Q := by
  have h3 := hI.2.2.2.1
  obtain ⟨y0, y1, y2, y4, ⟨hg, σ, hσ, hRl⟩, y6, y9, y10, r0, rm⟩ := id hS
  unfold wp_X6_count
  refine ⟨fun c0 => ?_, fun c0 => ⟨fun c1 => ?_, fun c1 => ⟨fun c2 => ?_, fun c2 => ⟨fun c3 => ?_, fun c3 => ⟨fun c4 => ?_, fun c4 => ⟨fun c5 => ?_, fun c5 => ⟨fun c6 => ?_, fun c6 => ⟨fun c7 => ?_, fun c7 => ⟨fun c8 => ?_, fun c8 => ⟨fun c9 => ?_, fun c9 => ⟨fun c10 => ?_, fun c10 => ⟨fun c11 => ?_, fun c11 => ?_⟩⟩⟩⟩⟩⟩⟩⟩⟩⟩⟩⟩
  · obtain rfl : w = 0 := (nz_eq (by omega) (by omega)).mp c0
    rw [r0]
    exact h s1 O1 n1 z1 h1 t1
  · obtain rfl : w = 1 := (nz_eq (by omega) (by omega)).mp c1
    have := h s1 O1 n1 z1 h1 t1
    rw [r0]
    rw [show nI (N 3) / nI 100 = nI (N 3 / 100) from pk_div (by omega) (by omega) (by omega)]
    exact this
  · obtain rfl : w = 2 := (nz_eq (by omega) (by omega)).mp c2
    rw [r0]
    exact cfloorsShort_ok hI.1 hI.2.1 hS h3 h
  · obtain rfl : w = 3 := (nz_eq (by omega) (by omega)).mp c3
    rw [r0]
    exact cwardensLacking_ok hI.1 hI.2.1 hS h3 h
  · obtain rfl : w = 4 := (nz_eq (by omega) (by omega)).mp c4
    rw [r0]
    refine clay_ok hI.1 hI.2.1 hS (by omega) (ab := able N (N 3)) x3_0 (fun s1 O1 n1 z1 h1 t1 hR => ?_)
    rw [hR.1.1]
    refine bitCount_ok (bs_lt' _ (by omega)) ?_
    rw [pop_bs _ (by omega)]
    exact h _ _ _ _ _ _
  · obtain rfl : w = 5 := (nz_eq (by omega) (by omega)).mp c5
    rw [r0, hg]
    refine awayOn_ok hI.1 hI.2.1 hσ hRl (by omega) (bitCount_ok (bs_lt' _ (by omega)) ?_)
    rw [pop_bs _ (by omega)]
    exact h s1 O1 n1 z1 h1 t1
  · obtain rfl : w = 6 := (nz_eq (by omega) (by omega)).mp c6
    rw [hg]
    exact h s1 O1 n1 z1 h1 t1
  · obtain rfl : w = 7 := (nz_eq (by omega) (by omega)).mp c7
    exact total_ok y6.1 (h s1 O1 n1 z1 h1 t1)
  · obtain rfl : w = 8 := (nz_eq (by omega) (by omega)).mp c8
    rw [rm]
    exact h s1 O1 n1 z1 h1 t1
  · obtain rfl : w = 9 := (nz_eq (by omega) (by omega)).mp c9
    refine ⟨vp_in_nI (by omega) (by omega), ?_⟩
    rw [nz_cl (by omega), y0 0 (by omega)]
    exact h s1 O1 n1 z1 h1 t1
  · obtain rfl : w = 10 := (nz_eq (by omega) (by omega)).mp c10
    refine ⟨vp_in_nI (by omega) (by omega), ?_⟩
    rw [nz_cl (by omega), y0 1 (by omega)]
    exact h s1 O1 n1 z1 h1 t1
  · obtain rfl : w = 11 := (nz_eq (by omega) (by omega)).mp c11
    refine ⟨vp_in_nI (by omega) (by omega), ?_⟩
    rw [nz_cl (by omega), y0 2 (by omega)]
    exact h s1 O1 n1 z1 h1 t1
  · refine ⟨fun c12 => ?_, fun c12 => ?_⟩
    · have := (nz_eq (by omega) (by omega)).mp c12
      omega
    · exfalso
      match w, hw with
      | 0, _ => exact c0 rfl
      | 1, _ => exact c1 rfl
      | 2, _ => exact c2 rfl
      | 3, _ => exact c3 rfl
      | 4, _ => exact c4 rfl
      | 5, _ => exact c5 rfl
      | 6, _ => exact c6 rfl
      | 7, _ => exact c7 rfl
      | 8, _ => exact c8 rfl
      | 9, _ => exact c9 rfl
      | 10, _ => exact c10 rfl
      | 11, _ => exact c11 rfl
      | n + 12, h => exact absurd h (by omega)
theorem t_count12 {m : Nat} {V : SV} {s1 : Int32} {O1 n1 z1 h1 t1 : Nat → Int32} {L : Int32} {Q : Int32 → Int32 → (Nat → Int32) → (Nat → Int32) → (Nat → Int32) → (Nat → Int32) → (Nat → Int32) → Prop} (h : Q (nI m) s1 O1 n1 z1 h1 t1) : wp_X6_count (V 14 0) (V 0) (V 1) (V 2) (V 3) (V 4) (V 14 1) (V 5) (V 6) (V 7) (V 14 2) (V 8) (nI m) L s1 O1 n1 z1 h1 t1 (nI 12) Q := by
  unfold wp_X6_count
  refine ifN (by decide) (ifN (by decide) (ifN (by decide) (ifN (by decide) (ifN (by decide) (ifN (by decide) (ifN (by decide) (ifN (by decide) (ifN (by decide) (ifN (by decide) (ifN (by decide) (ifN (by decide) (ifP rfl h))))))))))))
