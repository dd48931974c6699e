/-! the law's 'isStaffed' -/
theorem bit16 {P : Nat → Bool} {p : Nat} (hp : p < 16) : ((nI (bs P 16) >>> (nI p &&& 31)) &&& nI 1) = nI (b01 (P p)) := by
  rw [nx_shr (by have := bs_lt' P (n := 16) (by omega); omega) (by omega), bs_bit, decide_eq_true hp, Bool.true_and]
/-- why a person does not serve, against a plan -/
theorem rea_le {N : Nat → Nat} {d f p : Nat} : reaV N d f p ≤ 5 := by
  unfold reaV
  split
  · omega
  · split
    · omega
    · split
      · omega
      · split
        · omega
        · split <;> omega
theorem able_i {N : Nat → Nat} {d p : Nat} : able N d p = true ↔ d ≤ N (318 + 2 * p) ∧ ¬ lvOn N p d < N 6 := by
  unfold able away
  rw [Bool.and_eq_true_iff, decide_eq_true_iff, Bool.not_eq_true', decide_eq_false_iff_not]
theorem svV_n {N : Nat → Nat} {d p : Nat} (hP : PI N (plan N (able N d))) (h : (plan N (able N d)).1 p ≠ 0) : ¬ svV (plan N (able N d)) p = -5 := by
  have := hP.1 p
  unfold svV
  rw [if_neg h, nz_m5 (by omega)]
  exact id
theorem rea_s {N : Nat → Nat} {d f p : Nat} (hP : PI N (plan N (able N d))) (h : (plan N (able N d)).1 p ≠ 0) : reaV N d f p = 0 ∨ reaV N d f p = 3 := by
  obtain ⟨d1, d2⟩ := able_i.mp (plan_able h)
  have c3 := svV_n hP h
  unfold reaV
  by_cases c : svV (plan N (able N d)) p = nI f
  · exact Or.inl (if_pos c)
  · rw [if_neg c, if_neg d2, if_neg (fun q => q d1), if_pos c3]
    exact Or.inr rfl
theorem rea_n {N : Nat → Nat} {d f p : Nat} (hf : f < 10) (h : (plan N (able N d)).1 p = 0) : reaV N d f p ≠ 0 ∧ reaV N d f p ≠ 3 := by
  have e : svV (plan N (able N d)) p = -5 := if_pos h
  unfold reaV
  rw [e, if_neg (fun q => (nz_m5 (n := f) (by omega)).mp q.symm)]
  by_cases c1 : lvOn N p d < N 6
  · rw [if_pos c1]
    omega
  · rw [if_neg c1]
    by_cases c2 : ¬ d ≤ N (318 + 2 * p)
    · rw [if_pos c2]
      omega
    · rw [if_neg c2, if_neg (fun q => q rfl)]
      split <;> omega
theorem rea_g {N : Nat → Nat} {d f p : Nat} (hP : PI N (plan N (able N d))) (h : 3 < reaV N d f p) : able N d p = true ∧ (plan N (able N d)).1 p = 0 ∧ (reaV N d f p = 5 ↔ inRow N p f = true) := by
  have h0 : (plan N (able N d)).1 p = 0 := by
    by_cases c : (plan N (able N d)).1 p = 0
    · exact c
    · rcases rea_s (f := f) hP c with q | q <;> omega
  have hl : plIn N f p ≤ mn N f := by
    have := (fnd_le (plP N f p) (mn N f) 0).2
    unfold plIn
    omega
  have e : svV (plan N (able N d)) p = -5 := if_pos h0
  unfold reaV at h ⊢
  by_cases c0 : svV (plan N (able N d)) p = nI f
  · rw [if_pos c0] at h
    omega
  rw [if_neg c0] at h ⊢
  by_cases c1 : lvOn N p d < N 6
  · rw [if_pos c1] at h
    omega
  rw [if_neg c1] at h ⊢
  by_cases c2 : ¬ d ≤ N (318 + 2 * p)
  · rw [if_pos c2] at h
    omega
  rw [if_neg c2] at h ⊢
  rw [if_neg (fun q => q e)] at h ⊢
  refine ⟨able_i.mpr ⟨by omega, c1⟩, h0, ?_⟩
  unfold inRow
  rw [decide_eq_true_iff]
  by_cases c4 : plIn N f p = mn N f
  · rw [if_pos c4]
    omega
  · rw [if_neg c4]
    omega
theorem rea_5 {N : Nat → Nat} {d f p : Nat} (hP : PI N (plan N (able N d))) (hf : f < 10) (h : reaV N d f p = 5) : lack N (plan N (able N d)) f = 0 := by
  obtain ⟨h1, h2, h3⟩ := rea_g hP (show 3 < reaV N d f p by omega)
  obtain ⟨j, hj, e⟩ := inRow_ex (h3.mp h)
  have := plan_row (ab := able N d) hf hj
  rw [e] at this
  rcases this with q | q | q
  · unfold lack
    omega
  · rw [h1] at q
    cases q
  · exact absurd h2 q
/-- who serves, up to a floor and a place -/
def svS (P : PS) (f k : Nat) : Nat → Bool := fun p => decide (0 < P.1 p ∧ P.1 p ≤ f) || exB (fun r => decide (P.2.1 (3 * f + r) = p)) k
theorem svS_new {N : Nat → Nat} {P : PS} (hP : PI N P) {f k : Nat} (hf : f < 10) (hk : k < P.2.2.1 f) : svS P f k (P.2.1 (3 * f + k)) = false := by
  obtain ⟨h1, h2⟩ := hP.2.2.2.1 f hf k hk
  unfold svS
  rw [decide_eq_false (by omega), Bool.false_or]
  cases e : exB (fun r => decide (P.2.1 (3 * f + r) = P.2.1 (3 * f + k))) k
  · rfl
  · obtain ⟨r, hr, e2⟩ := exB_iff.mp e
    have := hP.2.2.2.2.2 f r k hf (by omega) hk (of_decide_eq_true e2)
    omega
theorem svS_step {P : PS} {f k : Nat} (h : P.2.1 (3 * f + k) < 16) : nI (bs (svS P f k) 16) ||| (nI 1 <<< (nI (P.2.1 (3 * f + k)) &&& 31)) = nI (bs (svS P f (k + 1)) 16) := by
  rw [nx_shl (by omega), nx_or, bs_or1 _ h]
  refine congrArg nI (bs_congr (fun p hp => ?_))
  unfold svS
  rw [exB, Bool.or_assoc]
  congr 1
  congr 1
  exact decide_eq_decide.mpr ⟨fun e => e.symm, fun e => e.symm⟩
theorem svS_next {N : Nat → Nat} {P : PS} (hP : PI N P) {f : Nat} (hf : f < 10) : bs (svS P f (P.2.2.1 f)) 16 = bs (svS P (f + 1) 0) 16 := by
  refine bs_congr (fun p hp => ?_)
  unfold svS
  rw [Bool.eq_iff_iff, Bool.or_eq_true, Bool.or_eq_true, decide_eq_true_iff, decide_eq_true_iff, exB_iff]
  constructor
  · rintro (h | ⟨r, hr, h⟩)
    · exact Or.inl ⟨h.1, by omega⟩
    · have h2 := (hP.2.2.2.1 f hf r hr).2
      rw [of_decide_eq_true h] at h2
      exact Or.inl ⟨by omega, by omega⟩
  · rintro (h | h)
    · by_cases c : P.1 p = f + 1
      · obtain ⟨r, hr, e⟩ := hP.2.2.2.2.1 p hp (by omega)
        rw [show P.1 p - 1 = f by omega] at hr e
        exact Or.inr ⟨r, hr, decide_eq_true e⟩
      · exact Or.inl ⟨h.1, by omega⟩
    · cases h
theorem svS_end {N : Nat → Nat} {P : PS} (hP : PI N P) : bs (svS P 10 0) 16 = bs (svB P) 16 := by
  refine bs_congr (fun p hp => ?_)
  have := hP.1 p
  unfold svS svB exB
  rw [Bool.or_false]
  exact decide_eq_decide.mpr ⟨fun h => h.1, fun h => ⟨h, this⟩⟩
theorem svS_0 {P : PS} : bs (svS P 0 0) 16 = 0 := by
  rw [bs_congr (P2 := fun _ => false) (fun p hp => ?_), bs_0]
  unfold svS exB
  rw [Bool.or_false]
  exact decide_eq_false (by omega)
def shB (N : Nat → Nat) (d : Nat) : Nat → Bool := fun f => decide (0 < lack N (plan N (able N d)) f)
/-- a person who could help -/
def Fr (N : Nat → Nat) (d : Nat) : Prop := ∃ p, p < 16 ∧ able N d p = true ∧ (plan N (able N d)).1 p = 0
theorem st_125 {b m d f : Nat} {V : SV} {N : Nat → Nat} {L : Int32} (hI : Inv b N) (hS : RS V N) (hd : d < 400) (hf : f < 10) {K : Int32 → (Nat → Int32) → (Nat → Int32) → (Nat → Int32) → (Nat → Int32) → (Nat → Int32) → Int32 → Prop} {Q : Int32 → Int32 → (Nat → Int32) → (Nat → Int32) → (Nat → Int32) → (Nat → Int32) → (Nat → Int32) → Prop} (hK : ∀ s1 O1 n1 z1 h1 t1, K s1 O1 n1 z1 h1 t1 (nI (bs (svS (plan N (able N d)) (f + 1) 0) 16))) : ∀ (n k : Nat), k + n = (plan N (able N d)).2.2.1 f → ∀ s1 O1 n1 z1 h1 t1, wb_L_isStaffed_125 (V 14 0) (V 0) (V 1) (V 2) (V 3) (V 4) (V 14 1) (V 5) (V 6) (V 7) (V 14 2) (V 8) (V 10) (nI m) L (nI d) (nI f) (nI ((plan N (able N d)).2.2.1 f)) K Q (n + 1) s1 O1 n1 z1 h1 t1 (nI (bs (svS (plan N (able N d)) f k) 16)) (nI k) := by
  have hP := PI_plan hI.1 (able N d)
  have hc := hP.2.1 f hf
  have hn := nd_le hI.1 f
  intro n
  induction n with
  | zero =>
    intro k hk s1 O1 n1 z1 h1 t1
    obtain rfl : k = (plan N (able N d)).2.2.1 f := by omega
    rw [wb_L_isStaffed_125]
    refine ifP ((nz_le (by omega) (by omega)).mpr (by omega)) ?_
    rw [svS_next hP hf]
    exact hK s1 O1 n1 z1 h1 t1
  | succ n ih =>
    intro k hk s1 O1 n1 z1 h1 t1
    have hk2 : k < (plan N (able N d)).2.2.1 f := by omega
    obtain ⟨p1, p2⟩ := hP.2.2.2.1 f hf k hk2
    obtain ⟨a1, a2⟩ := able_i.mp (plan_able (N := N) (ab := able N d) (p := (plan N (able N d)).2.1 (3 * f + k)) (by omega))
    have hp4 := hI.1.2.2.1 _ p1
    have next : ∀ s1 O1 n1 z1 h1 t1 x2 x8, x2 = nI (bs (svS (plan N (able N d)) f k) 16) ||| (nI 1 <<< (nI ((plan N (able N d)).2.1 (3 * f + k)) &&& 31)) → x8 = nI k + nI 1 → wb_L_isStaffed_125 (V 14 0) (V 0) (V 1) (V 2) (V 3) (V 4) (V 14 1) (V 5) (V 6) (V 7) (V 14 2) (V 8) (V 10) (nI m) L (nI d) (nI f) (nI ((plan N (able N d)).2.2.1 f)) K Q (n + 1) s1 O1 n1 z1 h1 t1 x2 x8 := fun s1 O1 n1 z1 h1 t1 x2 x8 e1 e2 => by
      rw [svS_step p1] at e1
      rw [nI_add] at e2
      subst e1 e2
      exact ih (k + 1) (by omega) s1 O1 n1 z1 h1 t1
    have er : reaV N d f ((plan N (able N d)).2.1 (3 * f + k)) = 0 := by
      unfold reaV
      refine if_pos ?_
      unfold svV
      rw [if_neg (by omega), p2]
      rfl
    rw [wb_L_isStaffed_125]
    refine ifN (nz_leN (by omega) (by omega) (by omega)) (t_warden (r := k) hI hS hd hf (by omega) (fun s1 O1 n1 z1 h1 t1 => ?_))
    rw [show wardV N d f k = nI ((plan N (able N d)).2.1 (3 * f + k)) from if_pos hk2, bit16 p1, svS_new hP hf hk2]
    refine ifN (by decide) (t_person (w := 0) hI hS p1 (by omega) (fun s1 O1 n1 z1 h1 t1 => ?_))
    refine ifN (fun c => ?_) (t_reason hI hS hd hf p1 (fun s1 O1 n1 z1 h1 t1 => ?_))
    · replace c : nI (N (318 + 2 * (plan N (able N d)).2.1 (3 * f + k))) < nI d := c
      have := (nz_lt (by omega) (by omega)).mp c
      omega
    · rw [er]
      refine ifP' rfl (t_count (w := 10) hI hS (by omega) (fun s1 O1 n1 z1 h1 t1 => ⟨fun _ => ?_, fun c => ?_⟩))
      · exact fun x2 e1 x8 e2 => next s1 O1 n1 z1 h1 t1 x2 x8 e1 e2
      · replace c : nI (N 1) = 0 := c
        have h1 := hI.1.2.2.2.2.1
        have c1 := (nz_eq0 (by omega)).mp c
        refine t_person (w := 3) hI hS p1 (by omega) (fun s1 O1 n1 z1 h1 t1 => ?_)
        rw [show perV N ((plan N (able N d)).2.1 (3 * f + k)) 3 = nI (bs (inRow N ((plan N (able N d)).2.1 (3 * f + k))) 10) from rfl, bit10 hf, (plan_own (N := N) (ab := able N d) (by omega)).1 f _ hf p2]
        exact ifN' (by decide) (fun x2 e1 x8 e2 => next s1 O1 n1 z1 h1 t1 x2 x8 e1 e2)
theorem st_106 {b m d f : Nat} {V : SV} {N : Nat → Nat} {L : Int32} {s1 : Int32} {O1 n1 z1 h1 t1 : Nat → Int32} (hI : Inv b N) (hS : RS V N) (hd : d < 400) (hf : f < 10) {K : Int32 → (Nat → Int32) → (Nat → Int32) → (Nat → Int32) → (Nat → Int32) → (Nat → Int32) → Int32 → Int32 → Int32 → Prop} {Q : Int32 → Int32 → (Nat → Int32) → (Nat → Int32) → (Nat → Int32) → (Nat → Int32) → (Nat → Int32) → Prop} (hK : ∀ s1 O1 n1 z1 h1 t1, K s1 O1 n1 z1 h1 t1 (nI (bs (svS (plan N (able N d)) (f + 1) 0) 16)) (nI (bs (shB N d) (f + 1))) (nI (f + 1))) : wb_L_isStaffed_106 (V 14 0) (V 0) (V 1) (V 2) (V 3) (V 4) (V 14 1) (V 5) (V 6) (V 7) (V 14 2) (V 8) (V 10) (nI m) L s1 O1 n1 z1 h1 t1 (nI d) (nI (bs (svS (plan N (able N d)) f 0) 16)) (nI (bs (shB N d) f)) (nI f) (nI ((plan N (able N d)).2.2.1 f)) (nI (lack N (plan N (able N d)) f)) K Q := by
  have hl := lack_le hI.1 (plan N (able N d)) f
  unfold wb_L_isStaffed_106
  refine ⟨fun c x3 e3 => ⟨(plan N (able N d)).2.2.1 f + 1, st_125 hI hS hd hf (fun s1 O1 n1 z1 h1 t1 x5 e5 => ?_) _ 0 (by omega) s1 O1 n1 z1 h1 t1⟩, fun c x3 e3 => ⟨(plan N (able N d)).2.2.1 f + 1, st_125 hI hS hd hf (fun s1 O1 n1 z1 h1 t1 x5 e5 => ?_) _ 0 (by omega) s1 O1 n1 z1 h1 t1⟩⟩
  · have c2 := (nz_le0 (by omega)).mp c
    have q : ¬ shB N d f = true := by
      unfold shB
      rw [decide_eq_true_iff]
      omega
    rw [or_0 q] at e3
    rw [nI_add] at e5
    subst e3 e5
    exact hK s1 O1 n1 z1 h1 t1
  · have q : shB N d f = true := by
      unfold shB
      rw [decide_eq_true_iff]
      refine Nat.pos_of_ne_zero (fun z => c ?_)
      rw [z]
      exact (nz_le0 (by omega)).mpr rfl
    rw [or_k (by omega) q] at e3
    rw [nI_add] at e5
    subst e3 e5
    exact hK s1 O1 n1 z1 h1 t1
theorem st_10 {b m d : Nat} {V : SV} {N : Nat → Nat} {L : Int32} (hb : b < 1000000) (hI : Inv b N) (hS : RS V N) (hd : d < 400) {K : Int32 → (Nat → Int32) → (Nat → Int32) → (Nat → Int32) → (Nat → Int32) → (Nat → Int32) → Int32 → Int32 → Prop} {Q : Int32 → Int32 → (Nat → Int32) → (Nat → Int32) → (Nat → Int32) → (Nat → Int32) → (Nat → Int32) → Prop} (hK : ∀ s1 O1 n1 z1 h1 t1, K s1 O1 n1 z1 h1 t1 (nI (bs (svB (plan N (able N d))) 16)) (nI (bs (shB N d) 10))) : ∀ (n f : Nat), f + n = 10 → ∀ s1 O1 n1 z1 h1 t1, wb_L_isStaffed_10 (V 14 0) (V 0) (V 1) (V 2) (V 3) (V 4) (V 14 1) (V 5) (V 6) (V 7) (V 14 2) (V 8) (V 10) (V 11) (V 12) (V 13) (nI m) L (nI d) K Q (n + 1) s1 O1 n1 z1 h1 t1 (nI (bs (svS (plan N (able N d)) f 0) 16)) (nI (bs (shB N d) f)) (nI f) := by
  have hP := PI_plan hI.1 (able N d)
  intro n
  induction n with
  | zero =>
    intro f hk s1 O1 n1 z1 h1 t1
    obtain rfl : f = 10 := by omega
    rw [wb_L_isStaffed_10, svS_end hP]
    exact ifP ((nz_le (by omega) (by omega)).mpr (by omega)) (hK s1 O1 n1 z1 h1 t1)
  | succ n ih =>
    intro f hk s1 O1 n1 z1 h1 t1
    have hf : f < 10 := by omega
    have hc := hP.2.1 f hf
    have hn := nd_le hI.1 f
    have hh := hP.2.2.1 f hf
    have hl := lack_le hI.1 (plan N (able N d)) f
    rw [wb_L_isStaffed_10]
    refine ifN (nz_leN (by omega) (by omega) (by omega)) (t_staff (w := 0) hI hS hd hf (by omega) (fun s1 O1 n1 z1 h1 t1 => t_staff (w := 1) hI hS hd hf (by omega) (fun s1 O1 n1 z1 h1 t1 => t_floor (w := 0) hb hI hS hf (by omega) (ifP' ?_ (ifN ?_ (t_warden (r := (plan N (able N d)).2.2.1 f) hI hS hd hf (by omega) (fun s1 O1 n1 z1 h1 t1 => ifP' (if_neg (by omega)) (t_staff (w := 2) hI hS hd hf (by omega) (fun s1 O1 n1 z1 h1 t1 => ifN ?_ (t_count (w := 10) hI hS (by omega) (fun s1 O1 n1 z1 h1 t1 => ⟨fun _ => ?_, fun c => ?_⟩)))))))))))
    · show nI ((plan N (able N d)).2.2.1 f) + nI (lack N (plan N (able N d)) f) = nI (N (8 + 31 * f))
      rw [nI_add, ← nd_at (N := N) hf]
      unfold lack
      congr 1
      omega
    · exact fun c => (nz_lt0 (by omega)).mp c
    · intro c
      replace c : nI ((plan N (able N d)).2.2.1 f) < nI ((plan N (able N d)).2.2.2 f) := c
      have := (nz_lt (by omega) (by omega)).mp c
      omega
    · exact st_106 hI hS hd hf (fun s1 O1 n1 z1 h1 t1 => ih (f + 1) (by omega) s1 O1 n1 z1 h1 t1)
    · replace c : nI (N 1) = 0 := c
      have h1 := hI.1.2.2.2.2.1
      have c1 := (nz_eq0 (by omega)).mp c
      refine t_staff (w := 2) hI hS hd hf (by omega) (fun s1 O1 n1 z1 h1 t1 => ifP ?_ (st_106 hI hS hd hf (fun s1 O1 n1 z1 h1 t1 => ih (f + 1) (by omega) s1 O1 n1 z1 h1 t1)))
      show nI ((plan N (able N d)).2.2.2 f) = 0
      rw [(plan_own (N := N) (ab := able N d) (by omega)).2 f]
      exact nI_0
theorem st_360 {N : Nat → Nat} {d f y : Nat} {F : Bool} {s1 : Int32} {O1 n1 z1 h1 t1 : Nat → Int32} (hy : y ≤ 5) (h5 : 3 < y → Fr N d) (hF : F = true → Fr N d) {K : Int32 → (Nat → Int32) → (Nat → Int32) → (Nat → Int32) → (Nat → Int32) → (Nat → Int32) → Int32 → Int32 → Prop} (hK : ∀ F : Bool, (F = true → Fr N d) → K s1 O1 n1 z1 h1 t1 (nI (b01 F)) (nI (f + 1))) : wb_L_isStaffed_360 s1 O1 n1 z1 h1 t1 (nI (b01 F)) (nI f) (nI y) K := by
  unfold wb_L_isStaffed_360
  refine ⟨fun c x e => ?_, fun c => ⟨fun c2 x e => ?_, fun c2 x e => ?_⟩⟩
  · rw [nI_add] at e
    subst e
    cases F
    · exact absurd rfl c
    · exact hK true hF
  · rw [nI_add] at e
    subst e
    exact hK false (fun q => by cases q)
  · rw [nI_add] at e
    subst e
    refine hK true (fun _ => h5 ?_)
    exact Nat.lt_of_not_le (fun q => c2 ((nz_le (by omega) (by omega)).mpr q))
theorem st_342 {N : Nat → Nat} {d f y : Nat} {F : Bool} {s1 : Int32} {O1 n1 z1 h1 t1 : Nat → Int32} (hf : f < 10) (hy : y ≤ 5) (hy5 : y = 5 → shB N d f = false) (h5 : 3 < y → Fr N d) (hF : F = true → Fr N d) {K : Int32 → (Nat → Int32) → (Nat → Int32) → (Nat → Int32) → (Nat → Int32) → (Nat → Int32) → Int32 → Int32 → Prop} {Q : Int32 → Int32 → (Nat → Int32) → (Nat → Int32) → (Nat → Int32) → (Nat → Int32) → (Nat → Int32) → Prop} (hK : ∀ F : Bool, (F = true → Fr N d) → K s1 O1 n1 z1 h1 t1 (nI (b01 F)) (nI (f + 1))) : wb_L_isStaffed_342 s1 O1 n1 z1 h1 t1 (nI (bs (shB N d) 10)) (nI (b01 F)) (nI f) (nI y) K Q := by
  have h := st_360 (s1 := s1) (O1 := O1) (n1 := n1) (z1 := z1) (h1 := h1) (t1 := t1) (d := d) (f := f) (y := y) (F := F) hy h5 hF hK
  unfold wb_L_isStaffed_342
  refine ⟨fun _ => h, fun c => ?_⟩
  have c2 := (nz_eq (by omega) (by omega)).mp c
  rw [bit10 hf, hy5 c2]
  exact ifN' (by decide) h
theorem st_301 {b d f p y : Nat} {V : SV} {N : Nat → Nat} {F : Bool} {s1 : Int32} {O1 n1 z1 h1 t1 : Nat → Int32} (hI : Inv b N) (hS : RS V N) (hf : f < 10) (hp : p < 16) (hy : y ≤ 5) (hr : 3 < y → (y = 5 ↔ inRow N p f = true)) (hy5 : y = 5 → shB N d f = false) (h5 : 3 < y → Fr N d) (hF : F = true → Fr N d) {K : Int32 → (Nat → Int32) → (Nat → Int32) → (Nat → Int32) → (Nat → Int32) → (Nat → Int32) → Int32 → Int32 → Prop} {Q : Int32 → Int32 → (Nat → Int32) → (Nat → Int32) → (Nat → Int32) → (Nat → Int32) → (Nat → Int32) → Prop} (hK : ∀ s1 O1 n1 z1 h1 t1, ∀ F : Bool, (F = true → Fr N d) → K s1 O1 n1 z1 h1 t1 (nI (b01 F)) (nI (f + 1))) : wb_L_isStaffed_301 (V 14 0) (V 0) (V 1) (V 2) (V 3) (V 4) (V 14 1) (V 5) (V 6) (V 7) (V 10) s1 O1 n1 z1 h1 t1 (nI (bs (shB N d) 10)) (nI (b01 F)) (nI p) (nI f) (nI y) K Q := by
  unfold wb_L_isStaffed_301
  refine ⟨fun _ => st_342 hf hy hy5 h5 hF (hK s1 O1 n1 z1 h1 t1), fun c => ?_⟩
  have c4 : 3 < y := Nat.lt_of_not_le (fun q => c ((nz_le (by omega) (by omega)).mpr q))
  refine ⟨fun c5 => ?_, fun c5 => ?_⟩
  · have c6 : y ≠ 5 := fun q => c5 (by rw [q])
    have ei : inRow N p f = false := by
      cases e : inRow N p f
      · rfl
      · exact absurd ((hr c4).mpr e) c6
    unfold wb_L_isStaffed_318
    refine t_person (w := 3) hI hS hp (by omega) (fun s1 O1 n1 z1 h1 t1 => ?_)
    rw [show perV N p 3 = nI (bs (inRow N p) 10) from rfl, bit10 hf, ei]
    exact ifN' (by decide) (ifP' rfl (st_342 hf hy hy5 h5 hF (hK s1 O1 n1 z1 h1 t1)))
  · have c6 : y = 5 := (nz_eq (by omega) (by omega)).mp c5
    have ei : inRow N p f = true := (hr c4).mp c6
    unfold wb_L_isStaffed_318
    refine t_person (w := 3) hI hS hp (by omega) (fun s1 O1 n1 z1 h1 t1 => ?_)
    rw [show perV N p 3 = nI (bs (inRow N p) 10) from rfl, bit10 hf, ei]
    exact ifP' rfl (ifP' rfl (st_342 hf hy hy5 h5 hF (hK s1 O1 n1 z1 h1 t1)))
theorem st_267 {b d f p : Nat} {V : SV} {N : Nat → Nat} {F : Bool} {s1 : Int32} {O1 n1 z1 h1 t1 : Nat → Int32} (hI : Inv b N) (hS : RS V N) (hf : f < 10) (hp : p < 16) (hF : F = true → Fr N d) {K : Int32 → (Nat → Int32) → (Nat → Int32) → (Nat → Int32) → (Nat → Int32) → (Nat → Int32) → Int32 → Int32 → Prop} {Q : Int32 → Int32 → (Nat → Int32) → (Nat → Int32) → (Nat → Int32) → (Nat → Int32) → (Nat → Int32) → Prop} (hK : ∀ s1 O1 n1 z1 h1 t1, ∀ F : Bool, (F = true → Fr N d) → K s1 O1 n1 z1 h1 t1 (nI (b01 F)) (nI (f + 1))) : wb_L_isStaffed_267 (V 14 0) (V 0) (V 1) (V 2) (V 3) (V 4) (V 14 1) (V 5) (V 6) (V 7) (V 10) s1 O1 n1 z1 h1 t1 (nI (bs (shB N d) 10)) (nI (b01 F)) (nI p) (nI f) (nI (reaV N d f p)) K Q (nI (b01 (svB (plan N (able N d)) p))) := by
  have hP := PI_plan hI.1 (able N d)
  have hy := rea_le (N := N) (d := d) (f := f) (p := p)
  have h3 := st_301 (s1 := s1) (O1 := O1) (n1 := n1) (z1 := z1) (h1 := h1) (t1 := t1) (y := reaV N d f p) (Q := Q) (F := F) hI hS hf hp hy (fun h => (rea_g hP h).2.2) (fun h => by
    unfold shB
    rw [rea_5 hP hf h]
    rfl) (fun h => ⟨p, hp, (rea_g hP h).1, (rea_g hP h).2.1⟩) hF hK
  unfold wb_L_isStaffed_267
  cases e : svB (plan N (able N d)) p
  · have e0 : (plan N (able N d)).1 p = 0 := by
      have := of_decide_eq_false e
      omega
    obtain ⟨n0, n3⟩ := rea_n (f := f) hf e0
    refine ifP nI_0 ?_
    unfold wb_L_isStaffed_285
    exact ifP' nI_0 (ifN (fun c => n0 ((nz_eq0 (by omega)).mp c)) (ifN (fun c => n3 ((nz_eq (by omega) (by omega)).mp c)) h3))
  · have e0 : (plan N (able N d)).1 p ≠ 0 := by
      have := of_decide_eq_true e
      omega
    have h285 : wb_L_isStaffed_285 (V 14 0) (V 0) (V 1) (V 2) (V 3) (V 4) (V 14 1) (V 5) (V 6) (V 7) (V 10) s1 O1 n1 z1 h1 t1 (nI (bs (shB N d) 10)) (nI (b01 F)) (nI p) (nI f) (nI (reaV N d f p)) (nI 1) K Q := by
      unfold wb_L_isStaffed_285
      exact ifN' nz10 h3
    refine ifN nz10 ⟨fun _ => h285, fun c => ?_⟩
    rcases rea_s (f := f) hP e0 with q | q
    · rw [q] at c
      exact absurd nI_0 c
    · exact ifP' (by rw [q]) h285
theorem st_234 {b d p : Nat} {V : SV} {N : Nat → Nat} (hI : Inv b N) (hS : RS V N) (hd : d < 400) (hp : p < 16) {K : Int32 → (Nat → Int32) → (Nat → Int32) → (Nat → Int32) → (Nat → Int32) → (Nat → Int32) → Int32 → Prop} {Q : Int32 → Int32 → (Nat → Int32) → (Nat → Int32) → (Nat → Int32) → (Nat → Int32) → (Nat → Int32) → Prop} (hK : ∀ s1 O1 n1 z1 h1 t1, ∀ F : Bool, (F = true → Fr N d) → K s1 O1 n1 z1 h1 t1 (nI (b01 F))) : ∀ (n f : Nat), f + n = 10 → ∀ s1 O1 n1 z1 h1 t1, ∀ F : Bool, (F = true → Fr N d) → wb_L_isStaffed_234 (V 14 0) (V 0) (V 1) (V 2) (V 3) (V 4) (V 14 1) (V 5) (V 6) (V 7) (V 10) (nI d) (nI (bs (svB (plan N (able N d))) 16)) (nI (bs (shB N d) 10)) (nI p) K Q (n + 1) s1 O1 n1 z1 h1 t1 (nI (b01 F)) (nI f) := by
  intro n
  induction n with
  | zero =>
    intro f hk s1 O1 n1 z1 h1 t1 F hF
    obtain rfl : f = 10 := by omega
    rw [wb_L_isStaffed_234]
    exact ifP ((nz_le (by omega) (by omega)).mpr (by omega)) (hK s1 O1 n1 z1 h1 t1 F hF)
  | succ n ih =>
    intro f hk s1 O1 n1 z1 h1 t1 F hF
    rw [wb_L_isStaffed_234]
    refine ifN (nz_leN (by omega) (by omega) (by omega)) (t_reason hI hS hd (f := f) (by omega) hp (fun s1 O1 n1 z1 h1 t1 => ?_))
    have h := st_267 (s1 := s1) (O1 := O1) (n1 := n1) (z1 := z1) (h1 := h1) (t1 := t1) (d := d) (f := f) (F := F) (Q := Q) hI hS (by omega) hp hF (K := fun s1 O1 n1 z1 h1 t1 x4 x6 => wb_L_isStaffed_234 (V 14 0) (V 0) (V 1) (V 2) (V 3) (V 4) (V 14 1) (V 5) (V 6) (V 7) (V 10) (nI d) (nI (bs (svB (plan N (able N d))) 16)) (nI (bs (shB N d) 10)) (nI p) K Q (n + 1) s1 O1 n1 z1 h1 t1 x4 x6) (fun s1 O1 n1 z1 h1 t1 F2 hF2 => ih (f + 1) (by omega) s1 O1 n1 z1 h1 t1 F2 hF2)
    rw [bit16 hp]
    cases e : svB (plan N (able N d)) p
    · rw [e] at h
      exact ifN' (by decide) h
    · rw [e] at h
      exact ifP' rfl h
theorem st_224 {b d : Nat} {V : SV} {N : Nat → Nat} (hI : Inv b N) (hS : RS V N) (hd : d < 400) {K : Int32 → (Nat → Int32) → (Nat → Int32) → (Nat → Int32) → (Nat → Int32) → (Nat → Int32) → Int32 → Prop} {Q : Int32 → Int32 → (Nat → Int32) → (Nat → Int32) → (Nat → Int32) → (Nat → Int32) → (Nat → Int32) → Prop} (hK : ∀ s1 O1 n1 z1 h1 t1, ∀ F : Bool, (F = true → Fr N d) → K s1 O1 n1 z1 h1 t1 (nI (b01 F))) : ∀ (n p : Nat), p + n = 16 → ∀ s1 O1 n1 z1 h1 t1, ∀ F : Bool, (F = true → Fr N d) → wb_L_isStaffed_224 (V 14 0) (V 0) (V 1) (V 2) (V 3) (V 4) (V 14 1) (V 5) (V 6) (V 7) (V 10) (nI d) (nI (bs (svB (plan N (able N d))) 16)) (nI (bs (shB N d) 10)) K Q (n + 1) s1 O1 n1 z1 h1 t1 (nI (b01 F)) (nI p) := by
  intro n
  induction n with
  | zero =>
    intro p hk s1 O1 n1 z1 h1 t1 F hF
    obtain rfl : p = 16 := by omega
    rw [wb_L_isStaffed_224]
    exact ifP ((nz_le (by omega) (by omega)).mpr (by omega)) (hK s1 O1 n1 z1 h1 t1 F hF)
  | succ n ih =>
    intro p hk s1 O1 n1 z1 h1 t1 F hF
    rw [wb_L_isStaffed_224]
    refine ifN (nz_leN (by omega) (by omega) (by omega)) ⟨11, st_234 hI hS hd (p := p) (by omega) (fun s1 O1 n1 z1 h1 t1 F2 hF2 x5 e5 => ?_) 10 0 (by omega) s1 O1 n1 z1 h1 t1 F hF⟩
    rw [nI_add] at e5
    subst e5
    exact ih (p + 1) (by omega) s1 O1 n1 z1 h1 t1 F2 hF2
theorem staffed_ok {b m d : Nat} {V : SV} {N : Nat → Nat} {L : Int32} {s1 : Int32} {O1 n1 z1 h1 t1 : Nat → Int32} (hb : b < 1000000) (hI : Inv b N) (hS : RS V N) (hd : d < 400) {Q : Int32 → Int32 → (Nat → Int32) → (Nat → Int32) → (Nat → Int32) → (Nat → Int32) → (Nat → Int32) → Prop} (h : ∀ s1 O1 n1 z1 h1 t1, Q (nI 1) s1 O1 n1 z1 h1 t1) : wp_L_isStaffed (V 14 0) (V 0) (V 1) (V 2) (V 3) (V 4) (V 14 1) (V 5) (V 6) (V 7) (V 14 2) (V 8) (V 10) (V 11) (V 12) (V 13) (nI m) L s1 O1 n1 z1 h1 t1 (nI d) Q := by
  have hN1 := hI.1.2.2.2.2.1
  unfold wp_L_isStaffed
  have go : ∀ {K : Int32 → (Nat → Int32) → (Nat → Int32) → (Nat → Int32) → (Nat → Int32) → (Nat → Int32) → Int32 → Int32 → Prop}, (∀ s1 O1 n1 z1 h1 t1, K s1 O1 n1 z1 h1 t1 (nI (bs (svB (plan N (able N d))) 16)) (nI (bs (shB N d) 10))) → wb_L_isStaffed_10 (V 14 0) (V 0) (V 1) (V 2) (V 3) (V 4) (V 14 1) (V 5) (V 6) (V 7) (V 14 2) (V 8) (V 10) (V 11) (V 12) (V 13) (nI m) L (nI d) K Q 11 s1 O1 n1 z1 h1 t1 (nI 0) (nI 0) (nI 0) := fun {K} hK => by
    have := st_10 (m := m) (L := L) (Q := Q) hb hI hS hd hK 10 0 (by omega) s1 O1 n1 z1 h1 t1
    rw [svS_0] at this
    exact this
  refine ⟨11, go (fun s1 O1 n1 z1 h1 t1 => ⟨17, st_224 hI hS hd (fun s1 O1 n1 z1 h1 t1 F hF => t_count (w := 10) hI hS (by omega) (fun s1 O1 n1 z1 h1 t1 => ⟨fun _ => h s1 O1 n1 z1 h1 t1, fun c => ⟨fun _ => h s1 O1 n1 z1 h1 t1, fun c2 => ⟨fun c3 => ?_, fun _ => h s1 O1 n1 z1 h1 t1⟩⟩⟩)) 16 0 (by omega) s1 O1 n1 z1 h1 t1 false (fun q => by cases q)⟩)⟩
  exfalso
  replace c : ¬ nI (N 1) = 0 := c
  have e1 : N 1 = 1 := by
    by_cases q : N 1 = 0
    · rw [q] at c
      exact absurd nI_0 c
    · omega
  have eF : F = true := by
    cases F
    · exact absurd nI_0 c3
    · rfl
  obtain ⟨p, hp, ha, h0⟩ := hF eF
  refine c2 ?_
  have : bs (shB N d) 10 = bs (fun _ => false) 10 := bs_congr (fun f hf => by
    unfold shB
    rw [decide_eq_false_iff_not]
    rcases plan_help (ab := able N d) e1 hf hp with q | q | q
    · unfold lack
      omega
    · rw [ha] at q
      cases q
    · exact absurd h0 q)
  rw [this, bs_0]
  exact nI_0
