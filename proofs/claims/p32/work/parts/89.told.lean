/-! the law's digest of what is told: a number of the state alone -/
def hsh (g : Nat → Int64) (h : Int64) : Nat → Int64
  | 0 => h
  | n + 1 => 31 * hsh g h n + g n
def hs3 (N : Nat → Nat) (f : Nat) (h : Int64) : Nat → Int64
  | 0 => h
  | n + 1 => 31 * (31 * (31 * hs3 N f h n + (logV N f n 0).toInt64) + (logV N f n 1).toInt64) + (logV N f n 2).toInt64
def hsF (N : Nat → Nat) (h : Int64) : Nat → Int64
  | 0 => h
  | f + 1 => hs3 N f (hsh (fun k => (rowV N f k).toInt64) (hsh (fun w => (flV N f w).toInt64) (hsF N h f) 4) 5) 6
def hsP (N : Nat → Nat) (h : Int64) : Nat → Int64
  | 0 => h
  | p + 1 => hsh (fun w => (perV N p w).toInt64) (hsP N h p) 6
def toldV (N : Nat → Nat) : Int64 := hsh (fun q => (dueV N q).toInt64) (hsP N (hsF N (hsh (fun w => (cntV N w).toInt64) 3 12) 10) 16) 4
theorem nz_leN {a b : Nat} (ha : a < 2147483648) (hb : b < 2147483648) (h : b < a) : ¬ nI a ≤ nI b := fun c => by
  have := (nz_le ha hb).mp c
  omega
theorem told_6 {b m : Nat} {V : SV} {N : Nat → Nat} {L : Int32} (hI : Inv b N) (hS : RS V N) {K : Int32 → (Nat → Int32) → (Nat → Int32) → (Nat → Int32) → (Nat → Int32) → (Nat → Int32) → Int64 → Prop} (hK : ∀ s1 O1 n1 z1 h1 t1, K s1 O1 n1 z1 h1 t1 (hsh (fun w => (cntV N w).toInt64) 3 12)) : ∀ (n k : Nat), k + n = 12 → ∀ s1 O1 n1 z1 h1 t1, wb_L_told_6 (V 14 0) (V 0) (V 1) (V 2) (V 3) (V 4) (V 14 1) (V 5) (V 6) (V 7) (V 14 2) (V 8) (nI m) L K (n + 1) s1 O1 n1 z1 h1 t1 (hsh (fun w => (cntV N w).toInt64) 3 k) (nI k) := by
  intro n
  induction n with
  | zero =>
    intro k hk s1 O1 n1 z1 h1 t1
    obtain rfl : k = 12 := by omega
    rw [wb_L_told_6]
    exact ifP ((nz_le (by omega) (by omega)).mpr (by omega)) (hK s1 O1 n1 z1 h1 t1)
  | succ n ih =>
    intro k hk s1 O1 n1 z1 h1 t1
    rw [wb_L_told_6]
    refine ifN (nz_leN (by omega) (by omega) (by omega)) (fun h1 e1 => t_count hI hS (by omega) (fun s1 O1 n1 z1 h1 t1 h2 e2 x3 e3 => ?_))
    subst e1 e2 e3
    rw [nI_add]
    exact ih (k + 1) (by omega) s1 O1 n1 z1 h1 t1
theorem told_42 {b : Nat} {V : SV} {N : Nat → Nat} (hb : b < 1000000) (hI : Inv b N) (hS : RS V N) {f : Nat} (hf : f < 10) {h0 : Int64} {K : Int64 → Prop} (hK : K (hsh (fun w => (flV N f w).toInt64) h0 4)) : ∀ (n k : Nat), k + n = 4 → wb_L_told_42 (V 1) (V 2) (V 8) (V 11) (V 12) (V 13) (nI f) K (n + 1) (hsh (fun w => (flV N f w).toInt64) h0 k) (nI k) := by
  intro n
  induction n with
  | zero =>
    intro k hk
    obtain rfl : k = 4 := by omega
    rw [wb_L_told_42]
    exact ifP ((nz_le (by omega) (by omega)).mpr (by omega)) hK
  | succ n ih =>
    intro k hk
    rw [wb_L_told_42]
    refine ifN (nz_leN (by omega) (by omega) (by omega)) (fun h1 e1 => t_floor hb hI hS hf (by omega) (fun h2 e2 x3 e3 => ?_))
    subst e1 e2 e3
    rw [nI_add]
    exact ih (k + 1) (by omega)
theorem told_72 {b : Nat} {V : SV} {N : Nat → Nat} (hI : Inv b N) (hS : RS V N) {f : Nat} (hf : f < 10) {h0 : Int64} {K : Int64 → Prop} (hK : K (hsh (fun w => (rowV N f w).toInt64) h0 5)) : ∀ (n k : Nat), k + n = 5 → wb_L_told_72 (V 2) (V 3) (nI f) K (n + 1) (hsh (fun w => (rowV N f w).toInt64) h0 k) (nI k) := by
  intro n
  induction n with
  | zero =>
    intro k hk
    obtain rfl : k = 5 := by omega
    rw [wb_L_told_72]
    exact ifP ((nz_le (by omega) (by omega)).mpr (by omega)) hK
  | succ n ih =>
    intro k hk
    rw [wb_L_told_72]
    refine ifN (nz_leN (by omega) (by omega) (by omega)) (fun h1 e1 => t_row hI hS hf (by omega) (fun h2 e2 x3 e3 => ?_))
    subst e1 e2 e3
    rw [nI_add]
    exact ih (k + 1) (by omega)
theorem told_102 {b : Nat} {V : SV} {N : Nat → Nat} (hb : b < 1000000) (hI : Inv b N) (hS : RS V N) {f : Nat} (hf : f < 10) {h0 : Int64} {K : Int64 → Prop} (hK : K (hs3 N f h0 6)) : ∀ (n k : Nat), k + n = 6 → wb_L_told_102 (V 8) (V 11) (V 12) (V 13) (nI f) K (n + 1) (hs3 N f h0 k) (nI k) := by
  intro n
  induction n with
  | zero =>
    intro k hk
    obtain rfl : k = 6 := by omega
    rw [wb_L_told_102]
    exact ifP ((nz_le (by omega) (by omega)).mpr (by omega)) hK
  | succ n ih =>
    intro k hk
    rw [wb_L_told_102]
    refine ifN (nz_leN (by omega) (by omega) (by omega)) (fun h1 e1 => t_log (w := 0) hb hI hS hf (by omega) (by omega) (fun h2 e2 h3 e3 => t_log (w := 1) hb hI hS hf (by omega) (by omega) (fun h4 e4 h5 e5 => t_log (w := 2) hb hI hS hf (by omega) (by omega) (fun h6 e6 x3 e7 => ?_))))
    subst e1 e2 e3 e4 e5 e6 e7
    rw [nI_add]
    exact ih (k + 1) (by omega)
theorem told_33 {b : Nat} {V : SV} {N : Nat → Nat} (hb : b < 1000000) (hI : Inv b N) (hS : RS V N) {h0 : Int64} {K : Int64 → Prop} (hK : K (hsF N h0 10)) : ∀ (n k : Nat), k + n = 10 → wb_L_told_33 (V 1) (V 2) (V 3) (V 8) (V 11) (V 12) (V 13) K (n + 1) (hsF N h0 k) (nI k) := by
  intro n
  induction n with
  | zero =>
    intro k hk
    obtain rfl : k = 10 := by omega
    rw [wb_L_told_33]
    exact ifP ((nz_le (by omega) (by omega)).mpr (by omega)) hK
  | succ n ih =>
    intro k hk
    rw [wb_L_told_33]
    refine ifN (nz_leN (by omega) (by omega) (by omega)) ⟨5, told_42 hb hI hS (f := k) (by omega) ⟨6, told_72 hI hS (f := k) (by omega) ⟨7, told_102 hb hI hS (f := k) (by omega) (fun x3 e3 => ?_) 6 0 (by omega)⟩ 5 0 (by omega)⟩ 4 0 (by omega)⟩
    subst e3
    rw [nI_add]
    exact ih (k + 1) (by omega)
theorem told_176 {b : Nat} {V : SV} {N : Nat → Nat} (hI : Inv b N) (hS : RS V N) {p : Nat} (hp : p < 16) {h0 : Int64} {K : Int32 → (Nat → Int32) → (Nat → Int32) → (Nat → Int32) → (Nat → Int32) → (Nat → Int32) → Int64 → Prop} (hK : ∀ s1 O1 n1 z1 h1 t1, K s1 O1 n1 z1 h1 t1 (hsh (fun w => (perV N p w).toInt64) h0 6)) : ∀ (n k : Nat), k + n = 6 → ∀ s1 O1 n1 z1 h1 t1, wb_L_told_176 (V 14 0) (V 0) (V 1) (V 2) (V 3) (V 4) (V 14 1) (V 5) (V 6) (V 7) (V 10) (nI p) K (n + 1) s1 O1 n1 z1 h1 t1 (hsh (fun w => (perV N p w).toInt64) h0 k) (nI k) := by
  intro n
  induction n with
  | zero =>
    intro k hk s1 O1 n1 z1 h1 t1
    obtain rfl : k = 6 := by omega
    rw [wb_L_told_176]
    exact ifP ((nz_le (by omega) (by omega)).mpr (by omega)) (hK s1 O1 n1 z1 h1 t1)
  | succ n ih =>
    intro k hk s1 O1 n1 z1 h1 t1
    rw [wb_L_told_176]
    refine ifN (nz_leN (by omega) (by omega) (by omega)) (fun h1 e1 => t_person hI hS hp (by omega) (fun s1 O1 n1 z1 h1 t1 h2 e2 x3 e3 => ?_))
    subst e1 e2 e3
    rw [nI_add]
    exact ih (k + 1) (by omega) s1 O1 n1 z1 h1 t1
theorem told_167 {b : Nat} {V : SV} {N : Nat → Nat} (hI : Inv b N) (hS : RS V N) {h0 : Int64} {K : Int32 → (Nat → Int32) → (Nat → Int32) → (Nat → Int32) → (Nat → Int32) → (Nat → Int32) → Int64 → Prop} (hK : ∀ s1 O1 n1 z1 h1 t1, K s1 O1 n1 z1 h1 t1 (hsP N h0 16)) : ∀ (n k : Nat), k + n = 16 → ∀ s1 O1 n1 z1 h1 t1, wb_L_told_167 (V 14 0) (V 0) (V 1) (V 2) (V 3) (V 4) (V 14 1) (V 5) (V 6) (V 7) (V 10) K (n + 1) s1 O1 n1 z1 h1 t1 (hsP N h0 k) (nI k) := by
  intro n
  induction n with
  | zero =>
    intro k hk s1 O1 n1 z1 h1 t1
    obtain rfl : k = 16 := by omega
    rw [wb_L_told_167]
    exact ifP ((nz_le (by omega) (by omega)).mpr (by omega)) (hK s1 O1 n1 z1 h1 t1)
  | succ n ih =>
    intro k hk s1 O1 n1 z1 h1 t1
    rw [wb_L_told_167]
    refine ifN (nz_leN (by omega) (by omega) (by omega)) ⟨7, told_176 hI hS (p := k) (by omega) (fun s1 O1 n1 z1 h1 t1 x3 e3 => ?_) 6 0 (by omega) s1 O1 n1 z1 h1 t1⟩
    subst e3
    rw [nI_add]
    exact ih (k + 1) (by omega) s1 O1 n1 z1 h1 t1
theorem told_212 {b : Nat} {V : SV} {N : Nat → Nat} (hI : Inv b N) (hS : RS V N) {h0 : Int64} {K : Int64 → Prop} (hK : K (hsh (fun q => (dueV N q).toInt64) h0 4)) : ∀ (n k : Nat), k + n = 4 → wb_L_told_212 (V 1) (V 9) K (n + 1) (hsh (fun q => (dueV N q).toInt64) h0 k) (nI k) := by
  intro n
  induction n with
  | zero =>
    intro k hk
    obtain rfl : k = 4 := by omega
    rw [wb_L_told_212]
    exact ifP ((nz_le (by omega) (by omega)).mpr (by omega)) hK
  | succ n ih =>
    intro k hk
    rw [wb_L_told_212]
    refine ifN (nz_leN (by omega) (by omega) (by omega)) (fun h1 e1 => t_due hI hS (by omega) (fun h2 e2 x3 e3 => ?_))
    subst e1 e2 e3
    rw [nI_add]
    exact ih (k + 1) (by omega)
theorem told_ok {b m : Nat} {V : SV} {N : Nat → Nat} {L : Int32} {s1 : Int32} {O1 n1 z1 h1 t1 : Nat → Int32} (hb : b < 1000000) (hI : Inv b N) (hS : RS V N) {Q : Int64 → Int32 → (Nat → Int32) → (Nat → Int32) → (Nat → Int32) → (Nat → Int32) → (Nat → Int32) → Prop} (h : ∀ s1 O1 n1 z1 h1 t1, Q (toldV N) s1 O1 n1 z1 h1 t1) : wp_L_told (V 14 0) (V 0) (V 1) (V 2) (V 3) (V 4) (V 14 1) (V 5) (V 6) (V 7) (V 14 2) (V 8) (V 9) (V 10) (V 11) (V 12) (V 13) (nI m) L s1 O1 n1 z1 h1 t1 Q := by
  unfold wp_L_told
  intro h0 e0
  subst e0
  exact ⟨13, told_6 hI hS (fun s1 O1 n1 z1 h1 t1 => ⟨11, told_33 hb hI hS ⟨17, told_167 hI hS (fun s1 O1 n1 z1 h1 t1 => ⟨5, told_212 hI hS (h s1 O1 n1 z1 h1 t1) 4 0 (by omega)⟩) 16 0 (by omega) s1 O1 n1 z1 h1 t1⟩ 10 0 (by omega)⟩) 12 0 (by omega) s1 O1 n1 z1 h1 t1⟩
