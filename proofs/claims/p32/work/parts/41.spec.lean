/-! the state, as the reference lays it in one row of numbers: what stands where -/
def nd (N : Nat → Nat) (f : Nat) : Nat := if f < 10 then N (8 + 31 * f) else 0
def mn (N : Nat → Nat) (f : Nat) : Nat := if f < 10 then N (9 + 31 * f) else 0
def rw_ (N : Nat → Nat) (f k : Nat) : Nat := if f < 10 ∧ k < 5 then N (10 + 31 * f + k) else 0
theorem nd_at {N : Nat → Nat} {f : Nat} (h : f < 10) : nd N f = N (8 + 31 * f) := if_pos h
theorem mn_at {N : Nat → Nat} {f : Nat} (h : f < 10) : mn N f = N (9 + 31 * f) := if_pos h
theorem rw_at {N : Nat → Nat} {f k : Nat} (h : f < 10) (hk : k < 5) : rw_ N f k = N (10 + 31 * f + k) := if_pos ⟨h, hk⟩
/-- a person is on leave on a day -/
def lvP (N : Nat → Nat) (p day k : Nat) : Bool := decide (N (350 + 3 * k) = p ∧ N (351 + 3 * k) ≤ day ∧ day ≤ N (352 + 3 * k))
def lvOn (N : Nat → Nat) (p day : Nat) : Nat := fnd (lvP N p day) (N 6) 0
def away (N : Nat → Nat) (p day : Nat) : Bool := decide (lvOn N p day < N 6)
def able (N : Nat → Nat) (day p : Nat) : Bool := decide (day ≤ N (318 + 2 * p)) && !away N p day
/-- how many floors choose ahead of a floor, by the shortest row -/
def ahead (N : Nat → Nat) (f : Nat) : Nat := sm (fun e => if mn N e < mn N f ∨ (mn N e = mn N f ∧ e < f) then 1 else 0) 10
/-- the floor that chooses at a turn -/
def ord (N : Nat → Nat) (t : Nat) : Nat := if N 0 = 0 then t else if N 0 = 1 then 9 - t else fnd (fun f => ahead N f == t) 10 0
/-- a plan: who serves where (floor + 1, or 0), whom a floor took, how many, how many help -/
abbrev PS : Type := (Nat → Nat) × (Nat → Nat) × (Nat → Nat) × (Nat → Nat)
def p0 : PS := (fun _ => 0, fun _ => 0, fun _ => 0, fun _ => 0)
def ptake (P : PS) (f p : Nat) : PS := (un P.1 p (f + 1), un P.2.1 (3 * f + P.2.2.1 f) p, un P.2.2.1 f (P.2.2.1 f + 1), P.2.2.2)
def pcan (need : Nat → Nat) (ab : Nat → Bool) (P : PS) (f p : Nat) : Bool := decide (P.2.2.1 f < need f) && (ab p && decide (P.1 p = 0))
def ptry (need : Nat → Nat) (ab : Nat → Bool) (P : PS) (f p : Nat) : PS := if pcan need ab P f p = true then ptake P f p else P
def phlp (P : PS) (f : Nat) : PS := (P.1, P.2.1, P.2.2.1, un P.2.2.2 f (P.2.2.2 f + 1))
def ptryH (need : Nat → Nat) (ab : Nat → Bool) (P : PS) (f p : Nat) : PS := if pcan need ab P f p = true then phlp (ptake P f p) f else P
def prow (N : Nat → Nat) (ab : Nat → Bool) (f : Nat) : Nat → PS → PS
  | 0, P => P
  | k + 1, P => ptry (nd N) ab (prow N ab f k P) f (rw_ N f k)
def phelp (N : Nat → Nat) (ab : Nat → Bool) (f : Nat) : Nat → PS → PS
  | 0, P => P
  | k + 1, P => ptryH (nd N) ab (phelp N ab f k P) f k
def prows (N : Nat → Nat) (ab : Nat → Bool) : Nat → PS → PS
  | 0, P => P
  | t + 1, P => prow N ab (ord N t) (mn N (ord N t)) (prows N ab t P)
def phelps (N : Nat → Nat) (ab : Nat → Bool) : Nat → PS → PS
  | 0, P => P
  | t + 1, P => phelp N ab (ord N t) 16 (phelps N ab t P)
def plan (N : Nat → Nat) (ab : Nat → Bool) : PS := if N 1 = 1 then phelps N ab 10 (prows N ab 10 p0) else prows N ab 10 p0
/-- by how many a floor is short -/
def lack (N : Nat → Nat) (P : PS) (f : Nat) : Nat := nd N f - P.2.2.1 f
/-- what planning needs of the numbers -/
def PInv (N : Nat → Nat) : Prop := N 0 ≤ 2 ∧ (∀ f, f < 10 → N (8 + 31 * f) ≤ 3 ∧ N (9 + 31 * f) ≤ 5 ∧ ∀ k, k < N (9 + 31 * f) → N (10 + 31 * f + k) < 16) ∧ (∀ p, p < 16 → N (318 + 2 * p) ≤ 399) ∧ N 6 ≤ 41 ∧ N 1 ≤ 1 ∧ ∀ k, k < N 6 → N (350 + 3 * k) < 16 ∧ N (351 + 3 * k) ≤ 399 ∧ N (352 + 3 * k) ≤ 399

