/-! small steps -/
theorem upd_f {N : Nat → Nat} {k v : Nat} : upd (fun j => nI (N j)) k (nI v) = fun j => nI (un N k v j) := by
  funext j
  unfold upd un
  split <;> rfl
theorem upd_sN {N : Nat → Nat} {k v : Nat} : upd (sN N) k (nI v) = sN (un N k v) := upd_f
theorem nz_one0 : (1 : Nat) = 0 ↔ False := by decide
theorem nz10 : ¬ nI 1 = 0 := by decide
theorem ifP {P A B : Prop} (c : P) (h : A) : (P → A) ∧ (¬ P → B) := ⟨fun _ => h, fun n => absurd c n⟩
theorem ifN {P A B : Prop} (c : ¬ P) (h : B) : (P → A) ∧ (¬ P → B) := ⟨fun n => absurd n c, fun _ => h⟩
theorem ifP' {P A B : Prop} (c : P) (h : A) : (¬ P → B) ∧ (P → A) := ⟨fun n => absurd c n, fun _ => h⟩
theorem ifN' {P A B : Prop} (c : ¬ P) (h : B) : (¬ P → B) ∧ (P → A) := ⟨fun _ => h, fun n => absurd n c⟩
/-- 0 or 1 -/
def b01 (b : Bool) : Nat := if b = true then 1 else 0
theorem nb0 : (narrow .boolean (.int (nI 0)) = .int (nI 0)) := by decide
theorem nb1 : (narrow .boolean (.int (nI 1)) = .int (nI 1)) := by decide
/-! the history's rows of the reference -/
def recM (m : Nat) : Nat := if m = 4 then 3 else m
def recS (HN : Nat → Nat) (m : Nat) : Nat → Nat := if m = 4 then (fun j => if j < 1422 then HN (j + 474) else HN j) else HN
/-- the states kept, one more behind -/
def recH (N HN : Nat → Nat) (m : Nat) : Nat → Nat := fun j => if 474 * recM m ≤ j ∧ j < 474 * recM m + 474 then N (j - 474 * recM m) else recS HN m j
/-! leaves -/
def ovl (N : Nat → Nat) (p a b k : Nat) : Bool := decide (N (350 + 3 * k) = p ∧ N (351 + 3 * k) ≤ b ∧ a ≤ N (352 + 3 * k))
def ovOn (N : Nat → Nat) (p a b : Nat) : Nat := fnd (ovl N p a b) (N 6) 0
/-- one leave more -/
def grN (N : Nat → Nat) (p a b : Nat) : Nat → Nat := un (un (un (un N (350 + 3 * N 6) p) (350 + 3 * N 6 + 1) a) (350 + 3 * N 6 + 2) b) 6 (N 6 + 1)
def dr1 (N : Nat → Nat) (k x : Nat) : Nat → Nat := fun j => if j = 6 then N 6 - 1 else if 350 + 3 * k ≤ j ∧ j < 350 + x then N (j + 3) else N j
/-- the leave k less -/
def drN (N : Nat → Nat) (k : Nat) : Nat → Nat := fun j => if 350 + 3 * (N 6 - 1) ≤ j ∧ j < 350 + 3 * N 6 then 0 else dr1 N k (3 * (N 6 - 1)) j
/-! rows of floors -/
def enN (N : Nat → Nat) (f p : Nat) : Nat → Nat := un (un N (10 + 31 * f + N (9 + 31 * f)) p) (9 + 31 * f) (N (9 + 31 * f) + 1)
def st1 (N : Nat → Nat) (f a x : Nat) : Nat → Nat := fun j => if j = 9 + 31 * f then N (9 + 31 * f) - 1 else if 10 + 31 * f + a ≤ j ∧ j < 10 + 31 * f + x then N (j + 1) else N j
def stN (N : Nat → Nat) (f k : Nat) : Nat → Nat := un (st1 N f k (N (9 + 31 * f) - 1)) (10 + 31 * f + (N (9 + 31 * f) - 1)) 0
