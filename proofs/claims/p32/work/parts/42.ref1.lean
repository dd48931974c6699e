/-! the reference's small methods -/
/-- the plan's rows of the reference against a plan -/
def RP7 (sv tk ct hp : Nat → Int32) (P : PS) : Prop := (∀ p, p < 16 → sv p = if P.1 p = 0 then -5 else nI (P.1 p - 1)) ∧ (∀ f, f < 10 → ct f = nI (P.2.2.1 f)) ∧ (∀ f, f < 10 → hp f = nI (P.2.2.2 f)) ∧ ∀ f, f < 10 → ∀ r, r < P.2.2.1 f → tk (3 * f + r) = nI (P.2.1 (3 * f + r))
/-- what every plan keeps -/
def PI (N : Nat → Nat) (P : PS) : Prop := (∀ p, P.1 p ≤ 10) ∧ (∀ f, f < 10 → P.2.2.1 f ≤ nd N f) ∧ (∀ f, f < 10 → P.2.2.2 f ≤ P.2.2.1 f) ∧ (∀ f, f < 10 → ∀ r, r < P.2.2.1 f → P.2.1 (3 * f + r) < 16 ∧ P.1 (P.2.1 (3 * f + r)) = f + 1) ∧ (∀ p, p < 16 → 0 < P.1 p → ∃ r, r < P.2.2.1 (P.1 p - 1) ∧ P.2.1 (3 * (P.1 p - 1) + r) = p) ∧ (∀ f r r2, f < 10 → r < P.2.2.1 f → r2 < P.2.2.1 f → P.2.1 (3 * f + r) = P.2.1 (3 * f + r2) → r = r2)
