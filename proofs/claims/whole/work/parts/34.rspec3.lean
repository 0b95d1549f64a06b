/-! the reference: more words -/
theorem b2n_t {p : Prop} [Decidable p] (h : p) : b2n (decide p) = 1 := by simp [b2n, h]
theorem b2n_f {p : Prop} [Decidable p] (h : ¬ p) : b2n (decide p) = 0 := by simp [b2n, h]
theorem w1F_t {r : Nat → Nat} {k : Nat} (h : r (k / 12 * 12 + (k + 1) % 12) + 2 < r k) : w1F r k = r k - 1 := by
  show r k - b2n (decide (r (k / 12 * 12 + (k + 1) % 12) + 2 < r k)) = _; rw [b2n_t h]
theorem w1F_f {r : Nat → Nat} {k : Nat} (h : ¬ r (k / 12 * 12 + (k + 1) % 12) + 2 < r k) : w1F r k = r k - 0 := by
  show r k - b2n (decide (r (k / 12 * 12 + (k + 1) % 12) + 2 < r k)) = _; rw [b2n_f h]
def pegR (M : gMem) (k lag : Nat) : Nat := pop (misd (rot (M 1 (94 + k)) lag) (rot (M 1 (99 + k)) lag) (setN (fun i => decide (M 1 104 ≤ M 1 (1 + 12 * M 1 (79 + k) + i))) 12))
theorem rsm_ge {row : Nat → Nat} {way a k : Nat} : rsm row way a (k + 1) = row a + rsm row way (bhd way a) k := rfl
def imR (M : gMem) : gMem := rowO M 1 124 124 (M 1)
def reR (M : gMem) : gMem := rowO M 1 0 124 (fun i => M 1 (124 + i))
