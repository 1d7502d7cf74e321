
/-- condition: what it answers, and the state behind it -/
def md_C (x k on r x2 : Int32) : Prop := ((k < 0 ∨ 15 < k) ∧ r = 0 ∧ x2 = x) ∨ (¬ k < 0 ∧ ¬ 15 < k ∧ ((x >>> (k &&& 31) &&& 1 = 1 ∧ on = 1) ∨ (¬ x >>> (k &&& 31) &&& 1 = 1 ∧ on = 0)) ∧ r = 0 ∧ x2 = x) ∨ (¬ k < 0 ∧ ¬ 15 < k ∧ ((x >>> (k &&& 31) &&& 1 = 1 ∧ ¬ on = 1) ∨ (¬ x >>> (k &&& 31) &&& 1 = 1 ∧ ¬ on = 0)) ∧ r = 1 ∧ x2 = x ^^^ ((1 : Int32) <<< (k &&& 31)))
theorem z01_nar {r : Int32} (h : r = 0 ∨ r = 1) : narrow .boolean (.int r) = .int r := by
  rcases h with h | h <;> rw [h] <;> rfl
