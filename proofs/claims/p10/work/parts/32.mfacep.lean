
/-- condition: what it answers, and the state behind it -/
def md_C (x k on r x2 : Int32) : Prop := ((k < 0 ∨ 15 < k) ∧ r = 0 ∧ x2 = x) ∨ (¬ k < 0 ∧ ¬ 15 < k ∧ ((x >>> (k &&& 31) &&& 1 = 1 ∧ on = 1) ∨ (¬ x >>> (k &&& 31) &&& 1 = 1 ∧ on = 0)) ∧ r = 0 ∧ x2 = x) ∨ (¬ k < 0 ∧ ¬ 15 < k ∧ ((x >>> (k &&& 31) &&& 1 = 1 ∧ ¬ on = 1) ∨ (¬ x >>> (k &&& 31) &&& 1 = 1 ∧ ¬ on = 0)) ∧ r = 1 ∧ x2 = x ^^^ ((1 : Int32) <<< (k &&& 31)))
theorem ra_no {hb w : Int32} {f : Nat → Int32} {j B : Nat} {P : Prop} (h : (hb = 1 ∧ P) ∨ (hb = 0 ∧ ∀ t, t < j → ¬ f (B + t) = w)) (h0 : hb = 0) (hn : ¬ f (B + j) = w) : ∀ t, t < j + 1 → ¬ f (B + t) = w := by
  intro t ht
  rcases h with ⟨h1, _⟩ | ⟨_, h2⟩
  · rw [h0] at h1
    exact absurd h1 (by decide)
  · by_cases e : t = j
    · rw [e]
      exact hn
    · exact h2 t (by omega)
theorem ra_yes {hb : Int32} {P Q : Prop} (h : (hb = 1 ∧ P) ∨ (hb = 0 ∧ Q)) (h0 : ¬ hb = 0) : P := by
  rcases h with ⟨_, h2⟩ | ⟨h1, _⟩
  · exact h2
  · exact absurd h1 h0
theorem z01_nar {r : Int32} (h : r = 0 ∨ r = 1) : narrow .boolean (.int r) = .int r := by
  rcases h with h | h <;> rw [h] <;> rfl
