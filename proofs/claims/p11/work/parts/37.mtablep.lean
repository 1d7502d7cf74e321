
theorem pk_sw6 (x : Int32) : (x.toInt < 0 ∨ 5 < x.toInt) ∨ ∃ t : Nat, t < 6 ∧ x = nI t := by
  by_cases h : x.toInt < 0 ∨ 5 < x.toInt
  · exact Or.inl h
  · obtain ⟨j, hj, rfl⟩ := nI_of (x := x) (by rw [pk_ti, show (0 : Int32).toInt = 0 by decide]; omega)
    rw [nI_toInt hj] at h
    exact Or.inr ⟨j, by omega, rfl⟩
theorem cc_ne {c : Nat} (h : c < 16) : ¬ nI c = 16 := fun h2 => by
  have h3 := (nI_eq (a := c) (b := 16) (by omega) (by decide)).mp h2
  omega
theorem cc_lt {c : Nat} (h : c < 16) : ¬ (16 : Int32) ≤ nI c := nI_ge (a := c) (b := 16) h (by decide)
