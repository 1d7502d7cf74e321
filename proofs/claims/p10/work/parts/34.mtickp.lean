
theorem rws_row {tp cn ac nu W F S : Nat → Int32} {h r k : Nat} (hs : rws tp cn ac nu W F S h r) (hk : k < r) (hh : h ≤ 1) : ∃ n lo a, n < 6000 ∧ tp (40 * h + k) = nI n ∧ tr W F S 512 42 lo n ∧ cn (40 * h + k) = nI a ∧ 1 ≤ a ∧ a ≤ 8 := by
  obtain ⟨lo, hi, q, g1, g2, g3⟩ := hs
  obtain ⟨k1, k2, k3, n, a, p1, p2, p3, p4, p5, p6, p7, p8, p9, p10⟩ := g3 k hk
  exact ⟨n, lo k, a, by omega, p1, tr_mono _ _ _ _ _ _ (by omega) (Nat.le_refl _) p4, p5, p6, p7⟩
theorem fp_nx {P : Nat → Prop} {k : Nat} (h : ∀ j, j < k → ¬ P j) (hn : ¬ P k) : ∀ j, j < k + 1 → ¬ P j := by
  intro j hj
  by_cases e : j = k
  · rw [e]
    exact hn
  · exact h j (by omega)
theorem row_ix {i : Int32} {rw : Nat} (h : ¬ (if i < 1 ∨ nI rw < i then (0 : Int32) else 1) = 0) (hrw : rw ≤ 40) : ∃ j, i = nI (j + 1) ∧ j < rw := by
  have h1 : ¬ (i < 1 ∨ nI rw < i) := fun hc => h (if_pos hc)
  have h2 : ¬ i < 1 := fun hc => h1 (Or.inl hc)
  have h3 : ¬ nI rw < i := fun hc => h1 (Or.inr hc)
  rw [pk_ti] at h2 h3
  have e1 : (1 : Int32).toInt = 1 := by decide
  rw [nI_toInt (by omega)] at h3
  obtain ⟨j, hj, rfl⟩ := nI_of (x := i) (by rw [pk_ti, show (0 : Int32).toInt = 0 by decide]; omega)
  rw [nI_toInt hj] at h2 h3
  exact ⟨j - 1, by rw [show j - 1 + 1 = j by omega], by omega⟩
theorem pk_sw8 (x : Int32) : (x.toInt < 0 ∨ 7 < x.toInt) ∨ ∃ t : Nat, t < 8 ∧ x = nI t := by
  by_cases h : x.toInt < 0 ∨ 7 < x.toInt
  · exact Or.inl h
  · obtain ⟨j, hj, rfl⟩ := nI_of (x := x) (by rw [pk_ti, show (0 : Int32).toInt = 0 by decide]; omega)
    rw [nI_toInt hj] at h
    exact Or.inr ⟨j, by omega, rfl⟩
