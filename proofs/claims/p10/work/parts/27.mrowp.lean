
def acs (ac0 ac1 : Nat → Int32) (B a : Nat) : Prop := (∀ j, (j < B ∨ B + a ≤ j) → ac1 j = ac0 j) ∧ ∀ j, j < a → ∃ x, ac1 (B + j) = nI x ∧ x ≤ 31
theorem acs_0 {ac0 : Nat → Int32} {B : Nat} : acs ac0 ac0 B 0 := ⟨fun _ _ => rfl, fun j hj => absurd hj (Nat.not_lt_zero _)⟩
theorem acs_add {ac0 ac1 : Nat → Int32} {B a x : Nat} (h : acs ac0 ac1 B a) (hx : x ≤ 31) : acs ac0 (upd ac1 (B + a) (nI x)) B (a + 1) := by
  refine ⟨fun j hj => ?_, fun j hj => ?_⟩
  · rw [pk_un (by omega)]
    exact h.1 j (by omega)
  · by_cases e : j = a
    · subst e
      exact ⟨x, pk_us, hx⟩
    · rw [pk_un (by omega)]
      exact h.2 j (by omega)
theorem acs_out {ac0 ac1 : Nat → Int32} {B a : Nat} (h : acs ac0 ac1 B a) (ha : a ≤ 8) : ∀ j, (j < B ∨ B + 8 ≤ j) → ac1 j = ac0 j := fun j hj => h.1 j (by omega)
theorem up_out {f : Nat → Int32} {R : Nat} {x : Int32} : ∀ j, j ≠ R → upd f R x j = f j := fun _ h => pk_un h
theorem up_up {f : Nat → Int32} {R : Nat} {x y : Int32} : upd (upd f R x) R y = upd f R y := by
  funext j
  by_cases h : j = R
  · subst h
    rw [pk_us, pk_us]
  · rw [pk_un h, pk_un h, pk_un h]
theorem pk_a1 {a : Nat} (h : ¬ nI a = 0) : 1 ≤ a := by
  rcases Nat.eq_zero_or_pos a with rfl | h1
  · exact absurd nI_0 h
  · exact h1
/-- a row that was read: its tree at lo .. , its acts, its number; no more than wt words -/
def rowok (tp cn ac nu W F S : Nat → Int32) (R lo hi wt : Nat) : Prop := ∃ n a, tp R = nI n ∧ lo ≤ n ∧ n + 1 = hi ∧ tr W F S (n + 1 - lo) 42 lo n ∧ cn R = nI a ∧ 1 ≤ a ∧ a ≤ 8 ∧ (∀ j, j < a → ∃ x, ac (8 * R + j) = nI x ∧ x ≤ 31) ∧ (∃ m, nu R = nI m ∧ m ≤ 3600) ∧ (n + 1 - lo) + a + 3 ≤ wt
def ro_Q (wd base R nx nd mk : Nat) (W F S tp cn ac nu : Nat → Int32) (r : Int32) (nx2 nd2 mk2 : Nat) (W2 F2 S2 tp2 cn2 ac2 nu2 : Nat → Int32) : Prop :=
  (nx < nx2 ∧ nx2 ≤ wd ∧ nd ≤ nd2 ∧ nd2 + nx ≤ nd + nx2) ∧ sm W F S W2 F2 S2 base nd ∧ (∀ j, j ≠ R → tp2 j = tp j) ∧ (∀ j, j ≠ R → cn2 j = cn j) ∧ (∀ j, (j < 8 * R ∨ 8 * R + 8 ≤ j) → ac2 j = ac j) ∧ (∀ j, j ≠ R → nu2 j = nu j) ∧ ((r = 0 ∧ mk2 = mk) ∨ (r = 1 ∧ mk2 = mk + 1 ∧ rowok tp2 cn2 ac2 nu2 W2 F2 S2 R (base + nd) (base + nd2) (nx2 - nx)))
section RoQ
variable {wd base R nx nd mk nx2 nd2 : Nat} {W F S tp cn ac nu W2 F2 S2 tp2 cn2 ac2 nu2 : Nat → Int32}
theorem ro_fail (h : nx < nx2 ∧ nx2 ≤ wd ∧ nd ≤ nd2 ∧ nd2 + nx ≤ nd + nx2) (hs : sm W F S W2 F2 S2 base nd) (h1 : ∀ j, j ≠ R → tp2 j = tp j) (h2 : ∀ j, j ≠ R → cn2 j = cn j) (h3 : ∀ j, (j < 8 * R ∨ 8 * R + 8 ≤ j) → ac2 j = ac j) (h4 : ∀ j, j ≠ R → nu2 j = nu j) : ro_Q wd base R nx nd mk W F S tp cn ac nu 0 nx2 nd2 mk W2 F2 S2 tp2 cn2 ac2 nu2 := ⟨h, hs, h1, h2, h3, h4, Or.inl ⟨rfl, rfl⟩⟩
theorem ro_ok {r : Int32} {n1 n3 o2 s2 a : Nat} (h : nx < nx2 ∧ nx2 ≤ wd ∧ nd ≤ nd2 ∧ nd2 + nx ≤ nd + nx2) (hwo : pa_Q (2 * 20 + 2) wd base n1 nd 0 W F S r n3 o2 s2 nd2 W2 F2 S2) (hr : 0 ≤ r) (_ : nd ≤ nx) (h1 : ∀ j, j ≠ R → tp2 j = tp j) (h2 : ∀ j, j ≠ R → cn2 j = cn j) (h3 : ∀ j, (j < 8 * R ∨ 8 * R + 8 ≤ j) → ac2 j = ac j) (h4 : ∀ j, j ≠ R → nu2 j = nu j)
    (e1 : tp2 R = r) (e2 : cn2 R = nI a) (ha1 : 1 ≤ a) (ha8 : a ≤ 8) (hac : ∀ j, j < a → ∃ x, ac2 (8 * R + j) = nI x ∧ x ≤ 31) (hnu : ∃ m, nu2 R = nI m ∧ m ≤ 3600) (hwt : nd2 - nd + a + 3 ≤ nx2 - nx) : ro_Q wd base R nx nd mk W F S tp cn ac nu 1 nx2 nd2 (mk + 1) W2 F2 S2 tp2 cn2 ac2 nu2 := by
  rcases hwo.2.2.2.2.2.2.2 with rfl | ⟨n, p1, p2, p3, p4, p5⟩
  · exact absurd hr (by decide)
  refine ⟨h, hwo.2.2.2.2.2.2.1, h1, h2, h3, h4, Or.inr ⟨rfl, rfl, n, a, e1.trans p1, by omega, by omega, ?_, e2, ha1, ha8, hac, hnu, by omega⟩⟩
  rw [show n + 1 - (base + nd) = nd2 - nd by omega]
  exact p5
end RoQ
