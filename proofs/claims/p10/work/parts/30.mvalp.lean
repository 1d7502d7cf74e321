
/-- what the tree at n is worth with the conditions x (fuel d) -/
def vl (W F S : Nat → Int32) (x : Int32) : Nat → Nat → Int32
  | 0, _ => 0
  | d + 1, n => if W n = 16 then (if vl W F S x d (F n).toNatClampNeg = 0 then 1 else 0) else if W n = 17 then (if vl W F S x d (F n).toNatClampNeg = 0 then 0 else if vl W F S x d (S n).toNatClampNeg = 0 then 0 else 1) else if W n = 18 then (if vl W F S x d (F n).toNatClampNeg = 0 then (if vl W F S x d (S n).toNatClampNeg = 0 then 0 else 1) else 1) else if (x >>> (W n &&& 31)) &&& 1 = 1 then 1 else 0
/-- what row j of half h is worth -/
def ron (W F S tp : Nat → Int32) (x : Int32) (h j : Nat) : Int32 := vl W F S x 512 (tp (40 * h + j)).toNatClampNeg
theorem ron_eq {W F S tp : Nat → Int32} {x : Int32} {h j n : Nat} (ht : tp (40 * h + j) = nI n) (hn : n < 6000) : vl W F S x 512 n = ron W F S tp x h j := by
  unfold ron
  rw [ht, nI_clamp (by omega)]
theorem vl_not {W F S : Nat → Int32} {x : Int32} {d n k : Nat} (h : W n = 16) (hF : F n = nI k) (hk : k < 2 ^ 31) : vl W F S x (d + 1) n = if vl W F S x d k = 0 then 1 else 0 := by
  rw [vl, if_pos h, hF, nI_clamp hk]
theorem vl_and {W F S : Nat → Int32} {x : Int32} {d n k j : Nat} (h : W n = 17) (hF : F n = nI k) (hS : S n = nI j) (hk : k < 2 ^ 31) (hj : j < 2 ^ 31) : vl W F S x (d + 1) n = if vl W F S x d k = 0 then 0 else if vl W F S x d j = 0 then 0 else 1 := by
  rw [vl, if_neg (by rw [h]; decide), if_pos h, hF, hS, nI_clamp hk, nI_clamp hj]
theorem vl_or {W F S : Nat → Int32} {x : Int32} {d n k j : Nat} (h : W n = 18) (hF : F n = nI k) (hS : S n = nI j) (hk : k < 2 ^ 31) (hj : j < 2 ^ 31) : vl W F S x (d + 1) n = if vl W F S x d k = 0 then (if vl W F S x d j = 0 then 0 else 1) else 1 := by
  rw [vl, if_neg (by rw [h]; decide), if_neg (by rw [h]; decide), if_pos h, hF, hS, nI_clamp hk, nI_clamp hj]
theorem vl_leaf {W F S : Nat → Int32} {x : Int32} {d n c : Nat} (h : W n = nI c) (hc : c < 16) : vl W F S x (d + 1) n = if (x >>> (nI c &&& 31)) &&& 1 = 1 then 1 else 0 := by
  have hne : ∀ m, 16 ≤ m → m < 100 → ¬ nI c = nI m := fun m h1 h2 h3 => by
    have := (nI_eq (by omega) (by omega)).mp h3
    omega
  have h16 : ¬ nI c = 16 := hne 16 (by omega) (by omega)
  have h17 : ¬ nI c = 17 := hne 17 (by omega) (by omega)
  have h18 : ¬ nI c = 18 := hne 18 (by omega) (by omega)
  rw [vl, h, if_neg h16, if_neg h17, if_neg h18]
theorem vl_01 (W F S : Nat → Int32) (x : Int32) : ∀ d n, vl W F S x d n = 0 ∨ vl W F S x d n = 1 := by
  intro d n
  cases d with
  | zero => exact Or.inl rfl
  | succ d =>
    rw [vl]
    repeat' split
    all_goals first | exact Or.inl rfl | exact Or.inr rfl
theorem vl_nar (W F S : Nat → Int32) (x : Int32) (d n : Nat) : narrow .boolean (.int (vl W F S x d n)) = .int (vl W F S x d n) := by
  rcases vl_01 W F S x d n with h | h <;> rw [h] <;> rfl
