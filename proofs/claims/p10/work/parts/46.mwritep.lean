
theorem capA_0 (cap : Nat) : capA 0 cap = cap := if_pos (Nat.zero_le _)
/-- the bytes of j acts -/
def alen (ac : Nat → Int32) (B : Nat) : Nat → Nat
  | 0 => 0
  | j + 1 => alen ac B j + (2 + dgt (ac (B + j)).toNatClampNeg)
theorem alen_s {ac : Nat → Int32} {B j x : Nat} (h : ac (B + j) = nI x) (hx : x < 2 ^ 31) : alen ac B (j + 1) = alen ac B j + (2 + dgt x) := by
  rw [alen, h, nI_clamp hx]
theorem alen_mono {ac : Nat → Int32} {B : Nat} : ∀ {a b : Nat}, a ≤ b → alen ac B a ≤ alen ac B b := by
  intro a b h
  induction b with
  | zero => rw [Nat.le_zero.mp h]; exact Nat.le_refl _
  | succ b ih =>
    rcases Nat.lt_or_ge a (b + 1) with h1 | h1
    · exact Nat.le_trans (ih (by omega)) (Nat.le_add_right _ _)
    · rw [show a = b + 1 by omega]
      exact Nat.le_refl _
def numl (x : Int32) : Nat := if x ≤ 0 then 0 else 5 + dgt x.toNatClampNeg
def latl (x : Int32) : Nat := if x = 0 then 0 else 8
theorem numl_0 {x : Int32} (h : x ≤ 0) : numl x = 0 := if_pos h
theorem numl_1 {m : Nat} (h : ¬ nI m ≤ 0) (hm : m < 2 ^ 31) : numl (nI m) = 5 + dgt m := by
  unfold numl
  rw [if_neg h, nI_clamp hm]
theorem latl_0 {x : Int32} (h : x = 0) : latl x = 0 := if_pos h
theorem latl_1 {x : Int32} (h : ¬ x = 0) : latl x = 8 := if_neg h
/-- the bytes of the first k rows -/
def tlen (W F S tp cn ac nu la : Nat → Int32) (h : Nat) : Nat → Nat
  | 0 => 0
  | k + 1 => tlen W F S tp cn ac nu la h k + (3 + alen ac (8 * (40 * h + k)) (cn (40 * h + k)).toNatClampNeg + 6 + ol W F S 512 (tp (40 * h + k)).toNatClampNeg 0 + numl (nu (40 * h + k)) + latl (la (40 * h + k)) + 2)
section Tl
variable {W F S tp cn ac nu la : Nat → Int32} {h : Nat}
theorem tlen_s {k n a m : Nat} (h1 : tp (40 * h + k) = nI n) (h2 : cn (40 * h + k) = nI a) (h3 : nu (40 * h + k) = nI m) (hn : n < 2 ^ 31) (ha : a < 2 ^ 31) : tlen W F S tp cn ac nu la h (k + 1) = tlen W F S tp cn ac nu la h k + (3 + alen ac (8 * (40 * h + k)) a + 6 + ol W F S 512 n 0 + numl (nI m) + latl (la (40 * h + k)) + 2) := by
  rw [tlen, h1, h2, h3, nI_clamp hn, nI_clamp ha]
theorem tlen_mono : ∀ {a b : Nat}, a ≤ b → tlen W F S tp cn ac nu la h a ≤ tlen W F S tp cn ac nu la h b := by
  intro a b h
  induction b with
  | zero => rw [Nat.le_zero.mp h]; exact Nat.le_refl _
  | succ b ih =>
    rcases Nat.lt_or_ge a (b + 1) with h1 | h1
    · exact Nat.le_trans (ih (by omega)) (Nat.le_add_right _ _)
    · rw [show a = b + 1 by omega]
      exact Nat.le_refl _
end Tl
theorem rws_row2 {tp cn ac nu W F S : Nat → Int32} {h r k : Nat} (hs : rws tp cn ac nu W F S h r) (hk : k < r) (hh : h ≤ 1) : ∃ n lo a m, n < 6000 ∧ tp (40 * h + k) = nI n ∧ tr W F S 512 42 lo n ∧ cn (40 * h + k) = nI a ∧ 1 ≤ a ∧ a ≤ 8 ∧ (∀ j, j < a → ∃ x, ac (8 * (40 * h + k) + j) = nI x ∧ x ≤ 31) ∧ nu (40 * h + k) = nI m ∧ m ≤ 3600 := by
  obtain ⟨lo, hi, q, g1, g2, g3⟩ := hs
  obtain ⟨k1, k2, k3, n, a, p1, p2, p3, p4, p5, p6, p7, p8, ⟨m, p9, p9'⟩, p10⟩ := g3 k hk
  exact ⟨n, lo k, a, m, by omega, p1, tr_mono _ _ _ _ _ _ (by omega) (Nat.le_refl _) p4, p5, p6, p7, p8, p9, p9'⟩
theorem alen_le {ac : Nat → Int32} {B : Nat} : ∀ {a : Nat}, (∀ j, j < a → ∃ x, ac (B + j) = nI x ∧ x ≤ 31) → alen ac B a ≤ 4 * a := by
  intro a
  induction a with
  | zero => intro _; exact Nat.le_refl _
  | succ a ih =>
    intro h
    obtain ⟨x, h1, h2⟩ := h a (by omega)
    rw [alen_s h1 (by omega)]
    have h3 := ih (fun j hj => h j (by omega))
    have h4 : dgt x ≤ 2 := by
      unfold dgt
      repeat' split
      all_goals omega
    omega
theorem tlen_le {tp cn ac nu W F S la : Nat → Int32} {h r : Nat} (hs : rws tp cn ac nu W F S h r) (hh : h ≤ 1) : tlen W F S tp cn ac nu la h r ≤ 4096 := by
  obtain ⟨lo, hi, q, g1, g2, g3⟩ := hs
  have key : ∀ k, k ≤ r → tlen W F S tp cn ac nu la h k ≤ 8 * q k := by
    intro k
    induction k with
    | zero => intro _; exact Nat.zero_le _
    | succ k ih =>
      intro hk
      obtain ⟨k1, k2, k3, n, a, p1, p2, p3, p4, p5, p6, p7, p8, ⟨m, p9, p9'⟩, p10⟩ := g3 k (by omega)
      rw [tlen_s p1 p5 p9 (by omega) (by omega)]
      have e1 := ih (by omega)
      have e2 := alen_le p8
      have e3 := ol_le 512 42 (lo k) n 0 (by omega) p2 (tr_mono _ _ _ _ _ _ (by omega) (Nat.le_refl _) p4)
      have e4 : numl (nI m) ≤ 9 := by
        unfold numl
        split
        · omega
        · have := (dgt_pos (nI m).toNatClampNeg).2
          omega
      have e5 : latl (la (40 * h + k)) ≤ 8 := by
        unfold latl
        split <;> omega
      omega
  have := key r (Nat.le_refl _)
  omega
