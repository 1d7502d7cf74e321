
theorem dgt_pos (x : Nat) : 1 ≤ dgt x ∧ dgt x ≤ 4 := by
  unfold dgt
  repeat' split
  all_goals omega
theorem cc_ne18 {c : Nat} (h : c < 16) : ¬ nI c = 18 := fun h2 => by
  have h3 := (nI_eq (a := c) (b := 18) (by omega) (by decide)).mp h2
  omega
theorem cc_ne17 {c : Nat} (h : c < 16) : ¬ nI c = 17 := fun h2 => by
  have h3 := (nI_eq (a := c) (b := 17) (by omega) (by decide)).mp h2
  omega
/-- how many bytes the tree at n is, within another one (fuel d) -/
def ol (W F S : Nat → Int32) : Nat → Nat → Nat → Nat
  | 0, _, _ => 0
  | d + 1, n, wi => if W n = 16 then 4 + ol W F S d (F n).toNatClampNeg 1 else if W n = 17 then (if wi = 1 then 2 else 0) + (ol W F S d (F n).toNatClampNeg 2 + 5 + ol W F S d (S n).toNatClampNeg 2) else if W n = 18 then (if 0 < wi then 2 else 0) + (ol W F S d (F n).toNatClampNeg 0 + 4 + ol W F S d (S n).toNatClampNeg 0) else 1 + dgt (W n).toNatClampNeg
section Ol
variable {W F S : Nat → Int32} {d n k j c wi : Nat}
theorem ol_leaf (h : W n = nI c) (hc : c < 16) : ol W F S (d + 1) n wi = 1 + dgt c := by
  rw [ol, h, if_neg (cc_ne hc), if_neg (cc_ne17 hc), if_neg (cc_ne18 hc), nI_clamp (by omega)]
theorem ol_not (h : W n = 16) (hF : F n = nI k) (hk : k < 2 ^ 31) : ol W F S (d + 1) n wi = 4 + ol W F S d k 1 := by
  rw [ol, if_pos h, hF, nI_clamp hk]
theorem ol_and1 (h : W n = 17) (hF : F n = nI k) (hS : S n = nI j) (hk : k < 2 ^ 31) (hj : j < 2 ^ 31) (hw : wi = 1) : ol W F S (d + 1) n wi = 2 + (ol W F S d k 2 + 5 + ol W F S d j 2) := by
  rw [ol, if_neg (by rw [h]; decide), if_pos h, hF, hS, nI_clamp hk, nI_clamp hj, if_pos hw]
theorem ol_and0 (h : W n = 17) (hF : F n = nI k) (hS : S n = nI j) (hk : k < 2 ^ 31) (hj : j < 2 ^ 31) (hw : ¬ wi = 1) : ol W F S (d + 1) n wi = 0 + (ol W F S d k 2 + 5 + ol W F S d j 2) := by
  rw [ol, if_neg (by rw [h]; decide), if_pos h, hF, hS, nI_clamp hk, nI_clamp hj, if_neg hw]
theorem ol_or1 (h : W n = 18) (hF : F n = nI k) (hS : S n = nI j) (hk : k < 2 ^ 31) (hj : j < 2 ^ 31) (hw : 0 < wi) : ol W F S (d + 1) n wi = 2 + (ol W F S d k 0 + 4 + ol W F S d j 0) := by
  rw [ol, if_neg (by rw [h]; decide), if_neg (by rw [h]; decide), if_pos h, hF, hS, nI_clamp hk, nI_clamp hj, if_pos hw]
theorem ol_or0 (h : W n = 18) (hF : F n = nI k) (hS : S n = nI j) (hk : k < 2 ^ 31) (hj : j < 2 ^ 31) (hw : wi = 0) : ol W F S (d + 1) n wi = 0 + (ol W F S d k 0 + 4 + ol W F S d j 0) := by
  rw [ol, if_neg (by rw [h]; decide), if_neg (by rw [h]; decide), if_pos h, hF, hS, nI_clamp hk, nI_clamp hj, if_neg (by omega)]
end Ol
theorem ol_le {W F S : Nat → Int32} : ∀ (d rd lo n wi : Nat), n < 2 ^ 30 → lo ≤ n → tr W F S d rd lo n → ol W F S d n wi ≤ 8 * (n + 1 - lo) := by
  intro d
  induction d with
  | zero => intro rd lo n wi _ _ h; exact h.elim
  | succ d ih =>
    intro rd lo n wi hn hle h
    rcases h with ⟨hlo, c, hc, hW⟩ | ⟨hW, hlo, hF, hT⟩ | ⟨hW, hrd, k, hk1, hk2, hF, hS, hT1, hT2⟩
    · rw [ol_leaf hW hc]
      have h2 : dgt c ≤ 2 := by unfold dgt; repeat' split
                                all_goals omega
      omega
    · rw [ol_not hW hF (by omega)]
      have h1 := ih rd lo (n - 1) 1 (by omega) (by omega) hT
      omega
    · have a0 := fun w => ih rd lo k w (by omega) hk1 hT1
      have b0 := fun w => ih (rd - 1) (k + 1) (n - 1) w (by omega) (by omega) hT2
      rcases hW with hW | hW
      · have a1 := a0 2
        have b1 := b0 2
        by_cases hw : wi = 1
        · rw [ol_and1 hW hF hS (by omega) (by omega) hw]
          omega
        · rw [ol_and0 hW hF hS (by omega) (by omega) hw]
          omega
      · have a1 := a0 0
        have b1 := b0 0
        by_cases hw : 0 < wi
        · rw [ol_or1 hW hF hS (by omega) (by omega) hw]
          omega
        · rw [ol_or0 hW hF hS (by omega) (by omega) (by omega)]
          omega
