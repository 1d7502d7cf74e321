-- deps: 55 56

def capB (L : Nat) : Nat := if L ≤ 64 then 64 else if L ≤ 128 then 128 else if L ≤ 256 then 256 else if L ≤ 512 then 512 else if L ≤ 1024 then 1024 else if L ≤ 2048 then 2048 else if L ≤ 4096 then 4096 else 8192
def ccB (L : Nat) : Nat := if L ≤ 64 then 0 else if L ≤ 128 then 1 else if L ≤ 256 then 2 else if L ≤ 512 then 3 else if L ≤ 1024 then 4 else if L ≤ 2048 then 5 else if L ≤ 4096 then 6 else 7
def ssB (L : Nat) : Nat := 2 * capB L - 128
def mB (L : Nat) : Nat := if L ≤ 6000 then L else 6000
def bz (b : Int32) : Nat := if b = 0 then 0 else 1
def wln (k : Nat) : Nat := (sbs.getD k []).length
def dg (x : Int32) : Nat := (if (1000 : Int32) ≤ x then 1 else 0) + (if (100 : Int32) ≤ x then 1 else 0) + (if (10 : Int32) ≤ x then 1 else 0) + 1
theorem capB_le {L : Nat} : capB L ≤ 8192 := by
  unfold capB
  repeat' split
  all_goals omega
theorem capB_64 {L : Nat} : 64 ≤ capB L := by
  unfold capB
  repeat' split
  all_goals omega
theorem mB_le {L : Nat} : mB L ≤ capB L := by
  unfold mB capB
  repeat' split
  all_goals omega
theorem mB_6 {L : Nat} : mB L ≤ 6000 := by
  unfold mB
  split <;> omega
theorem mB_lt {L : Nat} (h : mB L < 6000) : L < 6000 ∧ mB L = L ∧ mB L + 1 = mB (L + 1) := by
  unfold mB at h
  have h1 : L < 6000 := by
    split at h <;> omega
  refine ⟨h1, ?_, ?_⟩
  · unfold mB
    rw [if_pos (by omega)]
  · unfold mB
    rw [if_pos (by omega), if_pos (by omega)]
theorem mB_ge {L : Nat} (h : 6000 ≤ mB L) : mB L = mB (L + 1) ∧ capB L = capB (L + 1) ∧ ccB (L + 1) = ccB L ∧ ssB (L + 1) = ssB L := by
  have h1 : 6000 ≤ L := by
    unfold mB at h
    split at h <;> omega
  refine ⟨?_, ?_, ?_, ?_⟩
  · unfold mB
    repeat' split
    all_goals omega
  · unfold capB
    repeat' split
    all_goals omega
  · unfold ccB
    repeat' split
    all_goals omega
  · unfold ssB capB
    repeat' split
    all_goals omega
theorem aB_lo {L : Nat} (h : L < capB L) (h2 : L < 6000) : capB L = capB (L + 1) ∧ ccB (L + 1) = ccB L ∧ ssB (L + 1) = ssB L := by
  unfold capB at h
  unfold ssB capB ccB
  repeat' split at h
  all_goals (refine ⟨?_, ?_, ?_⟩ <;> (repeat' split) <;> omega)
theorem aB_hi {L : Nat} (h : capB L ≤ L) (h2 : L < 6000) : 2 * capB L = capB (L + 1) ∧ ccB (L + 1) = ccB L + 1 ∧ ssB (L + 1) = ssB L + 2 * capB L := by
  unfold capB at h
  unfold ssB capB ccB
  repeat' split at h
  all_goals (refine ⟨?_, ?_, ?_⟩ <;> (repeat' split) <;> omega)
theorem ccB_mono {a b : Nat} (h : a ≤ b) : ccB a ≤ ccB b := by
  unfold ccB
  repeat' split
  all_goals omega
theorem ssB_mono {a b : Nat} (h : a ≤ b) : ssB a ≤ ssB b := by
  unfold ssB capB
  repeat' split
  all_goals omega
theorem ccB_7 (a : Nat) : ccB a ≤ 7 := by
  unfold ccB
  repeat' split
  all_goals omega
theorem ssB_7 (a : Nat) : ssB a ≤ 16256 := by
  unfold ssB capB
  repeat' split
  all_goals omega
theorem accB_c {a b c d : Nat} (h1 : a ≤ b) (h2 : b ≤ c) (h3 : c ≤ d) : ccB b - ccB a + (ccB c - ccB b) ≤ ccB d - ccB a := by
  have e1 := ccB_mono h1
  have e2 := ccB_mono h2
  have e3 := ccB_mono h3
  omega
theorem accB_s {a b c d : Nat} (h1 : a ≤ b) (h2 : b ≤ c) (h3 : c ≤ d) : ssB b - ssB a + (ssB c - ssB b) ≤ ssB d - ssB a := by
  have e1 := ssB_mono h1
  have e2 := ssB_mono h2
  have e3 := ssB_mono h3
  omega
theorem accB_c2 {a b c : Nat} (h1 : a ≤ b) (h2 : b ≤ c) : ccB b - ccB a + (ccB c - ccB b) ≤ ccB c - ccB a := accB_c h1 h2 (Nat.le_refl _)
theorem accB_s2 {a b c : Nat} (h1 : a ≤ b) (h2 : b ≤ c) : ssB b - ssB a + (ssB c - ssB b) ≤ ssB c - ssB a := accB_s h1 h2 (Nat.le_refl _)
theorem dg_cases (x : Int32) : (dg x = 4 ∧ (1000 : Int32) ≤ x ∧ (100 : Int32) ≤ x ∧ (10 : Int32) ≤ x) ∨ (dg x = 3 ∧ ¬ (1000 : Int32) ≤ x ∧ (100 : Int32) ≤ x ∧ (10 : Int32) ≤ x) ∨ (dg x = 2 ∧ ¬ (1000 : Int32) ≤ x ∧ ¬ (100 : Int32) ≤ x ∧ (10 : Int32) ≤ x) ∨ (dg x = 1 ∧ ¬ (1000 : Int32) ≤ x ∧ ¬ (100 : Int32) ≤ x ∧ ¬ (10 : Int32) ≤ x) := by
  unfold dg
  by_cases h1 : (1000 : Int32) ≤ x
  · have h2 : (100 : Int32) ≤ x := Int32.le_trans (by decide) h1
    have h3 : (10 : Int32) ≤ x := Int32.le_trans (by decide) h1
    exact Or.inl ⟨by rw [if_pos h1, if_pos h2, if_pos h3], h1, h2, h3⟩
  by_cases h2 : (100 : Int32) ≤ x
  · have h3 : (10 : Int32) ≤ x := Int32.le_trans (by decide) h2
    exact Or.inr (Or.inl ⟨by rw [if_neg h1, if_pos h2, if_pos h3], h1, h2, h3⟩)
  by_cases h3 : (10 : Int32) ≤ x
  · exact Or.inr (Or.inr (Or.inl ⟨by rw [if_neg h1, if_neg h2, if_pos h3], h1, h2, h3⟩))
  · exact Or.inr (Or.inr (Or.inr ⟨by rw [if_neg h1, if_neg h2, if_neg h3], h1, h2, h3⟩))
theorem rmB_c {a b d : Nat} (h : b ≤ d) : ccB b - ccB a + 0 ≤ ccB d - ccB a := by
  rw [Nat.add_zero]
  exact Nat.sub_le_sub_right (ccB_mono h) _
theorem rmB_s {a b d : Nat} (h : b ≤ d) : ssB b - ssB a + 0 ≤ ssB d - ssB a := by
  rw [Nat.add_zero]
  exact Nat.sub_le_sub_right (ssB_mono h) _
theorem bz_0 {b : Int32} (h : b = 0) : bz b = 0 := if_pos h
theorem bz_1 {b : Int32} (h : ¬ b = 0) : bz b = 1 := if_neg h
def ior (f : Nat → Int32) (sz : Nat) (i : Int32) : Int32 := if eat f sz i = 18 then 1 else 0
def ijn (f : Nat → Int32) (sz : Nat) (i : Int32) : Int32 := if eat f sz i = 17 ∨ ior f sz i ≠ 0 then 1 else 0
theorem ior_1 {f : Nat → Int32} {sz : Nat} {i : Int32} (h : ¬ ior f sz i = 0) : ior f sz i = 1 := by
  unfold ior at h ⊢
  split at h
  · rename_i h1
    rw [if_pos h1]
  · exact absurd rfl h
/-- leftOf: the end of the left operand, by steps -/
def lfr (f : Nat → Int32) (sz : Nat) : Nat → Int32 → Int32 → Int32
  | 0, _, i => i
  | n + 1, ms, i => if i < 0 ∨ ms ≤ 0 then i else lfr f sz n (if icd (eat f sz i) = 0 then (if eat f sz i = 16 then ms else ms + 1) else ms + -1) (i + -1)
def lfo (f : Nat → Int32) (sz : Nat) (op : Int32) : Int32 := lfr f sz ((op - 1).toNatClampNeg + 1) 1 (op - 1)
theorem lfr_out {f : Nat → Int32} {sz n : Nat} {ms i : Int32} (h : i < 0 ∨ ms ≤ 0) : lfr f sz n ms i = i := by
  cases n with
  | zero => rfl
  | succ n => show (if i < 0 ∨ ms ≤ 0 then i else _) = i; rw [if_pos h]
theorem lfr_in {f : Nat → Int32} {sz n : Nat} {ms i : Int32} (h : ¬ i < 0) (h2 : ¬ ms ≤ 0) (hn : i.toInt < n) : ∃ n1, n = n1 + 1 ∧ (i + -1).toInt < n1 ∧ lfr f sz n ms i = lfr f sz n1 (if icd (eat f sz i) = 0 then (if eat f sz i = 16 then ms else ms + 1) else ms + -1) (i + -1) := by
  have e0 : (0 : Int32).toInt = 0 := by decide
  rw [pk_ti] at h
  cases n with
  | zero => omega
  | succ n1 =>
    refine ⟨n1, rfl, ?_, ?_⟩
    · have e1 : (-1 : Int32).toInt = -1 := by decide
      have h3 := Int32.toInt_lt i
      have h4 : (i + -1).toInt = i.toInt - 1 := by
        rw [Int32.toInt_add, e1]
        apply Int.bmod_eq_of_le <;> omega
      omega
    · show (if i < 0 ∨ ms ≤ 0 then i else _) = _
      rw [if_neg (fun h9 => h9.elim (fun h8 => h ((pk_ti).mp h8)) h2)]
theorem lf_st (i : Int32) : i.toInt < ((i.toNatClampNeg + 1 : Nat) : Int) := by
  have h : i.toNatClampNeg = i.toInt.toNat := rfl
  omega
