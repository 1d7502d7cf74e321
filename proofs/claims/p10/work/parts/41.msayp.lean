
/-- the room behind L bytes, of cap at first: doubled whenever it is full -/
def capA (L cap : Nat) : Nat := if L ≤ cap then cap else if L ≤ 2 * cap then 2 * cap else if L ≤ 4 * cap then 4 * cap else if L ≤ 8 * cap then 8 * cap else 16 * cap
def ccA (L cap : Nat) : Nat := if L ≤ cap then 0 else if L ≤ 2 * cap then 1 else if L ≤ 4 * cap then 2 else if L ≤ 8 * cap then 3 else 4
def ssA (L cap : Nat) : Nat := if L ≤ cap then 0 else if L ≤ 2 * cap then 2 * cap else if L ≤ 4 * cap then 6 * cap else if L ≤ 8 * cap then 14 * cap else 30 * cap
theorem capA_ge {L cap : Nat} (h : L ≤ 16 * cap) : L ≤ capA L cap := by
  unfold capA
  repeat' split
  all_goals omega
theorem capA_cap {L cap : Nat} : cap ≤ capA L cap := by
  unfold capA
  repeat' split
  all_goals omega
theorem capA_le {L cap : Nat} : capA L cap ≤ 16 * cap := by
  unfold capA
  repeat' split
  all_goals omega
theorem say_lo {L cap : Nat} (h : L < capA L cap) (h2 : L + 1 ≤ 16 * cap) : capA (L + 1) cap = capA L cap ∧ ccA (L + 1) cap = ccA L cap ∧ ssA (L + 1) cap = ssA L cap := by
  unfold capA at h
  unfold capA ccA ssA
  repeat' split at h
  all_goals (refine ⟨?_, ?_, ?_⟩ <;> (repeat' split) <;> omega)
theorem say_hi {L cap : Nat} (h : L = capA L cap) (h1 : 1 ≤ cap) (h2 : L + 1 ≤ 16 * cap) : capA (L + 1) cap = 2 * L ∧ ccA (L + 1) cap = ccA L cap + 1 ∧ ssA (L + 1) cap = ssA L cap + 2 * L := by
  unfold capA at h
  unfold capA ccA ssA
  repeat' split at h
  all_goals (refine ⟨?_, ?_, ?_⟩ <;> (repeat' split) <;> omega)
theorem ccA_mono {a b cap : Nat} (h : a ≤ b) : ccA a cap ≤ ccA b cap := by
  unfold ccA
  repeat' split
  all_goals omega
theorem ssA_mono {a b cap : Nat} (h : a ≤ b) : ssA a cap ≤ ssA b cap := by
  unfold ssA
  repeat' split
  all_goals omega
theorem acc_c {a b c d cap : Nat} (h1 : a ≤ b) (h2 : b ≤ c) (h3 : c ≤ d) : ccA b cap - ccA a cap + (ccA c cap - ccA b cap) ≤ ccA d cap - ccA a cap := by
  have e1 := ccA_mono (cap := cap) h1
  have e2 := ccA_mono (cap := cap) h2
  have e3 := ccA_mono (cap := cap) h3
  omega
theorem acc_s {a b c d cap : Nat} (h1 : a ≤ b) (h2 : b ≤ c) (h3 : c ≤ d) : ssA b cap - ssA a cap + (ssA c cap - ssA b cap) ≤ ssA d cap - ssA a cap := by
  have e1 := ssA_mono (cap := cap) h1
  have e2 := ssA_mono (cap := cap) h2
  have e3 := ssA_mono (cap := cap) h3
  omega
theorem acc_c2 {a b c cap : Nat} (h1 : a ≤ b) (h2 : b ≤ c) : ccA b cap - ccA a cap + (ccA c cap - ccA b cap) ≤ ccA c cap - ccA a cap := acc_c h1 h2 (Nat.le_refl _)
theorem acc_s2 {a b c cap : Nat} (h1 : a ≤ b) (h2 : b ≤ c) : ssA b cap - ssA a cap + (ssA c cap - ssA b cap) ≤ ssA c cap - ssA a cap := acc_s h1 h2 (Nat.le_refl _)
def b8 : Nat → Int64 → Prop
  | 0, x => x = 0
  | k + 1, x => x ≠ 0 ∧ b8 k ((x.toUInt64 >>> ((8 : Int32).toInt64.toUInt64 &&& Int64.toUInt64 63)).toInt64)
theorem lgc0 (y : Int64) : lg_cmp y 0 = 0 ↔ y = 0 := by
  unfold lg_cmp
  constructor
  · intro h
    repeat' split at h
    all_goals first | assumption | (exact absurd h (by decide))
  · intro h
    subst h
    decide
theorem b8_end {k : Nat} {y : Int64} (h : b8 k y) (h2 : lg_cmp y 0 = 0) : k = 0 := by
  have h3 := (lgc0 y).mp h2
  cases k with
  | zero => rfl
  | succ k => exact absurd h3 h.1
theorem b8_step {k : Nat} {y : Int64} (h : b8 k y) (h2 : ¬ lg_cmp y 0 = 0) : 0 < k ∧ b8 (k - 1) ((y.toUInt64 >>> ((8 : Int32).toInt64.toUInt64 &&& Int64.toUInt64 63)).toInt64) := by
  cases k with
  | zero => exact absurd ((lgc0 y).mpr h) h2
  | succ k => exact ⟨by omega, h.2⟩
def dgt (x : Nat) : Nat := if x < 10 then 1 else if x < 100 then 2 else if x < 1000 then 3 else 4
theorem dgt_cases (x : Nat) (_ : x ≤ 3600) : (dgt x = 1 ∧ x < 10) ∨ (dgt x = 2 ∧ 10 ≤ x ∧ x < 100) ∨ (dgt x = 3 ∧ 100 ≤ x ∧ x < 1000) ∨ (dgt x = 4 ∧ 1000 ≤ x) := by
  unfold dgt
  repeat' split
  all_goals omega
theorem fit_b (z : Int32) : fits .byte (.int (vp_nar .byte z.toInt8.toInt32)) = true := by
  rw [pk_vb]
  exact pk_fb z
