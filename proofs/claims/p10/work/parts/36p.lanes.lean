def bt (x : Int32) (i : Nat) : Bool := x.toBitVec.getLsbD i
theorem b_ext {x y : Int32} (h : ∀ i, i < 32 → bt x i = bt y i) : x = y := Int32.toBitVec_inj.mp (BitVec.eq_of_getLsbD_eq (fun i hi => h i hi))
theorem b_or (x y : Int32) (i : Nat) : bt (x ||| y) i = (bt x i || bt y i) := by unfold bt; rw [Int32.toBitVec_or, BitVec.getLsbD_or]
theorem b_and (x y : Int32) (i : Nat) : bt (x &&& y) i = (bt x i && bt y i) := by unfold bt; rw [Int32.toBitVec_and, BitVec.getLsbD_and]
theorem b_xor (x y : Int32) (i : Nat) : bt (x ^^^ y) i = (bt x i ^^ bt y i) := by unfold bt; rw [Int32.toBitVec_xor, BitVec.getLsbD_xor]
theorem b_big {x : Int32} {i : Nat} (h : 32 ≤ i) : bt x i = false := BitVec.getLsbD_of_ge _ _ h
theorem b_255 (i : Nat) : bt 255 i = decide (i < 8) := by
  rcases Nat.lt_or_ge i 32 with h | h
  · exact (by decide +kernel : ∀ i, i < 32 → bt 255 i = decide (i < 8)) i h
  · rw [b_big h, decide_eq_false (by omega)]
theorem b_65535 (i : Nat) : bt 65535 i = decide (i < 16) := by
  rcases Nat.lt_or_ge i 32 with h | h
  · exact (by decide +kernel : ∀ i, i < 32 → bt 65535 i = decide (i < 16)) i h
  · rw [b_big h, decide_eq_false (by omega)]
theorem b_m1 : ∀ i, i < 32 → bt (-1) i = true := by decide +kernel
theorem b_0 (i : Nat) : bt 0 i = false := BitVec.getLsbD_zero
theorem s_l : ∀ n, n < 32 → ((nI n &&& 31).toBitVec.smod 32).toNat = n := by decide +kernel
theorem s_u : ∀ n, n < 32 → (((nI n).toUInt32 &&& Int32.toUInt32 31).toBitVec % 32).toNat = n := by decide +kernel
theorem b_shl (n : Nat) (hn : n < 32) (x : Int32) {i : Nat} (hi : i < 32) : bt (x <<< (nI n &&& 31)) i = (decide (n ≤ i) && bt x (i - n)) := by
  unfold bt
  rw [Int32.toBitVec_shiftLeft]
  show (x.toBitVec <<< ((nI n &&& 31).toBitVec.smod 32).toNat).getLsbD i = _
  rw [s_l n hn, BitVec.getLsbD_shiftLeft]
  rcases Nat.lt_or_ge i n with h | h
  · simp [h, Nat.not_le.mpr h]
  · simp [hi, h, Nat.not_lt.mpr h]
theorem b_ushr (n : Nat) (hn : n < 32) (x : Int32) (i : Nat) : bt ((x.toUInt32 >>> ((nI n).toUInt32 &&& Int32.toUInt32 31)).toInt32) i = bt x (n + i) := by
  show (x.toUInt32 >>> ((nI n).toUInt32 &&& Int32.toUInt32 31)).toBitVec.getLsbD i = x.toUInt32.toBitVec.getLsbD (n + i)
  rw [UInt32.toBitVec_shiftRight]
  show (x.toUInt32.toBitVec >>> (((nI n).toUInt32 &&& Int32.toUInt32 31).toBitVec % 32).toNat).getLsbD i = _
  rw [s_u n hn, BitVec.getLsbD_ushiftRight]
theorem b_sshr (n : Nat) (hn : n < 32) (x : Int32) {i : Nat} (hi : i < 32) : bt (x >>> (nI n &&& 31)) i = if n + i < 32 then bt x (n + i) else bt x 31 := by
  unfold bt
  rw [Int32.toBitVec_shiftRight]
  show (x.toBitVec.sshiftRight ((nI n &&& 31).toBitVec.smod 32).toNat).getLsbD i = _
  rw [s_l n hn, BitVec.getLsbD_sshiftRight, BitVec.msb_eq_getLsbD_last]
  simp [hi]

theorem bt1 : ∀ i, i < 32 → bt 1 i = decide (i = 0) := by decide +kernel
theorem b_one {x : Int32} {j : Nat} (hj : j < 32) : (x >>> (nI j &&& 31)) &&& 1 = 1 ↔ bt x j = true := by
  have e0 : bt (x >>> (nI j &&& 31)) 0 = bt x j := by
    rw [b_sshr j hj x (by omega), if_pos (by omega), Nat.add_zero]
  constructor
  · intro h
    have h1 : bt ((x >>> (nI j &&& 31)) &&& 1) 0 = bt 1 0 := by rw [h]
    rw [b_and, e0, bt1 0 (by omega)] at h1
    simpa using h1
  · intro h
    apply b_ext
    intro i hi
    rw [b_and, bt1 i hi]
    by_cases e : i = 0
    · subst e
      rw [e0, h]
      rfl
    · rw [decide_eq_false e, Bool.and_false]
/-- what the tree at n is worth in lanes -/
def fp_tv (W F S : Nat → Int32) (σ : Nat → Int64) : Nat → Nat → Int64
  | 0, _ => 0
  | d + 1, n => if W n = 16 then fp_tv W F S σ d (F n).toNatClampNeg ^^^ (-1) else if W n = 17 then fp_tv W F S σ d (F n).toNatClampNeg &&& fp_tv W F S σ d (S n).toNatClampNeg else if W n = 18 then fp_tv W F S σ d (F n).toNatClampNeg ||| fp_tv W F S σ d (S n).toNatClampNeg else σ (W n).toNatClampNeg

def lb (x : Int64) (l : Nat) : Bool := x.toBitVec.getLsbD l
theorem lb_and (x y : Int64) (l : Nat) : lb (x &&& y) l = (lb x l && lb y l) := by unfold lb; rw [Int64.toBitVec_and, BitVec.getLsbD_and]
theorem lb_or (x y : Int64) (l : Nat) : lb (x ||| y) l = (lb x l || lb y l) := by unfold lb; rw [Int64.toBitVec_or, BitVec.getLsbD_or]
theorem lb_xor (x y : Int64) (l : Nat) : lb (x ^^^ y) l = (lb x l ^^ lb y l) := by unfold lb; rw [Int64.toBitVec_xor, BitVec.getLsbD_xor]
theorem lb_m1 : ∀ l, l < 64 → lb (-1) l = true := by decide +kernel
theorem lb_0 (l : Nat) : lb 0 l = false := BitVec.getLsbD_zero
theorem lb_not {x : Int64} {l : Nat} (hl : l < 64) : lb (x ^^^ (-1)) l = !(lb x l) := by
  rw [lb_xor, lb_m1 l hl]
  cases lb x l <;> rfl
theorem lb_ne {x : Int64} : ¬ x = 0 ↔ ∃ l, l < 64 ∧ lb x l = true := by
  constructor
  · intro h
    apply Classical.byContradiction
    intro hn
    apply h
    apply Int64.toBitVec_inj.mp
    apply BitVec.eq_of_getLsbD_eq
    intro i hi
    show lb x i = lb 0 i
    rw [lb_0]
    cases hb : lb x i with
    | false => rfl
    | true => exact absurd ⟨i, hi, hb⟩ hn
  · intro ⟨l, _, hb⟩ e
    rw [e, lb_0] at hb
    cases hb
/-- the tree at n, with the conditions s -/
def tb (W F S : Nat → Int32) (s : Nat → Bool) : Nat → Nat → Bool
  | 0, _ => false
  | d + 1, n => if W n = 16 then !(tb W F S s d (F n).toNatClampNeg) else if W n = 17 then (tb W F S s d (F n).toNatClampNeg && tb W F S s d (S n).toNatClampNeg) else if W n = 18 then (tb W F S s d (F n).toNatClampNeg || tb W F S s d (S n).toNatClampNeg) else s (W n).toNatClampNeg
theorem tv_lb {W F S : Nat → Int32} {σ : Nat → Int64} {l : Nat} (hl : l < 64) : ∀ d n, lb (fp_tv W F S σ d n) l = tb W F S (fun c => lb (σ c) l) d n := by
  intro d
  induction d with
  | zero => intro n; exact lb_0 l
  | succ d ih =>
    intro n
    rw [fp_tv, tb]
    by_cases h1 : W n = 16
    · rw [if_pos h1, if_pos h1, lb_not hl, ih]
    · rw [if_neg h1, if_neg h1]
      by_cases h2 : W n = 17
      · rw [if_pos h2, if_pos h2, lb_and, ih, ih]
      · rw [if_neg h2, if_neg h2]
        by_cases h3 : W n = 18
        · rw [if_pos h3, if_pos h3, lb_or, ih, ih]
        · rw [if_neg h3, if_neg h3]
theorem tb_congr {W F S : Nat → Int32} {s s' : Nat → Bool} : ∀ (d rd lo n : Nat), n < 2 ^ 31 → tr W F S d rd lo n → (∀ m a, lo ≤ m → m ≤ n → W m = nI a → a < 16 → s a = s' a) → tb W F S s d n = tb W F S s' d n := by
  intro d
  induction d with
  | zero => intro rd lo n _ h; exact h.elim
  | succ d ih =>
    intro rd lo n hn h hs
    rw [tb, tb]
    rcases h with ⟨h1, a, ha, hW⟩ | ⟨hW, hlo, hF, hT⟩ | ⟨hW, hrd, k, hk1, hk2, hF, hS, hT1, hT2⟩
    · have q16 : ¬ nI a = 16 := fun q => by have := (nI_eq (a := a) (b := 16) (by omega) (by decide)).mp q; omega
      have q17 : ¬ nI a = 17 := fun q => by have := (nI_eq (a := a) (b := 17) (by omega) (by decide)).mp q; omega
      have q18 : ¬ nI a = 18 := fun q => by have := (nI_eq (a := a) (b := 18) (by omega) (by decide)).mp q; omega
      rw [hW, if_neg q16, if_neg q17, if_neg q18, if_neg q16, if_neg q17, if_neg q18, nI_clamp (by omega)]
      exact hs n a (by omega) (Nat.le_refl _) hW ha
    · rw [if_pos hW, if_pos hW, hF, nI_clamp (by omega), ih rd lo (n - 1) (by omega) hT (fun m a p q => hs m a p (by omega))]
    · have e1 := ih rd lo k (by omega) hT1 (fun m a p q => hs m a p (by omega))
      have e2 := ih (rd - 1) (k + 1) (n - 1) (by omega) hT2 (fun m a p q => hs m a (by omega) (by omega))
      rcases hW with q | q
      · rw [if_neg (by rw [q]; decide), if_pos q, if_neg (by rw [q]; decide), if_pos q, hF, hS, nI_clamp (by omega), nI_clamp (by omega), e1, e2]
      · rw [if_neg (by rw [q]; decide), if_neg (by rw [q]; decide), if_pos q, if_neg (by rw [q]; decide), if_neg (by rw [q]; decide), if_pos q, hF, hS, nI_clamp (by omega), nI_clamp (by omega), e1, e2]
/-- the number with the bits s -/
def nb (s : Nat → Bool) : Nat → Nat
  | 0 => 0
  | k + 1 => (if s k = true then 2 ^ k else 0) + nb s k
theorem nb_lt {s : Nat → Bool} : ∀ k, nb s k < 2 ^ k := by
  intro k
  induction k with
  | zero => exact Nat.zero_lt_one
  | succ k ih =>
    rw [nb, Nat.pow_succ]
    split <;> omega
theorem nb_bit {s : Nat → Bool} : ∀ k i, i < k → (nb s k).testBit i = s i := by
  intro k
  induction k with
  | zero => intro i h; exact absurd h (Nat.not_lt_zero _)
  | succ k ih =>
    intro i hi
    rw [nb]
    by_cases e : i = k
    · subst e
      by_cases hs : s i = true
      · rw [if_pos hs, Nat.testBit_two_pow_add_eq, Nat.testBit_lt_two_pow (nb_lt i), hs]
        rfl
      · rw [if_neg hs, Nat.zero_add, Nat.testBit_lt_two_pow (nb_lt i)]
        cases hb : s i with
        | false => rfl
        | true => exact absurd hb hs
    · by_cases hs : s k = true
      · rw [if_pos hs, Nat.testBit_two_pow_add_gt (by omega)]
        exact ih i (by omega)
      · rw [if_neg hs, Nat.zero_add]
        exact ih i (by omega)
theorem bt_nI {w j : Nat} (hj : j < 32) : bt (nI w) j = w.testBit j := by
  show (BitVec.ofNat 32 w).getLsbD j = w.testBit j
  rw [BitVec.getLsbD_ofNat]
  simp [hj]
theorem lb_pat : ∀ c, c < 6 → ∀ l, l < 64 → lb (pat c) l = Nat.testBit l c := by decide +kernel
theorem lb_if {P : Bool} {l : Nat} (hl : l < 64) : lb (if P = true then (-1 : Int64) else 0) l = P := by
  cases P with
  | false => exact lb_0 l
  | true => exact lb_m1 l hl
/-- the reference's settings in word w -/
def bsg (w c : Nat) : Int64 := if c < 6 then pat c else if nI w >>> (nI (c - 6) &&& 31) &&& 1 = 1 then -1 else 0
theorem bsg_lb {w c l : Nat} (hl : l < 64) (hc : c < 16) : lb (bsg w c) l = if c < 6 then Nat.testBit l c else Nat.testBit w (c - 6) := by
  unfold bsg
  by_cases h : c < 6
  · rw [if_pos h, if_pos h]
    exact lb_pat c h l hl
  · rw [if_neg h, if_neg h]
    by_cases h2 : nI w >>> (nI (c - 6) &&& 31) &&& 1 = 1
    · have h3 := (b_one (j := c - 6) (by omega)).mp h2
      rw [bt_nI (by omega)] at h3
      rw [if_pos h2, h3]
      exact lb_m1 l hl
    · have h3 : ¬ Nat.testBit w (c - 6) = true := fun q => h2 ((b_one (j := c - 6) (by omega)).mpr (by rw [bt_nI (by omega)]; exact q))
      rw [if_neg h2, lb_0]
      cases hb : Nat.testBit w (c - 6) with
      | false => rfl
      | true => exact absurd hb h3
/-- every setting is a lane of a word -/
theorem bsg_all (s : Nat → Bool) : ∃ w l, w < 1024 ∧ l < 64 ∧ ∀ c, c < 16 → lb (bsg w c) l = s c := by
  refine ⟨nb (fun i => s (i + 6)) 10, nb s 6, nb_lt 10, nb_lt 6, fun c hc => ?_⟩
  rw [bsg_lb (nb_lt 6) hc]
  by_cases h : c < 6
  · rw [if_pos h, nb_bit 6 c h]
  · rw [if_neg h, nb_bit 10 (c - 6) (by omega), show c - 6 + 6 = c by omega]
/-- what the rows before q that have the act a cover -/
def cvr (hs : Nat → Nat → Bool) (v : Nat → Int64) : Nat → Nat → Int64
  | 0, _ => 0
  | q + 1, a => if hs q a = true then cvr hs v q a ||| v q else cvr hs v q a
theorem cvr_lb {hs : Nat → Nat → Bool} {v : Nat → Int64} {a l : Nat} : ∀ r, lb (cvr hs v r a) l = true ↔ ∃ q, q < r ∧ hs q a = true ∧ lb (v q) l = true := by
  intro r
  induction r with
  | zero =>
    rw [cvr, lb_0]
    exact ⟨fun h => (by cases h), fun ⟨q, h, _⟩ => absurd h (Nat.not_lt_zero _)⟩
  | succ r ih =>
    rw [cvr]
    by_cases h : hs r a = true
    · rw [if_pos h, lb_or, Bool.or_eq_true, ih]
      constructor
      · intro h2
        rcases h2 with ⟨q, q1, q2, q3⟩ | h2
        · exact ⟨q, by omega, q2, q3⟩
        · exact ⟨r, by omega, h, h2⟩
      · intro ⟨q, q1, q2, q3⟩
        by_cases e : q = r
        · subst e
          exact Or.inr q3
        · exact Or.inl ⟨q, by omega, q2, q3⟩
    · rw [if_neg h, ih]
      constructor
      · intro ⟨q, q1, q2, q3⟩
        exact ⟨q, by omega, q2, q3⟩
      · intro ⟨q, q1, q2, q3⟩
        by_cases e : q = r
        · subst e
          exact absurd q2 h
        · exact ⟨q, by omega, q2, q3⟩
/-- row r is the first to bar an act in some lane -/
def Fr (hs : Nat → Nat → Bool) (v : Nat → Int64) (r : Nat) : Prop := ∃ a, a < 32 ∧ hs r a = true ∧ ¬ (v r &&& (cvr hs v r a ^^^ (-1))) = 0
/-- row r is the first to bar an act with some setting -/
def Ev (hs : Nat → Nat → Bool) (on : Nat → (Nat → Bool) → Bool) (r : Nat) : Prop := ∃ (s : Nat → Bool) (a : Nat), a < 32 ∧ hs r a = true ∧ on r s = true ∧ ∀ q, q < r → hs q a = true → on q s = false
theorem Fr_iff {hs : Nat → Nat → Bool} {v : Nat → Int64} {on : Nat → (Nat → Bool) → Bool} {sg : Nat → Nat → Bool} {r : Nat} (hv : ∀ q, q ≤ r → ∀ l, l < 64 → lb (v q) l = on q (sg l)) : Fr hs v r ↔ ∃ l, l < 64 ∧ ∃ a, a < 32 ∧ hs r a = true ∧ on r (sg l) = true ∧ ∀ q, q < r → hs q a = true → on q (sg l) = false := by
  constructor
  · intro ⟨a, h1, h2, h3⟩
    obtain ⟨l, hl, hb⟩ := lb_ne.mp h3
    rw [lb_and, lb_not hl, Bool.and_eq_true] at hb
    refine ⟨l, hl, a, h1, h2, by rw [← hv r (Nat.le_refl _) l hl]; exact hb.1, fun q hq hh => ?_⟩
    rw [← hv q (by omega) l hl]
    cases hb2 : lb (v q) l with
    | false => rfl
    | true =>
      have h4 := (cvr_lb (v := v) (a := a) (l := l) r).mpr ⟨q, hq, hh, hb2⟩
      rw [h4] at hb
      exact absurd hb.2 (by decide)
  · intro ⟨l, hl, a, h1, h2, h3, h4⟩
    refine ⟨a, h1, h2, lb_ne.mpr ⟨l, hl, ?_⟩⟩
    rw [lb_and, lb_not hl, Bool.and_eq_true]
    refine ⟨by rw [hv r (Nat.le_refl _) l hl]; exact h3, ?_⟩
    cases hb : lb (cvr hs v r a) l with
    | false => rfl
    | true =>
      obtain ⟨q, q1, q2, q3⟩ := (cvr_lb r).mp hb
      have h5 := h4 q q1 q2
      rw [← hv q (by omega) l hl, q3] at h5
      cases h5
