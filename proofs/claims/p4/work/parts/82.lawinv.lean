-- deps: 77 78

def LT1 (j lt nt : Nat) (ft : Nat → Int32) : Prop := lt ≤ nt ∧ 1 ≤ nt ∧ nt ≤ 1024 ∧ sb_Fit ft ∧ lt ≤ j
def LT2 (e : Nat → Nat) (sz0 n1 ea na : Nat) (fl : Nat → Option Nat) (rs : List rwT) (ln : Nat) (w : Option (Nat × Nat × Nat × Nat × (Nat → Int32))) : Prop := sz0 ≤ n1 ∧ n1 < 65536 ∧ lsok e ea na fl rs ∧ na ≤ 60 ∧ rs.length = ln ∧ wok w
def LT3 (ma : Nat → Nat → Int32) (hh rw : Nat) : Prop := hh ≤ 1 ∧ rw ≤ 40 ∧ rws (ma 6) (ma 7) (ma 8) (ma 9) (ma 3) (ma 4) (ma 5) hh rw
def crd : Option (Nat × Nat × Nat × Nat × (Nat → Int32)) → Nat
  | none => 8192
  | some _ => 0
theorem crd_le (w : Option (Nat × Nat × Nat × Nat × (Nat → Int32))) : crd w ≤ 8192 := by cases w <;> simp [crd]
theorem wcc_le (w : Option (Nat × Nat × Nat × Nat × (Nat → Int32))) : wcc w ≤ 10 := by cases w <;> simp [wcc]
theorem wss_le (w : Option (Nat × Nat × Nat × Nat × (Nat → Int32))) : wss w ≤ crd w + 8134 := by cases w <;> simp [wss, crd]
theorem crd_some {w : Option (Nat × Nat × Nat × Nat × (Nat → Int32))} (h : w.isSome = true) : crd w = 0 := by
  cases w with
  | none => cases h
  | some _ => rfl
theorem LT1_0 : LT1 0 0 64 (fun _ => 0) := ⟨by decide, by decide, by decide, sb_fit0, Nat.le_refl _⟩
theorem LT2_0 {e : Nat → Nat} : LT2 e 0 0 (e 0) 0 (fun _ => none) [] 0 none := ⟨Nat.le_refl _, by decide, ls_none, by decide, rfl, trivial⟩
theorem LT3_c {ma : Nat → Nat → Int32} {hh : Nat} (h : hh ≤ 1) : LT3 ma hh 0 := ⟨h, by decide, fun _ => 0, fun _ => 0, fun _ => 0, rfl, by decide, fun k hk => absurd hk (Nat.not_lt_zero _)⟩
theorem LT3_0 {ma : Nat → Nat → Int32} (_ : 0 = 0) : LT3 ma 0 0 := LT3_c (by decide)
theorem lt1_unit {j lt nt lt2 nt2 : Nat} {f2 : Nat → Int32} {k r : Int32} (h1 : lt ≤ nt) (h2 : 1 ≤ nt) (h3 : nt ≤ 1024) (h4 : lt ≤ j) (hj : j ≤ 511) (hw : ((k < 1 ∨ 127 < k) ∧ r = 0 ∧ lt2 = lt ∧ nt2 = nt ∧ sb_Fit f2) ∨ (¬ k < 1 ∧ ¬ 127 < k ∧ r = 1 ∧ lt2 = lt + 1 ∧ lt2 ≤ nt2 ∧ (nt2 = nt ∨ nt2 = 2 * nt ∧ nt ≤ lt) ∧ sb_Fit f2)) : LT1 (j + 1) lt2 nt2 f2 := by
  rcases hw with ⟨_, _, e1, e2, e3⟩ | ⟨_, _, _, e1, e2, e3, e4⟩
  · exact ⟨by omega, by omega, by omega, e3, by omega⟩
  · exact ⟨e2, by omega, by omega, e4, by omega⟩
theorem law_in {L j : Nat} (hL : L ≤ 2560) (hj : j ≤ 512) (h : ¬ Int32.ofNat L - 5 < nI (5 * j)) : 5 * j + 5 ≤ L := by
  have e5 : (5 : Int32).toInt = 5 := by decide
  have eL : (Int32.ofNat L).toInt = (L : Int) := nI_toInt (n := L) (by omega)
  rw [pk_ti, nI_toInt (by omega), Int32.toInt_sub, eL, e5] at h
  have hb : ((L : Int) - 5).bmod (2 ^ 32) = (L : Int) - 5 := by
    apply Int.bmod_eq_of_le <;> omega
  rw [hb] at h
  omega
def bt (x : Int32) (i : Nat) : Bool := x.toBitVec.getLsbD i
theorem b_ext {x y : Int32} (h : ∀ i, i < 32 → bt x i = bt y i) : x = y := Int32.toBitVec_inj.mp (BitVec.eq_of_getLsbD_eq (fun i hi => h i hi))
theorem b_or (x y : Int32) (i : Nat) : bt (x ||| y) i = (bt x i || bt y i) := by unfold bt; rw [Int32.toBitVec_or, BitVec.getLsbD_or]
theorem b_and (x y : Int32) (i : Nat) : bt (x &&& y) i = (bt x i && bt y i) := by unfold bt; rw [Int32.toBitVec_and, BitVec.getLsbD_and]
theorem b_xor (x y : Int32) (i : Nat) : bt (x ^^^ y) i = (bt x i ^^ bt y i) := by unfold bt; rw [Int32.toBitVec_xor, BitVec.getLsbD_xor]
theorem b_big {x : Int32} {i : Nat} (h : 32 ≤ i) : bt x i = false := BitVec.getLsbD_of_ge _ _ h
theorem b_255 (i : Nat) : bt 255 i = decide (i < 8) := by
  rcases Nat.lt_or_ge i 32 with h | h
  · exact (by decide +kernel : ∀ i, i < 32 → bt 255 i = decide (i < 8)) i h
  · rw [b_big h, decide_eq_false (by omega)]
theorem b_65535 (i : Nat) : bt 65535 i = decide (i < 16) := by
  rcases Nat.lt_or_ge i 32 with h | h
  · exact (by decide +kernel : ∀ i, i < 32 → bt 65535 i = decide (i < 16)) i h
  · rw [b_big h, decide_eq_false (by omega)]
theorem b_m1 : ∀ i, i < 32 → bt (-1) i = true := by decide +kernel
theorem b_0 (i : Nat) : bt 0 i = false := BitVec.getLsbD_zero
theorem s_l : ∀ n, n < 32 → ((nI n &&& 31).toBitVec.smod 32).toNat = n := by decide +kernel
theorem s_u : ∀ n, n < 32 → (((nI n).toUInt32 &&& Int32.toUInt32 31).toBitVec % 32).toNat = n := by decide +kernel
theorem b_shl (n : Nat) (hn : n < 32) (x : Int32) {i : Nat} (hi : i < 32) : bt (x <<< (nI n &&& 31)) i = (decide (n ≤ i) && bt x (i - n)) := by
  unfold bt
  rw [Int32.toBitVec_shiftLeft]
  show (x.toBitVec <<< ((nI n &&& 31).toBitVec.smod 32).toNat).getLsbD i = _
  rw [s_l n hn, BitVec.getLsbD_shiftLeft]
  rcases Nat.lt_or_ge i n with h | h
  · simp [h, Nat.not_le.mpr h]
  · simp [hi, h, Nat.not_lt.mpr h]
theorem b_ushr (n : Nat) (hn : n < 32) (x : Int32) (i : Nat) : bt ((x.toUInt32 >>> ((nI n).toUInt32 &&& Int32.toUInt32 31)).toInt32) i = bt x (n + i) := by
  show (x.toUInt32 >>> ((nI n).toUInt32 &&& Int32.toUInt32 31)).toBitVec.getLsbD i = x.toUInt32.toBitVec.getLsbD (n + i)
  rw [UInt32.toBitVec_shiftRight]
  show (x.toUInt32.toBitVec >>> (((nI n).toUInt32 &&& Int32.toUInt32 31).toBitVec % 32).toNat).getLsbD i = _
  rw [s_u n hn, BitVec.getLsbD_ushiftRight]
theorem b_sshr (n : Nat) (hn : n < 32) (x : Int32) {i : Nat} (hi : i < 32) : bt (x >>> (nI n &&& 31)) i = if n + i < 32 then bt x (n + i) else bt x 31 := by
  unfold bt
  rw [Int32.toBitVec_shiftRight]
  show (x.toBitVec.sshiftRight ((nI n &&& 31).toBitVec.smod 32).toNat).getLsbD i = _
  rw [s_l n hn, BitVec.getLsbD_sshiftRight, BitVec.msb_eq_getLsbD_last]
  simp [hi]

theorem bt1 : ∀ i, i < 32 → bt 1 i = decide (i = 0) := by decide +kernel
theorem b_one {x : Int32} {j : Nat} (hj : j < 32) : (x >>> (nI j &&& 31)) &&& 1 = 1 ↔ bt x j = true := by
  have e0 : bt (x >>> (nI j &&& 31)) 0 = bt x j := by
    rw [b_sshr j hj x (by omega), if_pos (by omega), Nat.add_zero]
  constructor
  · intro h
    have h1 : bt ((x >>> (nI j &&& 31)) &&& 1) 0 = bt 1 0 := by rw [h]
    rw [b_and, e0, bt1 0 (by omega)] at h1
    simpa using h1
  · intro h
    apply b_ext
    intro i hi
    rw [b_and, bt1 i hi]
    by_cases e : i = 0
    · subst e
      rw [e0, h]
      rfl
    · rw [decide_eq_false e, Bool.and_false]
/-- the class's conditions against the reference's -/
def cst (cf : Nat → Int64) (x : Int32) : Prop := ∀ j, j < 16 → cf j = if bt x j = true then -1 else 0
theorem cst_0 : cst (fun _ => 0) 0 := fun j _ => by
  rw [b_0, if_neg (by decide)]
theorem cst_b {x : Int32} {j i : Nat} (hj : j < 16) (hi : i < 16) : bt (x ^^^ ((1 : Int32) <<< (nI j &&& 31))) i = (bt x i ^^ decide (i = j)) := by
  rw [b_xor, b_shl j (by omega) 1 (by omega)]
  by_cases h : j ≤ i
  · rw [bt1 _ (by omega), decide_eq_true h, Bool.true_and]
    by_cases e : i = j
    · rw [decide_eq_true e, decide_eq_true (by omega)]
    · rw [decide_eq_false e, decide_eq_false (by omega)]
  · rw [decide_eq_false h, Bool.false_and, decide_eq_false (by omega)]
theorem cst_up {cf : Nat → Int64} {x x2 : Int32} {j : Nat} {v : Int64} (h : cst cf x) (hv : v = if bt x2 j = true then -1 else 0) (ho : ∀ i, i < 16 → ¬ i = j → bt x2 i = bt x i) : cst (vp_updL cf j v) x2 := by
  intro i hi
  by_cases e : i = j
  · subst e
    rw [pk_uLs]
    exact hv
  · rw [pk_uLn e, ho i hi e]
    exact h i hi
theorem cst_step {cf cf2 : Nat → Int64} {x x2 k on r r2 : Int32} (ho : on = 0 ∨ on = 1) (hE : cst cf x) (h1 : cnd cf k on r cf2) (h2 : md_C x k on r2 x2) : cst cf2 x2 ∧ r = r2 := by
  unfold cnd at h1
  by_cases hk : k < 0 ∨ ¬ k < 16
  · rw [if_pos hk] at h1
    rcases h2 with ⟨_, e1, e2⟩ | ⟨a, b, _⟩ | ⟨a, b, _⟩
    · rw [h1.1, h1.2, e1, e2]
      exact ⟨hE, rfl⟩
    · exact absurd hk (fun q => q.elim a (fun q => q (pk_16 b)))
    · exact absurd hk (fun q => q.elim a (fun q => q (pk_16 b)))
  · rw [if_neg hk] at h1
    obtain ⟨e1, e2⟩ := h1
    have k1 : ¬ k < 0 := fun q => hk (Or.inl q)
    have k2 : k < 16 := Decidable.byContradiction (fun q => hk (Or.inr q))
    obtain ⟨j, hj, rfl⟩ := nI_of k1
    have hj16 : j < 16 := (nI_ltI (b := 16) hj (by decide)).mp k2
    rw [nI_clamp hj] at e1 e2
    have hb := b_one (x := x) (j := j) (by omega)
    have hc := hE j hj16
    rcases h2 with ⟨q, _⟩ | ⟨_, _, q, e3, e4⟩ | ⟨_, _, q, e3, e4⟩
    · rcases q with q | q
      · exact absurd q k1
      · exact absurd k2 (pk_15 q)
    · subst e4
      rcases q with ⟨q1, q2⟩ | ⟨q1, q2⟩
      · have hb1 := hb.mp q1
        rw [hb1, if_pos rfl] at hc
        have hs : (if on = 0 then (0 : Int64) else -1) = -1 := by rw [q2]; rfl
        rw [hc, hs, if_pos (by decide)] at e1
        rw [hs] at e2
        subst e2
        exact ⟨cst_up hE (by rw [hb1, if_pos rfl]) (fun _ _ _ => rfl), by rw [e1, e3]⟩
      · have hb1 : ¬ bt x2 j = true := fun z => q1 (hb.mpr z)
        rw [if_neg hb1] at hc
        have hs : (if on = 0 then (0 : Int64) else -1) = 0 := by rw [q2]; rfl
        rw [hc, hs, if_pos (by decide)] at e1
        rw [hs] at e2
        subst e2
        exact ⟨cst_up hE (by rw [if_neg hb1]) (fun _ _ _ => rfl), by rw [e1, e3]⟩
    · subst e4
      have hx : ∀ i, i < 16 → ¬ i = j → bt (x ^^^ ((1 : Int32) <<< (nI j &&& 31))) i = bt x i := fun i hi e => by
        rw [cst_b hj16 hi, decide_eq_false e, Bool.xor_false]
      have hy : bt (x ^^^ ((1 : Int32) <<< (nI j &&& 31))) j = !bt x j := by
        rw [cst_b hj16 hj16, decide_eq_true rfl, Bool.xor_true]
      rcases q with ⟨q1, q2⟩ | ⟨q1, q2⟩
      · have hb1 := hb.mp q1
        have o0 : on = 0 := ho.resolve_right q2
        rw [hb1, if_pos rfl] at hc
        have hs : (if on = 0 then (0 : Int64) else -1) = 0 := by rw [o0]; rfl
        rw [hc, hs, if_neg (by decide)] at e1
        rw [hs] at e2
        subst e2
        exact ⟨cst_up hE (by rw [hy, hb1]; rfl) hx, by rw [e1, e3]⟩
      · have hb1 : bt x j = false := by
          cases hz : bt x j with
          | false => rfl
          | true => exact absurd (hb.mpr hz) q1
        have o1 : on = 1 := ho.resolve_left q2
        rw [hb1, if_neg (by decide)] at hc
        have hs : (if on = 0 then (0 : Int64) else -1) = -1 := by rw [o1]; rfl
        rw [hc, hs, if_neg (by decide)] at e1
        rw [hs] at e2
        subst e2
        exact ⟨cst_up hE (by rw [hy, hb1]; rfl) hx, by rw [e1, e3]⟩

theorem ccA_4 (L cap : Nat) : ccA L cap ≤ 4 := by
  unfold ccA
  repeat' split
  all_goals omega
theorem cap_w {T cap : Nat} (h : T ≤ 4096) (h1 : 256 ≤ cap) (h2 : cap ≤ 8192) : 256 ≤ capA T cap ∧ capA T cap ≤ 8192 ∧ ssA T cap + 2 * cap = 2 * capA T cap ∧ ssA 0 cap = 0 := by
  unfold capA ssA
  refine ⟨?_, ?_, ?_, ?_⟩
  all_goals repeat' split
  all_goals omega
