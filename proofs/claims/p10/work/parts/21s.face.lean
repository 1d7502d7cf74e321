/-- a row's count, latch and by-pass when n seconds go by -/
def tk_ct (on n c : Int32) : Int32 := if on = 0 then 0 else if 1000000 < c + n then 1000000 else c + n
def tk_ps (n p : Int32) : Int32 := if n < p then p - n else 0
def tk_lt (on la nu c l : Int32) : Int32 := if ¬ on = 0 ∧ ¬ la = 0 ∧ ¬ c < nu then 1 else l
def tk_I (n : Int32) (on la nu : Nat → Int32) (k : Nat) (ct lt ps ct1 lt1 ps1 : Nat → Int32) : Prop := ∀ j, (j < k → ct1 j = tk_ct (on j) n (ct j) ∧ lt1 j = tk_lt (on j) (la j) (nu j) (ct1 j) (lt j) ∧ ps1 j = tk_ps n (ps j)) ∧ (k ≤ j → ct1 j = ct j ∧ lt1 j = lt j ∧ ps1 j = ps j)
def tk_R (n : Int32) (on la nu : Nat → Int32) (rw : Nat) (ct lt ps ct1 lt1 ps1 : Nat → Int32) : Prop := (¬ (0 < n ∧ n ≤ 100000) → ct1 = ct ∧ lt1 = lt ∧ ps1 = ps) ∧ ((0 < n ∧ n ≤ 100000) → ∀ j, j < rw → ct1 j = tk_ct (on j) n (ct j) ∧ lt1 j = tk_lt (on j) (la j) (nu j) (ct1 j) (lt j) ∧ ps1 j = tk_ps n (ps j))
section Tk
variable {n : Int32} {on la nu ct lt ps ct1 lt1 ps1 : Nat → Int32} {k rw : Nat}
theorem tk_I_0 : tk_I n on la nu 0 ct lt ps ct lt ps := fun _ => ⟨fun h => absurd h (Nat.not_lt_zero _), fun _ => ⟨rfl, rfl, rfl⟩⟩
theorem tk_nar1 {l : Int32} (h : l = 0 ∨ l = 1) : vp_nar .boolean (l ||| 1) = 1 := by
  rcases h with h | h <;> rw [h] <;> first | rfl | decide | decide +kernel
theorem tk_nar0 {l : Int32} (h : l = 0 ∨ l = 1) : vp_nar .boolean (l ||| 0) = l := by
  rcases h with h | h <;> rw [h] <;> first | rfl | decide | decide +kernel
theorem tk_step {v z p : Int32} (hI : tk_I n on la nu k ct lt ps ct1 lt1 ps1) (h01 : lt k = 0 ∨ lt k = 1) (hc : v = tk_ct (on k) n (ct1 k)) (hl : z = if ¬ on k = 0 ∧ ¬ la k = 0 ∧ ¬ v < nu k then 1 else 0) (hp : p = tk_ps n (ps1 k)) : tk_I n on la nu (k + 1) ct lt ps (upd ct1 k v) (upd lt1 k (vp_nar .boolean (lt1 k ||| z))) (upd ps1 k p) := by
  obtain ⟨e1, e2, e3⟩ := (hI k).2 (Nat.le_refl _)
  intro j
  by_cases e : j = k
  · subst e
    refine ⟨fun _ => ?_, fun h => absurd h (by omega)⟩
    rw [pk_us, pk_us, pk_us]
    refine ⟨by rw [hc, e1], ?_, by rw [hp, e3]⟩
    rw [e2]
    unfold tk_lt
    by_cases hq : ¬ on j = 0 ∧ ¬ la j = 0 ∧ ¬ v < nu j
    · rw [if_pos hq] at hl ⊢
      rw [hl]
      exact tk_nar1 h01
    · rw [if_neg hq] at hl ⊢
      rw [hl]
      exact tk_nar0 h01
  · rw [pk_un e, pk_un e, pk_un e]
    exact ⟨fun h => (hI j).1 (by omega), fun h => (hI j).2 (by omega)⟩
theorem tk_R_0 (h : ¬ (0 < n ∧ n ≤ 100000)) : tk_R n on la nu rw ct lt ps ct lt ps := ⟨fun _ => ⟨rfl, rfl, rfl⟩, fun q => absurd q h⟩
theorem tk_R_e (hI : tk_I n on la nu k ct lt ps ct1 lt1 ps1) (hn : n ≤ 100000) (hz : 0 < k → 0 < n) (he : rw ≤ k ∨ n ≤ 0) : tk_R n on la nu rw ct lt ps ct1 lt1 ps1 := by
  by_cases h : 0 < n
  · refine ⟨fun q => absurd ⟨h, hn⟩ q, fun _ j hj => (hI j).1 ?_⟩
    rcases he with he | he
    · omega
    · exact absurd h (Int32.not_lt.mpr he)
  · have h0 : k = 0 := by
      rcases Nat.eq_zero_or_pos k with h0 | h0
      · exact h0
      · exact absurd (hz h0) h
    have hf : ∀ j, ct1 j = ct j ∧ lt1 j = lt j ∧ ps1 j = ps j := fun j => (hI j).2 (by omega)
    exact ⟨fun _ => ⟨funext fun j => (hf j).1, funext fun j => (hf j).2.1, funext fun j => (hf j).2.2⟩, fun q => absurd q.1 h⟩
end Tk

/-- the number of the first row that P holds of, or 0 -/
def fp_first (n : Nat) (P : Nat → Prop) (r : Int32) : Prop := (r = 0 ∧ ∀ j, j < n → ¬ P j) ∨ ∃ j, j < n ∧ r = nI (j + 1) ∧ P j ∧ ∀ i, i < j → ¬ P i
theorem fp_first_eq {n : Nat} {P Q : Nat → Prop} {r r2 : Int32} (h1 : fp_first n P r) (h2 : fp_first n Q r2) (he : ∀ j, j < n → (P j ↔ Q j)) : r = r2 := by
  rcases h1 with ⟨a1, a2⟩ | ⟨j, a1, a2, a3, a4⟩
  · rcases h2 with ⟨b1, b2⟩ | ⟨j, b1, b2, b3, b4⟩
    · rw [a1, b1]
    · exact absurd ((he j b1).mpr b3) (a2 j b1)
  · rcases h2 with ⟨b1, b2⟩ | ⟨i, b1, b2, b3, b4⟩
    · exact absurd ((he j a1).mp a3) (b2 j a1)
    · have e : j = i := by
        rcases Nat.lt_trichotomy j i with h | h | h
        · exact absurd ((he j a1).mp a3) (b4 j h)
        · exact h
        · exact absurd ((he i b1).mpr b3) (a4 i h)
      rw [a2, b2, e]
/-- row number lf of those that q holds of -/
def fp_pk (q : Nat → Bool) : Nat → Nat → Int32 → Int32
  | 0, _, _ => -1
  | m + 1, i, lf => if q i = true then (if lf = 0 then nI (i + 1) else fp_pk q m (i + 1) (lf - 1)) else fp_pk q m (i + 1) lf
section Pk
variable {q q2 : Nat → Bool} {m i : Nat} {lf : Int32}
theorem fp_pk_s0 (h : ¬ q i = true) : fp_pk q (m + 1) i lf = fp_pk q m (i + 1) lf := if_neg h
theorem fp_pk_s1 (h : q i = true) (hl : ¬ lf = 0) : fp_pk q (m + 1) i lf = fp_pk q m (i + 1) (lf - 1) := (if_pos h).trans (if_neg hl)
theorem fp_pk_s2 (h : q i = true) (hl : lf = 0) : fp_pk q (m + 1) i lf = nI (i + 1) := (if_pos h).trans (if_pos hl)
theorem fp_pk_no : ∀ (m i : Nat) (lf : Int32), (∀ t, t ≤ m → ¬ lf = nI t) → fp_pk q m i lf = -1 := by
  intro m
  induction m with
  | zero => intro i lf _; rfl
  | succ m ih =>
    intro i lf h
    by_cases hq : q i = true
    · rw [fp_pk_s1 hq (fun e => h 0 (Nat.zero_le _) (e.trans nI_0.symm))]
      refine ih _ _ (fun t ht e => h (t + 1) (by omega) ?_)
      rw [← nI_1 t, ← e]
      exact (Int32.sub_add_cancel lf 1).symm
    · rw [fp_pk_s0 hq]
      exact ih _ _ (fun t ht => h t (by omega))
theorem fp_pk_neg (h : lf < 0) (hm : m < 2 ^ 31) : fp_pk q m i lf = -1 := fp_pk_no m i lf (fun t ht e => nI_pos (n := t) (by omega) (e ▸ h))
theorem fp_pk_congr : ∀ (m i : Nat) (lf : Int32), (∀ j, i ≤ j → j < i + m → q j = q2 j) → fp_pk q m i lf = fp_pk q2 m i lf := by
  intro m
  induction m with
  | zero => intro i lf _; rfl
  | succ m ih =>
    intro i lf h
    have e := h i (Nat.le_refl _) (by omega)
    rw [fp_pk, fp_pk, e, ih (i + 1) (lf - 1) (fun j h1 h2 => h j (by omega) (by omega)), ih (i + 1) lf (fun j h1 h2 => h j (by omega) (by omega))]
theorem fp_pk_s2' {r : Int32} {rw k : Nat} (hI : r = fp_pk q (rw - k) k lf) (hk : k < rw) (h : q k = true) (hl : lf = 0) : nI (k + 1) = r := by
  rw [hI, show rw - k = (rw - (k + 1)) + 1 by omega, fp_pk_s2 h hl]
theorem fp_pk_s1' {r : Int32} {rw k : Nat} (hI : r = fp_pk q (rw - k) k lf) (hk : k < rw) (h : q k = true) (hl : ¬ lf = 0) : r = fp_pk q (rw - (k + 1)) (k + 1) (lf - 1) := by
  rw [hI, show rw - k = (rw - (k + 1)) + 1 by omega, fp_pk_s1 h hl]
theorem fp_pk_s0' {r : Int32} {rw k : Nat} (hI : r = fp_pk q (rw - k) k lf) (hk : k < rw) (h : ¬ q k = true) : r = fp_pk q (rw - (k + 1)) (k + 1) lf := by
  rw [hI, show rw - k = (rw - (k + 1)) + 1 by omega, fp_pk_s0 h]
theorem fp_pk_e' {r : Int32} {rw k : Nat} (hI : r = fp_pk q (rw - k) k lf) (hk : rw ≤ k) : -1 = r := by
  rw [hI, show rw - k = 0 by omega]
  rfl
theorem fp_pk_n' {r : Int32} {rw k : Nat} (hI : r = fp_pk q (rw - k) k lf) (hr : rw ≤ 40) (h : lf < 0) : -1 = r := by
  rw [hI, fp_pk_neg h (by omega)]
end Pk
/-- the answer of pass at a row whose by-pass has p seconds left -/
def fp_pas (a b s p : Int32) : Int32 := if a < 1 ∨ 999 < a ∨ b < 1 ∨ 999 < b ∨ a = b then -2 else if s < 1 ∨ 3600 < s then -3 else if 0 < p then -4 else 0
def fp_rq (n : Nat) (k : Int32) : Prop := k < 1 ∨ nI n < k
theorem fp_rq_out {n : Nat} {k : Int32} (h : (if k < 1 ∨ nI n < k then (0 : Int32) else 1) = 0) : fp_rq n k := by
  by_cases hc : k < 1 ∨ nI n < k
  · exact hc
  · rw [if_neg hc] at h
    exact absurd h (by decide)
theorem fp_rq_no {n j : Nat} {k : Int32} (h : fp_rq n k) (hk : k = nI (j + 1)) (hj : j < n) (hn : n < 2 ^ 30) : False := by
  subst hk
  rcases h with h | h
  · have h2 := (nI_ltI (a := j + 1) (b := 1) (by omega) (by decide)).mp h
    omega
  · have h2 := (nI_ltI (a := n) (b := j + 1) (by omega) (by omega)).mp h
    omega
/-- the answer of row at a row with these numbers -/
def fp_r8 (w a b c d e f g h : Int32) : Int32 := if w = 0 then a else if w = 1 then b else if w = 2 then (if c = 0 then 0 else 1) else if w = 3 then d else if w = 4 then (if e = 0 then 0 else 1) else if w = 5 then f else if w = 6 then g else if w = 7 then (if h = 0 then 0 else 1) else -1
section R8
variable {w a b c d e f g h : Int32}
theorem fp_r8_0 : fp_r8 (nI 0) a b c d e f g h = a := if_pos (by decide)
theorem fp_r8_1 : fp_r8 (nI 1) a b c d e f g h = b := (if_neg (by decide)).trans (if_pos (by decide))
theorem fp_r8_2 : fp_r8 (nI 2) a b c d e f g h = (if c = 0 then 0 else 1) := (if_neg (by decide)).trans ((if_neg (by decide)).trans (if_pos (by decide)))
theorem fp_r8_3 : fp_r8 (nI 3) a b c d e f g h = d := (if_neg (by decide)).trans ((if_neg (by decide)).trans ((if_neg (by decide)).trans (if_pos (by decide))))
theorem fp_r8_4 : fp_r8 (nI 4) a b c d e f g h = (if e = 0 then 0 else 1) := (if_neg (by decide)).trans ((if_neg (by decide)).trans ((if_neg (by decide)).trans ((if_neg (by decide)).trans (if_pos (by decide)))))
theorem fp_r8_5 : fp_r8 (nI 5) a b c d e f g h = f := (if_neg (by decide)).trans ((if_neg (by decide)).trans ((if_neg (by decide)).trans ((if_neg (by decide)).trans ((if_neg (by decide)).trans (if_pos (by decide))))))
theorem fp_r8_6 : fp_r8 (nI 6) a b c d e f g h = g := (if_neg (by decide)).trans ((if_neg (by decide)).trans ((if_neg (by decide)).trans ((if_neg (by decide)).trans ((if_neg (by decide)).trans ((if_neg (by decide)).trans (if_pos (by decide)))))))
theorem fp_r8_7 : fp_r8 (nI 7) a b c d e f g h = (if h = 0 then 0 else 1) := (if_neg (by decide)).trans ((if_neg (by decide)).trans ((if_neg (by decide)).trans ((if_neg (by decide)).trans ((if_neg (by decide)).trans ((if_neg (by decide)).trans ((if_neg (by decide)).trans (if_pos (by decide))))))))
theorem fp_r8_x (hw : w.toInt < 0 ∨ 7 < w.toInt) : fp_r8 w a b c d e f g h = -1 := by
  have hn : ∀ m : Nat, m < 8 → ¬ w = nI m := fun m hm q => by
    rw [q, nI_toInt (by omega)] at hw
    omega
  exact (if_neg (hn 0 (by decide))).trans ((if_neg (hn 1 (by decide))).trans ((if_neg (hn 2 (by decide))).trans ((if_neg (hn 3 (by decide))).trans ((if_neg (hn 4 (by decide))).trans ((if_neg (hn 5 (by decide))).trans ((if_neg (hn 6 (by decide))).trans (if_neg (hn 7 (by decide)))))))))
end R8
/-- the row at R has the act w -/
def ra_has (cn ac : Nat → Int32) (R : Nat) (w : Int32) : Prop := ∃ t, t < (cn R).toNatClampNeg ∧ ac (8 * R + t) = w
theorem fq_t1 {r : Int32} {P Q : Prop} (h : (r = 1 ∧ P) ∨ (r = 0 ∧ Q)) (hr : ¬ r = 0) : P := by
  rcases h with ⟨_, h⟩ | ⟨h, _⟩
  · exact h
  · exact absurd h hr
theorem fq_t0 {r : Int32} {P Q : Prop} (h : (r = 1 ∧ P) ∨ (r = 0 ∧ Q)) (hr : r = 0) : Q := by
  rcases h with ⟨h, _⟩ | ⟨_, h⟩
  · rw [hr] at h
    exact absurd h (by decide)
  · exact h
