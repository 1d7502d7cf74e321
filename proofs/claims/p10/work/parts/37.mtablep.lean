
theorem pk_sw6 (x : Int32) : (x.toInt < 0 ∨ 5 < x.toInt) ∨ ∃ t : Nat, t < 6 ∧ x = nI t := by
  by_cases h : x.toInt < 0 ∨ 5 < x.toInt
  · exact Or.inl h
  · obtain ⟨j, hj, rfl⟩ := nI_of (x := x) (by rw [pk_ti, show (0 : Int32).toInt = 0 by decide]; omega)
    rw [nI_toInt hj] at h
    exact Or.inr ⟨j, by omega, rfl⟩
theorem cc_ne {c : Nat} (h : c < 16) : ¬ nI c = 16 := fun h2 => by
  have h3 := (nI_eq (a := c) (b := 16) (by omega) (by decide)).mp h2
  omega
theorem cc_lt {c : Nat} (h : c < 16) : ¬ (16 : Int32) ≤ nI c := nI_ge (a := c) (b := 16) h (by decide)
section Tv
variable {W F S : Nat → Int32} {σ : Nat → Int64} {d n k j c : Nat}
theorem tv_leaf (h : W n = nI c) (hc : c < 16) : fp_tv W F S σ (d + 1) n = σ c := by
  have q17 : ¬ nI c = 17 := fun q => by have := (nI_eq (a := c) (b := 17) (by omega) (by decide)).mp q; omega
  have q18 : ¬ nI c = 18 := fun q => by have := (nI_eq (a := c) (b := 18) (by omega) (by decide)).mp q; omega
  rw [fp_tv, h, if_neg (cc_ne hc), if_neg q17, if_neg q18, nI_clamp (by omega)]
theorem tv_not (h : W n = 16) (hF : F n = nI k) (hk : k < 2 ^ 31) : fp_tv W F S σ (d + 1) n = fp_tv W F S σ d k ^^^ (-1) := by
  rw [fp_tv, if_pos h, hF, nI_clamp hk]
theorem tv_and (h : W n = 17) (hF : F n = nI k) (hS : S n = nI j) (hk : k < 2 ^ 31) (hj : j < 2 ^ 31) : fp_tv W F S σ (d + 1) n = fp_tv W F S σ d k &&& fp_tv W F S σ d j := by
  rw [fp_tv, if_neg (by rw [h]; decide), if_pos h, hF, hS, nI_clamp hk, nI_clamp hj]
theorem tv_or (h : W n = 18) (hF : F n = nI k) (hS : S n = nI j) (hk : k < 2 ^ 31) (hj : j < 2 ^ 31) : fp_tv W F S σ (d + 1) n = fp_tv W F S σ d k ||| fp_tv W F S σ d j := by
  rw [fp_tv, if_neg (by rw [h]; decide), if_neg (by rw [h]; decide), if_pos h, hF, hS, nI_clamp hk, nI_clamp hj]
end Tv
/-- a block of the stack while its words are made -/
def tbI (av w : Nat) (sk0 sk1 A B : Nat → Int64) : Prop := (∀ w', w' < 1024 → sk1 (1024 * av + w') = if w' < w then A w' else B w') ∧ (∀ j, j < 1024 * av → sk1 j = sk0 j)
section TbI
variable {av w : Nat} {sk0 sk1 A B : Nat → Int64}
theorem tbI_0 (h1 : ∀ w', w' < 1024 → sk1 (1024 * av + w') = B w') (h2 : ∀ j, j < 1024 * av → sk1 j = sk0 j) : tbI av 0 sk0 sk1 A B := ⟨fun w' h => (h1 w' h).trans (if_neg (Nat.not_lt_zero _)).symm, h2⟩
theorem tbI_b (h : tbI av w sk0 sk1 A B) (hw : w < 1024) : sk1 (1024 * av + w) = B w := (h.1 w hw).trans (if_neg (Nat.lt_irrefl _))
theorem tbI_s {x : Int64} (h : tbI av w sk0 sk1 A B) (hw : w < 1024) (hx : x = A w) : tbI av (w + 1) sk0 (vp_updL sk1 (1024 * av + w) x) A B := by
  refine ⟨fun w' h' => ?_, fun j hj => (pk_uLn (by omega)).trans (h.2 j hj)⟩
  by_cases e : w' = w
  · rw [e, pk_uLs, if_pos (by omega), hx]
  · rw [pk_uLn (by omega), h.1 w' h']
    by_cases h2 : w' < w
    · rw [if_pos h2, if_pos (by omega)]
    · rw [if_neg h2, if_neg (by omega)]
theorem tbI_e (h : tbI av w sk0 sk1 A B) (hw : 1024 ≤ w) : ∀ w', w' < 1024 → sk1 (1024 * av + w') = A w' := fun w' h' => (h.1 w' h').trans (if_pos (by omega))
end TbI
/-- the tables of the first k rows -/
def tbok (W F S tp : Nat → Int32) (h k : Nat) (tb : Nat → Int64) : Prop := ∀ q, q < k → ∀ w, w < 1024 → tb (1024 * q + w) = fp_tv W F S (bsg w) 512 (tp (40 * h + q)).toNatClampNeg
theorem tbok_s {W F S tp : Nat → Int32} {h k : Nat} {tb sk : Nat → Int64} (ho : tbok W F S tp h k tb) (hs : ∀ w, w < 1024 → sk (1024 * 0 + w) = fp_tv W F S (bsg w) 512 (tp (40 * h + k)).toNatClampNeg) : tbok W F S tp h (k + 1) (va_cpy sk tb 0 (1024 * k) 1024) := by
  intro q hq w hw
  by_cases e : q = k
  · subst e
    rw [pk_cpy_in (by omega) (by omega), show 0 + (1024 * q + w - 1024 * q) = 1024 * 0 + w by omega]
    exact hs w hw
  · rw [pk_cpy_out (by omega)]
    exact ho q (by omega) w hw
/-- never, of the first k rows -/
def nvok (hs : Nat → Nat → Bool) (W F S tp : Nat → Int32) (h k : Nat) (nv : Nat → Int32) : Prop := ∀ q, q < k → (nv q = 0 ∨ nv q = 1) ∧ (nv q = 0 ↔ ∃ w, w < 1024 ∧ Fr hs (fun q9 => fp_tv W F S (bsg w) 512 (tp (40 * h + q9)).toNatClampNeg) q)
theorem nvok_s {hs : Nat → Nat → Bool} {W F S tp : Nat → Int32} {h k : Nat} {nv : Nat → Int32} {x : Int32} (ho : nvok hs W F S tp h k nv) (hx : (x = 0 ∨ x = 1) ∧ (x = 0 ↔ ∃ w, w < 1024 ∧ Fr hs (fun q9 => fp_tv W F S (bsg w) 512 (tp (40 * h + q9)).toNatClampNeg) k)) : nvok hs W F S tp h (k + 1) (upd nv k x) := by
  intro q hq
  by_cases e : q = k
  · rw [e, pk_us]
    exact hx
  · rw [pk_un e]
    exact ho q (by omega)
theorem z64 {c : Nat → Int64} {w : Nat} (h : ∀ w9, w9 < w → c w9 = 0) : ∀ w9, w9 < w + 1 → vp_updL c w 0 w9 = 0 := by
  intro w9 h9
  by_cases e : w9 = w
  · rw [e, pk_uLs]
  · rw [pk_uLn e]
    exact h w9 (by omega)
theorem cv_s {c A B : Nat → Int64} {w2 : Nat} {x : Int64} (h : ∀ w9, w9 < 1024 → c w9 = if w9 < w2 then A w9 ||| B w9 else A w9) (hw : w2 < 1024) (hx : x = B w2) : ∀ w9, w9 < 1024 → vp_updL c w2 (c w2 ||| x) w9 = if w9 < w2 + 1 then A w9 ||| B w9 else A w9 := by
  intro w9 h9
  by_cases e : w9 = w2
  · rw [e, pk_uLs, if_pos (by omega), h w2 hw, if_neg (Nat.lt_irrefl _), hx]
  · rw [pk_uLn e, h w9 h9]
    by_cases h2 : w9 < w2
    · rw [if_pos h2, if_pos (by omega)]
    · rw [if_neg h2, if_neg (by omega)]
theorem nx64 {P : Nat → Prop} {k : Nat} (h : ∀ j, j < k → P j) (hn : P k) : ∀ j, j < k + 1 → P j := by
  intro j hj
  by_cases e : j = k
  · rw [e]
    exact hn
  · exact h j (by omega)
theorem cmp0 {v : Int64} (h : lg_cmp v 0 = 0) : v = 0 := by
  unfold lg_cmp at h
  split at h
  · exact absurd h (by decide)
  · split at h
    · assumption
    · exact absurd h (by decide)
theorem rws_acts {tp cn ac nu W F S : Nat → Int32} {h r k a : Nat} (hs : rws tp cn ac nu W F S h r) (hk : k < r) (hcn : cn (40 * h + k) = nI a) (ha : a ≤ 8) : ∀ j, j < a → ∃ x, ac (8 * (40 * h + k) + j) = nI x ∧ x ≤ 31 := by
  obtain ⟨lo, hi, q, g1, g2, g3⟩ := hs
  obtain ⟨k1, k2, k3, n, a', p1, p2, p3, p4, p5, p6, p7, p8, p9, p10⟩ := g3 k hk
  have e : a' = a := (nI_eq (by omega) (by omega)).mp (p5.symm.trans hcn)
  rw [e] at p8
  exact p8
