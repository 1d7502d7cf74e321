/-- blanks, signs, bytes inside a word -/
abbrev fp_bk (b : Int32) : Prop := b = 32 ∨ b = 10
abbrev fp_sg (b : Int32) : Prop := b = 40 ∨ b = 41 ∨ b = 59
abbrev fp_in (b : Int32) : Prop := ¬ fp_bk b ∧ ¬ fp_sg b
def fp_run (T : Nat → Int32) : Nat → Nat → Nat
  | 0, k => k
  | f + 1, k => if fp_in (T k) then fp_run T f (k + 1) else k
/-- where the word that begins at k ends -/
def fp_end (T : Nat → Int32) (len k : Nat) : Nat := if fp_in (T k) then fp_run T (len - (k + 1)) (k + 1) else k + 1
def fp_cut (T : Nat → Int32) (len : Nat) : Nat → Nat → List (Nat × Nat)
  | 0, _ => []
  | f + 1, k => if k < len then (if fp_bk (T k) then fp_cut T len f (k + 1) else (k, fp_end T len k) :: fp_cut T len f (fp_end T len k)) else []
/-- the words from k on: where each begins and ends -/
def fp_ws (T : Nat → Int32) (len k : Nat) : List (Nat × Nat) := fp_cut T len (len + 1) k
theorem fp_run_le (T : Nat → Int32) : ∀ f k, k ≤ fp_run T f k ∧ fp_run T f k ≤ k + f := by
  intro f
  induction f with
  | zero => intro k; exact ⟨Nat.le_refl _, Nat.le_refl _⟩
  | succ f ih =>
    intro k
    rw [fp_run]
    by_cases h : fp_in (T k)
    · rw [if_pos h]
      have := ih (k + 1)
      omega
    · rw [if_neg h]
      omega
theorem fp_end_gt (T : Nat → Int32) (len k : Nat) : k < fp_end T len k ∧ (k < len → fp_end T len k ≤ len) := by
  unfold fp_end
  have h1 := fp_run_le T (len - (k + 1)) (k + 1)
  by_cases h : fp_in (T k)
  · rw [if_pos h]
    omega
  · rw [if_neg h]
    omega
theorem fp_cut_fuel {T : Nat → Int32} {len : Nat} : ∀ (f g k : Nat), len - k ≤ f → len - k ≤ g → fp_cut T len f k = fp_cut T len g k := by
  intro f
  induction f with
  | zero =>
    intro g k h1 h2
    cases g with
    | zero => rfl
    | succ g =>
      have hk : ¬ k < len := by omega
      simp only [fp_cut, if_neg hk]
  | succ f ih =>
    intro g k h1 h2
    cases g with
    | zero =>
      have hk : ¬ k < len := by omega
      simp only [fp_cut, if_neg hk]
    | succ g =>
      by_cases hk : k < len
      · by_cases hb : fp_bk (T k)
        · simp only [fp_cut, if_pos hk, if_pos hb]
          exact ih g (k + 1) (by omega) (by omega)
        · have h3 := (fp_end_gt T len k).1
          simp only [fp_cut, if_pos hk, if_neg hb]
          rw [ih g (fp_end T len k) (by omega) (by omega)]
      · simp only [fp_cut, if_neg hk]
theorem fp_ws_b {T : Nat → Int32} {len k : Nat} (hk : k < len) (hb : fp_bk (T k)) : fp_ws T len k = fp_ws T len (k + 1) := by
  unfold fp_ws
  rw [fp_cut, if_pos hk, if_pos hb]
  exact fp_cut_fuel _ _ _ (by omega) (by omega)
theorem fp_ws_w {T : Nat → Int32} {len k : Nat} (hk : k < len) (hb : ¬ fp_bk (T k)) : fp_ws T len k = (k, fp_end T len k) :: fp_ws T len (fp_end T len k) := by
  unfold fp_ws
  have h3 := (fp_end_gt T len k).1
  rw [fp_cut, if_pos hk, if_neg hb, fp_cut_fuel len (len + 1) _ (by omega) (by omega)]
theorem fp_ws_e {T : Nat → Int32} {len k : Nat} (hk : len ≤ k) : fp_ws T len k = [] := by
  unfold fp_ws
  rw [fp_cut, if_neg (by omega)]
/-- each word has a byte, ends in the text; a sign is a word of its own -/
theorem fp_ws_ok {T : Nat → Int32} {len : Nat} : ∀ (n k : Nat), len - k ≤ n → ∀ p ∈ fp_ws T len k, p.1 < p.2 ∧ p.2 ≤ len ∧ (fp_sg (T p.1) → p.2 = p.1 + 1) := by
  intro n
  induction n with
  | zero =>
    intro k h p hp
    rw [fp_ws_e (by omega)] at hp
    cases hp
  | succ n ih =>
    intro k h p hp
    by_cases hk : k < len
    · by_cases hb : fp_bk (T k)
      · rw [fp_ws_b hk hb] at hp
        exact ih (k + 1) (by omega) p hp
      · rw [fp_ws_w hk hb] at hp
        have h3 := fp_end_gt T len k
        rcases List.mem_cons.mp hp with rfl | hp
        · refine ⟨h3.1, h3.2 hk, fun hs => ?_⟩
          show fp_end T len k = k + 1
          unfold fp_end
          rw [if_neg (fun q => q.2 hs)]
        · exact ih (fp_end T len k) (by omega) p hp
    · rw [fp_ws_e (by omega)] at hp
      cases hp
theorem fp_run_congr {T T' : Nat → Int32} {len : Nat} (h : ∀ i, i < len → T' i = T i) : ∀ f k, k + f ≤ len → fp_run T' f k = fp_run T f k := by
  intro f
  induction f with
  | zero => intro k _; rfl
  | succ f ih =>
    intro k hk
    rw [fp_run, fp_run, h k (by omega), ih (k + 1) (by omega)]
theorem fp_end_congr {T T' : Nat → Int32} {len k : Nat} (h : ∀ i, i < len → T' i = T i) (hk : k < len) : fp_end T' len k = fp_end T len k := by
  unfold fp_end
  rw [h k hk, fp_run_congr h _ _ (by omega)]
theorem fp_ws_congr {T T' : Nat → Int32} {len : Nat} (h : ∀ i, i < len → T' i = T i) : ∀ (n k : Nat), len - k ≤ n → fp_ws T' len k = fp_ws T len k := by
  intro n
  induction n with
  | zero => intro k hk; rw [fp_ws_e (by omega), fp_ws_e (by omega)]
  | succ n ih =>
    intro k hk
    by_cases hl : k < len
    · have h3 := fp_end_gt T len k
      by_cases hb : fp_bk (T k)
      · rw [fp_ws_b hl hb, fp_ws_b hl (by rw [h k hl]; exact hb), ih (k + 1) (by omega)]
      · rw [fp_ws_w hl hb, fp_ws_w hl (by rw [h k hl]; exact hb), fp_end_congr h hl, ih _ (by omega)]
    · rw [fp_ws_e (by omega), fp_ws_e (by omega)]
/-- byte i of word j, and its length -/
def fp_ww (T : Nat → Int32) (L : List (Nat × Nat)) (j i : Nat) : Int32 := match L[j]? with
  | some p => if p.1 + i < p.2 then T (p.1 + i) else 0
  | none => 0
def fp_wl (L : List (Nat × Nat)) (j : Nat) : Nat := match L[j]? with
  | some p => p.2 - p.1
  | none => 0
theorem fp_ww_s {T : Nat → Int32} {L : List (Nat × Nat)} {j i b n : Nat} (h : L[j]? = some (b, n)) : fp_ww T L j i = if b + i < n then T (b + i) else 0 := by
  unfold fp_ww
  rw [h]
theorem fp_wl_s {L : List (Nat × Nat)} {j b n : Nat} (h : L[j]? = some (b, n)) : fp_wl L j = n - b := by
  unfold fp_wl
  rw [h]
theorem fp_ww_n {T : Nat → Int32} {L : List (Nat × Nat)} {j i : Nat} (h : L.length ≤ j) : fp_ww T L j i = 0 := by
  unfold fp_ww
  rw [List.getElem?_eq_none h]
theorem fp_wl_n {L : List (Nat × Nat)} {j : Nat} (h : L.length ≤ j) : fp_wl L j = 0 := by
  unfold fp_wl
  rw [List.getElem?_eq_none h]
/-- what two lists of places have in common -/
def fp_at (L : List (Nat × Nat)) (Bn En : Nat → Nat) (wd : Nat) : Prop := L.length = wd ∧ ∀ j, j < wd → L[j]? = some (Bn j, En j)
theorem fp_at_ww {T : Nat → Int32} {L : List (Nat × Nat)} {Bn En : Nat → Nat} {wd nx : Nat} (h : fp_at L Bn En wd) : ww T Bn En wd nx = fp_ww T L nx := by
  funext i
  by_cases hn : nx < wd
  · rw [fp_ww_s (h.2 nx hn)]
    unfold ww
    by_cases hi : Bn nx + i < En nx
    · rw [if_pos ⟨hn, hi⟩, if_pos hi]
    · rw [if_neg (fun q => hi q.2), if_neg hi]
  · rw [fp_ww_n (by rw [h.1]; omega), ww_ge (by omega)]
theorem fp_at_wl {L : List (Nat × Nat)} {Bn En : Nat → Nat} {wd nx : Nat} (h : fp_at L Bn En wd) : wl Bn En wd nx = fp_wl L nx := by
  by_cases hn : nx < wd
  · rw [fp_wl_s (h.2 nx hn), wl_in hn]
  · rw [fp_wl_n (by rw [h.1]; omega), wl_ge (by omega)]
/-- digits from place i on -/
def fp_num (w : Nat → Int32) (mx : Nat) : Nat → Nat → Nat → Int32
  | 0, _, x => if x ≤ mx then nI x else -1
  | f + 1, i, x => if w i < 48 ∨ 57 < w i then -1 else fp_num w mx f (i + 1) (10 * x + ((w i).toNatClampNeg - 48))
def fp_nu (w : Nat → Int32) (l a mx : Nat) : Int32 := if l ≤ a ∨ (w a = 48 ∧ a + 1 < l) then -1 else fp_num w mx (l - a) a 0
theorem fp_num_big {w : Nat → Int32} {mx : Nat} : ∀ f i x, mx < x → fp_num w mx f i x = -1 := by
  intro f
  induction f with
  | zero => intro i x h; rw [fp_num, if_neg (by omega)]
  | succ f ih =>
    intro i x h
    rw [fp_num]
    split
    · rfl
    · exact ih _ _ (by omega)
theorem fp_num_s {w : Nat → Int32} {mx f i x d : Nat} (h : w i = nI d) (h1 : 48 ≤ d) (h2 : d ≤ 57) : fp_num w mx (f + 1) i x = fp_num w mx f (i + 1) (10 * x + (d - 48)) := by
  rw [fp_num, if_neg, h, nI_clamp (by omega)]
  rw [h, pk_ti, pk_ti, nI_toInt (by omega), show (48 : Int32).toInt = 48 by decide, show (57 : Int32).toInt = 57 by decide]
  omega
theorem fp_num_b {w : Nat → Int32} {mx f i x : Nat} (h : w i < 48 ∨ 57 < w i) : fp_num w mx (f + 1) i x = -1 := by
  rw [fp_num, if_pos h]
/-- five digits, the first no 0: more than four thousand -/
theorem fp_num_long {w : Nat → Int32} {mx : Nat} (hm : mx ≤ 3600) : ∀ f i x, 1 ≤ x → 3600 < x * 10 ^ f → fp_num w mx f i x = -1 := by
  intro f
  induction f with
  | zero => intro i x h1 h2; rw [fp_num, if_neg (by omega)]
  | succ f ih =>
    intro i x h1 h2
    rw [fp_num]
    split
    · rfl
    · refine ih _ _ (by omega) ?_
      have h3 : x * 10 ^ (f + 1) = (10 * x) * 10 ^ f := by rw [Nat.pow_succ, Nat.mul_comm (10 ^ f) 10, ← Nat.mul_assoc, Nat.mul_comm x 10]
      have h4 : (10 * x) * 10 ^ f ≤ (10 * x + ((w i).toNatClampNeg - 48)) * 10 ^ f := Nat.mul_le_mul_right _ (by omega)
      omega
theorem fp_nu_long {w : Nat → Int32} {l a mx : Nat} (hm : mx ≤ 3600) (h : a + 4 < l) : fp_nu w l a mx = -1 := by
  unfold fp_nu
  by_cases h0 : l ≤ a ∨ (w a = 48 ∧ a + 1 < l)
  · rw [if_pos h0]
  · rw [if_neg h0]
    obtain ⟨f, hf⟩ : ∃ f, l - a = f + 5 := ⟨l - a - 5, by omega⟩
    rw [hf]
    by_cases hb : w a < 48 ∨ 57 < w a
    · exact fp_num_b hb
    · obtain ⟨d, hd1, hd2, hd⟩ := pk_dig (fun q => hb (Or.inl q)) (Int32.not_lt.mp (fun q => hb (Or.inr q)))
      rw [fp_num_s hd hd1 hd2]
      have hne : d ≠ 48 := fun e => h0 (Or.inr ⟨by rw [hd, e]; rfl, by omega⟩)
      refine fp_num_long hm _ _ _ (by omega) ?_
      have h5 : 10 ^ 4 ≤ 10 ^ (f + 4) := Nat.pow_le_pow_right (by decide) (by omega)
      have h6 : 1 * 10 ^ (f + 4) ≤ (10 * 0 + (d - 48)) * 10 ^ (f + 4) := Nat.mul_le_mul_right _ (by omega)
      have h7 : 10 ^ 4 = 10000 := by decide
      omega
theorem fp_nu_dig {w : Nat → Int32} {l mx : Nat} (h : ¬ fp_nu w l 0 mx = -1) : 0 < l ∧ ¬ w 0 < 48 ∧ ¬ 57 < w 0 := by
  unfold fp_nu at h
  by_cases h0 : l ≤ 0 ∨ (w 0 = 48 ∧ 0 + 1 < l)
  · rw [if_pos h0] at h
    exact absurd rfl h
  · rw [if_neg h0] at h
    obtain ⟨f, hf⟩ : ∃ f, l - 0 = f + 1 := ⟨l - 1, by omega⟩
    rw [hf] at h
    refine ⟨by omega, fun q => h (fp_num_b (Or.inl q)), fun q => h (fp_num_b (Or.inr q))⟩
/-- the kinds of words, as the class numbers them -/
def fp_k (w : Nat → Int32) (l : Nat) : Int32 :=
  if l = 0 then 0 else if w 0 = 40 then 2 else if w 0 = 41 then 3 else if w 0 = 59 then 4
  else if isv3 w l 98 97 114 = 1 then 5 else if isv4 w l 119 104 101 110 = 1 then 6 else if isv3 w l 102 111 114 = 1 then 7
  else if isv7 w l 108 97 116 99 104 101 100 = 1 then 8 else if isv2 w l 111 114 = 1 then 9 else if isv3 w l 97 110 100 = 1 then 10
  else if isv3 w l 110 111 116 = 1 then 11
  else if w 0 = 97 then (if fp_nu w l 1 31 = -1 then 1 else 12) else if w 0 = 99 then (if fp_nu w l 1 15 = -1 then 1 else 13)
  else (if fp_nu w l 0 3600 = -1 then 1 else 14)
/-- the number in a word, -1 without -/
def fp_v (w : Nat → Int32) (l : Nat) : Int32 :=
  if l = 0 then -1 else if w 0 = 40 then -1 else if w 0 = 41 then -1 else if w 0 = 59 then -1
  else if isv3 w l 98 97 114 = 1 then -1 else if isv4 w l 119 104 101 110 = 1 then -1 else if isv3 w l 102 111 114 = 1 then -1
  else if isv7 w l 108 97 116 99 104 101 100 = 1 then -1 else if isv2 w l 111 114 = 1 then -1 else if isv3 w l 97 110 100 = 1 then -1
  else if isv3 w l 110 111 116 = 1 then -1
  else if w 0 = 97 then fp_nu w l 1 31 else if w 0 = 99 then fp_nu w l 1 15 else fp_nu w l 0 3600
section Kinds
variable {w : Nat → Int32} {l : Nat} {a b c d e f g : Int32}
theorem fp_n2 (h : ¬ w 0 = a) : ¬ isv2 w l a b = 1 := by
  unfold isv2
  rw [if_neg (fun q => h q.2.1)]
  decide
theorem fp_n3 (h : ¬ w 0 = a) : ¬ isv3 w l a b c = 1 := by
  unfold isv3
  rw [if_neg (fun q => h q.2.1)]
  decide
theorem fp_n4 (h : ¬ w 0 = a) : ¬ isv4 w l a b c d = 1 := by
  unfold isv4
  rw [if_neg (fun q => h q.2.1)]
  decide
theorem fp_n7 (h : ¬ w 0 = a) : ¬ isv7 w l a b c d e f g = 1 := by
  unfold isv7
  rw [if_neg (fun q => h q.2.1)]
  decide
theorem fp_i1 (h : isv1 w l a = 1) : nI l = 1 ∧ w 0 = a := by
  unfold isv1 at h
  split at h
  · assumption
  · exact absurd h (by decide)
theorem fp_i2 (h : isv2 w l a b = 1) : nI l = 2 ∧ w 0 = a ∧ w 1 = b := by
  unfold isv2 at h
  split at h
  · assumption
  · exact absurd h (by decide)
theorem fp_i3 (h : isv3 w l a b c = 1) : nI l = 3 ∧ w 0 = a ∧ w 1 = b ∧ w 2 = c := by
  unfold isv3 at h
  split at h
  · assumption
  · exact absurd h (by decide)
theorem fp_i4 (h : isv4 w l a b c d = 1) : nI l = 4 ∧ w 0 = a ∧ w 1 = b ∧ w 2 = c ∧ w 3 = d := by
  unfold isv4 at h
  split at h
  · assumption
  · exact absurd h (by decide)
theorem fp_i7 (h : isv7 w l a b c d e f g = 1) : nI l = 7 ∧ w 0 = a ∧ w 1 = b ∧ w 2 = c ∧ w 3 = d ∧ w 4 = e ∧ w 5 = f ∧ w 6 = g := by
  unfold isv7 at h
  split at h
  · assumption
  · exact absurd h (by decide)
theorem fp_l0 {k : Int32} (h : nI l = k) (hk : ¬ nI 0 = k) : ¬ l = 0 := fun e => hk (by rw [← e]; exact h)
theorem fp_k5 : fp_k w l = 5 ↔ isv3 w l 98 97 114 = 1 := by
  constructor
  · intro h
    unfold fp_k at h
    by_cases c0 : l = 0
    · rw [if_pos c0] at h
      exact absurd h (by decide)
    rw [if_neg c0] at h
    by_cases c1 : w 0 = 40
    · rw [if_pos c1] at h
      exact absurd h (by decide)
    rw [if_neg c1] at h
    by_cases c2 : w 0 = 41
    · rw [if_pos c2] at h
      exact absurd h (by decide)
    rw [if_neg c2] at h
    by_cases c3 : w 0 = 59
    · rw [if_pos c3] at h
      exact absurd h (by decide)
    rw [if_neg c3] at h
    by_cases c4 : isv3 w l 98 97 114 = 1
    · exact c4
    rw [if_neg c4] at h
    by_cases c5 : isv4 w l 119 104 101 110 = 1
    · rw [if_pos c5] at h
      exact absurd h (by decide)
    rw [if_neg c5] at h
    by_cases c6 : isv3 w l 102 111 114 = 1
    · rw [if_pos c6] at h
      exact absurd h (by decide)
    rw [if_neg c6] at h
    by_cases c7 : isv7 w l 108 97 116 99 104 101 100 = 1
    · rw [if_pos c7] at h
      exact absurd h (by decide)
    rw [if_neg c7] at h
    by_cases c8 : isv2 w l 111 114 = 1
    · rw [if_pos c8] at h
      exact absurd h (by decide)
    rw [if_neg c8] at h
    by_cases c9 : isv3 w l 97 110 100 = 1
    · rw [if_pos c9] at h
      exact absurd h (by decide)
    rw [if_neg c9] at h
    by_cases c10 : isv3 w l 110 111 116 = 1
    · rw [if_pos c10] at h
      exact absurd h (by decide)
    rw [if_neg c10] at h
    by_cases c11 : w 0 = 97
    · rw [if_pos c11] at h
      by_cases d11 : fp_nu w l 1 31 = -1
      · rw [if_pos d11] at h
        exact absurd h (by decide)
      · rw [if_neg d11] at h
        exact absurd h (by decide)
    rw [if_neg c11] at h
    by_cases c12 : w 0 = 99
    · rw [if_pos c12] at h
      by_cases d12 : fp_nu w l 1 15 = -1
      · rw [if_pos d12] at h
        exact absurd h (by decide)
      · rw [if_neg d12] at h
        exact absurd h (by decide)
    rw [if_neg c12] at h
    by_cases d13 : fp_nu w l 0 3600 = -1
    · rw [if_pos d13] at h
      exact absurd h (by decide)
    · rw [if_neg d13] at h
      exact absurd h (by decide)
  · intro h
    obtain ⟨h1, h0, _⟩ := fp_i3 h
    unfold fp_k
    rw [if_neg (fp_l0 h1 (by decide)), if_neg (by rw [h0]; decide), if_neg (by rw [h0]; decide), if_neg (by rw [h0]; decide), if_pos h]
theorem fp_k6 : fp_k w l = 6 ↔ isv4 w l 119 104 101 110 = 1 := by
  constructor
  · intro h
    unfold fp_k at h
    by_cases c0 : l = 0
    · rw [if_pos c0] at h
      exact absurd h (by decide)
    rw [if_neg c0] at h
    by_cases c1 : w 0 = 40
    · rw [if_pos c1] at h
      exact absurd h (by decide)
    rw [if_neg c1] at h
    by_cases c2 : w 0 = 41
    · rw [if_pos c2] at h
      exact absurd h (by decide)
    rw [if_neg c2] at h
    by_cases c3 : w 0 = 59
    · rw [if_pos c3] at h
      exact absurd h (by decide)
    rw [if_neg c3] at h
    by_cases c4 : isv3 w l 98 97 114 = 1
    · rw [if_pos c4] at h
      exact absurd h (by decide)
    rw [if_neg c4] at h
    by_cases c5 : isv4 w l 119 104 101 110 = 1
    · exact c5
    rw [if_neg c5] at h
    by_cases c6 : isv3 w l 102 111 114 = 1
    · rw [if_pos c6] at h
      exact absurd h (by decide)
    rw [if_neg c6] at h
    by_cases c7 : isv7 w l 108 97 116 99 104 101 100 = 1
    · rw [if_pos c7] at h
      exact absurd h (by decide)
    rw [if_neg c7] at h
    by_cases c8 : isv2 w l 111 114 = 1
    · rw [if_pos c8] at h
      exact absurd h (by decide)
    rw [if_neg c8] at h
    by_cases c9 : isv3 w l 97 110 100 = 1
    · rw [if_pos c9] at h
      exact absurd h (by decide)
    rw [if_neg c9] at h
    by_cases c10 : isv3 w l 110 111 116 = 1
    · rw [if_pos c10] at h
      exact absurd h (by decide)
    rw [if_neg c10] at h
    by_cases c11 : w 0 = 97
    · rw [if_pos c11] at h
      by_cases d11 : fp_nu w l 1 31 = -1
      · rw [if_pos d11] at h
        exact absurd h (by decide)
      · rw [if_neg d11] at h
        exact absurd h (by decide)
    rw [if_neg c11] at h
    by_cases c12 : w 0 = 99
    · rw [if_pos c12] at h
      by_cases d12 : fp_nu w l 1 15 = -1
      · rw [if_pos d12] at h
        exact absurd h (by decide)
      · rw [if_neg d12] at h
        exact absurd h (by decide)
    rw [if_neg c12] at h
    by_cases d13 : fp_nu w l 0 3600 = -1
    · rw [if_pos d13] at h
      exact absurd h (by decide)
    · rw [if_neg d13] at h
      exact absurd h (by decide)
  · intro h
    obtain ⟨h1, h0, _⟩ := fp_i4 h
    unfold fp_k
    rw [if_neg (fp_l0 h1 (by decide)), if_neg (by rw [h0]; decide), if_neg (by rw [h0]; decide), if_neg (by rw [h0]; decide), if_neg (fp_n3 (by rw [h0]; decide)), if_pos h]
theorem fp_k7 : fp_k w l = 7 ↔ isv3 w l 102 111 114 = 1 := by
  constructor
  · intro h
    unfold fp_k at h
    by_cases c0 : l = 0
    · rw [if_pos c0] at h
      exact absurd h (by decide)
    rw [if_neg c0] at h
    by_cases c1 : w 0 = 40
    · rw [if_pos c1] at h
      exact absurd h (by decide)
    rw [if_neg c1] at h
    by_cases c2 : w 0 = 41
    · rw [if_pos c2] at h
      exact absurd h (by decide)
    rw [if_neg c2] at h
    by_cases c3 : w 0 = 59
    · rw [if_pos c3] at h
      exact absurd h (by decide)
    rw [if_neg c3] at h
    by_cases c4 : isv3 w l 98 97 114 = 1
    · rw [if_pos c4] at h
      exact absurd h (by decide)
    rw [if_neg c4] at h
    by_cases c5 : isv4 w l 119 104 101 110 = 1
    · rw [if_pos c5] at h
      exact absurd h (by decide)
    rw [if_neg c5] at h
    by_cases c6 : isv3 w l 102 111 114 = 1
    · exact c6
    rw [if_neg c6] at h
    by_cases c7 : isv7 w l 108 97 116 99 104 101 100 = 1
    · rw [if_pos c7] at h
      exact absurd h (by decide)
    rw [if_neg c7] at h
    by_cases c8 : isv2 w l 111 114 = 1
    · rw [if_pos c8] at h
      exact absurd h (by decide)
    rw [if_neg c8] at h
    by_cases c9 : isv3 w l 97 110 100 = 1
    · rw [if_pos c9] at h
      exact absurd h (by decide)
    rw [if_neg c9] at h
    by_cases c10 : isv3 w l 110 111 116 = 1
    · rw [if_pos c10] at h
      exact absurd h (by decide)
    rw [if_neg c10] at h
    by_cases c11 : w 0 = 97
    · rw [if_pos c11] at h
      by_cases d11 : fp_nu w l 1 31 = -1
      · rw [if_pos d11] at h
        exact absurd h (by decide)
      · rw [if_neg d11] at h
        exact absurd h (by decide)
    rw [if_neg c11] at h
    by_cases c12 : w 0 = 99
    · rw [if_pos c12] at h
      by_cases d12 : fp_nu w l 1 15 = -1
      · rw [if_pos d12] at h
        exact absurd h (by decide)
      · rw [if_neg d12] at h
        exact absurd h (by decide)
    rw [if_neg c12] at h
    by_cases d13 : fp_nu w l 0 3600 = -1
    · rw [if_pos d13] at h
      exact absurd h (by decide)
    · rw [if_neg d13] at h
      exact absurd h (by decide)
  · intro h
    obtain ⟨h1, h0, _⟩ := fp_i3 h
    unfold fp_k
    rw [if_neg (fp_l0 h1 (by decide)), if_neg (by rw [h0]; decide), if_neg (by rw [h0]; decide), if_neg (by rw [h0]; decide), if_neg (fp_n3 (by rw [h0]; decide)), if_neg (fp_n4 (by rw [h0]; decide)), if_pos h]
theorem fp_k8 : fp_k w l = 8 ↔ isv7 w l 108 97 116 99 104 101 100 = 1 := by
  constructor
  · intro h
    unfold fp_k at h
    by_cases c0 : l = 0
    · rw [if_pos c0] at h
      exact absurd h (by decide)
    rw [if_neg c0] at h
    by_cases c1 : w 0 = 40
    · rw [if_pos c1] at h
      exact absurd h (by decide)
    rw [if_neg c1] at h
    by_cases c2 : w 0 = 41
    · rw [if_pos c2] at h
      exact absurd h (by decide)
    rw [if_neg c2] at h
    by_cases c3 : w 0 = 59
    · rw [if_pos c3] at h
      exact absurd h (by decide)
    rw [if_neg c3] at h
    by_cases c4 : isv3 w l 98 97 114 = 1
    · rw [if_pos c4] at h
      exact absurd h (by decide)
    rw [if_neg c4] at h
    by_cases c5 : isv4 w l 119 104 101 110 = 1
    · rw [if_pos c5] at h
      exact absurd h (by decide)
    rw [if_neg c5] at h
    by_cases c6 : isv3 w l 102 111 114 = 1
    · rw [if_pos c6] at h
      exact absurd h (by decide)
    rw [if_neg c6] at h
    by_cases c7 : isv7 w l 108 97 116 99 104 101 100 = 1
    · exact c7
    rw [if_neg c7] at h
    by_cases c8 : isv2 w l 111 114 = 1
    · rw [if_pos c8] at h
      exact absurd h (by decide)
    rw [if_neg c8] at h
    by_cases c9 : isv3 w l 97 110 100 = 1
    · rw [if_pos c9] at h
      exact absurd h (by decide)
    rw [if_neg c9] at h
    by_cases c10 : isv3 w l 110 111 116 = 1
    · rw [if_pos c10] at h
      exact absurd h (by decide)
    rw [if_neg c10] at h
    by_cases c11 : w 0 = 97
    · rw [if_pos c11] at h
      by_cases d11 : fp_nu w l 1 31 = -1
      · rw [if_pos d11] at h
        exact absurd h (by decide)
      · rw [if_neg d11] at h
        exact absurd h (by decide)
    rw [if_neg c11] at h
    by_cases c12 : w 0 = 99
    · rw [if_pos c12] at h
      by_cases d12 : fp_nu w l 1 15 = -1
      · rw [if_pos d12] at h
        exact absurd h (by decide)
      · rw [if_neg d12] at h
        exact absurd h (by decide)
    rw [if_neg c12] at h
    by_cases d13 : fp_nu w l 0 3600 = -1
    · rw [if_pos d13] at h
      exact absurd h (by decide)
    · rw [if_neg d13] at h
      exact absurd h (by decide)
  · intro h
    obtain ⟨h1, h0, _⟩ := fp_i7 h
    unfold fp_k
    rw [if_neg (fp_l0 h1 (by decide)), if_neg (by rw [h0]; decide), if_neg (by rw [h0]; decide), if_neg (by rw [h0]; decide), if_neg (fp_n3 (by rw [h0]; decide)), if_neg (fp_n4 (by rw [h0]; decide)), if_neg (fp_n3 (by rw [h0]; decide)), if_pos h]
theorem fp_k9 : fp_k w l = 9 ↔ isv2 w l 111 114 = 1 := by
  constructor
  · intro h
    unfold fp_k at h
    by_cases c0 : l = 0
    · rw [if_pos c0] at h
      exact absurd h (by decide)
    rw [if_neg c0] at h
    by_cases c1 : w 0 = 40
    · rw [if_pos c1] at h
      exact absurd h (by decide)
    rw [if_neg c1] at h
    by_cases c2 : w 0 = 41
    · rw [if_pos c2] at h
      exact absurd h (by decide)
    rw [if_neg c2] at h
    by_cases c3 : w 0 = 59
    · rw [if_pos c3] at h
      exact absurd h (by decide)
    rw [if_neg c3] at h
    by_cases c4 : isv3 w l 98 97 114 = 1
    · rw [if_pos c4] at h
      exact absurd h (by decide)
    rw [if_neg c4] at h
    by_cases c5 : isv4 w l 119 104 101 110 = 1
    · rw [if_pos c5] at h
      exact absurd h (by decide)
    rw [if_neg c5] at h
    by_cases c6 : isv3 w l 102 111 114 = 1
    · rw [if_pos c6] at h
      exact absurd h (by decide)
    rw [if_neg c6] at h
    by_cases c7 : isv7 w l 108 97 116 99 104 101 100 = 1
    · rw [if_pos c7] at h
      exact absurd h (by decide)
    rw [if_neg c7] at h
    by_cases c8 : isv2 w l 111 114 = 1
    · exact c8
    rw [if_neg c8] at h
    by_cases c9 : isv3 w l 97 110 100 = 1
    · rw [if_pos c9] at h
      exact absurd h (by decide)
    rw [if_neg c9] at h
    by_cases c10 : isv3 w l 110 111 116 = 1
    · rw [if_pos c10] at h
      exact absurd h (by decide)
    rw [if_neg c10] at h
    by_cases c11 : w 0 = 97
    · rw [if_pos c11] at h
      by_cases d11 : fp_nu w l 1 31 = -1
      · rw [if_pos d11] at h
        exact absurd h (by decide)
      · rw [if_neg d11] at h
        exact absurd h (by decide)
    rw [if_neg c11] at h
    by_cases c12 : w 0 = 99
    · rw [if_pos c12] at h
      by_cases d12 : fp_nu w l 1 15 = -1
      · rw [if_pos d12] at h
        exact absurd h (by decide)
      · rw [if_neg d12] at h
        exact absurd h (by decide)
    rw [if_neg c12] at h
    by_cases d13 : fp_nu w l 0 3600 = -1
    · rw [if_pos d13] at h
      exact absurd h (by decide)
    · rw [if_neg d13] at h
      exact absurd h (by decide)
  · intro h
    obtain ⟨h1, h0, _⟩ := fp_i2 h
    unfold fp_k
    rw [if_neg (fp_l0 h1 (by decide)), if_neg (by rw [h0]; decide), if_neg (by rw [h0]; decide), if_neg (by rw [h0]; decide), if_neg (fp_n3 (by rw [h0]; decide)), if_neg (fp_n4 (by rw [h0]; decide)), if_neg (fp_n3 (by rw [h0]; decide)), if_neg (fp_n7 (by rw [h0]; decide)), if_pos h]
theorem fp_k10 : fp_k w l = 10 ↔ isv3 w l 97 110 100 = 1 := by
  constructor
  · intro h
    unfold fp_k at h
    by_cases c0 : l = 0
    · rw [if_pos c0] at h
      exact absurd h (by decide)
    rw [if_neg c0] at h
    by_cases c1 : w 0 = 40
    · rw [if_pos c1] at h
      exact absurd h (by decide)
    rw [if_neg c1] at h
    by_cases c2 : w 0 = 41
    · rw [if_pos c2] at h
      exact absurd h (by decide)
    rw [if_neg c2] at h
    by_cases c3 : w 0 = 59
    · rw [if_pos c3] at h
      exact absurd h (by decide)
    rw [if_neg c3] at h
    by_cases c4 : isv3 w l 98 97 114 = 1
    · rw [if_pos c4] at h
      exact absurd h (by decide)
    rw [if_neg c4] at h
    by_cases c5 : isv4 w l 119 104 101 110 = 1
    · rw [if_pos c5] at h
      exact absurd h (by decide)
    rw [if_neg c5] at h
    by_cases c6 : isv3 w l 102 111 114 = 1
    · rw [if_pos c6] at h
      exact absurd h (by decide)
    rw [if_neg c6] at h
    by_cases c7 : isv7 w l 108 97 116 99 104 101 100 = 1
    · rw [if_pos c7] at h
      exact absurd h (by decide)
    rw [if_neg c7] at h
    by_cases c8 : isv2 w l 111 114 = 1
    · rw [if_pos c8] at h
      exact absurd h (by decide)
    rw [if_neg c8] at h
    by_cases c9 : isv3 w l 97 110 100 = 1
    · exact c9
    rw [if_neg c9] at h
    by_cases c10 : isv3 w l 110 111 116 = 1
    · rw [if_pos c10] at h
      exact absurd h (by decide)
    rw [if_neg c10] at h
    by_cases c11 : w 0 = 97
    · rw [if_pos c11] at h
      by_cases d11 : fp_nu w l 1 31 = -1
      · rw [if_pos d11] at h
        exact absurd h (by decide)
      · rw [if_neg d11] at h
        exact absurd h (by decide)
    rw [if_neg c11] at h
    by_cases c12 : w 0 = 99
    · rw [if_pos c12] at h
      by_cases d12 : fp_nu w l 1 15 = -1
      · rw [if_pos d12] at h
        exact absurd h (by decide)
      · rw [if_neg d12] at h
        exact absurd h (by decide)
    rw [if_neg c12] at h
    by_cases d13 : fp_nu w l 0 3600 = -1
    · rw [if_pos d13] at h
      exact absurd h (by decide)
    · rw [if_neg d13] at h
      exact absurd h (by decide)
  · intro h
    obtain ⟨h1, h0, _⟩ := fp_i3 h
    unfold fp_k
    rw [if_neg (fp_l0 h1 (by decide)), if_neg (by rw [h0]; decide), if_neg (by rw [h0]; decide), if_neg (by rw [h0]; decide), if_neg (fp_n3 (by rw [h0]; decide)), if_neg (fp_n4 (by rw [h0]; decide)), if_neg (fp_n3 (by rw [h0]; decide)), if_neg (fp_n7 (by rw [h0]; decide)), if_neg (fp_n2 (by rw [h0]; decide)), if_pos h]
theorem fp_k11 : fp_k w l = 11 ↔ isv3 w l 110 111 116 = 1 := by
  constructor
  · intro h
    unfold fp_k at h
    by_cases c0 : l = 0
    · rw [if_pos c0] at h
      exact absurd h (by decide)
    rw [if_neg c0] at h
    by_cases c1 : w 0 = 40
    · rw [if_pos c1] at h
      exact absurd h (by decide)
    rw [if_neg c1] at h
    by_cases c2 : w 0 = 41
    · rw [if_pos c2] at h
      exact absurd h (by decide)
    rw [if_neg c2] at h
    by_cases c3 : w 0 = 59
    · rw [if_pos c3] at h
      exact absurd h (by decide)
    rw [if_neg c3] at h
    by_cases c4 : isv3 w l 98 97 114 = 1
    · rw [if_pos c4] at h
      exact absurd h (by decide)
    rw [if_neg c4] at h
    by_cases c5 : isv4 w l 119 104 101 110 = 1
    · rw [if_pos c5] at h
      exact absurd h (by decide)
    rw [if_neg c5] at h
    by_cases c6 : isv3 w l 102 111 114 = 1
    · rw [if_pos c6] at h
      exact absurd h (by decide)
    rw [if_neg c6] at h
    by_cases c7 : isv7 w l 108 97 116 99 104 101 100 = 1
    · rw [if_pos c7] at h
      exact absurd h (by decide)
    rw [if_neg c7] at h
    by_cases c8 : isv2 w l 111 114 = 1
    · rw [if_pos c8] at h
      exact absurd h (by decide)
    rw [if_neg c8] at h
    by_cases c9 : isv3 w l 97 110 100 = 1
    · rw [if_pos c9] at h
      exact absurd h (by decide)
    rw [if_neg c9] at h
    by_cases c10 : isv3 w l 110 111 116 = 1
    · exact c10
    rw [if_neg c10] at h
    by_cases c11 : w 0 = 97
    · rw [if_pos c11] at h
      by_cases d11 : fp_nu w l 1 31 = -1
      · rw [if_pos d11] at h
        exact absurd h (by decide)
      · rw [if_neg d11] at h
        exact absurd h (by decide)
    rw [if_neg c11] at h
    by_cases c12 : w 0 = 99
    · rw [if_pos c12] at h
      by_cases d12 : fp_nu w l 1 15 = -1
      · rw [if_pos d12] at h
        exact absurd h (by decide)
      · rw [if_neg d12] at h
        exact absurd h (by decide)
    rw [if_neg c12] at h
    by_cases d13 : fp_nu w l 0 3600 = -1
    · rw [if_pos d13] at h
      exact absurd h (by decide)
    · rw [if_neg d13] at h
      exact absurd h (by decide)
  · intro h
    obtain ⟨h1, h0, _⟩ := fp_i3 h
    unfold fp_k
    rw [if_neg (fp_l0 h1 (by decide)), if_neg (by rw [h0]; decide), if_neg (by rw [h0]; decide), if_neg (by rw [h0]; decide), if_neg (fp_n3 (by rw [h0]; decide)), if_neg (fp_n4 (by rw [h0]; decide)), if_neg (fp_n3 (by rw [h0]; decide)), if_neg (fp_n7 (by rw [h0]; decide)), if_neg (fp_n2 (by rw [h0]; decide)), if_neg (fp_n3 (by rw [h0]; decide)), if_pos h]
/-- a word: a sign is alone; the empty one has no byte -/
def fp_wd (w : Nat → Int32) (l : Nat) : Prop := (fp_sg (w 0) → l = 1) ∧ (l = 0 → w 0 = 0)
theorem fp_k2 (hw : fp_wd w l) : fp_k w l = 2 ↔ isv1 w l 40 = 1 := by
  constructor
  · intro h
    unfold fp_k at h
    by_cases c0 : l = 0
    · rw [if_pos c0] at h
      exact absurd h (by decide)
    rw [if_neg c0] at h
    by_cases c1 : w 0 = 40
    · unfold isv1
      rw [if_pos ⟨by rw [hw.1 (Or.inl c1)]; rfl, c1⟩]
    rw [if_neg c1] at h
    by_cases c2 : w 0 = 41
    · rw [if_pos c2] at h
      exact absurd h (by decide)
    rw [if_neg c2] at h
    by_cases c3 : w 0 = 59
    · rw [if_pos c3] at h
      exact absurd h (by decide)
    rw [if_neg c3] at h
    by_cases c4 : isv3 w l 98 97 114 = 1
    · rw [if_pos c4] at h
      exact absurd h (by decide)
    rw [if_neg c4] at h
    by_cases c5 : isv4 w l 119 104 101 110 = 1
    · rw [if_pos c5] at h
      exact absurd h (by decide)
    rw [if_neg c5] at h
    by_cases c6 : isv3 w l 102 111 114 = 1
    · rw [if_pos c6] at h
      exact absurd h (by decide)
    rw [if_neg c6] at h
    by_cases c7 : isv7 w l 108 97 116 99 104 101 100 = 1
    · rw [if_pos c7] at h
      exact absurd h (by decide)
    rw [if_neg c7] at h
    by_cases c8 : isv2 w l 111 114 = 1
    · rw [if_pos c8] at h
      exact absurd h (by decide)
    rw [if_neg c8] at h
    by_cases c9 : isv3 w l 97 110 100 = 1
    · rw [if_pos c9] at h
      exact absurd h (by decide)
    rw [if_neg c9] at h
    by_cases c10 : isv3 w l 110 111 116 = 1
    · rw [if_pos c10] at h
      exact absurd h (by decide)
    rw [if_neg c10] at h
    by_cases c11 : w 0 = 97
    · rw [if_pos c11] at h
      by_cases d11 : fp_nu w l 1 31 = -1
      · rw [if_pos d11] at h
        exact absurd h (by decide)
      · rw [if_neg d11] at h
        exact absurd h (by decide)
    rw [if_neg c11] at h
    by_cases c12 : w 0 = 99
    · rw [if_pos c12] at h
      by_cases d12 : fp_nu w l 1 15 = -1
      · rw [if_pos d12] at h
        exact absurd h (by decide)
      · rw [if_neg d12] at h
        exact absurd h (by decide)
    rw [if_neg c12] at h
    by_cases d13 : fp_nu w l 0 3600 = -1
    · rw [if_pos d13] at h
      exact absurd h (by decide)
    · rw [if_neg d13] at h
      exact absurd h (by decide)
  · intro h
    obtain ⟨h1, h0⟩ := fp_i1 h
    unfold fp_k
    rw [if_neg (fp_l0 h1 (by decide)), if_pos h0]
theorem fp_k3 (hw : fp_wd w l) : fp_k w l = 3 ↔ isv1 w l 41 = 1 := by
  constructor
  · intro h
    unfold fp_k at h
    by_cases c0 : l = 0
    · rw [if_pos c0] at h
      exact absurd h (by decide)
    rw [if_neg c0] at h
    by_cases c1 : w 0 = 40
    · rw [if_pos c1] at h
      exact absurd h (by decide)
    rw [if_neg c1] at h
    by_cases c2 : w 0 = 41
    · unfold isv1
      rw [if_pos ⟨by rw [hw.1 (Or.inr (Or.inl c2))]; rfl, c2⟩]
    rw [if_neg c2] at h
    by_cases c3 : w 0 = 59
    · rw [if_pos c3] at h
      exact absurd h (by decide)
    rw [if_neg c3] at h
    by_cases c4 : isv3 w l 98 97 114 = 1
    · rw [if_pos c4] at h
      exact absurd h (by decide)
    rw [if_neg c4] at h
    by_cases c5 : isv4 w l 119 104 101 110 = 1
    · rw [if_pos c5] at h
      exact absurd h (by decide)
    rw [if_neg c5] at h
    by_cases c6 : isv3 w l 102 111 114 = 1
    · rw [if_pos c6] at h
      exact absurd h (by decide)
    rw [if_neg c6] at h
    by_cases c7 : isv7 w l 108 97 116 99 104 101 100 = 1
    · rw [if_pos c7] at h
      exact absurd h (by decide)
    rw [if_neg c7] at h
    by_cases c8 : isv2 w l 111 114 = 1
    · rw [if_pos c8] at h
      exact absurd h (by decide)
    rw [if_neg c8] at h
    by_cases c9 : isv3 w l 97 110 100 = 1
    · rw [if_pos c9] at h
      exact absurd h (by decide)
    rw [if_neg c9] at h
    by_cases c10 : isv3 w l 110 111 116 = 1
    · rw [if_pos c10] at h
      exact absurd h (by decide)
    rw [if_neg c10] at h
    by_cases c11 : w 0 = 97
    · rw [if_pos c11] at h
      by_cases d11 : fp_nu w l 1 31 = -1
      · rw [if_pos d11] at h
        exact absurd h (by decide)
      · rw [if_neg d11] at h
        exact absurd h (by decide)
    rw [if_neg c11] at h
    by_cases c12 : w 0 = 99
    · rw [if_pos c12] at h
      by_cases d12 : fp_nu w l 1 15 = -1
      · rw [if_pos d12] at h
        exact absurd h (by decide)
      · rw [if_neg d12] at h
        exact absurd h (by decide)
    rw [if_neg c12] at h
    by_cases d13 : fp_nu w l 0 3600 = -1
    · rw [if_pos d13] at h
      exact absurd h (by decide)
    · rw [if_neg d13] at h
      exact absurd h (by decide)
  · intro h
    obtain ⟨h1, h0⟩ := fp_i1 h
    unfold fp_k
    rw [if_neg (fp_l0 h1 (by decide)), if_neg (by rw [h0]; decide), if_pos h0]
theorem fp_k4 (hw : fp_wd w l) : fp_k w l = 4 ↔ isv1 w l 59 = 1 := by
  constructor
  · intro h
    unfold fp_k at h
    by_cases c0 : l = 0
    · rw [if_pos c0] at h
      exact absurd h (by decide)
    rw [if_neg c0] at h
    by_cases c1 : w 0 = 40
    · rw [if_pos c1] at h
      exact absurd h (by decide)
    rw [if_neg c1] at h
    by_cases c2 : w 0 = 41
    · rw [if_pos c2] at h
      exact absurd h (by decide)
    rw [if_neg c2] at h
    by_cases c3 : w 0 = 59
    · unfold isv1
      rw [if_pos ⟨by rw [hw.1 (Or.inr (Or.inr c3))]; rfl, c3⟩]
    rw [if_neg c3] at h
    by_cases c4 : isv3 w l 98 97 114 = 1
    · rw [if_pos c4] at h
      exact absurd h (by decide)
    rw [if_neg c4] at h
    by_cases c5 : isv4 w l 119 104 101 110 = 1
    · rw [if_pos c5] at h
      exact absurd h (by decide)
    rw [if_neg c5] at h
    by_cases c6 : isv3 w l 102 111 114 = 1
    · rw [if_pos c6] at h
      exact absurd h (by decide)
    rw [if_neg c6] at h
    by_cases c7 : isv7 w l 108 97 116 99 104 101 100 = 1
    · rw [if_pos c7] at h
      exact absurd h (by decide)
    rw [if_neg c7] at h
    by_cases c8 : isv2 w l 111 114 = 1
    · rw [if_pos c8] at h
      exact absurd h (by decide)
    rw [if_neg c8] at h
    by_cases c9 : isv3 w l 97 110 100 = 1
    · rw [if_pos c9] at h
      exact absurd h (by decide)
    rw [if_neg c9] at h
    by_cases c10 : isv3 w l 110 111 116 = 1
    · rw [if_pos c10] at h
      exact absurd h (by decide)
    rw [if_neg c10] at h
    by_cases c11 : w 0 = 97
    · rw [if_pos c11] at h
      by_cases d11 : fp_nu w l 1 31 = -1
      · rw [if_pos d11] at h
        exact absurd h (by decide)
      · rw [if_neg d11] at h
        exact absurd h (by decide)
    rw [if_neg c11] at h
    by_cases c12 : w 0 = 99
    · rw [if_pos c12] at h
      by_cases d12 : fp_nu w l 1 15 = -1
      · rw [if_pos d12] at h
        exact absurd h (by decide)
      · rw [if_neg d12] at h
        exact absurd h (by decide)
    rw [if_neg c12] at h
    by_cases d13 : fp_nu w l 0 3600 = -1
    · rw [if_pos d13] at h
      exact absurd h (by decide)
    · rw [if_neg d13] at h
      exact absurd h (by decide)
  · intro h
    obtain ⟨h1, h0⟩ := fp_i1 h
    unfold fp_k
    rw [if_neg (fp_l0 h1 (by decide)), if_neg (by rw [h0]; decide), if_neg (by rw [h0]; decide), if_pos h0]
theorem fp_act (hw : fp_wd w l) : (if w 0 = 97 then fp_nu w l 1 31 else -1) = if fp_k w l = 12 then fp_v w l else -1 := by
  by_cases h0 : w 0 = 97
  · have hl : ¬ l = 0 := fun q => absurd ((hw.2 q).symm.trans h0) (by decide)
    rw [if_pos h0]
    by_cases ha : isv3 w l 97 110 100 = 1
    · rw [if_neg (by rw [fp_k10.mpr ha]; decide)]
      obtain ⟨h1, _, h2, _⟩ := fp_i3 ha
      unfold fp_nu
      split
      · rfl
      · rename_i hq
        obtain ⟨f, hf⟩ : ∃ f, l - 1 = f + 1 := ⟨l - 2, by omega⟩
        rw [hf]
        exact fp_num_b (Or.inr (by rw [h2]; decide))
    · have e1 : fp_k w l = if fp_nu w l 1 31 = -1 then 1 else 12 := by
        unfold fp_k
        rw [if_neg hl, if_neg (by rw [h0]; decide), if_neg (by rw [h0]; decide), if_neg (by rw [h0]; decide), if_neg (fp_n3 (by rw [h0]; decide)), if_neg (fp_n4 (by rw [h0]; decide)), if_neg (fp_n3 (by rw [h0]; decide)), if_neg (fp_n7 (by rw [h0]; decide)), if_neg (fp_n2 (by rw [h0]; decide)), if_neg ha, if_neg (fp_n3 (by rw [h0]; decide)), if_pos h0]
      have e2 : fp_v w l = fp_nu w l 1 31 := by
        unfold fp_v
        rw [if_neg hl, if_neg (by rw [h0]; decide), if_neg (by rw [h0]; decide), if_neg (by rw [h0]; decide), if_neg (fp_n3 (by rw [h0]; decide)), if_neg (fp_n4 (by rw [h0]; decide)), if_neg (fp_n3 (by rw [h0]; decide)), if_neg (fp_n7 (by rw [h0]; decide)), if_neg (fp_n2 (by rw [h0]; decide)), if_neg ha, if_neg (fp_n3 (by rw [h0]; decide)), if_pos h0]
      rw [e1, e2]
      by_cases hn : fp_nu w l 1 31 = -1
      · rw [if_pos hn, hn, if_neg (by decide)]
      · rw [if_neg hn, if_pos rfl]
  · rw [if_neg h0, if_neg]
    intro h
    unfold fp_k at h
    by_cases c0 : l = 0
    · rw [if_pos c0] at h
      exact absurd h (by decide)
    rw [if_neg c0] at h
    by_cases c1 : w 0 = 40
    · rw [if_pos c1] at h
      exact absurd h (by decide)
    rw [if_neg c1] at h
    by_cases c2 : w 0 = 41
    · rw [if_pos c2] at h
      exact absurd h (by decide)
    rw [if_neg c2] at h
    by_cases c3 : w 0 = 59
    · rw [if_pos c3] at h
      exact absurd h (by decide)
    rw [if_neg c3] at h
    by_cases c4 : isv3 w l 98 97 114 = 1
    · rw [if_pos c4] at h
      exact absurd h (by decide)
    rw [if_neg c4] at h
    by_cases c5 : isv4 w l 119 104 101 110 = 1
    · rw [if_pos c5] at h
      exact absurd h (by decide)
    rw [if_neg c5] at h
    by_cases c6 : isv3 w l 102 111 114 = 1
    · rw [if_pos c6] at h
      exact absurd h (by decide)
    rw [if_neg c6] at h
    by_cases c7 : isv7 w l 108 97 116 99 104 101 100 = 1
    · rw [if_pos c7] at h
      exact absurd h (by decide)
    rw [if_neg c7] at h
    by_cases c8 : isv2 w l 111 114 = 1
    · rw [if_pos c8] at h
      exact absurd h (by decide)
    rw [if_neg c8] at h
    by_cases c9 : isv3 w l 97 110 100 = 1
    · rw [if_pos c9] at h
      exact absurd h (by decide)
    rw [if_neg c9] at h
    by_cases c10 : isv3 w l 110 111 116 = 1
    · rw [if_pos c10] at h
      exact absurd h (by decide)
    rw [if_neg c10] at h
    by_cases c11 : w 0 = 97
    · rw [if_pos c11] at h
      by_cases d11 : fp_nu w l 1 31 = -1
      · rw [if_pos d11] at h
        exact absurd h (by decide)
      · exact h0 c11
    rw [if_neg c11] at h
    by_cases c12 : w 0 = 99
    · rw [if_pos c12] at h
      by_cases d12 : fp_nu w l 1 15 = -1
      · rw [if_pos d12] at h
        exact absurd h (by decide)
      · rw [if_neg d12] at h
        exact absurd h (by decide)
    rw [if_neg c12] at h
    by_cases d13 : fp_nu w l 0 3600 = -1
    · rw [if_pos d13] at h
      exact absurd h (by decide)
    · rw [if_neg d13] at h
      exact absurd h (by decide)
theorem fp_cnd (hw : fp_wd w l) : (if w 0 = 99 then fp_nu w l 1 15 else -1) = if fp_k w l = 13 then fp_v w l else -1 := by
  by_cases h0 : w 0 = 99
  · have hl : ¬ l = 0 := fun q => absurd ((hw.2 q).symm.trans h0) (by decide)
    have e1 : fp_k w l = if fp_nu w l 1 15 = -1 then 1 else 13 := by
      unfold fp_k
      rw [if_neg hl, if_neg (by rw [h0]; decide), if_neg (by rw [h0]; decide), if_neg (by rw [h0]; decide), if_neg (fp_n3 (by rw [h0]; decide)), if_neg (fp_n4 (by rw [h0]; decide)), if_neg (fp_n3 (by rw [h0]; decide)), if_neg (fp_n7 (by rw [h0]; decide)), if_neg (fp_n2 (by rw [h0]; decide)), if_neg (fp_n3 (by rw [h0]; decide)), if_neg (fp_n3 (by rw [h0]; decide)), if_neg (by rw [h0]; decide), if_pos h0]
    have e2 : fp_v w l = fp_nu w l 1 15 := by
      unfold fp_v
      rw [if_neg hl, if_neg (by rw [h0]; decide), if_neg (by rw [h0]; decide), if_neg (by rw [h0]; decide), if_neg (fp_n3 (by rw [h0]; decide)), if_neg (fp_n4 (by rw [h0]; decide)), if_neg (fp_n3 (by rw [h0]; decide)), if_neg (fp_n7 (by rw [h0]; decide)), if_neg (fp_n2 (by rw [h0]; decide)), if_neg (fp_n3 (by rw [h0]; decide)), if_neg (fp_n3 (by rw [h0]; decide)), if_neg (by rw [h0]; decide), if_pos h0]
    rw [if_pos h0, e1, e2]
    by_cases hn : fp_nu w l 1 15 = -1
    · rw [if_pos hn, hn, if_neg (by decide)]
    · rw [if_neg hn, if_pos rfl]
  · rw [if_neg h0, if_neg]
    intro h
    unfold fp_k at h
    by_cases c0 : l = 0
    · rw [if_pos c0] at h
      exact absurd h (by decide)
    rw [if_neg c0] at h
    by_cases c1 : w 0 = 40
    · rw [if_pos c1] at h
      exact absurd h (by decide)
    rw [if_neg c1] at h
    by_cases c2 : w 0 = 41
    · rw [if_pos c2] at h
      exact absurd h (by decide)
    rw [if_neg c2] at h
    by_cases c3 : w 0 = 59
    · rw [if_pos c3] at h
      exact absurd h (by decide)
    rw [if_neg c3] at h
    by_cases c4 : isv3 w l 98 97 114 = 1
    · rw [if_pos c4] at h
      exact absurd h (by decide)
    rw [if_neg c4] at h
    by_cases c5 : isv4 w l 119 104 101 110 = 1
    · rw [if_pos c5] at h
      exact absurd h (by decide)
    rw [if_neg c5] at h
    by_cases c6 : isv3 w l 102 111 114 = 1
    · rw [if_pos c6] at h
      exact absurd h (by decide)
    rw [if_neg c6] at h
    by_cases c7 : isv7 w l 108 97 116 99 104 101 100 = 1
    · rw [if_pos c7] at h
      exact absurd h (by decide)
    rw [if_neg c7] at h
    by_cases c8 : isv2 w l 111 114 = 1
    · rw [if_pos c8] at h
      exact absurd h (by decide)
    rw [if_neg c8] at h
    by_cases c9 : isv3 w l 97 110 100 = 1
    · rw [if_pos c9] at h
      exact absurd h (by decide)
    rw [if_neg c9] at h
    by_cases c10 : isv3 w l 110 111 116 = 1
    · rw [if_pos c10] at h
      exact absurd h (by decide)
    rw [if_neg c10] at h
    by_cases c11 : w 0 = 97
    · rw [if_pos c11] at h
      by_cases d11 : fp_nu w l 1 31 = -1
      · rw [if_pos d11] at h
        exact absurd h (by decide)
      · rw [if_neg d11] at h
        exact absurd h (by decide)
    rw [if_neg c11] at h
    by_cases c12 : w 0 = 99
    · rw [if_pos c12] at h
      by_cases d12 : fp_nu w l 1 15 = -1
      · rw [if_pos d12] at h
        exact absurd h (by decide)
      · exact h0 c12
    rw [if_neg c12] at h
    by_cases d13 : fp_nu w l 0 3600 = -1
    · rw [if_pos d13] at h
      exact absurd h (by decide)
    · rw [if_neg d13] at h
      exact absurd h (by decide)
theorem fp_dn {x : Int32} (h1 : ¬ w 0 < 48) (h2 : ¬ 57 < w 0) (hx : x < 48 ∨ 57 < x) : ¬ w 0 = x := by
  intro e
  rw [e] at h1 h2
  rcases hx with h | h
  · exact h1 h
  · exact h2 h
theorem fp_nmb : fp_nu w l 0 3600 = if fp_k w l = 14 then fp_v w l else -1 := by
  by_cases hn : fp_nu w l 0 3600 = -1
  · rw [hn, if_neg]
    intro h
    unfold fp_k at h
    by_cases c0 : l = 0
    · rw [if_pos c0] at h
      exact absurd h (by decide)
    rw [if_neg c0] at h
    by_cases c1 : w 0 = 40
    · rw [if_pos c1] at h
      exact absurd h (by decide)
    rw [if_neg c1] at h
    by_cases c2 : w 0 = 41
    · rw [if_pos c2] at h
      exact absurd h (by decide)
    rw [if_neg c2] at h
    by_cases c3 : w 0 = 59
    · rw [if_pos c3] at h
      exact absurd h (by decide)
    rw [if_neg c3] at h
    by_cases c4 : isv3 w l 98 97 114 = 1
    · rw [if_pos c4] at h
      exact absurd h (by decide)
    rw [if_neg c4] at h
    by_cases c5 : isv4 w l 119 104 101 110 = 1
    · rw [if_pos c5] at h
      exact absurd h (by decide)
    rw [if_neg c5] at h
    by_cases c6 : isv3 w l 102 111 114 = 1
    · rw [if_pos c6] at h
      exact absurd h (by decide)
    rw [if_neg c6] at h
    by_cases c7 : isv7 w l 108 97 116 99 104 101 100 = 1
    · rw [if_pos c7] at h
      exact absurd h (by decide)
    rw [if_neg c7] at h
    by_cases c8 : isv2 w l 111 114 = 1
    · rw [if_pos c8] at h
      exact absurd h (by decide)
    rw [if_neg c8] at h
    by_cases c9 : isv3 w l 97 110 100 = 1
    · rw [if_pos c9] at h
      exact absurd h (by decide)
    rw [if_neg c9] at h
    by_cases c10 : isv3 w l 110 111 116 = 1
    · rw [if_pos c10] at h
      exact absurd h (by decide)
    rw [if_neg c10] at h
    by_cases c11 : w 0 = 97
    · rw [if_pos c11] at h
      by_cases d11 : fp_nu w l 1 31 = -1
      · rw [if_pos d11] at h
        exact absurd h (by decide)
      · rw [if_neg d11] at h
        exact absurd h (by decide)
    rw [if_neg c11] at h
    by_cases c12 : w 0 = 99
    · rw [if_pos c12] at h
      by_cases d12 : fp_nu w l 1 15 = -1
      · rw [if_pos d12] at h
        exact absurd h (by decide)
      · rw [if_neg d12] at h
        exact absurd h (by decide)
    rw [if_neg c12] at h
    by_cases d13 : fp_nu w l 0 3600 = -1
    · rw [if_pos d13] at h
      exact absurd h (by decide)
    · exact d13 hn
  · obtain ⟨g0, g1, g2⟩ := fp_nu_dig hn
    have q : ∀ x : Int32, (x < 48 ∨ 57 < x) → ¬ w 0 = x := fun x hx => fp_dn g1 g2 hx
    have hl : ¬ l = 0 := by omega
    have e1 : fp_k w l = 14 := by
      unfold fp_k
      rw [if_neg hl, if_neg (q 40 (by decide)), if_neg (q 41 (by decide)), if_neg (q 59 (by decide)), if_neg (fp_n3 (q 98 (by decide))), if_neg (fp_n4 (q 119 (by decide))), if_neg (fp_n3 (q 102 (by decide))), if_neg (fp_n7 (q 108 (by decide))), if_neg (fp_n2 (q 111 (by decide))), if_neg (fp_n3 (q 97 (by decide))), if_neg (fp_n3 (q 110 (by decide))), if_neg (q 97 (by decide)), if_neg (q 99 (by decide)), if_neg hn]
    have e2 : fp_v w l = fp_nu w l 0 3600 := by
      unfold fp_v
      rw [if_neg hl, if_neg (q 40 (by decide)), if_neg (q 41 (by decide)), if_neg (q 59 (by decide)), if_neg (fp_n3 (q 98 (by decide))), if_neg (fp_n4 (q 119 (by decide))), if_neg (fp_n3 (q 102 (by decide))), if_neg (fp_n7 (q 108 (by decide))), if_neg (fp_n2 (q 111 (by decide))), if_neg (fp_n3 (q 97 (by decide))), if_neg (fp_n3 (q 110 (by decide))), if_neg (q 97 (by decide)), if_neg (q 99 (by decide))]
    rw [e1, e2, if_pos rfl]
end Kinds
