/-- what a parse gives: where it stopped; the conditions that stand now and the code, where it is good -/
abbrev fp_R : Type := Nat × Option (Nat × List Int32)
def fp_leaf (K V : Nat → Int32) (i s : Nat) : fp_R := if K i = 13 ∧ s < 32 then (i + 1, some (s + 1, [V i])) else (i, none)
def fp_chain (K : Nat → Int32) (sub : Nat → Nat → fp_R) (jn oc : Int32) : Nat → fp_R → fp_R
  | 0, r => r
  | f + 1, r => match r.2 with
    | none => r
    | some sc => if K r.1 = jn then (match (sub (r.1 + 1) sc.1).2 with
      | none => ((sub (r.1 + 1) sc.1).1, none)
      | some sc2 => fp_chain K sub jn oc f ((sub (r.1 + 1) sc.1).1, some (sc2.1, sc.2 ++ sc2.2 ++ [oc]))) else r
def fp_and (K : Nat → Int32) (part : Nat → Nat → fp_R) (i s : Nat) : fp_R := fp_chain K part 10 17 32 (part i s)
def fp_or (K : Nat → Int32) (part : Nat → Nat → fp_R) (i s : Nat) : fp_R := fp_chain K (fp_and K part) 9 18 32 (fp_and K part i s)
def fp_not (r : fp_R) : fp_R := match r.2 with
  | none => r
  | some sc => (r.1, some (sc.1, sc.2 ++ [16]))
def fp_brk (K : Nat → Int32) (r : fp_R) : fp_R := match r.2 with
  | none => r
  | some sc => if K r.1 = 3 then (r.1 + 1, some sc) else (r.1, none)
def fp_part (K V : Nat → Int32) : Nat → Nat → Nat → fp_R
  | 0, i, s => if K i = 11 ∨ K i = 2 then (i, none) else fp_leaf K V i s
  | d + 1, i, s => if K i = 11 then fp_not (fp_part K V d (i + 1) s) else if K i = 2 then fp_brk K (fp_or K (fp_part K V d) (i + 1) s) else fp_leaf K V i s
section Chain
variable {K V : Nat → Int32} {sub : Nat → Nat → fp_R} {jn oc : Int32} {f i i2 s s2 d : Nat} {c c2 : List Int32}
theorem fp_chain_n : fp_chain K sub jn oc f (i, none) = (i, none) := by
  cases f with
  | zero => rfl
  | succ f => simp only [fp_chain]
theorem fp_chain_s (h : ¬ K i = jn) : fp_chain K sub jn oc f (i, some (s, c)) = (i, some (s, c)) := by
  cases f with
  | zero => rfl
  | succ f => simp only [fp_chain, if_neg h]
theorem fp_chain_f (h : K i = jn) (hs : sub (i + 1) s = (i2, none)) : fp_chain K sub jn oc (f + 1) (i, some (s, c)) = (i2, none) := by
  simp only [fp_chain, if_pos h, hs]
theorem fp_chain_g (h : K i = jn) (hs : sub (i + 1) s = (i2, some (s2, c2))) : fp_chain K sub jn oc (f + 1) (i, some (s, c)) = fp_chain K sub jn oc f (i2, some (s2, c ++ c2 ++ [oc])) := by
  simp only [fp_chain, if_pos h, hs]
theorem fp_part_0n (h : K i = 11 ∨ K i = 2) : fp_part K V 0 i s = (i, none) := by
  rw [fp_part, if_pos h]
theorem fp_part_n (h : K i = 11) : fp_part K V (d + 1) i s = fp_not (fp_part K V d (i + 1) s) := by
  rw [fp_part, if_pos h]
theorem fp_part_b (h : K i = 2) : fp_part K V (d + 1) i s = fp_brk K (fp_or K (fp_part K V d) (i + 1) s) := by
  rw [fp_part, if_neg (by rw [h]; decide), if_pos h]
theorem fp_part_l (h1 : ¬ K i = 11) (h2 : ¬ K i = 2) : fp_part K V d i s = fp_leaf K V i s := by
  cases d with
  | zero => rw [fp_part, if_neg (fun q => q.elim h1 h2)]
  | succ d => rw [fp_part, if_neg h1, if_neg h2]
/-- a parse goes on, within the words; each good one takes a condition and has no more code than words -/
def fp_G (n : Nat) (sub : Nat → Nat → fp_R) : Prop := ∀ i s, i ≤ n → s ≤ 32 → i ≤ (sub i s).1 ∧ (sub i s).1 ≤ n ∧ ∀ s2 c, (sub i s).2 = some (s2, c) → s < s2 ∧ s2 ≤ 32 ∧ i + c.length ≤ (sub i s).1 ∧ 0 < c.length
theorem fp_chain_G {n : Nat} (hK : ∀ i, ¬ K i = 0 → i < n) (hj : ¬ jn = 0) (hG : fp_G n sub) : ∀ (f : Nat) (r : fp_R), r.1 ≤ n → (∀ s c, r.2 = some (s, c) → s ≤ 32) → r.1 ≤ (fp_chain K sub jn oc f r).1 ∧ (fp_chain K sub jn oc f r).1 ≤ n ∧ ∀ s2 c2, (fp_chain K sub jn oc f r).2 = some (s2, c2) → ∃ s c, r.2 = some (s, c) ∧ s ≤ s2 ∧ s2 ≤ 32 ∧ c2.length + r.1 ≤ c.length + (fp_chain K sub jn oc f r).1 ∧ c.length ≤ c2.length := by
  intro f
  induction f with
  | zero =>
    intro r h1 h2
    exact ⟨Nat.le_refl _, h1, fun s2 c2 h => ⟨s2, c2, h, Nat.le_refl _, h2 _ _ h, Nat.le_refl _, Nat.le_refl _⟩⟩
  | succ f ih =>
    intro r h1 h2
    obtain ⟨i, o⟩ := r
    cases o with
    | none =>
      rw [fp_chain_n]
      exact ⟨Nat.le_refl _, h1, fun s2 c2 h => by cases h⟩
    | some sc =>
      obtain ⟨s, c⟩ := sc
      have hs := h2 s c rfl
      by_cases hk : K i = jn
      · have hi : i < n := hK i (by rw [hk]; exact hj)
        have g := hG (i + 1) s hi hs
        cases hq : sub (i + 1) s with
        | mk i2 o2 =>
          rw [hq] at g
          cases o2 with
          | none =>
            rw [fp_chain_f hk hq]
            refine ⟨?_, g.2.1, fun s2 c2 h => by cases h⟩
            have := g.1
            show i ≤ i2
            exact Nat.le_of_succ_le this
          | some sc2 =>
            obtain ⟨s3, c3⟩ := sc2
            obtain ⟨g1, g2, g3⟩ := g
            obtain ⟨g4, g5, g6, g7⟩ := g3 s3 c3 rfl
            rw [fp_chain_g hk hq]
            have g1' : i + 1 ≤ i2 := g1
            have g6' : i + 1 + c3.length ≤ i2 := g6
            obtain ⟨e1, e2, e3⟩ := ih (i2, some (s3, c ++ c3 ++ [oc])) g2 (fun s' c' h => by cases h; exact g5)
            have e1' : i2 ≤ (fp_chain K sub jn oc f (i2, some (s3, c ++ c3 ++ [oc]))).1 := e1
            refine ⟨by show i ≤ _; omega, e2, fun s2 c2 h => ?_⟩
            obtain ⟨s', c', k1, k2, k3, k4, k5⟩ := e3 s2 c2 h
            cases k1
            simp only [List.length_append, List.length_cons, List.length_nil] at k4 k5
            refine ⟨s, c, rfl, by omega, k3, ?_, by omega⟩
            show c2.length + i ≤ c.length + _
            have k4' : c2.length + i2 ≤ c.length + c3.length + 1 + (fp_chain K sub jn oc f (i2, some (s3, c ++ c3 ++ [oc]))).1 := k4
            omega
      · rw [fp_chain_s hk]
        exact ⟨Nat.le_refl _, h1, fun s2 c2 h => by cases h; exact ⟨s, c, rfl, Nat.le_refl _, hs, Nat.le_refl _, Nat.le_refl _⟩⟩
theorem fp_chain_G2 {n : Nat} (hK : ∀ i, ¬ K i = 0 → i < n) (hj : ¬ jn = 0) (hG : fp_G n sub) : fp_G n (fun i s => fp_chain K sub jn oc 32 (sub i s)) := by
  intro i s hi hs
  obtain ⟨g1, g2, g3⟩ := hG i s hi hs
  obtain ⟨e1, e2, e3⟩ := fp_chain_G (oc := oc) hK hj hG 32 (sub i s) g2 (fun s' c' h => (g3 s' c' h).2.1)
  refine ⟨Nat.le_trans g1 e1, e2, fun s2 c2 h => ?_⟩
  obtain ⟨s', c', k1, k2, k3, k4, k5⟩ := e3 s2 c2 h
  obtain ⟨q1, q2, q3, q4⟩ := g3 s' c' k1
  exact ⟨by omega, k3, by show i + c2.length ≤ (fp_chain K sub jn oc 32 (sub i s)).1; omega, by omega⟩
theorem fp_and_G {n : Nat} (hK : ∀ i, ¬ K i = 0 → i < n) (hG : fp_G n sub) : fp_G n (fp_and K sub) := fp_chain_G2 hK (by decide) hG
theorem fp_or_G {n : Nat} (hK : ∀ i, ¬ K i = 0 → i < n) (hG : fp_G n sub) : fp_G n (fp_or K sub) := fp_chain_G2 hK (by decide) (fp_and_G hK hG)
theorem fp_leaf_G {n : Nat} (hK : ∀ i, ¬ K i = 0 → i < n) : fp_G n (fp_leaf K V) := by
  intro i s hi hs
  unfold fp_leaf
  by_cases h : K i = 13 ∧ s < 32
  · have h2 : i < n := hK i (by rw [h.1]; decide)
    rw [if_pos h]
    exact ⟨Nat.le_succ _, h2, fun s2 c q => by cases q; exact ⟨Nat.lt_succ_self _, h.2, Nat.le_refl _, Nat.succ_pos _⟩⟩
  · rw [if_neg h]
    exact ⟨Nat.le_refl _, hi, fun s2 c q => by cases q⟩
theorem fp_part_G {n : Nat} (hK : ∀ i, ¬ K i = 0 → i < n) : ∀ d, fp_G n (fp_part K V d) := by
  intro d
  induction d with
  | zero =>
    intro i s hi hs
    by_cases h : K i = 11 ∨ K i = 2
    · rw [fp_part_0n h]
      exact ⟨Nat.le_refl _, hi, fun s2 c q => by cases q⟩
    · rw [fp_part_l (fun q => h (Or.inl q)) (fun q => h (Or.inr q))]
      exact fp_leaf_G hK i s hi hs
  | succ d ih =>
    intro i s hi hs
    by_cases h1 : K i = 11
    · rw [fp_part_n h1]
      have hlt : i < n := hK i (by rw [h1]; decide)
      have g := ih (i + 1) s hlt hs
      cases hq : fp_part K V d (i + 1) s with
      | mk i2 o2 =>
        rw [hq] at g
        cases o2 with
        | none => exact ⟨Nat.le_of_succ_le g.1, g.2.1, fun s2 c q => by cases q⟩
        | some sc =>
          obtain ⟨s3, c3⟩ := sc
          obtain ⟨g4, g5, g6, g7⟩ := g.2.2 s3 c3 rfl
          refine ⟨Nat.le_of_succ_le g.1, g.2.1, fun s2 c q => ?_⟩
          cases q
          have g6' : i + 1 + c3.length ≤ i2 := g6
          refine ⟨g4, g5, ?_, by show 0 < (c3 ++ [16]).length; rw [List.length_append]; omega⟩
          show i + (c3 ++ [16]).length ≤ i2
          rw [List.length_append]
          show i + (c3.length + 1) ≤ i2
          omega
    · by_cases h2 : K i = 2
      · rw [fp_part_b h2]
        have hlt : i < n := hK i (by rw [h2]; decide)
        have g := fp_or_G hK ih (i + 1) s hlt hs
        cases hq : fp_or K (fp_part K V d) (i + 1) s with
        | mk i2 o2 =>
          rw [hq] at g
          cases o2 with
          | none => exact ⟨Nat.le_of_succ_le g.1, g.2.1, fun s2 c q => by cases q⟩
          | some sc =>
            obtain ⟨s3, c3⟩ := sc
            obtain ⟨g4, g5, g6, g7⟩ := g.2.2 s3 c3 rfl
            have g1' : i + 1 ≤ i2 := g.1
            have g6' : i + 1 + c3.length ≤ i2 := g6
            have g2' : i2 ≤ n := g.2.1
            by_cases h3 : K i2 = 3
            · have hlt2 : i2 < n := hK i2 (by rw [h3]; decide)
              have e : fp_brk K (i2, some (s3, c3)) = (i2 + 1, some (s3, c3)) := by simp only [fp_brk, if_pos h3]
              rw [e]
              refine ⟨by show i ≤ i2 + 1; omega, hlt2, fun s2 c q => ?_⟩
              cases q
              exact ⟨g4, g5, by show i + c3.length ≤ i2 + 1; omega, g7⟩
            · have e : fp_brk K (i2, some (s3, c3)) = (i2, none) := by simp only [fp_brk, if_neg h3]
              rw [e]
              exact ⟨by show i ≤ i2; omega, g2', fun s2 c q => by cases q⟩
      · rw [fp_part_l h1 h2]
        exact fp_leaf_G hK i s hi hs
end Chain
/-- a row's acts -/
def fp_acts (K V : Nat → Int32) : Nat → Nat → List Int32 → Nat × List Int32
  | 0, i, a => (i, a)
  | f + 1, i, a => if K i = 12 ∧ a.length < 8 ∧ ¬ V i ∈ a then fp_acts K V f (i + 1) (a ++ [V i]) else (i, a)
def fp_for (K V : Nat → Int32) (i : Nat) : Nat × Option Int32 := if K i = 7 then (if K (i + 1) = 14 then (i + 1 + 1, some (V (i + 1))) else (i + 1, none)) else (i, some 0)
def fp_lat (K : Nat → Int32) (i : Nat) : Nat × Int32 := if K i = 8 then (i + 1, 1) else (i, 0)
/-- a row: acts, number, whether it may be latched, conditions, code -/
abbrev fp_row : Type := List Int32 × Int32 × Int32 × Nat × List Int32
def fp_rend (K : Nat → Int32) (a : List Int32) (s : Nat) (c : List Int32) (q : Nat × Option Int32) : Nat × Option fp_row := match q.2 with
  | none => (q.1, none)
  | some nu => if K (fp_lat K q.1).1 = 4 then ((fp_lat K q.1).1 + 1, some (a, nu, (fp_lat K q.1).2, s, c)) else ((fp_lat K q.1).1, none)
def fp_rmid (K V : Nat → Int32) (a : List Int32) (r : fp_R) : Nat × Option fp_row := match r.2 with
  | none => (r.1, none)
  | some sc => fp_rend K a sc.1 sc.2 (fp_for K V r.1)
def fp_rw (K V : Nat → Int32) (i : Nat) : Nat × Option fp_row :=
  if (fp_acts K V 8 (i + 1) []).2 = [] ∨ ¬ K (fp_acts K V 8 (i + 1) []).1 = 6 then ((fp_acts K V 8 (i + 1) []).1, none)
  else fp_rmid K V (fp_acts K V 8 (i + 1) []).2 (fp_or K (fp_part K V 20) ((fp_acts K V 8 (i + 1) []).1 + 1) 0)
def fp_text (K V : Nat → Int32) : Nat → Nat → List fp_row → Nat × Option (List fp_row)
  | 0, i, rs => (i, if K i = 0 then some rs else none)
  | f + 1, i, rs => if K i = 0 then (i, some rs) else if K i = 5 ∧ rs.length < 40 then (match (fp_rw K V i).2 with
    | none => ((fp_rw K V i).1, none)
    | some r => fp_text K V f (fp_rw K V i).1 (rs ++ [r])) else (i, none)
section Text
variable {K V : Nat → Int32} {f i i2 s : Nat} {a c : List Int32} {rs : List fp_row} {r : fp_row}
theorem fp_acts_s (h : ¬ (K i = 12 ∧ a.length < 8 ∧ ¬ V i ∈ a)) : fp_acts K V f i a = (i, a) := by
  cases f with
  | zero => rfl
  | succ f => rw [fp_acts, if_neg h]
theorem fp_acts_g (h : K i = 12 ∧ a.length < 8 ∧ ¬ V i ∈ a) : fp_acts K V (f + 1) i a = fp_acts K V f (i + 1) (a ++ [V i]) := by
  rw [fp_acts, if_pos h]
theorem fp_text_e (h : K i = 0) : fp_text K V f i rs = (i, some rs) := by
  cases f with
  | zero => rw [fp_text, if_pos h]
  | succ f => rw [fp_text, if_pos h]
theorem fp_text_x (h : ¬ K i = 0) (h2 : ¬ (K i = 5 ∧ rs.length < 40)) : fp_text K V f i rs = (i, none) := by
  cases f with
  | zero => rw [fp_text, if_neg h]
  | succ f => rw [fp_text, if_neg h, if_neg h2]
theorem fp_text_f (h : K i = 5 ∧ rs.length < 40) (hr : fp_rw K V i = (i2, none)) : fp_text K V (f + 1) i rs = (i2, none) := by
  rw [fp_text, if_neg (by rw [h.1]; decide), if_pos h, hr]
theorem fp_text_g (h : K i = 5 ∧ rs.length < 40) (hr : fp_rw K V i = (i2, some r)) : fp_text K V (f + 1) i rs = fp_text K V f i2 (rs ++ [r]) := by
  rw [fp_text, if_neg (by rw [h.1]; decide), if_pos h, hr]
end Text
/-- a text's words, their kinds and numbers -/
def fp_K (T : Nat → Int32) (len i : Nat) : Int32 := fp_k (fp_ww T (fp_ws T len 0) i) (fp_wl (fp_ws T len 0) i)
def fp_V (T : Nat → Int32) (len i : Nat) : Int32 := fp_v (fp_ww T (fp_ws T len 0) i) (fp_wl (fp_ws T len 0) i)
/-- a text, read -/
def fp_read (T : Nat → Int32) (len : Nat) : Nat × Option (List fp_row) := fp_text (fp_K T len) (fp_V T len) 41 0 []
theorem fp_ww_congr {T T' : Nat → Int32} {L : List (Nat × Nat)} {len j : Nat} (h : ∀ i, i < len → T' i = T i) (hL : ∀ p ∈ L, p.2 ≤ len) : fp_ww T' L j = fp_ww T L j := by
  funext i
  unfold fp_ww
  cases hq : L[j]? with
  | none => rfl
  | some p =>
    have h2 := hL p (List.mem_of_getElem? hq)
    show (if p.1 + i < p.2 then T' (p.1 + i) else 0) = (if p.1 + i < p.2 then T (p.1 + i) else 0)
    by_cases h3 : p.1 + i < p.2
    · rw [if_pos h3, if_pos h3, h _ (by omega)]
    · rw [if_neg h3, if_neg h3]
theorem fp_read_congr {T T' : Nat → Int32} {len : Nat} (h : ∀ i, i < len → T' i = T i) : fp_read T' len = fp_read T len := by
  have hk : fp_K T' len = fp_K T len := by
    funext i
    unfold fp_K
    rw [fp_ws_congr h len 0 (by omega), fp_ww_congr h (fun p hp => (fp_ws_ok len 0 (by omega) p hp).2.1)]
  have hv : fp_V T' len = fp_V T len := by
    funext i
    unfold fp_V
    rw [fp_ws_congr h len 0 (by omega), fp_ww_congr h (fun p hp => (fp_ws_ok len 0 (by omega) p hp).2.1)]
  unfold fp_read
  rw [hk, hv]
theorem fp_wd_ws {T : Nat → Int32} {len i : Nat} : fp_wd (fp_ww T (fp_ws T len 0) i) (fp_wl (fp_ws T len 0) i) := by
  cases hq : (fp_ws T len 0)[i]? with
  | none =>
    have h0 : fp_ww T (fp_ws T len 0) i 0 = 0 := by
      unfold fp_ww
      rw [hq]
    refine ⟨fun hs => ?_, fun _ => h0⟩
    rw [h0] at hs
    exact absurd hs (by decide)
  | some p =>
    obtain ⟨b, n⟩ := p
    obtain ⟨g1, g2, g3⟩ := fp_ws_ok (T := T) len 0 (by omega) _ (List.mem_of_getElem? hq)
    have g1' : b < n := g1
    have h0 : fp_ww T (fp_ws T len 0) i 0 = T b := by
      rw [fp_ww_s hq, if_pos (by omega)]
      rfl
    have h1 : fp_wl (fp_ws T len 0) i = n - b := fp_wl_s hq
    refine ⟨fun hs => ?_, fun hl => ?_⟩
    · rw [h0] at hs
      have g4 : n = b + 1 := g3 hs
      rw [h1]
      omega
    · rw [h1] at hl
      omega
theorem fp_k_0 {w : Nat → Int32} {l : Nat} : fp_k w l = 0 ↔ l = 0 := by
  constructor
  · intro h
    unfold fp_k at h
    by_cases c0 : l = 0
    · exact c0
    rw [if_neg c0] at h
    by_cases c1 : w 0 = 40
    · rw [if_pos c1] at h
      exact absurd h (by decide)
    rw [if_neg c1] at h
    by_cases c2 : w 0 = 41
    · rw [if_pos c2] at h
      exact absurd h (by decide)
    rw [if_neg c2] at h
    by_cases c3 : w 0 = 59
    · rw [if_pos c3] at h
      exact absurd h (by decide)
    rw [if_neg c3] at h
    by_cases c4 : isv3 w l 98 97 114 = 1
    · rw [if_pos c4] at h
      exact absurd h (by decide)
    rw [if_neg c4] at h
    by_cases c5 : isv4 w l 119 104 101 110 = 1
    · rw [if_pos c5] at h
      exact absurd h (by decide)
    rw [if_neg c5] at h
    by_cases c6 : isv3 w l 102 111 114 = 1
    · rw [if_pos c6] at h
      exact absurd h (by decide)
    rw [if_neg c6] at h
    by_cases c7 : isv7 w l 108 97 116 99 104 101 100 = 1
    · rw [if_pos c7] at h
      exact absurd h (by decide)
    rw [if_neg c7] at h
    by_cases c8 : isv2 w l 111 114 = 1
    · rw [if_pos c8] at h
      exact absurd h (by decide)
    rw [if_neg c8] at h
    by_cases c9 : isv3 w l 97 110 100 = 1
    · rw [if_pos c9] at h
      exact absurd h (by decide)
    rw [if_neg c9] at h
    by_cases c10 : isv3 w l 110 111 116 = 1
    · rw [if_pos c10] at h
      exact absurd h (by decide)
    rw [if_neg c10] at h
    by_cases c11 : w 0 = 97
    · rw [if_pos c11] at h
      by_cases d11 : fp_nu w l 1 31 = -1
      · rw [if_pos d11] at h
        exact absurd h (by decide)
      · rw [if_neg d11] at h
        exact absurd h (by decide)
    rw [if_neg c11] at h
    by_cases c12 : w 0 = 99
    · rw [if_pos c12] at h
      by_cases d12 : fp_nu w l 1 15 = -1
      · rw [if_pos d12] at h
        exact absurd h (by decide)
      · rw [if_neg d12] at h
        exact absurd h (by decide)
    rw [if_neg c12] at h
    by_cases d13 : fp_nu w l 0 3600 = -1
    · rw [if_pos d13] at h
      exact absurd h (by decide)
    · rw [if_neg d13] at h
      exact absurd h (by decide)
  · intro h
    unfold fp_k
    rw [if_pos h]
theorem fp_K_0 {T : Nat → Int32} {len i : Nat} : fp_K T len i = 0 ↔ (fp_ws T len 0).length ≤ i := by
  unfold fp_K
  rw [fp_k_0]
  constructor
  · intro h
    apply Nat.le_of_not_lt
    intro hi
    have hq := List.getElem?_eq_getElem hi
    have g := fp_ws_ok (T := T) len 0 (by omega) _ (List.mem_of_getElem? hq)
    rw [fp_wl_s (b := ((fp_ws T len 0)[i]).1) (n := ((fp_ws T len 0)[i]).2) hq] at h
    omega
  · intro h
    exact fp_wl_n h
