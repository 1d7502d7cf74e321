/-- one step of the class's stack machine: height and contents -/
def fp_jn (w : Int32) (x y : Int64) : Int64 := if w = 17 then x &&& y else x ||| y
def fp_ms (σ : Nat → Int64) (s : Nat × (Nat → Int64)) (w : Int32) : Nat × (Nat → Int64) :=
  if icd w = 0 then (if w = 16 ∧ 1 ≤ s.1 then (s.1, vp_updL s.2 (s.1 - 1) (s.2 (s.1 - 1) ^^^ (-1))) else if 2 ≤ s.1 then (s.1 - 1, vp_updL s.2 (s.1 - 2) (fp_jn w (s.2 (s.1 - 2)) (s.2 (s.1 - 1)))) else s)
  else if s.1 < 32 then (s.1 + 1, vp_updL s.2 s.1 (σ w.toNatClampNeg)) else s
def fp_mr (σ : Nat → Int64) (c : List Int32) (s : Nat × (Nat → Int64)) : Nat × (Nat → Int64) := c.foldl (fp_ms σ) s
def fp_bot (s : Nat × (Nat → Int64)) : Int64 := if 0 < s.1 then s.2 0 else 0
theorem fp_mr_app {σ : Nat → Int64} {c1 c2 : List Int32} {s : Nat × (Nat → Int64)} : fp_mr σ (c1 ++ c2) s = fp_mr σ c2 (fp_mr σ c1 s) := List.foldl_append
theorem fp_mr_one {σ : Nat → Int64} {w : Int32} {s : Nat × (Nat → Int64)} : fp_mr σ [w] s = fp_ms σ s w := rfl
theorem icd_lt {c : Nat} (h : c < 16) : icd (nI c) = 1 := by
  unfold icd
  rw [if_neg]
  intro q
  rcases q with q | q
  · exact nI_pos (by omega) q
  · exact q (nI_lt (b := 16) h (by decide))
/-- a leaf, counted -/
def fp_lc (c : List Int32) : Nat := (c.filter (fun w => icd w != 0)).length
theorem fp_lc_app {c1 c2 : List Int32} : fp_lc (c1 ++ c2) = fp_lc c1 + fp_lc c2 := by
  unfold fp_lc
  rw [List.filter_append, List.length_append]
theorem fp_seg_l {W : Nat → Int32} {b : Nat} {c c2 : List Int32} (h : fp_seg W b (c ++ c2)) : fp_seg W b c ∧ fp_seg W (b + c.length) c2 := by
  refine ⟨fun j x hx => ?_, fun j x hx => ?_⟩
  · obtain ⟨hj, _⟩ := List.getElem?_eq_some_iff.mp hx
    exact h j x (by rw [List.getElem?_append_left hj]; exact hx)
  · have h1 := h (c.length + j) x (by rw [List.getElem?_append_right (by omega), Nat.add_sub_cancel_left]; exact hx)
    rw [Nat.add_assoc]
    exact h1
/-- code of a length that lies in an array, cut in two -/
theorem fp_cut2 {c : List Int32} {k : Nat} (h : k ≤ c.length) : ∃ c1 c2, c = c1 ++ c2 ∧ c1.length = k := ⟨c.take k, c.drop k, (List.take_append_drop k c).symm, by rw [List.length_take]; omega⟩
theorem fp_one {c : List Int32} (h : c.length = 1) : ∃ w, c = [w] := by
  match c, h with
  | [w], _ => exact ⟨w, rfl⟩
theorem fp_lc_leaf {a : Nat} (ha : a < 16) : fp_lc [nI a] = 1 := by
  unfold fp_lc
  simp [List.filter_cons, icd_lt ha]
theorem fp_lc_pos {W F S : Nat → Int32} : ∀ (d rd lo n : Nat), tr W F S d rd lo n → ∀ c : List Int32, lo + c.length = n + 1 → fp_seg W lo c → 1 ≤ fp_lc c := by
  intro d
  induction d with
  | zero => intro rd lo n h; exact h.elim
  | succ d ih =>
    intro rd lo n h c hc hs
    rcases h with ⟨h1, a, ha, hW⟩ | ⟨hW, hlo, hF, hT⟩ | ⟨hW, hrd, k, hk1, hk2, hF, hS, hT1, hT2⟩
    · obtain ⟨w, rfl⟩ := fp_one (c := c) (by omega)
      have hw : w = nI a := by
        have h2 := hs 0 w rfl
        rw [Nat.add_zero, h1, hW] at h2
        exact h2.symm
      subst hw
      rw [fp_lc_leaf ha]
      omega
    · obtain ⟨c1, c2, rfl, hc1⟩ := fp_cut2 (c := c) (k := n - lo) (by omega)
      have h3 := ih rd lo (n - 1) hT c1 (by omega) (fp_seg_l hs).1
      rw [fp_lc_app]
      omega
    · obtain ⟨c1, c9, rfl, hc1⟩ := fp_cut2 (c := c) (k := k + 1 - lo) (by omega)
      have h3 := ih rd lo k hT1 c1 (by omega) (fp_seg_l hs).1
      rw [fp_lc_app]
      omega
theorem fp_mr_tr {W F S : Nat → Int32} {σ : Nat → Int64} : ∀ (d rd lo n : Nat), n < 2 ^ 31 → tr W F S d rd lo n → ∀ (c : List Int32) (s : Nat × (Nat → Int64)), lo + c.length = n + 1 → fp_seg W lo c → s.1 + fp_lc c ≤ 32 → (fp_mr σ c s).1 = s.1 + 1 ∧ (fp_mr σ c s).2 s.1 = fp_tv W F S σ d n ∧ ∀ j, j < s.1 → (fp_mr σ c s).2 j = s.2 j := by
  intro d
  induction d with
  | zero => intro rd lo n _ h; exact h.elim
  | succ d ih =>
    intro rd lo n hn h c s hc hs hl
    rcases h with ⟨h1, a, ha, hW⟩ | ⟨hW, hlo, hF, hT⟩ | ⟨hW, hrd, k, hk1, hk2, hF, hS, hT1, hT2⟩
    · obtain ⟨w, rfl⟩ := fp_one (c := c) (by omega)
      have hw : w = nI a := by
        have h2 := hs 0 w rfl
        rw [Nat.add_zero, h1, hW] at h2
        exact h2.symm
      subst hw
      have hlc : fp_lc [nI a] = 1 := fp_lc_leaf ha
      rw [hlc] at hl
      have e : fp_ms σ s (nI a) = (s.1 + 1, vp_updL s.2 s.1 (σ a)) := by
        unfold fp_ms
        rw [if_neg (by rw [icd_lt ha]; decide), if_pos (by omega), nI_clamp (by omega)]
      rw [fp_mr_one, e]
      refine ⟨rfl, ?_, fun j hj => pk_uLn (by omega)⟩
      show vp_updL s.2 s.1 (σ a) s.1 = _
      rw [pk_uLs]
      have q16 : ¬ nI a = 16 := cc_ne ha
      have q17 : ¬ nI a = 17 := fun q => by have := (nI_eq (a := a) (b := 17) (by omega) (by decide)).mp q; omega
      have q18 : ¬ nI a = 18 := fun q => by have := (nI_eq (a := a) (b := 18) (by omega) (by decide)).mp q; omega
      rw [fp_tv, hW, if_neg q16, if_neg q17, if_neg q18, nI_clamp (by omega)]
    · obtain ⟨c1, c2, rfl, hc1⟩ := fp_cut2 (c := c) (k := n - lo) (by omega)
      rw [List.length_append] at hc
      obtain ⟨w, rfl⟩ := fp_one (c := c2) (by omega)
      obtain ⟨hs1, hs2⟩ := fp_seg_l hs
      have hw : w = 16 := by
        have h2 := hs2 0 w rfl
        rw [Nat.add_zero, show lo + c1.length = n by omega, hW] at h2
        exact h2.symm
      subst hw
      rw [fp_lc_app] at hl
      obtain ⟨e1, e2, e3⟩ := ih rd lo (n - 1) (by omega) hT c1 s (by omega) hs1 (by omega)
      rw [fp_mr_app, fp_mr_one]
      have e : fp_ms σ (fp_mr σ c1 s) 16 = ((fp_mr σ c1 s).1, vp_updL (fp_mr σ c1 s).2 ((fp_mr σ c1 s).1 - 1) ((fp_mr σ c1 s).2 ((fp_mr σ c1 s).1 - 1) ^^^ (-1))) := by
        unfold fp_ms
        rw [if_pos (by decide), if_pos ⟨rfl, by omega⟩]
      rw [e]
      have e4 : (fp_mr σ c1 s).1 - 1 = s.1 := by omega
      refine ⟨e1, ?_, fun j hj => ?_⟩
      · show vp_updL (fp_mr σ c1 s).2 ((fp_mr σ c1 s).1 - 1) _ s.1 = _
        rw [e4, pk_uLs, e2, fp_tv, if_pos hW, hF, nI_clamp (by omega)]
      · show vp_updL (fp_mr σ c1 s).2 ((fp_mr σ c1 s).1 - 1) _ j = _
        rw [e4, pk_uLn (by omega)]
        exact e3 j hj
    · obtain ⟨c1, c9, rfl, hc1⟩ := fp_cut2 (c := c) (k := k + 1 - lo) (by omega)
      rw [List.length_append] at hc
      obtain ⟨c2, c3, rfl, hc2⟩ := fp_cut2 (c := c9) (k := n - (k + 1)) (by omega)
      rw [List.length_append] at hc
      obtain ⟨w, rfl⟩ := fp_one (c := c3) (by omega)
      obtain ⟨hs1, hs9⟩ := fp_seg_l hs
      obtain ⟨hs2, hs3⟩ := fp_seg_l hs9
      rw [show lo + c1.length = k + 1 by omega] at hs2 hs3
      have hw : w = W n := by
        have h2 := hs3 0 w rfl
        rw [Nat.add_zero, show k + 1 + c2.length = n by omega] at h2
        exact h2.symm
      subst hw
      rw [fp_lc_app, fp_lc_app] at hl
      obtain ⟨e1, e2, e3⟩ := ih rd lo k (by omega) hT1 c1 s (by omega) hs1 (by omega)
      obtain ⟨f1, f2, f3⟩ := ih (rd - 1) (k + 1) (n - 1) (by omega) hT2 c2 (fp_mr σ c1 s) (by omega) hs2 (by rw [e1]; have hl1 := fp_lc_pos _ _ _ _ hT1 c1 (by omega) hs1; omega)
      rw [fp_mr_app, fp_mr_app, fp_mr_one]
      rw [e1] at f1 f2 f3
      have hq : icd (W n) = 0 ∧ ¬ W n = 16 := by
        rcases hW with q | q <;> (rw [q]; decide)
      have e : fp_ms σ (fp_mr σ c2 (fp_mr σ c1 s)) (W n) = ((fp_mr σ c2 (fp_mr σ c1 s)).1 - 1, vp_updL (fp_mr σ c2 (fp_mr σ c1 s)).2 ((fp_mr σ c2 (fp_mr σ c1 s)).1 - 2) (fp_jn (W n) ((fp_mr σ c2 (fp_mr σ c1 s)).2 ((fp_mr σ c2 (fp_mr σ c1 s)).1 - 2)) ((fp_mr σ c2 (fp_mr σ c1 s)).2 ((fp_mr σ c2 (fp_mr σ c1 s)).1 - 1)))) := by
        unfold fp_ms
        rw [if_pos hq.1, if_neg (fun q => hq.2 q.1), if_pos (by omega)]
      rw [e, f1]
      refine ⟨by show s.1 + 1 + 1 - 1 = s.1 + 1; omega, ?_, fun j hj => ?_⟩
      · show vp_updL (fp_mr σ c2 (fp_mr σ c1 s)).2 (s.1 + 1 + 1 - 2) _ s.1 = _
        rw [show s.1 + 1 + 1 - 2 = s.1 by omega, show s.1 + 1 + 1 - 1 = s.1 + 1 by omega, pk_uLs, f2, f3 s.1 (by omega), e2]
        unfold fp_jn
        rcases hW with q | q
        · rw [q, if_pos rfl, fp_tv, q, if_neg (by decide), if_pos rfl, hF, hS, nI_clamp (by omega), nI_clamp (by omega)]
        · rw [q, if_neg (by decide), fp_tv, q, if_neg (by decide), if_neg (by decide), if_pos rfl, hF, hS, nI_clamp (by omega), nI_clamp (by omega)]
      · show vp_updL (fp_mr σ c2 (fp_mr σ c1 s)).2 (s.1 + 1 + 1 - 2) _ j = _
        rw [show s.1 + 1 + 1 - 2 = s.1 by omega, pk_uLn (by omega), f3 j (by omega)]
        exact e3 j hj

/-- lanes all alike: a condition's bit -/
def fp_ln (x : Int32) (σ : Nat → Int64) : Prop := ∀ j, j < 16 → σ j = if (x >>> (nI j &&& 31)) &&& 1 = 1 then -1 else 0
theorem fp_tv_vl {W F S : Nat → Int32} {x : Int32} {σ : Nat → Int64} (hσ : fp_ln x σ) : ∀ (d rd lo n : Nat), n < 2 ^ 31 → tr W F S d rd lo n → fp_tv W F S σ d n = if vl W F S x d n = 0 then 0 else -1 := by
  intro d
  induction d with
  | zero => intro rd lo n _ h; exact h.elim
  | succ d ih =>
    intro rd lo n hn h
    rcases h with ⟨h1, a, ha, hW⟩ | ⟨hW, hlo, hF, hT⟩ | ⟨hW, hrd, k, hk1, hk2, hF, hS, hT1, hT2⟩
    · have q16 : ¬ nI a = 16 := cc_ne ha
      have q17 : ¬ nI a = 17 := fun q => by have := (nI_eq (a := a) (b := 17) (by omega) (by decide)).mp q; omega
      have q18 : ¬ nI a = 18 := fun q => by have := (nI_eq (a := a) (b := 18) (by omega) (by decide)).mp q; omega
      rw [vl_leaf hW ha, fp_tv, hW, if_neg q16, if_neg q17, if_neg q18, nI_clamp (by omega), hσ a ha]
      by_cases hb : (x >>> (nI a &&& 31)) &&& 1 = 1
      · rw [if_pos hb, if_pos hb, if_neg (by decide)]
      · rw [if_neg hb, if_neg hb, if_pos rfl]
    · have e := ih rd lo (n - 1) (by omega) hT
      rw [vl_not hW hF (by omega), fp_tv, if_pos hW, hF, nI_clamp (by omega), e]
      by_cases hb : vl W F S x d (n - 1) = 0
      · rw [if_pos hb, if_pos hb, if_neg (by decide)]
        decide
      · rw [if_neg hb, if_neg hb, if_pos rfl]
        decide
    · have e1 := ih rd lo k (by omega) hT1
      have e2 := ih (rd - 1) (k + 1) (n - 1) (by omega) hT2
      rcases hW with q | q
      · rw [vl_and q hF hS (by omega) (by omega), fp_tv, if_neg (by rw [q]; decide), if_pos q, hF, hS, nI_clamp (by omega), nI_clamp (by omega), e1, e2]
        by_cases hb : vl W F S x d k = 0
        · rw [if_pos hb, if_pos hb, if_pos rfl]
          by_cases hb2 : vl W F S x d (n - 1) = 0
          · rw [if_pos hb2]
            decide
          · rw [if_neg hb2]
            decide
        · rw [if_neg hb, if_neg hb]
          by_cases hb2 : vl W F S x d (n - 1) = 0
          · rw [if_pos hb2, if_pos hb2, if_pos rfl]
            decide
          · rw [if_neg hb2, if_neg hb2, if_neg (by decide)]
            decide
      · rw [vl_or q hF hS (by omega) (by omega), fp_tv, if_neg (by rw [q]; decide), if_neg (by rw [q]; decide), if_pos q, hF, hS, nI_clamp (by omega), nI_clamp (by omega), e1, e2]
        by_cases hb : vl W F S x d k = 0
        · rw [if_pos hb, if_pos hb]
          by_cases hb2 : vl W F S x d (n - 1) = 0
          · rw [if_pos hb2, if_pos hb2, if_pos rfl]
            decide
          · rw [if_neg hb2, if_neg hb2, if_neg (by decide)]
            decide
        · rw [if_neg hb, if_neg hb]
          by_cases hb2 : vl W F S x d (n - 1) = 0
          · rw [if_pos hb2, if_neg (by decide)]
            decide
          · rw [if_neg hb2, if_neg (by decide)]
            decide
theorem fp_vl_fuel {W F S : Nat → Int32} {x : Int32} : ∀ (d d' rd lo n : Nat), n < 2 ^ 31 → d ≤ d' → tr W F S d rd lo n → vl W F S x d' n = vl W F S x d n := by
  intro d
  induction d with
  | zero => intro d' rd lo n _ _ h; exact h.elim
  | succ d ih =>
    intro d' rd lo n hn hd h
    obtain ⟨d', rfl⟩ : ∃ k, d' = k + 1 := ⟨d' - 1, by omega⟩
    rcases h with ⟨h1, a, ha, hW⟩ | ⟨hW, hlo, hF, hT⟩ | ⟨hW, hrd, k, hk1, hk2, hF, hS, hT1, hT2⟩
    · rw [vl_leaf hW ha, vl_leaf hW ha]
    · rw [vl_not hW hF (by omega), vl_not hW hF (by omega), ih d' rd lo (n - 1) (by omega) (by omega) hT]
    · have e1 := ih d' rd lo k (by omega) (by omega) hT1
      have e2 := ih d' (rd - 1) (k + 1) (n - 1) (by omega) (by omega) hT2
      rcases hW with q | q
      · rw [vl_and q hF hS (by omega) (by omega), vl_and q hF hS (by omega) (by omega), e1, e2]
      · rw [vl_or q hF hS (by omega) (by omega), vl_or q hF hS (by omega) (by omega), e1, e2]
section Ms
variable {σ : Nat → Int64} {tp : Nat} {gs : Nat → Int64} {w : Int32}
theorem fp_ms_p (h : ¬ icd w = 0) (ht : tp < 32) : fp_ms σ (tp, gs) w = (tp + 1, vp_updL gs tp (σ w.toNatClampNeg)) := by
  unfold fp_ms
  rw [if_neg h, if_pos ht]
theorem fp_ms_f (h : ¬ icd w = 0) (ht : ¬ tp < 32) : fp_ms σ (tp, gs) w = (tp, gs) := by
  unfold fp_ms
  rw [if_neg h, if_neg ht]
theorem fp_ms_n (h : icd w = 0) (hw : w = 16) (ht : 1 ≤ tp) : fp_ms σ (tp, gs) w = (tp, vp_updL gs (tp - 1) (gs (tp - 1) ^^^ (-1))) := by
  unfold fp_ms
  rw [if_pos h, if_pos ⟨hw, ht⟩]
theorem fp_ms_b (h : icd w = 0) (hn : ¬ (w = 16 ∧ 1 ≤ tp)) (ht : 2 ≤ tp) : fp_ms σ (tp, gs) w = (tp - 1, vp_updL gs (tp - 1 - 1) (fp_jn w (gs (tp - 1 - 1)) (gs (tp - 1)))) := by
  unfold fp_ms
  rw [if_pos h, if_neg hn, if_pos ht, show tp - 1 - 1 = tp - 2 by omega]
theorem fp_ms_z (h : icd w = 0) (hn : ¬ (w = 16 ∧ 1 ≤ tp)) (ht : ¬ 2 ≤ tp) : fp_ms σ (tp, gs) w = (tp, gs) := by
  unfold fp_ms
  rw [if_pos h, if_neg hn, if_neg ht]
theorem icd_16 (h : ¬ icd w = 0) : ¬ 16 ≤ w := by
  intro q
  apply h
  unfold icd
  rw [if_pos (Or.inr (Int32.not_lt.mpr q))]
theorem fp_take_s {c : List Int32} {k : Nat} (h : c[k]? = some w) : c.take (k + 1) = c.take k ++ [w] := by
  rw [List.take_succ, h]
  rfl
theorem fp_mr_s {c : List Int32} {k : Nat} {s : Nat × (Nat → Int64)} {tp2 : Nat} {gs2 : Nat → Int64} (h : c[k]? = some w) (hI : (tp, gs) = fp_mr σ (c.take k) s) (hm : fp_ms σ (tp, gs) w = (tp2, gs2)) : (tp2, gs2) = fp_mr σ (c.take (k + 1)) s := by
  rw [fp_take_s h, fp_mr_app, ← hI, fp_mr_one, hm]
theorem fp_eat {f : Nat → Int32} {sz i : Nat} (h : i < sz) (hl : sz < 2 ^ 31) : eat f sz (nI i) = f i := fp_bat h hl
end Ms
/-- a parse takes as many conditions as its code has leaves -/
def fp_H (sub : Nat → Nat → fp_R) : Prop := ∀ i s i2 s2 c, sub i s = (i2, some (s2, c)) → s2 = s + fp_lc c
section Hc
variable {K V : Nat → Int32} {sub : Nat → Nat → fp_R} {jn oc : Int32}
theorem fp_lc_op (h : icd oc = 0) : fp_lc [oc] = 0 := by
  unfold fp_lc
  simp [List.filter_cons, h]
theorem fp_chain_H (hoc : icd oc = 0) (hH : fp_H sub) : ∀ (f i s : Nat) (c : List Int32) (i2 s2 : Nat) (c2 : List Int32) (s0 : Nat), s = s0 + fp_lc c → fp_chain K sub jn oc f (i, some (s, c)) = (i2, some (s2, c2)) → s2 = s0 + fp_lc c2 := by
  intro f
  induction f with
  | zero =>
    intro i s c i2 s2 c2 s0 hs h
    have h1 : (i, some (s, c)) = (i2, some (s2, c2)) := h
    cases h1
    exact hs
  | succ f ih =>
    intro i s c i2 s2 c2 s0 hs h
    by_cases hk : K i = jn
    · cases hq : sub (i + 1) s with
      | mk i3 o =>
        cases o with
        | none =>
          rw [fp_chain_f hk hq] at h
          cases h
        | some sc =>
          obtain ⟨s3, c3⟩ := sc
          rw [fp_chain_g hk hq] at h
          have h3 := hH _ _ _ _ _ hq
          refine ih i3 s3 (c ++ c3 ++ [oc]) i2 s2 c2 s0 ?_ h
          rw [fp_lc_app, fp_lc_app, fp_lc_op hoc]
          omega
    · rw [fp_chain_s hk] at h
      cases h
      exact hs
theorem fp_chain_H2 (hoc : icd oc = 0) (hH : fp_H sub) : fp_H (fun i s => fp_chain K sub jn oc 32 (sub i s)) := by
  intro i s i2 s2 c h
  have h0 : fp_chain K sub jn oc 32 (sub i s) = (i2, some (s2, c)) := h
  cases hq : sub i s with
  | mk i3 o =>
    rw [hq] at h0
    cases o with
    | none =>
      rw [fp_chain_n] at h0
      cases h0
    | some sc =>
      obtain ⟨s3, c3⟩ := sc
      exact fp_chain_H hoc hH 32 i3 s3 c3 i2 s2 c s (hH _ _ _ _ _ hq) h0
theorem fp_and_H (hH : fp_H sub) : fp_H (fp_and K sub) := fp_chain_H2 (by decide) hH
theorem fp_or_H (hH : fp_H sub) : fp_H (fp_or K sub) := fp_chain_H2 (by decide) (fp_and_H hH)
theorem fp_leaf_H (hkr : fp_KVr K V) : fp_H (fp_leaf K V) := by
  intro i s i2 s2 c h
  unfold fp_leaf at h
  by_cases hk : K i = 13 ∧ s < 32
  · rw [if_pos hk] at h
    cases h
    obtain ⟨x, hx, hv⟩ := hkr.2.1 i hk.1
    rw [hv, fp_lc_leaf (by omega)]
  · rw [if_neg hk] at h
    cases h
theorem fp_part_H (hkr : fp_KVr K V) : ∀ d, fp_H (fp_part K V d) := by
  intro d
  induction d with
  | zero =>
    intro i s i2 s2 c h
    by_cases hk : K i = 11 ∨ K i = 2
    · rw [fp_part_0n hk] at h
      cases h
    · rw [fp_part_l (fun q => hk (Or.inl q)) (fun q => hk (Or.inr q))] at h
      exact fp_leaf_H hkr _ _ _ _ _ h
  | succ d ih =>
    intro i s i2 s2 c h
    by_cases h1 : K i = 11
    · rw [fp_part_n h1] at h
      cases hq : fp_part K V d (i + 1) s with
      | mk i3 o =>
        rw [hq] at h
        cases o with
        | none => cases h
        | some sc =>
          obtain ⟨s3, c3⟩ := sc
          have h2 : (i3, some (s3, c3 ++ [16])) = (i2, some (s2, c)) := h
          cases h2
          rw [fp_lc_app, fp_lc_op (by decide)]
          exact ih _ _ _ _ _ hq
    · by_cases h2 : K i = 2
      · rw [fp_part_b h2] at h
        cases hq : fp_or K (fp_part K V d) (i + 1) s with
        | mk i3 o =>
          rw [hq] at h
          cases o with
          | none => cases h
          | some sc =>
            obtain ⟨s3, c3⟩ := sc
            by_cases h3 : K i3 = 3
            · have e : fp_brk K (i3, some (s3, c3)) = (i3 + 1, some (s3, c3)) := by simp only [fp_brk, if_pos h3]
              rw [e] at h
              cases h
              exact fp_or_H ih _ _ _ _ _ hq
            · have e : fp_brk K (i3, some (s3, c3)) = (i3, none) := by simp only [fp_brk, if_neg h3]
              rw [e] at h
              cases h
      · rw [fp_part_l h1 h2] at h
        exact fp_leaf_H hkr _ _ _ _ _ h
/-- a row that was read: as many conditions as leaves, no more than 32 -/
theorem fp_rw_lc {n i i2 : Nat} {row : fp_row} (hK : ∀ i, ¬ K i = 0 → i < n) (hkr : fp_KVr K V) (h : fp_rw K V i = (i2, some row)) : row.2.2.2.1 = fp_lc row.2.2.2.2 ∧ row.2.2.2.1 ≤ 32 := by
  unfold fp_rw at h
  split at h
  · cases h
  · rename_i hc
    have h6 : K (fp_acts K V 8 (i + 1) []).1 = 6 := Decidable.byContradiction (fun q => hc (Or.inr q))
    have hlt : (fp_acts K V 8 (i + 1) []).1 < n := hK _ (by rw [h6]; decide)
    cases hq : fp_or K (fp_part K V 20) ((fp_acts K V 8 (i + 1) []).1 + 1) 0 with
    | mk i3 o =>
      rw [hq] at h
      cases o with
      | none => cases h
      | some sc =>
        obtain ⟨s3, c3⟩ := sc
        have h3 := fp_or_H (K := K) (fp_part_H hkr 20) _ _ _ _ _ hq
        have g := (fp_or_G hK (fp_part_G hK 20) ((fp_acts K V 8 (i + 1) []).1 + 1) 0 hlt (by decide)).2.2 s3 c3 (by rw [hq])
        rw [fp_rmid_s] at h
        unfold fp_rend at h
        split at h
        · cases h
        · split at h
          · cases h
            exact ⟨by show s3 = fp_lc c3; omega, g.2.1⟩
          · cases h
theorem fp_text_lc {n : Nat} (hK : ∀ i, ¬ K i = 0 → i < n) (hkr : fp_KVr K V) : ∀ (f i i2 : Nat) (rs rs2 : List fp_row), (∀ row ∈ rs, row.2.2.2.1 = fp_lc row.2.2.2.2 ∧ row.2.2.2.1 ≤ 32) → fp_text K V f i rs = (i2, some rs2) → ∀ row ∈ rs2, row.2.2.2.1 = fp_lc row.2.2.2.2 ∧ row.2.2.2.1 ≤ 32 := by
  intro f
  induction f with
  | zero =>
    intro i i2 rs rs2 hr h
    rw [fp_text] at h
    split at h
    · cases h
      exact hr
    · cases h
  | succ f ih =>
    intro i i2 rs rs2 hr h
    by_cases h0 : K i = 0
    · rw [fp_text_e h0] at h
      cases h
      exact hr
    · by_cases h5 : K i = 5 ∧ rs.length < 40
      · cases hq : fp_rw K V i with
        | mk i3 o =>
          cases o with
          | none =>
            rw [fp_text_f h5 hq] at h
            cases h
          | some r =>
            rw [fp_text_g h5 hq] at h
            refine ih i3 i2 (rs ++ [r]) rs2 (fun row hrow => ?_) h
            rcases List.mem_append.mp hrow with h9 | h9
            · exact hr row h9
            · rw [List.mem_singleton.mp h9]
              exact fp_rw_lc hK hkr hq
      · rw [fp_text_x h0 h5] at h
        cases h
end Hc
theorem fp_cmp0 {v : Int64} (h : lg_cmp v 0 = 0) : v = 0 := by
  unfold lg_cmp at h
  split at h
  · exact absurd h (by decide)
  · split at h
    · assumption
    · exact absurd h (by decide)
