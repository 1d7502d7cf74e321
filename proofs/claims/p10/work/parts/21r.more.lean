theorem fp_m1n {P : Prop} (h : ¬ (-1 : Int32) < 0) : P := absurd (by decide) h
section Nu
variable {w : Nat → Int32} {l a mx : Nat}
theorem fp_nu_0 (h : l ≤ a) : fp_nu w l a mx = -1 := by
  unfold fp_nu
  rw [if_pos (Or.inl h)]
theorem fp_nu_z (h : w a = 48) (h2 : a + 1 < l) : fp_nu w l a mx = -1 := by
  unfold fp_nu
  rw [if_pos (Or.inr ⟨h, h2⟩)]
theorem fp_nu_s (h1 : ¬ l ≤ a) (h2 : ¬ (w a = 48 ∧ a + 1 < l)) : fp_nu w l a mx = fp_num w mx (l - a) a 0 := by
  unfold fp_nu
  rw [if_neg (fun q => q.elim h1 h2)]
end Nu
/-- the kinds and numbers of the words at their places -/
def mk_K (T : Nat → Int32) (Bn En : Nat → Nat) (wd i : Nat) : Int32 := fp_k (ww T Bn En wd i) (wl Bn En wd i)
def mk_V (T : Nat → Int32) (Bn En : Nat → Nat) (wd i : Nat) : Int32 := fp_v (ww T Bn En wd i) (wl Bn En wd i)
theorem mk_K_lt {T : Nat → Int32} {Bn En : Nat → Nat} {wd : Nat} : ∀ i, ¬ mk_K T Bn En wd i = 0 → i < wd := by
  intro i h
  apply Nat.lt_of_not_le
  intro hi
  apply h
  unfold mk_K
  exact fp_k_0.mpr (wl_ge hi)
theorem mk_K_at {T : Nat → Int32} {Bn En : Nat → Nat} {wd len : Nat} (h : fp_at (fp_ws T len 0) Bn En wd) : mk_K T Bn En wd = fp_K T len := by
  funext i
  unfold mk_K fp_K
  rw [fp_at_ww h, fp_at_wl h]
theorem mk_V_at {T : Nat → Int32} {Bn En : Nat → Nat} {wd len : Nat} (h : fp_at (fp_ws T len 0) Bn En wd) : mk_V T Bn En wd = fp_V T len := by
  funext i
  unfold mk_V fp_V
  rw [fp_at_ww h, fp_at_wl h]
theorem mk_wd {T : Nat → Int32} {Bn En : Nat → Nat} {wd len : Nat} (h : fp_at (fp_ws T len 0) Bn En wd) : ∀ i, fp_wd (ww T Bn En wd i) (wl Bn En wd i) := by
  intro i
  rw [fp_at_ww h, fp_at_wl h]
  exact fp_wd_ws
section Cut
variable {T : Nat → Int32} {len k k2 w : Nat} {Bn En : Nat → Nat} {b : Int32}
theorem fp_sg_of (h : ¬ (if b = 40 ∨ b = 41 ∨ b = 59 then (1 : Int32) else 0) = 0) : fp_sg b := by
  by_cases hs : b = 40 ∨ b = 41 ∨ b = 59
  · exact hs
  · rw [if_neg hs] at h
    exact absurd rfl h
theorem fp_sg_no (h : (if b = 40 ∨ b = 41 ∨ b = 59 then (1 : Int32) else 0) = 0) : ¬ fp_sg b := by
  intro hs
  rw [if_pos hs] at h
  exact absurd h (by decide)
/-- while a text is cut: the words so far, at w; the rest from k on -/
def fp_cu (T : Nat → Int32) (len k w : Nat) (Bn En : Nat → Nat) : Prop := (fp_ws T len 0).drop w = fp_ws T len k ∧ ∀ j, j < w → (fp_ws T len 0)[j]? = some (Bn j, En j)
theorem fp_cu_0 : fp_cu T len 0 0 Bn En := ⟨rfl, fun j hj => absurd hj (Nat.not_lt_zero _)⟩
theorem fp_cu_b (h : fp_cu T len k w Bn En) (hk : k < len) (hb : fp_bk (T k)) : fp_cu T len (k + 1) w Bn En := ⟨by rw [h.1, fp_ws_b hk hb], h.2⟩
theorem fp_cu_w (h : fp_cu T len k w Bn En) (hk : k < len) (hb : ¬ fp_bk (T k)) (he : fp_end T len k = k2) : fp_cu T len k2 (w + 1) (va_up Bn w k) (va_up En w k2) := by
  have h1 := h.1
  rw [fp_ws_w hk hb, he] at h1
  refine ⟨?_, fun j hj => ?_⟩
  · have h2 : ((fp_ws T len 0).drop w).tail = fp_ws T len k2 := by rw [h1]; rfl
    rw [List.tail_drop] at h2
    exact h2
  · by_cases e : j = w
    · subst e
      rw [va_up_self, va_up_self]
      have h2 : ((fp_ws T len 0).drop j)[0]? = some (k, k2) := by rw [h1]; rfl
      rw [List.getElem?_drop] at h2
      exact h2
    · rw [va_up_ne _ _ e, va_up_ne _ _ e]
      exact h.2 j (by omega)
theorem fp_cu_e (h : fp_cu T len k w Bn En) (hk : len ≤ k) : fp_at (fp_ws T len 0) Bn En w := by
  have h1 := h.1
  rw [fp_ws_e hk] at h1
  have h2 : (fp_ws T len 0).length ≤ w := List.drop_eq_nil_iff.mp h1
  refine ⟨?_, h.2⟩
  rcases Nat.eq_zero_or_pos w with rfl | hw
  · omega
  · obtain ⟨h3, _⟩ := List.getElem?_eq_some_iff.mp (h.2 (w - 1) (by omega))
    omega
/-- while a word is cut off -/
def fp_we (T : Nat → Int32) (len k k2 : Nat) : Prop := fp_end T len k = if fp_sg (T k) then k2 else fp_run T (len - k2) k2
theorem fp_we_0 (hb : ¬ fp_bk (T k)) : fp_we T len k (k + 1) := by
  unfold fp_we fp_end
  by_cases hs : fp_sg (T k)
  · rw [if_neg (fun q => q.2 hs), if_pos hs]
  · rw [if_pos ⟨hb, hs⟩, if_neg hs]
theorem fp_we_sg (h : fp_we T len k k2) (hs : fp_sg (T k)) : fp_end T len k = k2 := h.trans (if_pos hs)
theorem fp_we_len (h : fp_we T len k k2) (hs : ¬ fp_sg (T k)) (hk : len ≤ k2) : fp_end T len k = k2 := by
  have h1 := h.trans (if_neg hs)
  rw [show len - k2 = 0 by omega] at h1
  exact h1
theorem fp_we_stop (h : fp_we T len k k2) (hs : ¬ fp_sg (T k)) (hk : k2 < len) (hi : ¬ fp_in (T k2)) : fp_end T len k = k2 := by
  have h1 := h.trans (if_neg hs)
  obtain ⟨f, hf⟩ : ∃ f, len - k2 = f + 1 := ⟨len - k2 - 1, by omega⟩
  rw [hf, fp_run, if_neg hi] at h1
  exact h1
theorem fp_we_s (h : fp_we T len k k2) (hs : ¬ fp_sg (T k)) (hk : k2 < len) (hi : fp_in (T k2)) : fp_we T len k (k2 + 1) := by
  have h1 := h.trans (if_neg hs)
  obtain ⟨f, hf⟩ : ∃ f, len - k2 = f + 1 := ⟨len - k2 - 1, by omega⟩
  rw [hf, fp_run, if_pos hi] at h1
  unfold fp_we
  rw [if_neg hs, show len - (k2 + 1) = f by omega]
  exact h1
end Cut
section Yes
variable {w : Nat → Int32} {l : Nat} {a b c d e f g : Int32}
theorem fp_y1 (h : ¬ isv1 w l a = 0) : isv1 w l a = 1 := by
  unfold isv1 at h ⊢
  split at h
  · rename_i hc
    exact if_pos hc
  · exact absurd rfl h
theorem fp_y2 (h : ¬ isv2 w l a b = 0) : isv2 w l a b = 1 := by
  unfold isv2 at h ⊢
  split at h
  · rename_i hc
    exact if_pos hc
  · exact absurd rfl h
theorem fp_y3 (h : ¬ isv3 w l a b c = 0) : isv3 w l a b c = 1 := by
  unfold isv3 at h ⊢
  split at h
  · rename_i hc
    exact if_pos hc
  · exact absurd rfl h
theorem fp_y4 (h : ¬ isv4 w l a b c d = 0) : isv4 w l a b c d = 1 := by
  unfold isv4 at h ⊢
  split at h
  · rename_i hc
    exact if_pos hc
  · exact absurd rfl h
theorem fp_y7 (h : ¬ isv7 w l a b c d e f g = 0) : isv7 w l a b c d e f g = 1 := by
  unfold isv7 at h ⊢
  split at h
  · rename_i hc
    exact if_pos hc
  · exact absurd rfl h
theorem fp_01 {x : Int32} (h1 : x = 1) (h0 : x = 0) {P : Prop} : P := absurd (h1.symm.trans h0) (by decide)
end Yes
/-- code that lies in an array -/
def fp_seg (W : Nat → Int32) (b : Nat) (c : List Int32) : Prop := ∀ j x, c[j]? = some x → W (b + j) = x
section Seg
variable {W W' : Nat → Int32} {b n : Nat} {c c2 : List Int32} {x : Int32}
theorem fp_seg_nil : fp_seg W b [] := fun j x h => by simp at h
theorem fp_seg_app (h1 : fp_seg W b c) (h2 : fp_seg W (b + c.length) c2) : fp_seg W b (c ++ c2) := by
  intro j x h
  by_cases hj : j < c.length
  · rw [List.getElem?_append_left hj] at h
    exact h1 j x h
  · rw [List.getElem?_append_right (by omega)] at h
    have h3 := h2 _ _ h
    rw [show b + c.length + (j - c.length) = b + j by omega] at h3
    exact h3
theorem fp_seg_one (h : W b = x) : fp_seg W b [x] := by
  intro j y hy
  cases j with
  | zero => cases hy; exact h
  | succ j => simp at hy
theorem fp_seg_congr (h : fp_seg W b c) (hs : ∀ j, b ≤ j → j < b + c.length → W' j = W j) : fp_seg W' b c := by
  intro j x hx
  obtain ⟨hj, _⟩ := List.getElem?_eq_some_iff.mp hx
  rw [hs _ (by omega) (by omega)]
  exact h j x hx
theorem fp_seg_up (h : fp_seg W b c) (hn : b + c.length = n) : fp_seg (upd W n x) b (c ++ [x]) := by
  refine fp_seg_app (fp_seg_congr h (fun j h1 h2 => pk_un (by omega))) (fp_seg_one ?_)
  rw [hn]
  exact pk_us
end Seg
/-- what a parse of the reference gives, against the plain one -/
def fp_P (R : fp_R) (r : Int32) (n2 s2 base nd nd2 : Nat) (W2 : Nat → Int32) : Prop := (r = -1 ∧ R = (n2, none)) ∨ (¬ r < 0 ∧ ∃ c, R = (n2, some (s2, c)) ∧ nd + c.length = nd2 ∧ fp_seg W2 (base + nd) c)
def fp_Lp (K : Nat → Int32) (sub : Nat → Nat → fp_R) (jn oc : Int32) (R : fp_R) (x : Int32) (n1 s1 base nd d1 : Nat) (Wa : Nat → Int32) : Prop := (x = -1 ∧ R = (n1, none)) ∨ (¬ x < 0 ∧ ∃ f c, 33 ≤ f + s1 ∧ R = fp_chain K sub jn oc f (n1, some (s1, c)) ∧ nd + c.length = d1 ∧ fp_seg Wa (base + nd) c)
section Lp
variable {K V : Nat → Int32} {sub : Nat → Nat → fp_R} {jn oc : Int32} {R : fp_R} {x y r : Int32} {n nx sd n1 s1 n2 s2 base nd d1 d2 d e : Nat} {W Wa W2 : Nat → Int32}
theorem fp_Lp_0 (hG : fp_G n sub) (hi : nx ≤ n) (hs : sd ≤ 32) (h : fp_P (sub nx sd) r n1 s1 base nd d1 Wa) : fp_Lp K sub jn oc (fp_chain K sub jn oc 32 (sub nx sd)) r n1 s1 base nd d1 Wa := by
  rcases h with ⟨h1, h2⟩ | ⟨h1, c, h2, h3, h4⟩
  · exact Or.inl ⟨h1, by rw [h2, fp_chain_n]⟩
  · have g := (hG nx sd hi hs).2.2 s1 c (by rw [h2])
    exact Or.inr ⟨h1, 32, c, by omega, by rw [h2], h3, h4⟩
theorem fp_Lp_x (h : fp_Lp K sub jn oc R x n1 s1 base nd d1 Wa) (hk : x < 0 ∨ ¬ K n1 = jn) : fp_P R x n1 s1 base nd d1 Wa := by
  rcases h with h | ⟨h1, f, c, h2, h3, h4, h5⟩
  · exact Or.inl h
  · rcases hk with hk | hk
    · exact absurd hk h1
    · exact Or.inr ⟨h1, c, by rw [h3, fp_chain_s hk], h4, h5⟩
theorem fp_Lp_f (h : fp_Lp K sub jn oc R x n1 s1 base nd d1 Wa) (hx : ¬ x < 0) (hs1 : s1 ≤ 32) (hk : K n1 = jn) (hsub : fp_P (sub (n1 + 1) s1) y n2 s2 base d1 d2 W2) (hy : ¬ 0 ≤ y) : fp_Lp K sub jn oc R (-1) n2 s2 base nd d2 W2 := by
  rcases h with ⟨rfl, _⟩ | ⟨h1, f, c, h2, h3, h4, h5⟩
  · exact fp_m1n hx
  · rcases hsub with ⟨_, e1⟩ | ⟨q, _⟩
    · obtain ⟨f, rfl⟩ : ∃ k, f = k + 1 := ⟨f - 1, by omega⟩
      exact Or.inl ⟨rfl, by rw [h3, fp_chain_f hk e1]⟩
    · exact absurd (Int32.not_lt.mp q) hy
theorem fp_Lp_g (h : fp_Lp K sub jn oc R x n1 s1 base nd d1 Wa) (hx : ¬ x < 0) (hs1 : s1 ≤ 32) (hk : K n1 = jn) (hG : fp_G n sub) (hn : n1 < n) (hsub : fp_P (sub (n1 + 1) s1) y n2 s2 base d1 d2 W2) (hy : 0 ≤ y) (hb : base + d2 < 2 ^ 31) (hsm : ∀ j, j < base + d1 → W2 j = Wa j) : fp_Lp K sub jn oc R (nI (base + d2)) n2 s2 base nd (d2 + 1) (upd W2 (base + d2) oc) := by
  rcases h with ⟨rfl, _⟩ | ⟨h1, f, c, h2, h3, h4, h5⟩
  · exact fp_m1n hx
  · rcases hsub with ⟨rfl, _⟩ | ⟨q, c2, e1, e2, e3⟩
    · exact absurd hy (by decide)
    · obtain ⟨f, rfl⟩ : ∃ k, f = k + 1 := ⟨f - 1, by omega⟩
      have g := (hG (n1 + 1) s1 hn hs1).2.2 s2 c2 (by rw [e1])
      refine Or.inr ⟨nI_pos hb, f, c ++ c2 ++ [oc], by omega, by rw [h3, fp_chain_g hk e1], ?_, ?_⟩
      · simp only [List.length_append, List.length_cons, List.length_nil]
        omega
      · refine fp_seg_up (fp_seg_app (fp_seg_congr h5 (fun j a1 a2 => hsm j (by omega))) ?_) ?_
        · rw [show base + nd + c.length = base + d1 by omega]
          exact e3
        · rw [List.length_append]
          omega
theorem fp_P_max (hd : d = 0) (hk : K nx = 11 ∨ K nx = 2) : fp_P (fp_part K V d nx sd) (-1) nx s2 base nd d2 W := by
  subst hd
  exact Or.inl ⟨rfl, fp_part_0n hk⟩
theorem fp_P_notf (hd : d = e + 1) (hk : K nx = 11) (h : fp_P (fp_part K V e (nx + 1) sd) y n2 s2 base nd d2 W2) (hy : y < 0) : fp_P (fp_part K V d nx sd) (-1) n2 s2 base nd d2 W2 := by
  subst hd
  rcases h with ⟨_, h⟩ | ⟨q, _⟩
  · refine Or.inl ⟨rfl, ?_⟩
    rw [fp_part_n hk, h]
    rfl
  · exact absurd hy q
theorem fp_P_not (hd : d = e + 1) (hk : K nx = 11) (h : fp_P (fp_part K V e (nx + 1) sd) y n2 s2 base nd d2 W2) (hy : ¬ y < 0) (hb : base + d2 < 2 ^ 31) : fp_P (fp_part K V d nx sd) (nI (base + d2)) n2 s2 base nd (d2 + 1) (upd W2 (base + d2) 16) := by
  subst hd
  rcases h with ⟨rfl, _⟩ | ⟨q, c, h1, h2, h3⟩
  · exact fp_m1n hy
  · refine Or.inr ⟨nI_pos hb, c ++ [16], ?_, ?_, fp_seg_up h3 (by omega)⟩
    · rw [fp_part_n hk, h1]
      rfl
    · rw [List.length_append]
      show nd + (c.length + 1) = d2 + 1
      omega
theorem fp_P_brkf (hd : d = e + 1) (hk : K nx = 2) (h : fp_P (fp_or K (fp_part K V e) (nx + 1) sd) y n2 s2 base nd d2 W2) (hy : y < 0 ∨ ¬ K n2 = 3) : fp_P (fp_part K V d nx sd) (-1) n2 s2 base nd d2 W2 := by
  subst hd
  refine Or.inl ⟨rfl, ?_⟩
  rw [fp_part_b hk]
  rcases h with ⟨_, h⟩ | ⟨q, c, h1, h2, h3⟩
  · rw [h]
    rfl
  · rcases hy with hy | hy
    · exact absurd hy q
    · rw [h1]
      simp only [fp_brk, if_neg hy]
theorem fp_P_brk (hd : d = e + 1) (hk : K nx = 2) (h : fp_P (fp_or K (fp_part K V e) (nx + 1) sd) y n2 s2 base nd d2 W2) (hy : ¬ y < 0) (hc : K n2 = 3) : fp_P (fp_part K V d nx sd) y (n2 + 1) s2 base nd d2 W2 := by
  subst hd
  rcases h with ⟨rfl, _⟩ | ⟨q, c, h1, h2, h3⟩
  · exact fp_m1n hy
  · refine Or.inr ⟨q, c, ?_, h2, h3⟩
    rw [fp_part_b hk, h1]
    simp only [fp_brk, if_pos hc]
theorem fp_P_bad (h1 : ¬ K nx = 11) (h2 : ¬ K nx = 2) (h : ¬ (K nx = 13 ∧ sd < 32)) : fp_P (fp_part K V d nx sd) (-1) nx s2 base nd d2 W := by
  refine Or.inl ⟨rfl, ?_⟩
  rw [fp_part_l h1 h2]
  unfold fp_leaf
  rw [if_neg h]
theorem fp_P_leaf {v : Int32} (h1 : ¬ K nx = 11) (h2 : ¬ K nx = 2) (h : K nx = 13) (hs : sd < 32) (hv : V nx = v) (hb : base + nd < 2 ^ 31) : fp_P (fp_part K V d nx sd) (nI (base + nd)) (nx + 1) (sd + 1) base nd (nd + 1) (upd W (base + nd) v) := by
  refine Or.inr ⟨nI_pos hb, [v], ?_, rfl, fp_seg_one pk_us⟩
  rw [fp_part_l h1 h2]
  unfold fp_leaf
  rw [if_pos ⟨h, hs⟩, hv]
end Lp
