
/-- the tree at n holds the places lo .. n: depth at most d, to the right at most rd -/
def tr (W F S : Nat → Int32) : Nat → Nat → Nat → Nat → Prop
  | 0, _, _, _ => False
  | d + 1, rd, lo, n => (lo = n ∧ ∃ c, c < 16 ∧ W n = nI c) ∨ (W n = 16 ∧ lo < n ∧ F n = nI (n - 1) ∧ tr W F S d rd lo (n - 1)) ∨ ((W n = 17 ∨ W n = 18) ∧ 0 < rd ∧ ∃ k, lo ≤ k ∧ k + 1 < n ∧ F n = nI k ∧ S n = nI (n - 1) ∧ tr W F S d rd lo k ∧ tr W F S d (rd - 1) (k + 1) (n - 1))
theorem tr_mono {W F S : Nat → Int32} : ∀ (d d' rd rd' lo n : Nat), d ≤ d' → rd ≤ rd' → tr W F S d rd lo n → tr W F S d' rd' lo n := by
  intro d
  induction d with
  | zero => intro d' rd rd' lo n _ _ h; exact h.elim
  | succ d ih =>
    intro d' rd rd' lo n h1 h2 h
    obtain ⟨d', rfl⟩ : ∃ k, d' = k + 1 := ⟨d' - 1, by omega⟩
    rcases h with h | h | h
    · exact Or.inl h
    · exact Or.inr (Or.inl ⟨h.1, h.2.1, h.2.2.1, ih d' rd rd' _ _ (by omega) h2 h.2.2.2⟩)
    · obtain ⟨a, b, k, c1, c2, c3, c4, c5, c6⟩ := h
      exact Or.inr (Or.inr ⟨a, by omega, k, c1, c2, c3, c4, ih d' rd rd' _ _ (by omega) h2 c5, ih d' (rd - 1) (rd' - 1) _ _ (by omega) (by omega) c6⟩)
theorem tr_congr {W F S W' F' S' : Nat → Int32} : ∀ (d rd lo n : Nat), (∀ j, lo ≤ j → j ≤ n → W' j = W j ∧ F' j = F j ∧ S' j = S j) → lo ≤ n → tr W F S d rd lo n → tr W' F' S' d rd lo n := by
  intro d
  induction d with
  | zero => intro rd lo n _ _ h; exact h.elim
  | succ d ih =>
    intro rd lo n hs hle h
    have hn := hs n hle (Nat.le_refl n)
    rcases h with h | h | h
    · exact Or.inl ⟨h.1, by rw [hn.1]; exact h.2⟩
    · exact Or.inr (Or.inl ⟨by rw [hn.1]; exact h.1, h.2.1, by rw [hn.2.1]; exact h.2.2.1, ih rd _ _ (fun j a b => hs j a (by omega)) (by omega) h.2.2.2⟩)
    · obtain ⟨a, b, k, c1, c2, c3, c4, c5, c6⟩ := h
      exact Or.inr (Or.inr ⟨by rw [hn.1]; exact a, b, k, c1, c2, by rw [hn.2.1]; exact c3, by rw [hn.2.2]; exact c4, ih rd _ _ (fun j a b => hs j a (by omega)) c1 c5, ih (rd - 1) _ _ (fun j a b => hs j (by omega) (by omega)) (by omega) c6⟩)
/-- the three arrays are as before, but for what is made from nd on in this half -/
def sm (W F S W' F' S' : Nat → Int32) (base nd : Nat) : Prop := ∀ j, (j < base + nd ∨ base + 3000 ≤ j) → W' j = W j ∧ F' j = F j ∧ S' j = S j
def pa_Q (rd wd base nx nd op : Nat) (W F S : Nat → Int32) (r : Int32) (nx2 op2 sd2 nd2 : Nat) (W2 F2 S2 : Nat → Int32) : Prop :=
  nx ≤ nx2 ∧ nx2 ≤ wd ∧ nd ≤ nd2 ∧ nd2 + nx ≤ nd + nx2 ∧ sd2 ≤ 32 ∧ op2 ≤ 20 ∧ sm W F S W2 F2 S2 base nd ∧ (r = -1 ∨ ∃ n, r = nI n ∧ n + 1 = base + nd2 ∧ nd < nd2 ∧ op2 = op ∧ tr W2 F2 S2 (nd2 - nd) rd (base + nd) n)
theorem pk_m1n {P : Prop} (h : ¬ (-1 : Int32) < 0) : P := absurd (by decide) h
section PaQ
variable {rd rd' wd base nx nd op : Nat} {W F S : Nat → Int32} {r x y : Int32} {n1 o1 s1 d1 n2 o2 s2 d2 : Nat} {Wa Fa Sa W2 F2 S2 : Nat → Int32}
theorem sm_rf : sm W F S W F S base nd := fun _ _ => ⟨rfl, rfl, rfl⟩
theorem sm_tr (h1 : sm W F S Wa Fa Sa base nd) (h2 : sm Wa Fa Sa W2 F2 S2 base d1) (h : nd ≤ d1) : sm W F S W2 F2 S2 base nd := fun j hj => by
  have a := h1 j hj
  have b := h2 j (by omega)
  exact ⟨b.1.trans a.1, b.2.1.trans a.2.1, b.2.2.trans a.2.2⟩
theorem sm_up {a b c : Int32} (h1 : sm W F S Wa Fa Sa base nd) (h : nd ≤ d1) (hd : d1 < 3000) : sm W F S (upd Wa (base + d1) a) (upd Fa (base + d1) b) (upd Sa (base + d1) c) base nd := fun j hj => by
  have q := h1 j hj
  have hne : j ≠ base + d1 := by omega
  rw [pk_un hne, pk_un hne, pk_un hne]
  exact q
theorem pa_Q.up (h : pa_Q rd wd base nx nd op W F S r n1 o1 s1 d1 Wa Fa Sa) (hr : rd ≤ rd') : pa_Q rd' wd base nx nd op W F S r n1 o1 s1 d1 Wa Fa Sa := by
  obtain ⟨a1, a2, a3, a4, a5, a6, a7, a8⟩ := h
  refine ⟨a1, a2, a3, a4, a5, a6, a7, a8.imp id ?_⟩
  rintro ⟨n, b1, b2, b3, b4, b5⟩
  exact ⟨n, b1, b2, b3, b4, tr_mono _ _ _ _ _ _ (Nat.le_refl _) hr b5⟩
theorem pa_Q.opn (h : pa_Q rd wd base nx nd op W F S r n1 o1 s1 d1 Wa Fa Sa) (hr : ¬ r < 0) : o1 = op := by
  rcases h.2.2.2.2.2.2.2 with rfl | ⟨n, b1, b2, b3, b4, b5⟩
  · exact pk_m1n hr
  · exact b4
theorem pa_Q.fail (h : pa_Q rd wd base nx nd op W F S x n1 o1 s1 d1 Wa Fa Sa) (hb : pa_Q rd' wd base (n1 + 1) d1 o1 Wa Fa Sa y n2 o2 s2 d2 W2 F2 S2) (_ : nd ≤ nx) : pa_Q rd wd base nx nd op W F S (-1) n2 o2 s2 d2 W2 F2 S2 := by
  obtain ⟨a1, a2, a3, a4, a5, a6, a7, a8⟩ := h
  obtain ⟨b1, b2, b3, b4, b5, b6, b7, b8⟩ := hb
  exact ⟨by omega, b2, by omega, by omega, b5, b6, sm_tr a7 b7 a3, Or.inl rfl⟩
theorem pa_Q.bin {wh : Int32} (h : pa_Q rd wd base nx nd op W F S x n1 o1 s1 d1 Wa Fa Sa) (hb : pa_Q rd' wd base (n1 + 1) d1 o1 Wa Fa Sa y n2 o2 s2 d2 W2 F2 S2) (hx : ¬ x < 0) (hy : 0 ≤ y) (hR : rd' + 1 ≤ rd) (hnd : nd ≤ nx) (hb0 : base ≤ 3000) (hwd : wd ≤ 512) (hwh : wh = 17 ∨ wh = 18) :
    pa_Q rd wd base nx nd op W F S (nI (base + d2)) n2 o2 s2 (d2 + 1) (upd W2 (base + d2) wh) (upd F2 (base + d2) x) (upd S2 (base + d2) y) := by
  obtain ⟨a1, a2, a3, a4, a5, a6, a7, a8⟩ := h
  obtain ⟨b1, b2, b3, b4, b5, b6, b7, b8⟩ := hb
  rcases a8 with rfl | ⟨n, p1, p2, p3, p4, p5⟩
  · exact pk_m1n hx
  rcases b8 with rfl | ⟨k, q1, q2, q3, q4, q5⟩
  · exact absurd hy (by decide)
  subst p1 q1
  refine ⟨by omega, b2, by omega, by omega, b5, b6, sm_up (sm_tr a7 b7 a3) (by omega) (by omega), Or.inr ⟨base + d2, rfl, by omega, by omega, by omega, ?_⟩⟩
  obtain ⟨z, hz⟩ : ∃ z, d2 + 1 - nd = z + 1 := ⟨d2 - nd, by omega⟩
  rw [hz]
  have hup : ∀ j, j < base + d2 → upd W2 (base + d2) wh j = W2 j ∧ upd F2 (base + d2) (nI n) j = F2 j ∧ upd S2 (base + d2) (nI k) j = S2 j := fun j hj => ⟨pk_un (by omega), pk_un (by omega), pk_un (by omega)⟩
  have e1 : base + d2 - 1 = k := by omega
  refine Or.inr (Or.inr ⟨by rw [pk_us]; exact hwh, by omega, n, by omega, by omega, pk_us, by rw [pk_us, e1], ?_, ?_⟩)
  · refine tr_mono (d1 - nd) z _ _ _ _ (by omega) (Nat.le_refl _) ?_
    refine tr_congr _ _ _ _ (fun j c1 c2 => ?_) (by omega) p5
    have u1 := hup j (by omega)
    have u2 := b7 j (Or.inl (by omega))
    exact ⟨u1.1.trans u2.1, u1.2.1.trans u2.2.1, u1.2.2.trans u2.2.2⟩
  · rw [e1, show n + 1 = base + d1 by omega]
    refine tr_mono (d2 - d1) z rd' _ _ _ (by omega) (by omega) ?_
    exact tr_congr _ _ _ _ (fun j c1 c2 => hup j (by omega)) (by omega) q5
theorem pa_none (h1 : nx ≤ wd) (h2 : s1 ≤ 32) (h3 : o1 ≤ 20) : pa_Q rd wd base nx nd op W F S (-1) nx o1 s1 nd W F S := ⟨Nat.le_refl _, h1, Nat.le_refl _, Nat.le_refl _, h2, h3, sm_rf, Or.inl rfl⟩
theorem pa_sub {o3 : Nat} (hb : pa_Q rd' wd base (nx + 1) nd o3 W F S y n2 o2 s2 d2 W2 F2 S2) : pa_Q rd wd base nx nd op W F S (-1) n2 o2 s2 d2 W2 F2 S2 := by
  obtain ⟨b1, b2, b3, b4, b5, b6, b7, b8⟩ := hb
  exact ⟨by omega, b2, b3, by omega, b5, b6, b7, Or.inl rfl⟩
theorem pa_not (hb : pa_Q rd' wd base (nx + 1) nd (op + 1) W F S y n2 o2 s2 d2 W2 F2 S2) (hy : ¬ y < 0) (hR : rd' ≤ rd) (hop : op ≤ 20) (hnd : nd ≤ nx) (hwd : wd ≤ 512) :
    pa_Q rd wd base nx nd op W F S (nI (base + d2)) n2 op s2 (d2 + 1) (upd W2 (base + d2) 16) (upd F2 (base + d2) y) (upd S2 (base + d2) (-1)) := by
  obtain ⟨b1, b2, b3, b4, b5, b6, b7, b8⟩ := hb
  rcases b8 with rfl | ⟨k, q1, q2, q3, q4, q5⟩
  · exact pk_m1n hy
  subst q1
  refine ⟨by omega, b2, by omega, by omega, b5, hop, sm_up b7 (by omega) (by omega), Or.inr ⟨base + d2, rfl, by omega, by omega, rfl, ?_⟩⟩
  obtain ⟨z, hz⟩ : ∃ z, d2 + 1 - nd = z + 1 := ⟨d2 - nd, by omega⟩
  rw [hz]
  have e1 : base + d2 - 1 = k := by omega
  refine Or.inr (Or.inl ⟨pk_us, by omega, by rw [pk_us, e1], ?_⟩)
  rw [e1]
  refine tr_mono (d2 - nd) z rd' _ _ _ (by omega) hR ?_
  exact tr_congr _ _ _ _ (fun j c1 c2 => ⟨pk_un (by omega), pk_un (by omega), pk_un (by omega)⟩) (by omega) q5
theorem pa_brk (hb : pa_Q rd' wd base (nx + 1) nd (op + 1) W F S y n2 o2 s2 d2 W2 F2 S2) (hy : ¬ y < 0) (hR : rd' ≤ rd) (hop : op ≤ 20) (hlt : n2 < wd) : pa_Q rd wd base nx nd op W F S y (n2 + 1) op s2 d2 W2 F2 S2 := by
  obtain ⟨b1, b2, b3, b4, b5, b6, b7, b8⟩ := hb
  rcases b8 with rfl | ⟨k, q1, q2, q3, q4, q5⟩
  · exact pk_m1n hy
  exact ⟨by omega, by omega, b3, by omega, b5, hop, b7, Or.inr ⟨k, q1, q2, q3, rfl, tr_mono _ _ _ _ _ _ (Nat.le_refl _) hR q5⟩⟩
theorem pa_leaf {c : Nat} {a b : Int32} (hc : c ≤ 15) (hlt : nx < wd) (hs : s1 < 32) (hop : op ≤ 20) (hnd : nd ≤ nx) (hwd : wd ≤ 512) : pa_Q rd wd base nx nd op W F S (nI (base + nd)) (nx + 1) op (s1 + 1) (nd + 1) (upd W (base + nd) (nI c)) (upd F (base + nd) a) (upd S (base + nd) b) := by
  refine ⟨by omega, by omega, by omega, by omega, by omega, hop, sm_up sm_rf (Nat.le_refl _) (by omega), Or.inr ⟨base + nd, rfl, by omega, by omega, rfl, ?_⟩⟩
  rw [show nd + 1 - nd = 0 + 1 by omega]
  exact Or.inl ⟨rfl, c, by omega, pk_us⟩
end PaQ
