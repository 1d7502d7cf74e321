theorem b_u1 {x : Int32} {j : Nat} (hj : j < 32) : ((x.toUInt32 >>> ((nI j).toUInt32 &&& Int32.toUInt32 31)).toInt32 &&& 1) = 0 ↔ bt x j = false := by
  have e0 : bt ((x.toUInt32 >>> ((nI j).toUInt32 &&& Int32.toUInt32 31)).toInt32) 0 = bt x j := by rw [b_ushr j hj, Nat.add_zero]
  constructor
  · intro h
    have h1 : bt (((x.toUInt32 >>> ((nI j).toUInt32 &&& Int32.toUInt32 31)).toInt32) &&& 1) 0 = bt 0 0 := by rw [h]
    rw [b_and, e0, bt1 0 (by omega), b_0] at h1
    simpa using h1
  · intro h
    apply b_ext
    intro i hi
    rw [b_and, bt1 i hi, b_0]
    by_cases e : i = 0
    · subst e
      rw [e0, h]
      rfl
    · rw [decide_eq_false e, Bool.and_false]
/-- the bits of a row's acts -/
def fp_bits (y : Int32) (al : List Int32) : Prop := ∀ j, j < 32 → (bt y j = true ↔ nI j ∈ al)
theorem fp_bits_0 : fp_bits 0 [] := fun j _ => by
  rw [b_0]
  exact ⟨(fun h => by cases h), (fun h => by cases h)⟩
theorem fp_bits_add {y : Int32} {al : List Int32} {x : Nat} (h : fp_bits y al) (hx : x < 32) : fp_bits (y ||| ((1 : Int32) <<< (nI x &&& 31))) (al ++ [nI x]) := by
  intro j hj
  rw [b_or, b_shl x hx 1 hj, Bool.or_eq_true, h j hj, List.mem_append, List.mem_singleton]
  have hq : (decide (x ≤ j) && bt 1 (j - x)) = true ↔ nI j = nI x := by
    rw [nI_eq (by omega) (by omega)]
    by_cases hxj : x ≤ j
    · rw [decide_eq_true hxj, Bool.true_and, bt1 _ (by omega), decide_eq_true_eq]
      omega
    · rw [decide_eq_false hxj, Bool.false_and]
      constructor
      · intro h9
        cases h9
      · intro h9
        omega
  rw [hq]
theorem fp_t1 {r : Int32} {P Q : Prop} (h : (r = 1 ∧ P) ∨ (r = 0 ∧ Q)) (hr : ¬ r = 0) : P := by
  rcases h with h | h
  · exact h.2
  · exact absurd h.1 hr
theorem fp_t0 {r : Int32} {P Q : Prop} (h : (r = 1 ∧ P) ∨ (r = 0 ∧ Q)) (hr : r = 0) : Q := by
  rcases h with h | h
  · exact absurd (h.1.symm.trans hr) (by decide)
  · exact h.2
theorem fp_t01 {r : Int32} {P Q : Prop} (h : (r = 1 ∧ P) ∨ (r = 0 ∧ Q)) : r = 0 ∨ r = 1 := h.elim (fun h => Or.inr h.1) (fun h => Or.inl h.1)
/-- the numbers of acts, conditions, numbers -/
def fp_KVr (K V : Nat → Int32) : Prop := (∀ j, K j = 12 → ∃ x, x ≤ 31 ∧ V j = nI x) ∧ (∀ j, K j = 13 → ∃ x, x ≤ 15 ∧ V j = nI x) ∧ (∀ j, K j = 14 → ∃ x, x ≤ 3600 ∧ V j = nI x)
theorem fp_x12 {w : Nat → Int32} {l : Nat} (h : fp_k w l = 12) : ∃ x, x ≤ 31 ∧ fp_v w l = nI x := by
  have hv : fp_v w l = fp_nu w l 1 31 := (fp_kv12 h).1
  have hn := fp_v12 h
  rcases fp_nu_r (w := w) (l := l) (a := 1) (mx := 31) with h1 | ⟨y, hy, h1⟩
  · exact absurd (hv.trans h1) hn
  · exact ⟨y, hy, hv.trans h1⟩
theorem fp_x13 {w : Nat → Int32} {l : Nat} (h : fp_k w l = 13) : ∃ x, x ≤ 15 ∧ fp_v w l = nI x := by
  have hv : fp_v w l = fp_nu w l 1 15 := (fp_kv13 h).1
  have hn := fp_v13 h
  rcases fp_nu_r (w := w) (l := l) (a := 1) (mx := 15) with h1 | ⟨y, hy, h1⟩
  · exact absurd (hv.trans h1) hn
  · exact ⟨y, hy, hv.trans h1⟩
theorem fp_x14 {w : Nat → Int32} {l : Nat} (h : fp_k w l = 14) : ∃ x, x ≤ 3600 ∧ fp_v w l = nI x := by
  have hv : fp_v w l = fp_nu w l 0 3600 := (fp_kv14 h).1
  have hn := fp_v14 h
  rcases fp_nu_r (w := w) (l := l) (a := 0) (mx := 3600) with h1 | ⟨y, hy, h1⟩
  · exact absurd (hv.trans h1) hn
  · exact ⟨y, hy, hv.trans h1⟩
theorem fp_KVr_of {f : Nat → Int32} {len : Nat} : fp_KVr (fp_K f len) (fp_V f len) := ⟨fun _ h => fp_x12 h, fun _ h => fp_x13 h, fun _ h => fp_x14 h⟩
theorem fp_nb15 {x : Nat} (h : x ≤ 15) : vp_nar .byte (nI x).toInt8.toInt32 = nI x := fp_nb ⟨x, by omega⟩
theorem fp_KV_lt {f1 f2 K V : Nat → Int32} {cnt : Nat} (h : fp_KV f1 f2 cnt K V) : ∀ i, ¬ K i = 0 → i < cnt := fun i hi => Nat.lt_of_not_le (fun q => hi ((h.2.1 i).mpr q))
theorem fp_takefor {K V : Nat → Int32} {ix i1 i2 cnt : Nat} {r : Int32} (h7 : K ix = 7) (e7 : i1 = ix + 1) (hc : i1 ≤ cnt) (h : (r = 1 ∧ K i1 = 14 ∧ i2 = i1 + 1 ∧ i2 ≤ cnt) ∨ (r = 0 ∧ ¬ K i1 = 14 ∧ i2 = i1)) : i2 ≤ cnt ∧ ((r = 1 ∧ fp_for K V ix = (i2, some (V i1))) ∨ (r = 0 ∧ fp_for K V ix = (i2, none))) := by
  subst e7
  rcases h with ⟨h1, h2, h3, h4⟩ | ⟨h1, h2, h3⟩
  · subst h3
    exact ⟨h4, Or.inl ⟨h1, fp_for_g h7 h2 rfl⟩⟩
  · subst h3
    exact ⟨hc, Or.inr ⟨h1, fp_for_f h7 h2⟩⟩
/-- what a parse of the class gives, against the plain one -/
def fp_C (R : fp_R) (r : Int32) (ix2 sd2 sz0 sz2 : Nat) (fc fc2 : Nat → Int32) (cnt n1 : Nat) : Prop := ix2 ≤ cnt ∧ sz2 ≤ n1 ∧ (∀ j, j < sz0 → fc2 j = fc j) ∧ ((r = 1 ∧ ∃ c, R = (ix2, some (sd2, c)) ∧ sz2 = sz0 + c.length ∧ fp_seg fc2 sz0 c) ∨ (r = 0 ∧ R = (ix2, none)))
/-- at the head of a chain's loop -/
def fp_CL (K : Nat → Int32) (sub : Nat → Nat → fp_R) (jn oc : Int32) (R : fp_R) (i ix ix1 sd1 sz0 sz1 : Nat) (fc fc1 : Nat → Int32) (cnt n1 : Nat) : Prop := ix1 ≤ cnt ∧ sz1 ≤ n1 ∧ sd1 ≤ 32 ∧ (∀ j, j < sz0 → fc1 j = fc j) ∧ ∃ c, R = fp_chain K sub jn oc (32 - i) (ix1, some (sd1, c)) ∧ sz1 = sz0 + c.length ∧ fp_seg fc1 sz0 c ∧ ix + c.length ≤ ix1
section CL
variable {K V : Nat → Int32} {sub : Nat → Nat → fp_R} {jn oc : Int32} {R : fp_R} {r r2 : Int32} {i ix ix1 ix2 sd sd1 sd2 sz0 sz1 sz2 sz3 cnt n1 d k m : Nat} {fc fc1 fc2 fc3 : Nat → Int32}
theorem fp_CL_0 (hG : fp_G cnt sub) (hi : ix ≤ cnt) (hs : sd ≤ 32) (h : fp_C (sub ix sd) r ix1 sd1 sz0 sz1 fc fc1 cnt n1) (hr : ¬ r = 0) : fp_CL K sub jn oc (fp_chain K sub jn oc 32 (sub ix sd)) 0 ix ix1 sd1 sz0 sz1 fc fc1 cnt n1 := by
  obtain ⟨h1, h2, h3, h4⟩ := h
  obtain ⟨c, e1, e2, e3⟩ := fp_t1 h4 hr
  have g := (hG ix sd hi hs).2.2 sd1 c (by rw [e1])
  rw [e1] at g
  exact ⟨h1, h2, g.2.1, h3, c, by rw [e1], e2, e3, g.2.2.1⟩
theorem fp_C_0 (h : fp_C (sub ix sd) r ix1 sd1 sz0 sz1 fc fc1 cnt n1) (hr : r = 0) : fp_C (fp_chain K sub jn oc 32 (sub ix sd)) 0 ix1 sd2 sz0 sz1 fc fc1 cnt n1 := by
  obtain ⟨h1, h2, h3, h4⟩ := h
  have e := fp_t0 h4 hr
  exact ⟨h1, h2, h3, Or.inr ⟨rfl, by rw [e, fp_chain_n]⟩⟩
theorem fp_CL_x (h : fp_CL K sub jn oc R i ix ix1 sd1 sz0 sz1 fc fc1 cnt n1) (hk : 32 ≤ i ∨ ¬ K ix1 = jn) : fp_C R 1 ix1 sd1 sz0 sz1 fc fc1 cnt n1 := by
  obtain ⟨h1, h2, h3, h4, c, e1, e2, e3, e4⟩ := h
  refine ⟨h1, h2, h4, Or.inl ⟨rfl, c, ?_, e2, e3⟩⟩
  rcases hk with hk | hk
  · rw [e1, show 32 - i = 0 by omega]
    rfl
  · rw [e1, fp_chain_s hk]
theorem fp_CL_f (h : fp_CL K sub jn oc R i ix ix1 sd1 sz0 sz1 fc fc1 cnt n1) (hi : i < 32) (hk : K ix1 = jn) (hs : fp_C (sub (ix1 + 1) sd1) r ix2 sd2 sz1 sz2 fc1 fc2 cnt n1) (hr : r = 0) : fp_C R 0 ix2 sd2 sz0 sz2 fc fc2 cnt n1 := by
  obtain ⟨h1, h2, h3, h4, c, e1, e2, e3, e4⟩ := h
  obtain ⟨g1, g2, g3, g4⟩ := hs
  have q := fp_t0 g4 hr
  obtain ⟨f, hf⟩ : ∃ f, 32 - i = f + 1 := ⟨31 - i, by omega⟩
  exact ⟨g1, g2, fun j hj => (g3 j (by omega)).trans (h4 j hj), Or.inr ⟨rfl, by rw [e1, hf, fp_chain_f hk q]⟩⟩
theorem fp_CL_room (hG : fp_G cnt sub) (h : fp_CL K sub jn oc R i ix ix1 sd1 sz0 sz1 fc fc1 cnt n1) (hlt : ix1 < cnt) (hc : sz0 ≤ ix) (hs : fp_C (sub (ix1 + 1) sd1) r ix2 sd2 sz1 sz2 fc1 fc2 cnt n1) (hr : ¬ r = 0) : sz2 < cnt := by
  obtain ⟨h1, h2, h3, h4, c, e1, e2, e3, e4⟩ := h
  obtain ⟨g1, g2, g3, g4⟩ := hs
  obtain ⟨c2, q1, q2, q3⟩ := fp_t1 g4 hr
  have g := (hG (ix1 + 1) sd1 hlt h3).2.2 sd2 c2 (by rw [q1])
  rw [q1] at g
  have g5 : ix1 + 1 + c2.length ≤ ix2 := g.2.2.1
  omega
theorem fp_CL_g (hG : fp_G cnt sub) (h : fp_CL K sub jn oc R i ix ix1 sd1 sz0 sz1 fc fc1 cnt n1) (hi : i < 32) (hlt : ix1 < cnt) (hk : K ix1 = jn) (hs : fp_C (sub (ix1 + 1) sd1) r ix2 sd2 sz1 sz2 fc1 fc2 cnt n1) (hr : ¬ r = 0) (hz : sz3 = sz2 + 1) (hf3 : fc3 = upd fc2 sz2 oc) (hn : sz3 ≤ n1) : fp_CL K sub jn oc R (i + 1) ix ix2 sd2 sz0 sz3 fc fc3 cnt n1 := by
  obtain ⟨h1, h2, h3, h4, c, e1, e2, e3, e4⟩ := h
  obtain ⟨g1, g2, g3, g4⟩ := hs
  obtain ⟨c2, q1, q2, q3⟩ := fp_t1 g4 hr
  have g := (hG (ix1 + 1) sd1 hlt h3).2.2 sd2 c2 (by rw [q1])
  rw [q1] at g
  have g5 : ix1 + 1 + c2.length ≤ ix2 := g.2.2.1
  obtain ⟨f, hf⟩ : ∃ f, 32 - i = f + 1 := ⟨31 - i, by omega⟩
  subst hz hf3
  refine ⟨g1, hn, g.2.1, fun j hj => ?_, c ++ c2 ++ [oc], ?_, ?_, ?_, ?_⟩
  · rw [pk_un (by omega)]
    exact (g3 j (by omega)).trans (h4 j hj)
  · rw [e1, hf, fp_chain_g hk q1, show 32 - (i + 1) = f by omega]
  · simp only [List.length_append, List.length_cons, List.length_nil]
    omega
  · refine fp_seg_up (fp_seg_app (fp_seg_congr e3 (fun j a1 a2 => g3 j (by omega))) ?_) ?_
    · rw [← e2]
      exact q3
    · rw [List.length_append]
      omega
  · simp only [List.length_append, List.length_cons, List.length_nil]
    omega
theorem fp_C_leaf0 (h : ¬ (K ix = 13 ∧ sd < 32)) (h1 : ix ≤ cnt) (h2 : sz0 ≤ n1) : fp_C (fp_leaf K V ix sd) 0 ix sd2 sz0 sz0 fc fc cnt n1 := ⟨h1, h2, fun _ _ => rfl, Or.inr ⟨rfl, if_neg h⟩⟩
theorem fp_C_leaf {v : Int32} (h : K ix = 13) (hs : sd < 32) (hv : V ix = v) (h1 : ix + 1 ≤ cnt) (h2 : sz0 + 1 ≤ n1) : fp_C (fp_leaf K V ix sd) 1 (ix + 1) (sd + 1) sz0 (sz0 + 1) fc (upd fc sz0 v) cnt n1 := by
  refine ⟨h1, h2, fun j hj => pk_un (by omega), Or.inl ⟨rfl, [v], ?_, rfl, fp_seg_one pk_us⟩⟩
  unfold fp_leaf
  rw [if_pos ⟨h, hs⟩, hv]
/-- k nots before it -/
def fp_nots (k : Nat) (r : fp_R) : fp_R := match r.2 with
  | none => r
  | some sc => (r.1, some (sc.1, sc.2 ++ List.replicate k 16))
theorem fp_nots_0 {r : fp_R} : r = fp_nots 0 r := by
  obtain ⟨i, o⟩ := r
  cases o with
  | none => rfl
  | some sc =>
    obtain ⟨s, c⟩ := sc
    show (i, some (s, c)) = (i, some (s, c ++ List.replicate 0 16))
    rw [List.replicate_zero, List.append_nil]
theorem fp_nots_s {r : fp_R} : fp_nots k (fp_not r) = fp_nots (k + 1) r := by
  obtain ⟨i, o⟩ := r
  cases o with
  | none => rfl
  | some sc =>
    obtain ⟨s, c⟩ := sc
    show (i, some (s, (c ++ [16]) ++ List.replicate k 16)) = (i, some (s, c ++ List.replicate (k + 1) 16))
    rw [List.append_assoc, List.replicate_succ]
    rfl
/-- while nots are counted -/
def fp_nI (K V : Nat → Int32) (d ix sd k : Nat) : Prop := k ≤ d ∧ fp_part K V d ix sd = fp_nots k (fp_part K V (d - k) (ix + k) sd)
theorem fp_nI_0 : fp_nI K V d ix sd 0 := ⟨Nat.zero_le _, fp_nots_0⟩
theorem fp_nI_s (h : fp_nI K V d ix sd k) (hk : k < d) (h11 : K (ix + k) = 11) : fp_nI K V d ix sd (k + 1) := by
  obtain ⟨h1, h2⟩ := h
  refine ⟨hk, ?_⟩
  obtain ⟨e, he⟩ : ∃ e, d - k = e + 1 := ⟨d - k - 1, by omega⟩
  rw [h2, he, fp_part_n h11, fp_nots_s, show d - (k + 1) = e by omega]
  rfl
theorem fp_part_leaf (h2 : ¬ K ix = 2) (h11 : d = 0 ∨ ¬ K ix = 11) : fp_part K V d ix sd = fp_leaf K V ix sd := by
  rcases h11 with rfl | h
  · by_cases h : K ix = 11
    · rw [fp_part_0n (Or.inl h)]
      unfold fp_leaf
      rw [if_neg (fun q => absurd (h.symm.trans q.1) (by decide))]
    · exact fp_part_l h h2
  · exact fp_part_l h h2
/-- while nots are written -/
def fp_nJ (R R0 : fp_R) (k m ix2 sd2 sz0 sz1 : Nat) (fc fc1 : Nat → Int32) (cnt n1 : Nat) : Prop := ix2 ≤ cnt ∧ sz1 ≤ n1 ∧ R = fp_nots k R0 ∧ (∀ j, j < sz0 → fc1 j = fc j) ∧ ∃ c, R0 = (ix2, some (sd2, c)) ∧ sz1 = sz0 + c.length + m ∧ fp_seg fc1 sz0 (c ++ List.replicate m 16)
theorem fp_nJ_0 {R0 : fp_R} (h : fp_C R0 r ix2 sd2 sz0 sz1 fc fc1 cnt n1) (hr : ¬ r = 0) (hR : R = fp_nots k R0) : fp_nJ R R0 k 0 ix2 sd2 sz0 sz1 fc fc1 cnt n1 := by
  obtain ⟨h1, h2, h3, h4⟩ := h
  obtain ⟨c, e1, e2, e3⟩ := fp_t1 h4 hr
  exact ⟨h1, h2, hR, h3, c, e1, by omega, by rw [List.replicate_zero, List.append_nil]; exact e3⟩
theorem fp_nJ_s {R0 : fp_R} (h : fp_nJ R R0 k m ix2 sd2 sz0 sz1 fc fc1 cnt n1) (hz : sz3 = sz1 + 1) (hf3 : fc3 = upd fc1 sz1 16) (hn : sz3 ≤ n1) : fp_nJ R R0 k (m + 1) ix2 sd2 sz0 sz3 fc fc3 cnt n1 := by
  obtain ⟨h1, h2, hR, h3, c, e1, e2, e3⟩ := h
  subst hz hf3
  refine ⟨h1, hn, hR, fun j hj => ?_, c, e1, by omega, ?_⟩
  · rw [pk_un (by omega)]
    exact h3 j hj
  · have e4 : c ++ List.replicate (m + 1) 16 = (c ++ List.replicate m 16) ++ [16] := by rw [List.append_assoc, List.replicate_succ']
    rw [e4]
    refine fp_seg_up e3 ?_
    rw [List.length_append, List.length_replicate]
    omega
theorem fp_nJ_room {R0 : fp_R} (hG : fp_G cnt sub) (hR0 : R0 = sub ix1 sd) (hi : ix1 ≤ cnt) (hs : sd ≤ 32) (h : fp_nJ R R0 k m ix2 sd2 sz0 sz1 fc fc1 cnt n1) (hm : m < k) (hc : sz0 + k ≤ ix1) : sz1 < cnt := by
  obtain ⟨h1, h2, hR, h3, c, e1, e2, e3⟩ := h
  have g := (hG ix1 sd hi hs).2.2 sd2 c (by rw [← hR0, e1])
  rw [← hR0, e1] at g
  have g5 : ix1 + c.length ≤ ix2 := g.2.2.1
  omega
theorem fp_nJ_x {R0 : fp_R} (h : fp_nJ R R0 k m ix2 sd2 sz0 sz1 fc fc1 cnt n1) (hm : m = k) : fp_C R 1 ix2 sd2 sz0 sz1 fc fc1 cnt n1 := by
  obtain ⟨h1, h2, hR, h3, c, e1, e2, e3⟩ := h
  subst hm
  refine ⟨h1, h2, h3, Or.inl ⟨rfl, c ++ List.replicate m 16, ?_, ?_, e3⟩⟩
  · rw [hR, e1]
    rfl
  · rw [List.length_append, List.length_replicate]
    omega
theorem fp_nJ_f {R0 : fp_R} (h : fp_C R0 r ix2 sd2 sz0 sz1 fc fc1 cnt n1) (hr : r = 0) (hR : R = fp_nots k R0) : fp_C R 0 ix2 sd2 sz0 sz1 fc fc1 cnt n1 := by
  obtain ⟨h1, h2, h3, h4⟩ := h
  have e := fp_t0 h4 hr
  refine ⟨h1, h2, h3, Or.inr ⟨rfl, ?_⟩⟩
  rw [hR, e]
  rfl
theorem fp_C_max (hd : d = 0) (hk : K ix = 2) (h1 : ix ≤ cnt) (h2 : sz0 ≤ n1) : fp_C (fp_part K V d ix sd) 0 ix sd2 sz0 sz0 fc fc cnt n1 := by
  subst hd
  exact ⟨h1, h2, fun _ _ => rfl, Or.inr ⟨rfl, fp_part_0n (Or.inr hk)⟩⟩
theorem fp_C_brkf {e : Nat} (hd : d = e + 1) (hk : K ix = 2) (h : fp_C (fp_or K (fp_part K V e) (ix + 1) sd) r ix2 sd2 sz0 sz2 fc fc2 cnt n1) (hr : r = 0 ∨ ¬ K ix2 = 3) : fp_C (fp_part K V d ix sd) 0 ix2 sd2 sz0 sz2 fc fc2 cnt n1 := by
  subst hd
  obtain ⟨h1, h2, h3, h4⟩ := h
  refine ⟨h1, h2, h3, Or.inr ⟨rfl, ?_⟩⟩
  rw [fp_part_b hk]
  rcases h4 with ⟨z, c, e1, _⟩ | ⟨_, e1⟩
  · rw [e1]
    rcases hr with hr | hr
    · exact absurd (z.symm.trans hr) (by decide)
    · simp only [fp_brk, if_neg hr]
  · rw [e1]
    rfl
theorem fp_C_brk {e : Nat} (hd : d = e + 1) (hk : K ix = 2) (h : fp_C (fp_or K (fp_part K V e) (ix + 1) sd) r ix2 sd2 sz0 sz2 fc fc2 cnt n1) (hr : ¬ r = 0) (hc : K ix2 = 3) (hlt : ix2 + 1 ≤ cnt) : fp_C (fp_part K V d ix sd) 1 (ix2 + 1) sd2 sz0 sz2 fc fc2 cnt n1 := by
  subst hd
  obtain ⟨h1, h2, h3, h4⟩ := h
  obtain ⟨c, e1, e2, e3⟩ := fp_t1 h4 hr
  refine ⟨hlt, h2, h3, Or.inl ⟨rfl, c, ?_, e2, e3⟩⟩
  rw [fp_part_b hk, e1]
  simp only [fp_brk, if_pos hc]
end CL
/-- a row, as the class holds it: its code lies in fc, below z -/
def fp_rc (row : fp_row) (x : Nat × Nat × (Nat → Int32) × (Nat → Int32)) (fc : Nat → Int32) (z : Nat) : Prop := x.2.2.1 1 = nI row.1.length ∧ fp_seg x.2.2.2 0 row.1 ∧ fp_bits (x.2.2.1 2) row.1 ∧ x.2.2.1 3 = nI row.2.2.2.1 ∧ x.2.2.1 7 = row.2.1 ∧ x.2.2.1 8 = row.2.2.1 ∧ x.2.2.1 9 = 0 ∧ x.2.2.1 10 = 0 ∧ x.2.2.1 11 = 0 ∧ x.2.2.1 12 = 0 ∧ ∃ b, x.2.2.1 4 = nI b ∧ x.2.2.1 5 = nI (b + row.2.2.2.2.length) ∧ b + row.2.2.2.2.length ≤ z ∧ fp_seg fc b row.2.2.2.2
/-- the rows so far -/
def fp_rl (rows : List fp_row) (rs : List (Nat × Nat × (Nat → Int32) × (Nat → Int32))) (fc : Nat → Int32) (z : Nat) : Prop := rows.length = rs.length ∧ ∀ (k : Nat) (row : fp_row), rows[k]? = some row → ∃ x, rs[k]? = some x ∧ fp_rc row x fc z
theorem fp_rl_0 {fc : Nat → Int32} {z : Nat} : fp_rl [] [] fc z := ⟨rfl, fun k row h => by simp at h⟩
theorem fp_rc_up {row : fp_row} {x : Nat × Nat × (Nat → Int32) × (Nat → Int32)} {fc fc2 : Nat → Int32} {z z2 : Nat} (h : fp_rc row x fc z) (hz : z ≤ z2) (hs : ∀ j, j < z → fc2 j = fc j) : fp_rc row x fc2 z2 := by
  obtain ⟨a1, a2, a3, a4, a5, a6, a7, a8, a9, a10, b, e1, e2, e3, e4⟩ := h
  exact ⟨a1, a2, a3, a4, a5, a6, a7, a8, a9, a10, b, e1, e2, by omega, fp_seg_congr e4 (fun j q1 q2 => hs j (by omega))⟩
theorem fp_rl_add {rows : List fp_row} {row : fp_row} {rs : List (Nat × Nat × (Nat → Int32) × (Nat → Int32))} {x : Nat × Nat × (Nat → Int32) × (Nat → Int32)} {fc fc2 : Nat → Int32} {z z2 : Nat} (h : fp_rl rows rs fc z) (hr : fp_rc row x fc2 z2) (hz : z ≤ z2) (hs : ∀ j, j < z → fc2 j = fc j) : fp_rl (rows ++ [row]) (rs ++ [x]) fc2 z2 := by
  obtain ⟨g1, g2⟩ := h
  refine ⟨by rw [List.length_append, List.length_append, g1]; rfl, fun k q hq => ?_⟩
  by_cases hk : k < rows.length
  · rw [List.getElem?_append_left hk] at hq
    obtain ⟨y, hy, hc⟩ := g2 k q hq
    exact ⟨y, by rw [List.getElem?_append_left (by omega)]; exact hy, fp_rc_up hc hz hs⟩
  · rw [List.getElem?_append_right (by omega)] at hq
    obtain ⟨hk2, _⟩ := List.getElem?_eq_some_iff.mp hq
    have hk3 : k = rows.length := by
      simp only [List.length_cons, List.length_nil] at hk2
      omega
    subst hk3
    rw [Nat.sub_self] at hq
    cases hq
    exact ⟨x, by rw [g1, List.getElem?_append_right (Nat.le_refl _), Nat.sub_self]; rfl, hr⟩
theorem fp_acts_ix {K V : Nat → Int32} : ∀ (f i : Nat) (a : List Int32), (fp_acts K V f i a).1 + a.length = i + (fp_acts K V f i a).2.length := by
  intro f
  induction f with
  | zero => intro i a; rfl
  | succ f ih =>
    intro i a
    by_cases h : K i = 12 ∧ a.length < 8 ∧ ¬ V i ∈ a
    · rw [fp_acts_g h]
      have h1 := ih (i + 1) (a ++ [V i])
      rw [List.length_append] at h1
      have h2 : [V i].length = 1 := rfl
      omega
    · rw [fp_acts_s h]
theorem fp_acts_le {K V : Nat → Int32} {i j : Nat} {al : List Int32} (h : fp_acts K V 8 i [] = (j, al)) : i ≤ j := by
  have h1 := fp_acts_ix (K := K) (V := V) 8 i []
  rw [h] at h1
  have h2 : j + 0 = i + al.length := h1
  omega
theorem fp_lat_t {K : Nat → Int32} {n n2 cnt : Nat} {r : Int32} (h : (r = 1 ∧ K n = 8 ∧ n2 = n + 1 ∧ n2 ≤ cnt) ∨ (r = 0 ∧ ¬ K n = 8 ∧ n2 = n)) : fp_lat K n = (n2, r) := by
  rcases h with ⟨h1, h2, h3, _⟩ | ⟨h1, h2, h3⟩
  · subst h1 h3
    exact if_pos h2
  · subst h1 h3
    exact if_neg h2
theorem fp_rend_t {K : Nat → Int32} {al c : List Int32} {s n n2 : Nat} {v b : Int32} (hl : fp_lat K n = (n2, b)) (h4 : K n2 = 4) : fp_rend K al s c (n, some v) = (n2 + 1, some (al, v, b, s, c)) := by
  simp only [fp_rend, hl, if_pos h4]
theorem fp_rend_tf {K : Nat → Int32} {al c : List Int32} {s n n2 : Nat} {v b : Int32} (hl : fp_lat K n = (n2, b)) (h4 : ¬ K n2 = 4) : fp_rend K al s c (n, some v) = (n2, none) := by
  simp only [fp_rend, hl, if_neg h4]
theorem fp_or_room {K V f1 f2 : Nat → Int32} {ix ix2 s s2 cnt : Nat} {c : List Int32} (hkv : fp_KV f1 f2 cnt K V) (hi : ix ≤ cnt) (hs : s ≤ 32) (h : fp_or K (fp_part K V 20) ix s = (ix2, some (s2, c))) : ix + c.length ≤ ix2 := by
  have g := (fp_or_G (fp_KV_lt hkv) (fp_part_G (fp_KV_lt hkv) 20) ix s hi hs).2.2 s2 c (by rw [h])
  rw [h] at g
  exact g.2.2.1
theorem fp_for_le {K V : Nat → Int32} {n n2 : Nat} {o : Option Int32} (h : fp_for K V n = (n2, o)) : n ≤ n2 := by
  unfold fp_for at h
  split at h
  · split at h
    · have h1 := congrArg Prod.fst h
      have h2 : n + 1 + 1 = n2 := h1
      omega
    · have h1 := congrArg Prod.fst h
      have h2 : n + 1 = n2 := h1
      omega
  · have h1 := congrArg Prod.fst h
    have h2 : n = n2 := h1
    omega
