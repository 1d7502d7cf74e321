theorem lb_ext {x y : Int64} (h : ∀ l, l < 64 → lb x l = lb y l) : x = y := Int64.toBitVec_inj.mp (BitVec.eq_of_getLsbD_eq (fun i hi => h i hi))
theorem lb_z {x : Int64} (h : ∀ l, l < 64 → lb x l = false) : x = 0 := lb_ext (fun l hl => by rw [h l hl, lb_0])
theorem aat_al {fa : Nat → Int32} {x1 : Int32} {al : List Int32} {i : Nat} (h1 : x1 = nI al.length) (h8 : al.length ≤ 8) (hs : fp_seg fa 0 al) (hi : i < al.length) : al[i]? = some (aat fa x1 (nI i)) := by
  unfold aat
  rw [if_neg, nI_clamp (by omega)]
  · have h := fp_seg_at hs hi
    rw [Nat.zero_add] at h
    exact h
  · intro q
    rcases q with q | q | q
    · exact nI_pos (by omega) q
    · rw [h1] at q
      have q2 := (nI_leI (by omega) (by omega)).mp q
      omega
    · exact q (nI_lt (b := 8) (by omega) (by decide))
/-- the acts of a row that were covered so far -/
def cvI (al : List Int32) (on : Int64) (cf c1 : Nat → Int64) (fz : Int32) (i : Nat) : Prop := (fz = 0 ∨ fz = 1) ∧ (fz = 1 ↔ ∃ a, a < 32 ∧ nI a ∈ al.take i ∧ ¬ (on &&& (cf a ^^^ (-1))) = 0) ∧ ∀ a, a < 32 → c1 a = if nI a ∈ al.take i then cf a ||| on else cf a
theorem cvI_0 {al : List Int32} {on : Int64} {cf : Nat → Int64} : cvI al on cf cf 0 0 := by
  refine ⟨Or.inl rfl, ⟨fun h => absurd h (by decide), fun ⟨a, _, h, _⟩ => by simp at h⟩, fun a _ => (if_neg (by simp)).symm⟩
theorem or_01 {f z : Int32} (hf : f = 0 ∨ f = 1) (hz : z = 0 ∨ z = 1) : (f ||| z = 0 ∨ f ||| z = 1) ∧ (f ||| z = 1 ↔ f = 1 ∨ z = 1) := by
  rcases hf with rfl | rfl <;> rcases hz with rfl | rfl <;> decide
theorem cvI_s {al : List Int32} {on : Int64} {cf c1 : Nat → Int64} {fz z : Int32} {i a : Nat} (h : cvI al on cf c1 fz i) (hai : al[i]? = some (nI a)) (ha : a < 32) (hz : z = if on &&& (c1 a ^^^ (-1)) = 0 then 0 else 1) : cvI al on cf (vp_updL c1 a (c1 a ||| on)) (fz ||| z) (i + 1) := by
  obtain ⟨f01, fiff, hc⟩ := h
  have ht : al.take (i + 1) = al.take i ++ [nI a] := by
    rw [List.take_succ, hai]
    rfl
  have z01 : z = 0 ∨ z = 1 := by
    rw [hz]
    split
    · exact Or.inl rfl
    · exact Or.inr rfl
  obtain ⟨g1, g2⟩ := or_01 f01 z01
  refine ⟨g1, ?_, ?_⟩
  · rw [g2, fiff, ht]
    by_cases hm : nI a ∈ al.take i
    · have e1 : c1 a = cf a ||| on := (hc a ha).trans (if_pos hm)
      have e2 : on &&& (c1 a ^^^ (-1)) = 0 := by
        apply lb_z
        intro l hl
        rw [e1, lb_and, lb_not hl, lb_or]
        cases lb on l <;> cases lb (cf a) l <;> rfl
      rw [if_pos e2] at hz
      constructor
      · intro q
        rcases q with ⟨b, b1, b2, b3⟩ | q
        · exact ⟨b, b1, List.mem_append_left _ b2, b3⟩
        · rw [hz] at q
          exact absurd q (by decide)
      · intro ⟨b, b1, b2, b3⟩
        rcases List.mem_append.mp b2 with b2 | b2
        · exact Or.inl ⟨b, b1, b2, b3⟩
        · have e3 : b = a := (nI_eq (by omega) (by omega)).mp (List.mem_singleton.mp b2)
          rw [e3] at b3
          exact Or.inl ⟨a, ha, hm, b3⟩
    · have e1 : c1 a = cf a := (hc a ha).trans (if_neg hm)
      rw [e1] at hz
      constructor
      · intro q
        rcases q with ⟨b, b1, b2, b3⟩ | q
        · exact ⟨b, b1, List.mem_append_left _ b2, b3⟩
        · refine ⟨a, ha, List.mem_append_right _ (List.mem_singleton.mpr rfl), fun q2 => ?_⟩
          rw [if_pos q2] at hz
          rw [hz] at q
          exact absurd q (by decide)
      · intro ⟨b, b1, b2, b3⟩
        rcases List.mem_append.mp b2 with b2 | b2
        · exact Or.inl ⟨b, b1, b2, b3⟩
        · have e3 : b = a := (nI_eq (by omega) (by omega)).mp (List.mem_singleton.mp b2)
          rw [e3] at b3
          rw [if_neg b3] at hz
          exact Or.inr hz
  · intro b hb
    rw [ht]
    by_cases e : b = a
    · rw [e, pk_uLs, if_pos (List.mem_append_right _ (List.mem_singleton.mpr rfl)), hc a ha]
      split
      · apply lb_ext
        intro l _
        rw [lb_or, lb_or]
        cases lb (cf a) l <;> cases lb on l <;> rfl
      · rfl
    · rw [pk_uLn e, hc b hb]
      by_cases hm : nI b ∈ al.take i
      · rw [if_pos hm, if_pos (List.mem_append_left _ hm)]
      · rw [if_neg hm, if_neg (fun q => (List.mem_append.mp q).elim hm (fun q2 => e ((nI_eq (by omega) (by omega)).mp (List.mem_singleton.mp q2))))]
theorem cmpz {v : Int64} {z : Int32} (h : (lg_cmp v 0 = 0 ∧ z = 0) ∨ (¬ lg_cmp v 0 = 0 ∧ z = 1)) : z = if v = 0 then 0 else 1 := by
  rcases h with ⟨h, rfl⟩ | ⟨h, rfl⟩
  · rw [if_pos (cmp0 h)]
  · rw [if_neg (fun q => h (by rw [q]; decide))]
/-- rows that are not marked -/
def cz (rs : List rwT) : Nat := (rs.filter (fun x => decide (x.2.2.1 12 = 0))).length
theorem cz_app {pre post : List rwT} {x : rwT} : cz (pre ++ x :: post) = cz pre + ((if x.2.2.1 12 = 0 then 1 else 0) + cz post) := by
  unfold cz
  rw [List.filter_append, List.length_append, List.filter_cons]
  by_cases hq : x.2.2.1 12 = 0
  · rw [if_pos (decide_eq_true hq), if_pos hq, List.length_cons]
    omega
  · rw [if_neg (by rw [decide_eq_true_iff]; exact hq), if_neg hq]
    omega
theorem cz_same {pre post : List rwT} {x y : rwT} (h : y.2.2.1 12 = x.2.2.1 12) : cz (pre ++ y :: post) = cz (pre ++ x :: post) := by
  rw [cz_app, cz_app, h]
theorem cz_less {pre post : List rwT} {x y : rwT} (h : x.2.2.1 12 = 0) (h2 : y.2.2.1 12 = 1) : cz (pre ++ y :: post) + 1 = cz (pre ++ x :: post) := by
  rw [cz_app, cz_app, if_pos h, if_neg (by rw [h2]; decide)]
  omega
theorem cz_all {rs : List rwT} (h : ∀ (k : Nat) (x : rwT), rs[k]? = some x → x.2.2.1 12 = 0) : cz rs = rs.length := by
  unfold cz
  rw [List.filter_eq_self.mpr]
  intro x hx
  obtain ⟨k, hk⟩ := List.mem_iff_getElem?.mp hx
  exact decide_eq_true (h k x hk)
theorem cz_none {rs : List rwT} (h : cz rs = 0) {k : Nat} {x : rwT} (hk : rs[k]? = some x) : ¬ x.2.2.1 12 = 0 := by
  intro q
  have h1 : x ∈ rs.filter (fun x => decide (x.2.2.1 12 = 0)) := List.mem_filter.mpr ⟨List.mem_of_getElem? hk, decide_eq_true q⟩
  rw [List.length_eq_zero_iff.mp h] at h1
  cases h1
theorem cz_le {rs : List rwT} : cz rs ≤ rs.length := List.length_filter_le _ _
/-- what a block marks -/
def mbP (P : Nat → Prop) (k : Nat) (f f2 : Nat → Int32) : Prop := tstP k f f2 ∧ (f2 12 = 0 ∨ f2 12 = 1) ∧ (f2 12 = 1 ↔ f 12 = 1 ∨ P k)
/-- the acts of a row -/
def ractP (hs : Nat → Nat → Bool) (k : Nat) (x : rwT) : Prop := ∃ al : List Int32, x.2.2.1 1 = nI al.length ∧ al.length ≤ 8 ∧ fp_seg x.2.2.2 0 al ∧ (∀ y ∈ al, ∃ n, n < 32 ∧ y = nI n) ∧ ∀ a, a < 32 → (hs k a = true ↔ nI a ∈ al)
theorem fr_cov {hs : Nat → Nat → Bool} {v : Nat → Int64} {k : Nat} {al : List Int32} {c : Nat → Int64} {r : Int32} (hal : ∀ a, a < 32 → (hs k a = true ↔ nI a ∈ al)) (hc : ∀ a, a < 32 → c a = cvr hs v k a) (h : r = 1 ↔ ∃ a, a < 32 ∧ nI a ∈ al ∧ ¬ (v k &&& (c a ^^^ (-1))) = 0) : r = 1 ↔ Fr hs v k := by
  rw [h]
  constructor
  · intro ⟨a, a1, a2, a3⟩
    rw [hc a a1] at a3
    exact ⟨a, a1, (hal a a1).mpr a2, a3⟩
  · intro ⟨a, a1, a2, a3⟩
    rw [← hc a a1] at a3
    exact ⟨a, a1, (hal a a1).mp a2, a3⟩
theorem cv_next {hs : Nat → Nat → Bool} {v : Nat → Int64} {k : Nat} {al : List Int32} {c c2 : Nat → Int64} (hal : ∀ a, a < 32 → (hs k a = true ↔ nI a ∈ al)) (hc : ∀ a, a < 32 → c a = cvr hs v k a) (h : ∀ a, a < 32 → c2 a = if nI a ∈ al then c a ||| v k else c a) : ∀ a, a < 32 → c2 a = cvr hs v (k + 1) a := by
  intro a ha
  rw [h a ha, hc a ha, cvr]
  by_cases hm : nI a ∈ al
  · rw [if_pos hm, if_pos ((hal a ha).mpr hm)]
  · rw [if_neg hm, if_neg (fun q => hm ((hal a ha).mp q))]
/-- the conditions that stand in the code -/
def usdP (fc : Nat → Int32) (z uc : Nat) (uf : Nat → Int32) : Prop := uc ≤ 16 ∧ (∀ j, j < uc → ∃ a, a < 16 ∧ uf j = nI a) ∧ (∀ i j, i < j → j < uc → ¬ uf i = uf j) ∧ ∀ i, i < z → ∀ a, a < 16 → fc i = nI a → ∃ j, j < uc ∧ uf j = nI a
/-- lane words of a block -/
def ln6 (b j : Nat) : Int64 := if j < 6 then pat j else -(((nI b).toUInt32 >>> ((nI (j - 6)).toUInt32 &&& Int32.toUInt32 31)).toInt32 &&& 1).toInt64
def mtch (uc : Nat) (uf : Nat → Int32) (b : Nat) (σ : Nat → Int64) : Prop := ∀ j, j < uc → σ (uf j).toNatClampNeg = ln6 b j
def mrP (hs : Nat → Nat → Bool) (vvs : (Nat → Int64) → Nat → Int64) (uc : Nat) (uf : Nat → Int32) (bk : Nat) (k : Nat) (f f2 : Nat → Int32) : Prop := tstP k f f2 ∧ (f2 12 = 0 ∨ f2 12 = 1) ∧ (f2 12 = 1 → ∃ σ, Fr hs (vvs σ) k) ∧ ∀ b, b < bk → (∀ σ, mtch uc uf b σ → Fr hs (vvs σ) k) → f2 12 = 1
theorem tst_trans {k : Nat} {f g h : Nat → Int32} (h1 : tstP k f g) (h2 : tstP k g h) : tstP k f h := by
  obtain ⟨⟨a1, a2, a3, a4, a5, a6, a7, a8⟩, b1, b2, b3⟩ := h1
  obtain ⟨⟨c1, c2, c3, c4, c5, c6, c7, c8⟩, d1, d2, d3⟩ := h2
  exact ⟨⟨c1.trans a1, c2.trans a2, c3.trans a3, c4.trans a4, c5.trans a5, c6.trans a6, c7.trans a7, c8.trans a8⟩, d1.trans b1, d2.trans b2, d3.trans b3⟩
theorem mr_0 {hs : Nat → Nat → Bool} {vvs : (Nat → Int64) → Nat → Int64} {uc : Nat} {uf : Nat → Int32} {rs : List rwT} (h : ∀ (k : Nat) (x : rwT), rs[k]? = some x → x.2.2.1 12 = 0) : rup rs rs (mrP hs vvs uc uf 0) := by
  refine ⟨rfl, fun k x hx => ⟨x, hx, rfl, tstP_rfl, Or.inl (h k x hx), fun q => absurd ((h k x hx).symm.trans q) (by decide), fun b hb => absurd hb (Nat.not_lt_zero _)⟩⟩
theorem mr_s {hs : Nat → Nat → Bool} {vvs : (Nat → Int64) → Nat → Int64} {uc bk : Nat} {uf : Nat → Int32} {rs rs1 rs2 : List rwT} {σ : Nat → Int64} (h1 : rup rs rs1 (mrP hs vvs uc uf bk)) (hm : mtch uc uf bk σ) (h2 : rup rs1 rs2 (mbP (Fr hs (vvs σ)))) : rup rs rs2 (mrP hs vvs uc uf (bk + 1)) := by
  refine ⟨h2.1.trans h1.1, fun k x hx => ?_⟩
  obtain ⟨y, hy, e1, t1, m1, m2, m3⟩ := h1.2 k x hx
  obtain ⟨z, hz, e2, t2, n1, n2⟩ := h2.2 k y hy
  refine ⟨z, hz, e2.trans e1, tst_trans t1 t2, n1, fun q => ?_, fun b hb q => ?_⟩
  · rcases n2.mp q with q2 | q2
    · exact m2 q2
    · exact ⟨σ, q2⟩
  · by_cases e : b = bk
    · subst e
      exact n2.mpr (Or.inr (q σ hm))
    · exact n2.mpr (Or.inl (m3 b (by omega) q))
theorem mr_all {hs : Nat → Nat → Bool} {vvs : (Nat → Int64) → Nat → Int64} {uc bk B : Nat} {uf : Nat → Int32} {rs rs1 : List rwT} (h1 : rup rs rs1 (mrP hs vvs uc uf bk)) (h0 : B ≤ bk ∨ cz rs1 = 0) : rup rs rs1 (mrP hs vvs uc uf B) := by
  refine ⟨h1.1, fun k x hx => ?_⟩
  obtain ⟨y, hy, e1, t1, m1, m2, m3⟩ := h1.2 k x hx
  refine ⟨y, hy, e1, t1, m1, m2, fun b hb q => ?_⟩
  rcases h0 with h0 | h0
  · exact m3 b (by omega) q
  · exact m1.resolve_left (cz_none h0 hy)
theorem mx6 : ∀ u, u < 17 → (if 0 < nI u - 6 then nI u - 6 else 0) = nI (u - 6) := by decide +kernel
theorem sh6 : ∀ u, u < 17 → (1 : Int32) <<< (nI (u - 6) &&& 31) = nI (2 ^ (u - 6)) := by decide +kernel
theorem p6_le {u : Nat} (h : u ≤ 16) : 2 ^ (u - 6) ≤ 1024 := Nat.pow_le_pow_right (by decide) (show u - 6 ≤ 10 by omega)
theorem mb_12 {rs rs1 : List rwT} {hs : Nat → Nat → Bool} {vvs : (Nat → Int64) → Nat → Int64} {uc bk : Nat} {uf : Nat → Int32} (h1 : rup rs rs1 (mrP hs vvs uc uf bk)) : ∀ (k : Nat) (x : rwT), rs1[k]? = some x → x.2.2.1 12 = 0 ∨ x.2.2.1 12 = 1 := by
  intro k y hy
  obtain ⟨hk, _⟩ := List.getElem?_eq_some_iff.mp hy
  have hx := List.getElem?_eq_getElem (l := rs) (i := k) (by have := h1.1; omega)
  obtain ⟨y', q1, _, _, m1, _⟩ := h1.2 k _ hx
  have e : y' = y := Option.some.inj (q1.symm.trans hy)
  rw [e] at m1
  exact m1
/-- rows that differ in marks alone are worth the same -/
theorem cev_t {rs rs1 : List rwT} {fc : Nat → Int32} {z : Nat} {sf vv : Nat → Int64} {P : Nat → (Nat → Int32) → (Nat → Int32) → Prop} (hP : ∀ k f f2, P k f f2 → tstP k f f2) (h1 : rup rs rs1 P) (h : cev rs fc z sf vv) : cev rs1 fc z sf vv := by
  intro k y hy
  obtain ⟨hk, _⟩ := List.getElem?_eq_some_iff.mp hy
  have hx := List.getElem?_eq_getElem (l := rs) (i := k) (by have := h1.1; omega)
  obtain ⟨y', q1, _, q3⟩ := h1.2 k _ hx
  have e : y' = y := Option.some.inj (q1.symm.trans hy)
  rw [e] at q3
  obtain ⟨⟨_, _, _, s4, s5, _⟩, _⟩ := hP _ _ _ q3
  obtain ⟨b, c, b1, b2, b3, b4, b5⟩ := h k _ hx
  exact ⟨b, c, s4.trans b1, s5.trans b2, b3, b4, b5⟩
theorem ract_t {rs rs1 : List rwT} {hs : Nat → Nat → Bool} {P : Nat → (Nat → Int32) → (Nat → Int32) → Prop} (hP : ∀ k f f2, P k f f2 → tstP k f f2) (h1 : rup rs rs1 P) (h : ∀ (k : Nat) (x : rwT), rs[k]? = some x → ractP hs k x) : ∀ (k : Nat) (x : rwT), rs1[k]? = some x → ractP hs k x := by
  intro k y hy
  obtain ⟨hk, _⟩ := List.getElem?_eq_some_iff.mp hy
  have hx := List.getElem?_eq_getElem (l := rs) (i := k) (by have := h1.1; omega)
  obtain ⟨y', q1, q2, q3⟩ := h1.2 k _ hx
  have e : y' = y := Option.some.inj (q1.symm.trans hy)
  rw [e] at q2 q3
  obtain ⟨⟨s1, _⟩, _⟩ := hP _ _ _ q3
  obtain ⟨al, a1, a2, a3, a4, a5⟩ := h k _ hx
  exact ⟨al, s1.trans a1, a2, by rw [q2]; exact a3, a4, a5⟩
/-- while the used conditions are listed -/
def fuI (bz : Int32) (j uc : Nat) (uf : Nat → Int32) : Prop := uc ≤ j ∧ (∀ t, t < uc → ∃ a, a < j ∧ uf t = nI a) ∧ (∀ s t, s < t → t < uc → ¬ uf s = uf t) ∧ ∀ a, a < j → bt bz a = true → ∃ t, t < uc ∧ uf t = nI a
theorem fuI_0 {bz : Int32} {uf : Nat → Int32} : fuI bz 0 0 uf := ⟨Nat.le_refl _, fun t ht => absurd ht (Nat.not_lt_zero _), fun s t _ ht => absurd ht (Nat.not_lt_zero _), fun a ha => absurd ha (Nat.not_lt_zero _)⟩
theorem fuI_n {bz : Int32} {j uc : Nat} {uf : Nat → Int32} (h : fuI bz j uc uf) (hb : ¬ bt bz j = true) : fuI bz (j + 1) uc uf := by
  obtain ⟨h1, h2, h3, h4⟩ := h
  refine ⟨by omega, fun t ht => ?_, h3, fun a ha hb2 => ?_⟩
  · obtain ⟨a, a1, a2⟩ := h2 t ht
    exact ⟨a, by omega, a2⟩
  · by_cases e : a = j
    · rw [e] at hb2
      exact absurd hb2 hb
    · exact h4 a (by omega) hb2
theorem fuI_y {bz : Int32} {j uc : Nat} {uf : Nat → Int32} (h : fuI bz j uc uf) (hj : j < 16) : fuI bz (j + 1) (uc + 1) (upd uf uc (nI j)) := by
  obtain ⟨h1, h2, h3, h4⟩ := h
  refine ⟨by omega, fun t ht => ?_, fun s t hst ht => ?_, fun a ha hb2 => ?_⟩
  · by_cases e : t = uc
    · rw [e, pk_us]
      exact ⟨j, by omega, rfl⟩
    · rw [pk_un e]
      obtain ⟨a, a1, a2⟩ := h2 t (by omega)
      exact ⟨a, by omega, a2⟩
  · rw [pk_un (show ¬ s = uc by omega)]
    by_cases e : t = uc
    · rw [e, pk_us]
      obtain ⟨a, a1, a2⟩ := h2 s (by omega)
      rw [a2]
      intro q
      have q2 := (nI_eq (a := a) (b := j) (by omega) (by omega)).mp q
      omega
    · rw [pk_un e]
      exact h3 s t hst (by omega)
  · by_cases e : a = j
    · exact ⟨uc, by omega, by rw [pk_us, e]⟩
    · obtain ⟨t, t1, t2⟩ := h4 a (by omega) hb2
      exact ⟨t, by omega, by rw [pk_un (by omega)]; exact t2⟩
/-- the conditions seen in the code so far -/
def bzI (fc : Nat → Int32) (i : Nat) (bz : Int32) : Prop := ∀ t, t < i → ∀ a, a < 16 → fc t = nI a → bt bz a = true
theorem bzI_0 {fc : Nat → Int32} {bz : Int32} : bzI fc 0 bz := fun t ht => absurd ht (Nat.not_lt_zero _)
theorem bzI_n {fc : Nat → Int32} {i : Nat} {bz : Int32} (h : bzI fc i bz) (hc : icd (fc i) = 0) : bzI fc (i + 1) bz := by
  intro t ht a ha e
  by_cases q : t = i
  · rw [q] at e
    rw [e, icd_lt ha] at hc
    exact absurd hc (by decide)
  · exact h t (by omega) a ha e
theorem bzI_y {fc : Nat → Int32} {i : Nat} {bz : Int32} (h : bzI fc i bz) (hc : ¬ icd (fc i) = 0) : bzI fc (i + 1) (bz ||| ((1 : Int32) <<< (fc i &&& 31))) := by
  have hc2 : ∃ c, c < 16 ∧ fc i = nI c := by
    unfold icd at hc
    have h0 : ¬ (fc i < 0 ∨ ¬ fc i < 16) := fun q => hc (if_pos q)
    obtain ⟨c, hc1, e⟩ := nI_of (x := fc i) (fun q => h0 (Or.inl q))
    refine ⟨c, ?_, e⟩
    have h2 : fc i < 16 := Decidable.byContradiction (fun q => h0 (Or.inr q))
    rw [e] at h2
    exact (nI_ltI (b := 16) hc1 (by decide)).mp h2
  obtain ⟨c, hc3, e⟩ := hc2
  intro t ht a ha e2
  rw [b_or, e, b_shl c (by omega) 1 (by omega)]
  by_cases q : t = i
  · rw [q, e] at e2
    have e3 := (nI_eq (by omega) (by omega)).mp e2
    rw [e3, decide_eq_true (Nat.le_refl a), Nat.sub_self, bt1 0 (by decide)]
    cases bt bz a <;> rfl
  · rw [h t (by omega) a ha e2]
    rfl
theorem usd_of {fc : Nat → Int32} {z uc j : Nat} {uf : Nat → Int32} {bz : Int32} (h : fuI bz j uc uf) (hj : j = 16) (hb : bzI fc z bz) : usdP fc z uc uf := by
  subst hj
  obtain ⟨h1, h2, h3, h4⟩ := h
  exact ⟨h1, h2, h3, fun i hi a ha e => h4 a ha (hb i hi a ha e)⟩
/-- while a block is set -/
def seI (uc : Nat) (uf : Nat → Int32) (b j : Nat) (s1 : Nat → Int64) : Prop := ∀ t, t < j → s1 (uf t).toNatClampNeg = ln6 b t
theorem seI_s {uc b j a : Nat} {uf : Nat → Int32} {s1 : Nat → Int64} {x : Int64} (h : seI uc uf b j s1) (hu : ∀ j, j < uc → ∃ a, a < 16 ∧ uf j = nI a) (hd : ∀ i j, i < j → j < uc → ¬ uf i = uf j) (hj : j < uc) (ha : uf j = nI a) (ha2 : a < 16) (hx : x = ln6 b j) : seI uc uf b (j + 1) (vp_updL s1 a x) := by
  intro t ht
  by_cases e : t = j
  · rw [e, ha, nI_clamp (by omega), pk_uLs, hx]
  · obtain ⟨c, c1, c2⟩ := hu t (by omega)
    have hne : ¬ c = a := fun q => hd t j (by omega) hj (by rw [c2, ha, q])
    have h9 := h t (by omega)
    rw [c2, nI_clamp (by omega)] at h9 ⊢
    rw [pk_uLn hne]
    exact h9
