section RowP
variable {K V : Nat → Int32} {nx i n s : Nat} {al c : List Int32} {v : Int32}
theorem fp_rw_a (hA : fp_acts K V 8 (nx + 1) [] = (i, al)) (h : al = [] ∨ ¬ K i = 6) : fp_rw K V nx = (i, none) := by
  unfold fp_rw
  rw [hA, if_pos h]
theorem fp_rw_b (hA : fp_acts K V 8 (nx + 1) [] = (i, al)) (h1 : ¬ al = []) (h2 : K i = 6) : fp_rw K V nx = fp_rmid K V al (fp_or K (fp_part K V 20) (i + 1) 0) := by
  unfold fp_rw
  rw [hA, if_neg (fun q => q.elim h1 (fun q => q h2))]
theorem fp_rmid_n : fp_rmid K V al (n, none) = (n, none) := rfl
theorem fp_rmid_s : fp_rmid K V al (n, some (s, c)) = fp_rend K al s c (fp_for K V n) := rfl
theorem fp_for_n (h : ¬ K n = 7) : fp_for K V n = (n, some 0) := if_neg h
theorem fp_for_f (h : K n = 7) (h2 : ¬ K (n + 1) = 14) : fp_for K V n = (n + 1, none) := (if_pos h).trans (if_neg h2)
theorem fp_for_g (h : K n = 7) (h2 : K (n + 1) = 14) (hv : V (n + 1) = v) : fp_for K V n = (n + 1 + 1, some v) := by
  rw [← hv]
  exact (if_pos h).trans (if_pos h2)
theorem fp_rend_n : fp_rend K al s c (n, none) = (n, none) := rfl
theorem fp_rend_0x (h : ¬ K n = 8) (h4 : ¬ K n = 4) : fp_rend K al s c (n, some v) = (n, none) := by
  have e : fp_lat K n = (n, 0) := if_neg h
  simp only [fp_rend, e, if_neg h4]
theorem fp_rend_0 (h : ¬ K n = 8) (h4 : K n = 4) : fp_rend K al s c (n, some v) = (n + 1, some (al, v, 0, s, c)) := by
  have e : fp_lat K n = (n, 0) := if_neg h
  simp only [fp_rend, e, if_pos h4]
theorem fp_rend_1x (h : K n = 8) (h4 : ¬ K (n + 1) = 4) : fp_rend K al s c (n, some v) = (n + 1, none) := by
  have e : fp_lat K n = (n + 1, 1) := if_pos h
  simp only [fp_rend, e, if_neg h4]
theorem fp_rend_1 (h : K n = 8) (h4 : K (n + 1) = 4) : fp_rend K al s c (n, some v) = (n + 1 + 1, some (al, v, 1, s, c)) := by
  have e : fp_lat K n = (n + 1, 1) := if_pos h
  simp only [fp_rend, e, if_pos h4]
end RowP
/-- the acts so far; whether more may come -/
def fp_aI (K V : Nat → Int32) (nx a mb : Nat) (al : List Int32) (ac1 : Nat → Int32) (B : Nat) : Prop := al.length = a ∧ fp_seg ac1 B al ∧ (∀ x, x ∈ al → ¬ x < 0) ∧ ((mb = 0 ∧ fp_acts K V 8 (nx + 1) [] = (nx + 1 + a, al)) ∨ (mb = 1 ∧ fp_acts K V 8 (nx + 1) [] = fp_acts K V (8 - a) (nx + 1 + a) al))
/-- an act that was read, held against those before it -/
def fp_aJ (al : List Int32) (r : Int32) (j : Nat) (av : Int32) : Prop := av = if r ∈ al.take j then -1 else r
section Acts
variable {K V : Nat → Int32} {nx a mb B j : Nat} {al : List Int32} {ac1 : Nat → Int32} {r av x : Int32}
theorem fp_aI_0 : fp_aI K V nx 0 1 [] ac1 B := ⟨rfl, fp_seg_nil, (fun x h => by cases h), Or.inr ⟨rfl, rfl⟩⟩
theorem fp_aJ_0 : fp_aJ al r 0 r := by
  unfold fp_aJ
  rw [List.take_zero, if_neg (fun h => by cases h)]
theorem fp_aJ_ne (h : fp_aJ al r j av) (hx : al[j]? = some x) (hne : ¬ x = av) : fp_aJ al r (j + 1) av := by
  unfold fp_aJ at h ⊢
  have e : al.take (j + 1) = al.take j ++ [x] := by rw [List.take_succ, hx]; rfl
  by_cases hr : r ∈ al.take j
  · rw [if_pos hr] at h
    rw [h, if_pos (by rw [e]; exact List.mem_append_left _ hr)]
  · rw [if_neg hr] at h
    subst h
    rw [if_neg]
    rw [e]
    intro hm
    rcases List.mem_append.mp hm with hm | hm
    · exact hr hm
    · exact hne (List.mem_singleton.mp hm).symm
theorem fp_aJ_eq (h : fp_aJ al r j av) (hx : al[j]? = some x) (he : x = av) (h0 : ¬ x < 0) : fp_aJ al r (j + 1) (-1) := by
  unfold fp_aJ at h ⊢
  have e : al.take (j + 1) = al.take j ++ [x] := by rw [List.take_succ, hx]; rfl
  by_cases hr : r ∈ al.take j
  · rw [if_pos (by rw [e]; exact List.mem_append_left _ hr)]
  · rw [if_neg hr] at h
    rw [if_pos]
    rw [e, he, h]
    exact List.mem_append_right _ (List.mem_singleton.mpr rfl)
theorem fp_aJ_in {n : Nat} (h : fp_aJ al r j av) (hl : al.length ≤ j) (hr : r = if K n = 12 then V n else -1) (h0 : ¬ av < 0) : K n = 12 ∧ ¬ V n ∈ al ∧ av = V n := by
  unfold fp_aJ at h
  rw [List.take_of_length_le hl] at h
  by_cases hm : r ∈ al
  · rw [if_pos hm] at h
    rw [h] at h0
    exact pk_m1n h0
  · rw [if_neg hm] at h
    by_cases hk : K n = 12
    · rw [if_pos hk] at hr
      exact ⟨hk, by rw [← hr]; exact hm, by rw [h, hr]⟩
    · rw [if_neg hk] at hr
      rw [h, hr] at h0
      exact pk_m1n h0
theorem fp_aJ_out {n : Nat} (h : fp_aJ al r j av) (hl : al.length ≤ j) (hr : r = if K n = 12 then V n else -1) (hp : r = -1 ∨ ¬ r < 0) (hv : K n = 12 → ¬ V n = -1) (h0 : av < 0) : ¬ (K n = 12 ∧ al.length < 8 ∧ ¬ V n ∈ al) := by
  rintro ⟨h1, _, h3⟩
  rw [if_pos h1] at hr
  unfold fp_aJ at h
  rw [List.take_of_length_le hl, if_neg (by rw [hr]; exact h3)] at h
  rw [h] at h0
  rcases hp with hp | hp
  · exact hv h1 (by rw [← hr]; exact hp)
  · exact hp h0
theorem fp_aI_stop (h : fp_aI K V nx a mb al ac1 B) (hm : 1 ≤ mb) (hs : ¬ (K (nx + 1 + a) = 12 ∧ al.length < 8 ∧ ¬ V (nx + 1 + a) ∈ al)) : fp_aI K V nx a 0 al ac1 B := by
  obtain ⟨h1, h2, h3, h4⟩ := h
  refine ⟨h1, h2, h3, Or.inl ⟨rfl, ?_⟩⟩
  rcases h4 with ⟨h4, _⟩ | ⟨_, h4⟩
  · omega
  · rw [h4, fp_acts_s hs]
theorem fp_aI_add (h : fp_aI K V nx a mb al ac1 B) (hm : 1 ≤ mb) (ha : a < 8) (hk : K (nx + 1 + a) = 12 ∧ ¬ V (nx + 1 + a) ∈ al ∧ x = V (nx + 1 + a)) (h0 : ¬ x < 0) : fp_aI K V nx (a + 1) mb (al ++ [x]) (upd ac1 (B + a) x) B := by
  obtain ⟨h1, h2, h3, h4⟩ := h
  obtain ⟨k1, k2, rfl⟩ := hk
  refine ⟨by rw [List.length_append, h1]; rfl, fp_seg_up h2 (by rw [h1]), fun y hy => ?_, ?_⟩
  · rcases List.mem_append.mp hy with hy | hy
    · exact h3 y hy
    · rw [List.mem_singleton.mp hy]
      exact h0
  · rcases h4 with ⟨h4, _⟩ | ⟨h5, h4⟩
    · omega
    · refine Or.inr ⟨h5, ?_⟩
      obtain ⟨f, hf⟩ : ∃ f, 8 - a = f + 1 := ⟨7 - a, by omega⟩
      rw [h4, hf, fp_acts_g ⟨k1, by omega, k2⟩, show 8 - (a + 1) = f by omega]
      rfl
theorem fp_aI_end (h : fp_aI K V nx a mb al ac1 B) (hm : ¬ 1 ≤ mb) : fp_acts K V 8 (nx + 1) [] = (nx + 1 + a, al) := by
  rcases h.2.2.2 with ⟨_, h4⟩ | ⟨h5, _⟩
  · exact h4
  · omega
end Acts
/-- a row, as the reference holds it -/
def fp_ra (row : fp_row) (tp cn ac nu la co W F S : Nat → Int32) (R b1 b2 : Nat) : Prop := cn R = nI row.1.length ∧ fp_seg ac (8 * R) row.1 ∧ 1 ≤ row.1.length ∧ row.1.length ≤ 8 ∧ nu R = row.2.1 ∧ la R = row.2.2.1 ∧ co R = nI row.2.2.2.1 ∧ row.2.2.2.1 ≤ 32 ∧ ∃ lo n, tp R = nI n ∧ b1 ≤ lo ∧ lo ≤ n ∧ n < b2 ∧ lo + row.2.2.2.2.length = n + 1 ∧ fp_seg W lo row.2.2.2.2 ∧ tr W F S (n + 1 - lo) 42 lo n
theorem fp_ra_congr {row : fp_row} {tp cn ac nu la co W F S tp' cn' ac' nu' la' co' W' F' S' : Nat → Int32} {R b1 b2 c2 : Nat} (h : fp_ra row tp cn ac nu la co W F S R b1 b2) (hb : b2 ≤ c2) (h1 : tp' R = tp R) (h2 : cn' R = cn R) (h3 : ∀ j, 8 * R ≤ j → j < 8 * R + 8 → ac' j = ac j) (h4 : nu' R = nu R) (h5 : la' R = la R) (h6 : co' R = co R) (hs : ∀ j, b1 ≤ j → j < b2 → W' j = W j ∧ F' j = F j ∧ S' j = S j) : fp_ra row tp' cn' ac' nu' la' co' W' F' S' R b1 c2 := by
  obtain ⟨a1, a2, a3, a4, a5, a6, a7, a8, lo, n, e1, e2, e3, e4, e5, e6, e7⟩ := h
  refine ⟨h2.trans a1, fp_seg_congr a2 (fun j q1 q2 => h3 j q1 (by omega)), a3, a4, h4.trans a5, h5.trans a6, h6.trans a7, a8, lo, n, h1.trans e1, e2, e3, by omega, e5, fp_seg_congr e6 (fun j q1 q2 => (hs j (by omega) (by omega)).1), ?_⟩
  exact tr_congr _ _ _ _ (fun j q1 q2 => hs j (by omega) (by omega)) e3 e7
/-- what readRow gives, against the plain reading -/
def fp_Q (K V : Nat → Int32) (nx : Nat) (r : Int32) (n2 : Nat) (tp cn ac nu la co W F S : Nat → Int32) (R b1 b2 : Nat) : Prop := (r = 0 ∧ fp_rw K V nx = (n2, none)) ∨ (r = 1 ∧ ∃ row, fp_rw K V nx = (n2, some row) ∧ fp_ra row tp cn ac nu la co W F S R b1 b2)
theorem fp_Q_f {K V : Nat → Int32} {nx n2 R b1 b2 : Nat} {tp cn ac nu la co W F S : Nat → Int32} (h : fp_rw K V nx = (n2, none)) : fp_Q K V nx 0 n2 tp cn ac nu la co W F S R b1 b2 := Or.inl ⟨rfl, h⟩
theorem fp_Q_g {K V : Nat → Int32} {nx n2 R wd base n1 nd nd2 n3 o2 s2 a : Nat} {al c : List Int32} {v lt r : Int32} {tp cn ac nu la co W F S W2 F2 S2 : Nat → Int32} (h : fp_rw K V nx = (n2, some (al, v, lt, s2, c))) (hwo : pa_Q (2 * 20 + 2) wd base n1 nd 0 W F S r n3 o2 s2 nd2 W2 F2 S2) (hr : 0 ≤ r) (hla : al.length = a) (ha1 : 1 ≤ a) (ha8 : a ≤ 8)
    (e1 : tp R = r) (e2 : cn R = nI a) (e3 : fp_seg ac (8 * R) al) (e4 : nu R = v) (e5 : la R = lt) (e6 : co R = nI s2) (e7 : nd + c.length = nd2) (e8 : fp_seg W2 (base + nd) c) : fp_Q K V nx 1 n2 tp cn ac nu la co W2 F2 S2 R (base + nd) (base + nd2) := by
  rcases hwo.2.2.2.2.2.2.2 with rfl | ⟨n, p1, p2, p3, p4, p5⟩
  · exact absurd hr (by decide)
  refine Or.inr ⟨rfl, _, h, by rw [e2, ← hla], e3, by show 1 ≤ al.length; omega, by show al.length ≤ 8; omega, e4, e5, e6, hwo.2.2.2.2.1, base + nd, n, e1.trans p1, Nat.le_refl _, by omega, by omega, by show base + nd + c.length = n + 1; omega, e8, ?_⟩
  rw [show n + 1 - (base + nd) = nd2 - nd by omega]
  exact p5
/-- the rows of half h, as a list -/
def fp_rs (rs : List fp_row) (tp cn ac nu la co W F S : Nat → Int32) (h m d : Nat) : Prop := rs.length = m ∧ ∀ k row, rs[k]? = some row → fp_ra row tp cn ac nu la co W F S (40 * h + k) (3000 * h) (3000 * h + d)
theorem fp_rs_add {rs : List fp_row} {row : fp_row} {tp cn ac nu la co W F S tp' cn' ac' nu' la' co' W' F' S' : Nat → Int32} {h m d d2 : Nat} (hs : fp_rs rs tp cn ac nu la co W F S h m d) (hd : d ≤ d2) (hr : fp_ra row tp' cn' ac' nu' la' co' W' F' S' (40 * h + m) (3000 * h + d) (3000 * h + d2)) (h1 : ∀ j, j ≠ 40 * h + m → tp' j = tp j) (h2 : ∀ j, j ≠ 40 * h + m → cn' j = cn j) (h3 : ∀ j, (j < 8 * (40 * h + m) ∨ 8 * (40 * h + m) + 8 ≤ j) → ac' j = ac j) (h4 : ∀ j, j ≠ 40 * h + m → nu' j = nu j) (h5 : ∀ j, j ≠ 40 * h + m → la' j = la j) (h6 : ∀ j, j ≠ 40 * h + m → co' j = co j) (h7 : ∀ j, j < 3000 * h + d → W' j = W j ∧ F' j = F j ∧ S' j = S j) : fp_rs (rs ++ [row]) tp' cn' ac' nu' la' co' W' F' S' h (m + 1) d2 := by
  obtain ⟨g1, g2⟩ := hs
  refine ⟨by rw [List.length_append, g1]; rfl, fun k q hq => ?_⟩
  by_cases hk : k < rs.length
  · rw [List.getElem?_append_left hk] at hq
    exact fp_ra_congr (g2 k q hq) (by omega) (h1 _ (by omega)) (h2 _ (by omega)) (fun j a b => h3 j (by omega)) (h4 _ (by omega)) (h5 _ (by omega)) (h6 _ (by omega)) (fun j a b => h7 j (by omega))
  · rw [List.getElem?_append_right (by omega)] at hq
    obtain ⟨hk2, _⟩ := List.getElem?_eq_some_iff.mp hq
    have hk3 : k = m := by
      simp only [List.length_cons, List.length_nil] at hk2
      omega
    subst hk3
    rw [g1, Nat.sub_self] at hq
    cases hq
    obtain ⟨a1, a2, a3, a4, a5, a6, a7, a8, lo, n, e1, e2, e3, e4, e5, e6, e7⟩ := hr
    exact ⟨a1, a2, a3, a4, a5, a6, a7, a8, lo, n, e1, by omega, e3, e4, e5, e6, e7⟩
theorem fp_rs_congr {rs : List fp_row} {tp cn ac nu la co W F S tp' cn' ac' nu' la' co' W' F' S' : Nat → Int32} {h m d : Nat} (hs : fp_rs rs tp cn ac nu la co W F S h m d) (hm : m ≤ 40) (h1 : ∀ j, 40 * h ≤ j → j < 40 * h + 40 → tp' j = tp j) (h2 : ∀ j, 40 * h ≤ j → j < 40 * h + 40 → cn' j = cn j) (h3 : ∀ j, 320 * h ≤ j → j < 320 * h + 320 → ac' j = ac j) (h4 : ∀ j, 40 * h ≤ j → j < 40 * h + 40 → nu' j = nu j) (h5 : ∀ j, 40 * h ≤ j → j < 40 * h + 40 → la' j = la j) (h6 : ∀ j, 40 * h ≤ j → j < 40 * h + 40 → co' j = co j) (h7 : ∀ j, 3000 * h ≤ j → j < 3000 * h + d → W' j = W j ∧ F' j = F j ∧ S' j = S j) : fp_rs rs tp' cn' ac' nu' la' co' W' F' S' h m d := by
  obtain ⟨g1, g2⟩ := hs
  refine ⟨g1, fun k q hq => ?_⟩
  obtain ⟨hk, _⟩ := List.getElem?_eq_some_iff.mp hq
  exact fp_ra_congr (g2 k q hq) (Nat.le_refl _) (h1 _ (by omega) (by omega)) (h2 _ (by omega) (by omega)) (fun j a b => h3 j (by omega) (by omega)) (h4 _ (by omega) (by omega)) (h5 _ (by omega) (by omega)) (h6 _ (by omega) (by omega)) (fun j a b => h7 j a b)

theorem fp_seg_at {W : Nat → Int32} {b j : Nat} {c : List Int32} (h : fp_seg W b c) (hj : j < c.length) : c[j]? = some (W (b + j)) := by
  have h1 := List.getElem?_eq_getElem hj
  rw [h1, h j _ h1]
theorem fp_seg_mem {W : Nat → Int32} {b j : Nat} {c : List Int32} (h : fp_seg W b c) (hj : j < c.length) : W (b + j) ∈ c := List.mem_of_getElem? (fp_seg_at h hj)
theorem fp_P_f {R : fp_R} {r : Int32} {n2 s2 base nd nd2 : Nat} {W2 : Nat → Int32} (h : fp_P R r n2 s2 base nd nd2 W2) (hr : ¬ 0 ≤ r) : R = (n2, none) := by
  rcases h with ⟨_, h⟩ | ⟨q, _⟩
  · exact h
  · exact absurd (Int32.not_lt.mp q) hr
theorem fp_P_g {R : fp_R} {r : Int32} {n2 s2 base nd nd2 : Nat} {W2 : Nat → Int32} (h : fp_P R r n2 s2 base nd nd2 W2) (hr : 0 ≤ r) : ∃ c, R = (n2, some (s2, c)) ∧ nd + c.length = nd2 ∧ fp_seg W2 (base + nd) c := by
  rcases h with ⟨rfl, _⟩ | ⟨_, h⟩
  · exact absurd hr (by decide)
  · exact h
theorem fp_ne_nil {al : List Int32} {a : Nat} (h : al.length = a) (ha : 1 ≤ a) : ¬ al = [] := by
  intro e
  subst e
  rw [← h] at ha
  exact absurd ha (by decide)
theorem fp_is_nil {al : List Int32} {a : Nat} (h : al.length = a) (ha : nI a = 0) (hb : a ≤ 8) : al = [] := by
  have h1 : a = 0 := (nI_eq (b := 0) (by omega) (by decide)).mp (ha.trans nI_0.symm)
  subst h1
  exact List.eq_nil_of_length_eq_zero h
theorem fp_z {a : Nat} (h : nI a = 0) (ha : a < 2 ^ 31) : a = 0 := (nI_eq (b := 0) ha (by decide)).mp (h.trans nI_0.symm)
theorem mk_K_z {T : Nat → Int32} {Bn En : Nat → Nat} {wd len i : Nat} (h : fp_at (fp_ws T len 0) Bn En wd) : mk_K T Bn En wd i = 0 ↔ wd ≤ i := by
  rw [mk_K_at h, fp_K_0, h.1]
/-- what read answers -/
def fp_ans (R : Nat × Option (List fp_row)) : Int32 := match R.2 with
  | none => -1 - nI R.1
  | some rs => nI rs.length
/-- while a text is read -/
def fp_tI (K V : Nat → Int32) (gb n1 m1 : Nat) (rs1 : List fp_row) (tp cn ac nu la co W F S : Nat → Int32) (h d1 : Nat) : Prop := (gb = 0 ∧ fp_text K V 41 0 [] = (n1, none)) ∨ (gb = 1 ∧ fp_text K V 41 0 [] = fp_text K V (41 - m1) n1 rs1 ∧ fp_rs rs1 tp cn ac nu la co W F S h m1 d1)
/-- the other half is as it was -/
def fp_old (h : Nat) (tp cn ac nu la co W F S tp' cn' ac' nu' la' co' W' F' S' : Nat → Int32) : Prop := (∀ j, 40 * h ≤ j → j < 40 * h + 40 → tp' j = tp j ∧ cn' j = cn j ∧ nu' j = nu j ∧ la' j = la j ∧ co' j = co j) ∧ (∀ j, 320 * h ≤ j → j < 320 * h + 320 → ac' j = ac j) ∧ (∀ j, 3000 * h ≤ j → j < 3000 * h + 3000 → W' j = W j ∧ F' j = F j ∧ S' j = S j)
section TextI
variable {K V : Nat → Int32} {gb n1 m1 h d1 n2 d2 m2 wd rw : Nat} {rs1 : List fp_row} {r : Int32} {tp cn ac nu la co W F S tp0 cn0 ac0 nu0 la0 co0 W0 F0 S0 tp2 cn2 ac2 nu2 la2 co2 W2 F2 S2 : Nat → Int32}
theorem fp_tI_0 : fp_tI K V 1 0 0 [] tp cn ac nu la co W F S h 0 := Or.inr ⟨rfl, rfl, rfl, fun k row hk => by simp at hk⟩
theorem fp_tI_x (hI : fp_tI K V gb n1 m1 rs1 tp cn ac nu la co W F S h d1) (hg : 1 ≤ gb) (hk : ¬ K n1 = 0) (hx : ¬ (K n1 = 5 ∧ m1 < 40)) : fp_tI K V 0 n1 m2 rs1 tp2 cn2 ac2 nu2 la2 co2 W2 F2 S2 h d2 := by
  rcases hI with ⟨h1, _⟩ | ⟨_, h2, h3, _⟩
  · omega
  · exact Or.inl ⟨rfl, by rw [h2, fp_text_x hk (by rw [h3]; exact hx)]⟩
theorem fp_tI_f {R b1 b2 : Nat} (hI : fp_tI K V gb n1 m1 rs1 tp cn ac nu la co W F S h d1) (hg : 1 ≤ gb) (hk : K n1 = 5) (hm : m1 < 40) (hQ : fp_Q K V n1 r n2 tp2 cn2 ac2 nu2 la2 co2 W2 F2 S2 R b1 b2) (hr : r = 0) : fp_tI K V 0 n2 m2 rs1 tp2 cn2 ac2 nu2 la2 co2 W2 F2 S2 h d2 := by
  rcases hI with ⟨h1, _⟩ | ⟨_, h2, h3, _⟩
  · omega
  · rcases hQ with ⟨_, q⟩ | ⟨q, _⟩
    · obtain ⟨f, hf⟩ : ∃ f, 41 - m1 = f + 1 := ⟨40 - m1, by omega⟩
      exact Or.inl ⟨rfl, by rw [h2, hf, fp_text_f ⟨hk, by rw [h3]; exact hm⟩ q]⟩
    · exact absurd (q.symm.trans hr) (by decide)
theorem fp_tI_g (hI : fp_tI K V gb n1 m1 rs1 tp cn ac nu la co W F S (1 - h) d1) (hg : 1 ≤ gb) (hk : K n1 = 5) (hm : m1 < 40) (hQ : fp_Q K V n1 r n2 tp2 cn2 ac2 nu2 la2 co2 W2 F2 S2 (40 * (1 - h) + m1) (3000 * (1 - h) + d1) (3000 * (1 - h) + d2)) (hr : ¬ r = 0) (hw : ro_Q wd (3000 * (1 - h)) (40 * (1 - h) + m1) n1 d1 m1 W F S tp cn ac nu r n2 d2 m2 W2 F2 S2 tp2 cn2 ac2 nu2) (h5 : ∀ j, j ≠ 40 * (1 - h) + m1 → la2 j = la j) (h6 : ∀ j, j ≠ 40 * (1 - h) + m1 → co2 j = co j) : ∃ rs2, fp_tI K V 1 n2 m2 rs2 tp2 cn2 ac2 nu2 la2 co2 W2 F2 S2 (1 - h) d2 := by
  rcases hI with ⟨h1, _⟩ | ⟨_, h2, h3⟩
  · omega
  · rcases hQ with ⟨q, _⟩ | ⟨_, row, q, hra⟩
    · exact absurd q hr
    · obtain ⟨f, hf⟩ : ∃ f, 41 - m1 = f + 1 := ⟨40 - m1, by omega⟩
      obtain ⟨c1, c2, c3, c4, c5, c6, c7⟩ := hw
      have hm2 : m2 = m1 + 1 := by
        rcases c7 with ⟨z, _⟩ | ⟨_, z, _⟩
        · exact absurd z hr
        · exact z
      refine ⟨rs1 ++ [row], Or.inr ⟨rfl, ?_, ?_⟩⟩
      · rw [h2, hf, fp_text_g ⟨hk, by rw [h3.1]; exact hm⟩ q, show 41 - m2 = f by omega]
      · rw [hm2]
        exact fp_rs_add h3 c1.2.2.1 hra c3 c4 c5 c6 h5 h6 (fun j hj => c2 j (Or.inl hj))
theorem fp_old_0 : fp_old h tp cn ac nu la co W F S tp cn ac nu la co W F S := ⟨fun _ _ _ => ⟨rfl, rfl, rfl, rfl, rfl⟩, fun _ _ _ => rfl, fun _ _ _ => ⟨rfl, rfl, rfl⟩⟩
theorem fp_old_s (ho : fp_old h tp0 cn0 ac0 nu0 la0 co0 W0 F0 S0 tp cn ac nu la co W F S) (hw : ro_Q wd (3000 * (1 - h)) (40 * (1 - h) + m1) n1 d1 m1 W F S tp cn ac nu r n2 d2 m2 W2 F2 S2 tp2 cn2 ac2 nu2) (h5 : ∀ j, j ≠ 40 * (1 - h) + m1 → la2 j = la j) (h6 : ∀ j, j ≠ 40 * (1 - h) + m1 → co2 j = co j) (hh : h ≤ 1) (hm : m1 < 40) : fp_old h tp0 cn0 ac0 nu0 la0 co0 W0 F0 S0 tp2 cn2 ac2 nu2 la2 co2 W2 F2 S2 := by
  obtain ⟨c1, c2, c3, c4, c5, c6, c7⟩ := hw
  obtain ⟨o1, o2, o3⟩ := ho
  refine ⟨fun j a b => ?_, fun j a b => ?_, fun j a b => ?_⟩
  · obtain ⟨z1, z2, z3, z4, z5⟩ := o1 j a b
    have hne : j ≠ 40 * (1 - h) + m1 := by omega
    exact ⟨(c3 j hne).trans z1, (c4 j hne).trans z2, (c6 j hne).trans z3, (h5 j hne).trans z4, (h6 j hne).trans z5⟩
  · exact (c5 j (by omega)).trans (o2 j a b)
  · obtain ⟨z1, z2, z3⟩ := o3 j a b
    obtain ⟨y1, y2, y3⟩ := c2 j (by omega)
    exact ⟨y1.trans z1, y2.trans z2, y3.trans z3⟩
end TextI
theorem fp_rs_wide {rs : List fp_row} {tp cn ac nu la co W F S : Nat → Int32} {h m d d2 : Nat} (hs : fp_rs rs tp cn ac nu la co W F S h m d) (hd : d ≤ d2) : fp_rs rs tp cn ac nu la co W F S h m d2 := ⟨hs.1, fun k row hk => fp_ra_congr (hs.2 k row hk) (by omega) rfl rfl (fun _ _ _ => rfl) rfl rfl rfl (fun _ _ _ => ⟨rfl, rfl, rfl⟩)⟩

theorem fp_z3 {k : Nat} {ct lt ps : Nat → Int32} (h : ∀ j, j < k → ct j = 0 ∧ lt j = 0 ∧ ps j = 0) : ∀ j, j < k + 1 → upd ct k 0 j = 0 ∧ upd lt k (vp_nar .boolean 0) j = 0 ∧ upd ps k 0 j = 0 := by
  intro j hj
  by_cases e : j = k
  · subst e
    rw [pk_us, pk_us, pk_us]
    exact ⟨rfl, rfl, rfl⟩
  · rw [pk_un e, pk_un e, pk_un e]
    exact h j (by omega)
theorem fp_rdF {T : Nat → Int32} {Bn En : Nat → Nat} {wd len gb n1 m1 d1 h : Nat} {rs1 : List fp_row} {tp cn ac nu la co W F S : Nat → Int32} (hat : fp_at (fp_ws T len 0) Bn En wd) (hI : fp_tI (mk_K T Bn En wd) (mk_V T Bn En wd) gb n1 m1 rs1 tp cn ac nu la co W F S h d1) (hg : gb = 0) : fp_read T len = (n1, none) := by
  rw [fp_read, ← mk_K_at hat, ← mk_V_at hat]
  rcases hI with ⟨_, h1⟩ | ⟨h1, _⟩
  · exact h1
  · omega
theorem fp_rdG {T : Nat → Int32} {Bn En : Nat → Nat} {wd len gb n1 m1 d1 h : Nat} {rs1 : List fp_row} {tp cn ac nu la co W F S : Nat → Int32} (hat : fp_at (fp_ws T len 0) Bn En wd) (hI : fp_tI (mk_K T Bn En wd) (mk_V T Bn En wd) gb n1 m1 rs1 tp cn ac nu la co W F S h d1) (hg : 1 ≤ gb) (hn : wd ≤ n1) : fp_read T len = (n1, some rs1) ∧ fp_rs rs1 tp cn ac nu la co W F S h m1 d1 := by
  rw [fp_read, ← mk_K_at hat, ← mk_V_at hat]
  rcases hI with ⟨h1, _⟩ | ⟨_, h2, h3⟩
  · omega
  · exact ⟨by rw [h2, fp_text_e ((mk_K_z hat).mpr hn)], h3⟩
