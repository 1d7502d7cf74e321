
theorem rowok_congr {tp cn ac nu W F S tp' cn' ac' nu' W' F' S' : Nat → Int32} {R lo hi wt : Nat} (h : rowok tp cn ac nu W F S R lo hi wt) (h1 : tp' R = tp R) (h2 : cn' R = cn R) (h3 : ∀ j, 8 * R ≤ j → j < 8 * R + 8 → ac' j = ac j) (h4 : nu' R = nu R) (hs : ∀ j, lo ≤ j → j < hi → W' j = W j ∧ F' j = F j ∧ S' j = S j) : rowok tp' cn' ac' nu' W' F' S' R lo hi wt := by
  obtain ⟨n, a, p1, p2, p3, p4, p5, p6, p7, p8, p9, p10⟩ := h
  refine ⟨n, a, h1.trans p1, p2, p3, tr_congr _ _ _ _ (fun j c1 c2 => hs j c1 (by omega)) p2 p4, h2.trans p5, p6, p7, fun j hj => ?_, ?_, p10⟩
  · rw [h3 _ (by omega) (by omega)]
    exact p8 j hj
  · rw [h4]
    exact p9
/-- the rows of half h: r of them, of no more than 512 words -/
def rws (tp cn ac nu W F S : Nat → Int32) (h r : Nat) : Prop := ∃ lo hi q : Nat → Nat, q 0 = 0 ∧ q r ≤ 512 ∧ ∀ k, k < r → q k ≤ q (k + 1) ∧ 3000 * h ≤ lo k ∧ hi k ≤ 3000 * h + 512 ∧ rowok tp cn ac nu W F S (40 * h + k) (lo k) (hi k) (q (k + 1) - q k)
theorem rws_congr {tp cn ac nu W F S tp' cn' ac' nu' W' F' S' : Nat → Int32} {h r : Nat} (hh : rws tp cn ac nu W F S h r) (hr : r ≤ 40) (h1 : ∀ j, 40 * h ≤ j → j < 40 * h + 40 → tp' j = tp j) (h2 : ∀ j, 40 * h ≤ j → j < 40 * h + 40 → cn' j = cn j) (h3 : ∀ j, 320 * h ≤ j → j < 320 * h + 320 → ac' j = ac j) (h4 : ∀ j, 40 * h ≤ j → j < 40 * h + 40 → nu' j = nu j) (hs : ∀ j, 3000 * h ≤ j → j < 3000 * h + 512 → W' j = W j ∧ F' j = F j ∧ S' j = S j) : rws tp' cn' ac' nu' W' F' S' h r := by
  obtain ⟨lo, hi, q, g1, g2, g3⟩ := hh
  refine ⟨lo, hi, q, g1, g2, fun k hk => ?_⟩
  obtain ⟨k1, k2, k3, k4⟩ := g3 k hk
  exact ⟨k1, k2, k3, rowok_congr k4 (h1 _ (by omega) (by omega)) (h2 _ (by omega) (by omega)) (fun j a b => h3 j (by omega) (by omega)) (h4 _ (by omega) (by omega)) (fun j a b => hs j (by omega) (by omega))⟩
/-- while a text is read: the rows of the other half are as they were, the new ones are good so far -/
def rd_I (wd h rw : Nat) (W0 F0 S0 tp0 cn0 ac0 nu0 : Nat → Int32) (gb n1 d1 m1 : Nat) (W F S tp cn ac nu : Nat → Int32) : Prop :=
  gb ≤ 1 ∧ n1 ≤ wd ∧ d1 ≤ n1 ∧ m1 ≤ 40 ∧ rws tp cn ac nu W F S h rw ∧ (∃ lo hi q : Nat → Nat, q 0 = 0 ∧ q m1 ≤ n1 ∧ ∀ k, k < m1 → q k ≤ q (k + 1) ∧ 3000 * (1 - h) ≤ lo k ∧ hi k ≤ 3000 * (1 - h) + d1 ∧ rowok tp cn ac nu W F S (40 * (1 - h) + k) (lo k) (hi k) (q (k + 1) - q k))
section RdI
variable {wd h rw gb n1 d1 m1 n2 d2 m2 : Nat} {W0 F0 S0 tp0 cn0 ac0 nu0 W F S tp cn ac nu W2 F2 S2 tp2 cn2 ac2 nu2 : Nat → Int32} {r : Int32}
theorem rd_0 (hrs : rws tp cn ac nu W F S h rw) : rd_I wd h rw W F S tp cn ac nu 1 0 0 0 W F S tp cn ac nu := ⟨Nat.le_refl _, Nat.zero_le _, Nat.le_refl _, Nat.zero_le _, hrs, fun _ => 0, fun _ => 0, fun _ => 0, rfl, Nat.le_refl _, fun k hk => absurd hk (Nat.not_lt_zero _)⟩
theorem rd_stop (hI : rd_I wd h rw W0 F0 S0 tp0 cn0 ac0 nu0 gb n1 d1 m1 W F S tp cn ac nu) : rd_I wd h rw W0 F0 S0 tp0 cn0 ac0 nu0 0 n1 d1 m1 W F S tp cn ac nu := ⟨Nat.zero_le _, hI.2⟩
theorem rd_step (hI : rd_I wd h rw W0 F0 S0 tp0 cn0 ac0 nu0 gb n1 d1 m1 W F S tp cn ac nu) (hw : ro_Q wd (3000 * (1 - h)) (40 * (1 - h) + m1) n1 d1 m1 W F S tp cn ac nu r n2 d2 m2 W2 F2 S2 tp2 cn2 ac2 nu2) (hh : h ≤ 1) (hm : m1 < 40) (hrw : rw ≤ 40) (hwd : wd ≤ 512) : rws tp2 cn2 ac2 nu2 W2 F2 S2 h rw ∧ (∃ lo hi q : Nat → Nat, q 0 = 0 ∧ q m1 ≤ n1 ∧ ∀ k, k < m1 → q k ≤ q (k + 1) ∧ 3000 * (1 - h) ≤ lo k ∧ hi k ≤ 3000 * (1 - h) + d1 ∧ rowok tp2 cn2 ac2 nu2 W2 F2 S2 (40 * (1 - h) + k) (lo k) (hi k) (q (k + 1) - q k)) := by
  obtain ⟨a1, a2, a3, a4, a5, lo, hi, q, b1, b2, b3⟩ := hI
  obtain ⟨c1, c2, c3, c4, c5, c6, c7⟩ := hw
  refine ⟨rws_congr a5 hrw (fun j u v => c3 j (by omega)) (fun j u v => c4 j (by omega)) (fun j u v => c5 j (by omega)) (fun j u v => c6 j (by omega)) (fun j u v => c2 j (by omega)), lo, hi, q, b1, b2, fun k hk => ?_⟩
  obtain ⟨k1, k2, k3, k4⟩ := b3 k hk
  exact ⟨k1, k2, k3, rowok_congr k4 (c3 _ (by omega)) (c4 _ (by omega)) (fun j u v => c5 j (by omega)) (c6 _ (by omega)) (fun j u v => c2 j (by omega))⟩
theorem rd_old (hI : rd_I wd h rw W0 F0 S0 tp0 cn0 ac0 nu0 gb n1 d1 m1 W F S tp cn ac nu) : rws tp cn ac nu W F S h rw := hI.2.2.2.2.1
theorem rd_fail (hI : rd_I wd h rw W0 F0 S0 tp0 cn0 ac0 nu0 gb n1 d1 m1 W F S tp cn ac nu) (hw : ro_Q wd (3000 * (1 - h)) (40 * (1 - h) + m1) n1 d1 m1 W F S tp cn ac nu r n2 d2 m2 W2 F2 S2 tp2 cn2 ac2 nu2) (hh : h ≤ 1) (hm : m1 < 40) (hrw : rw ≤ 40) (hwd : wd ≤ 512) (hr : r = 0) : rd_I wd h rw W0 F0 S0 tp0 cn0 ac0 nu0 0 n2 d2 m2 W2 F2 S2 tp2 cn2 ac2 nu2 := by
  obtain ⟨e1, lo, hi, q, b1, b2, b3⟩ := rd_step hI hw hh hm hrw hwd
  have g := hw.1
  have g2 := hI.2.2.1
  rcases hw.2.2.2.2.2.2 with ⟨_, rfl⟩ | ⟨h1, _⟩
  · exact ⟨Nat.zero_le _, by omega, by omega, by omega, e1, lo, hi, q, b1, by omega, fun k hk => ⟨(b3 k hk).1, (b3 k hk).2.1, by have := (b3 k hk).2.2.1; omega, (b3 k hk).2.2.2⟩⟩
  · rw [hr] at h1
    exact absurd h1 (by decide)
theorem rd_ok (hI : rd_I wd h rw W0 F0 S0 tp0 cn0 ac0 nu0 gb n1 d1 m1 W F S tp cn ac nu) (hw : ro_Q wd (3000 * (1 - h)) (40 * (1 - h) + m1) n1 d1 m1 W F S tp cn ac nu r n2 d2 m2 W2 F2 S2 tp2 cn2 ac2 nu2) (hh : h ≤ 1) (hm : m1 < 40) (hrw : rw ≤ 40) (hwd : wd ≤ 512) (hr : ¬ r = 0) : rd_I wd h rw W0 F0 S0 tp0 cn0 ac0 nu0 1 n2 d2 m2 W2 F2 S2 tp2 cn2 ac2 nu2 := by
  obtain ⟨e1, lo, hi, q, b1, b2, b3⟩ := rd_step hI hw hh hm hrw hwd
  have g := hw.1
  have g2 := hI.2.2.1
  rcases hw.2.2.2.2.2.2 with ⟨h1, _⟩ | ⟨h1, rfl, hrow⟩
  · exact absurd h1 hr
  · refine ⟨Nat.le_refl _, by omega, by omega, by omega, e1, va_up lo m1 (3000 * (1 - h) + d1), va_up hi m1 (3000 * (1 - h) + d2), va_up q (m1 + 1) n2, ?_, ?_, fun k hk => ?_⟩
    · rw [va_up_ne _ _ (by omega)]
      exact b1
    · rw [va_up_self]
      exact Nat.le_refl _
    · by_cases e : k = m1
      · subst e
        rw [va_up_self, va_up_self, va_up_self, va_up_ne (j := k) (k := k + 1) _ _ (by omega)]
        refine ⟨by omega, by omega, by omega, ?_⟩
        obtain ⟨n, a, p1, p2, p3, p4, p5, p6, p7, p8, p9, p10⟩ := hrow
        exact ⟨n, a, p1, p2, p3, p4, p5, p6, p7, p8, p9, by omega⟩
      · rw [va_up_ne _ _ e, va_up_ne _ _ e, va_up_ne (j := k) _ _ (by omega), va_up_ne (j := k + 1) _ _ (by omega)]
        obtain ⟨k1, k2, k3, k4⟩ := b3 k (by omega)
        exact ⟨k1, k2, by omega, k4⟩
theorem rd_new (hI : rd_I wd h rw W0 F0 S0 tp0 cn0 ac0 nu0 gb n1 d1 m1 W F S tp cn ac nu) (hwd : wd ≤ 512) : rws tp cn ac nu W F S (1 - h) m1 := by
  obtain ⟨a1, a2, a3, a4, a5, lo, hi, q, b1, b2, b3⟩ := hI
  refine ⟨lo, hi, q, b1, by omega, fun k hk => ?_⟩
  obtain ⟨k1, k2, k3, k4⟩ := b3 k hk
  exact ⟨k1, k2, by omega, k4⟩
end RdI
