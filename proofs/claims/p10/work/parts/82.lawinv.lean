-- deps: 77 78

def LT1 (j lt nt : Nat) (ft : Nat → Int32) : Prop := lt ≤ nt ∧ 1 ≤ nt ∧ nt ≤ 1024 ∧ sb_Fit ft ∧ lt ≤ j
def LT2 (e : Nat → Nat) (sz0 n1 ea na : Nat) (fl : Nat → Option Nat) (rs : List rwT) (ln : Nat) (w : Option (Nat × Nat × Nat × Nat × (Nat → Int32))) : Prop := sz0 ≤ n1 ∧ n1 < 65536 ∧ lsok e ea na fl rs ∧ na ≤ 60 ∧ rs.length = ln ∧ wok w
def LT3 (ma : Nat → Nat → Int32) (hh rw : Nat) : Prop := hh ≤ 1 ∧ rw ≤ 40 ∧ rws (ma 6) (ma 7) (ma 8) (ma 9) (ma 3) (ma 4) (ma 5) hh rw
def crd : Option (Nat × Nat × Nat × Nat × (Nat → Int32)) → Nat
  | none => 8192
  | some _ => 0
theorem crd_le (w : Option (Nat × Nat × Nat × Nat × (Nat → Int32))) : crd w ≤ 8192 := by cases w <;> simp [crd]
theorem wcc_le (w : Option (Nat × Nat × Nat × Nat × (Nat → Int32))) : wcc w ≤ 10 := by cases w <;> simp [wcc]
theorem wss_le (w : Option (Nat × Nat × Nat × Nat × (Nat → Int32))) : wss w ≤ crd w + 8134 := by cases w <;> simp [wss, crd]
theorem crd_some {w : Option (Nat × Nat × Nat × Nat × (Nat → Int32))} (h : w.isSome = true) : crd w = 0 := by
  cases w with
  | none => cases h
  | some _ => rfl
theorem LT1_0 : LT1 0 0 64 (fun _ => 0) := ⟨by decide, by decide, by decide, sb_fit0, Nat.le_refl _⟩
theorem LT2_0 {e : Nat → Nat} : LT2 e 0 0 (e 0) 0 (fun _ => none) [] 0 none := ⟨Nat.le_refl _, by decide, ls_none, by decide, rfl, trivial⟩
theorem LT3_c {ma : Nat → Nat → Int32} {hh : Nat} (h : hh ≤ 1) : LT3 ma hh 0 := ⟨h, by decide, fun _ => 0, fun _ => 0, fun _ => 0, rfl, by decide, fun k hk => absurd hk (Nat.not_lt_zero _)⟩
theorem LT3_0 {ma : Nat → Nat → Int32} (_ : 0 = 0) : LT3 ma 0 0 := LT3_c (by decide)
theorem lt1_unit {j lt nt lt2 nt2 : Nat} {ft f2 : Nat → Int32} {k r : Int32} (h1 : lt ≤ nt) (h2 : 1 ≤ nt) (h3 : nt ≤ 1024) (h4 : lt ≤ j) (hj : j ≤ 511) (hw : ((k < 1 ∨ 127 < k) ∧ r = 0 ∧ lt2 = lt ∧ nt2 = nt ∧ sb_Fit f2 ∧ f2 = ft) ∨ (¬ k < 1 ∧ ¬ 127 < k ∧ r = 1 ∧ lt2 = lt + 1 ∧ lt2 ≤ nt2 ∧ (nt2 = nt ∨ nt2 = 2 * nt ∧ nt ≤ lt) ∧ sb_Fit f2 ∧ (∀ j, j < lt → f2 j = ft j) ∧ f2 lt = vp_nar .byte k.toInt8.toInt32)) : LT1 (j + 1) lt2 nt2 f2 := by
  rcases hw with ⟨_, _, e1, e2, e3, _⟩ | ⟨_, _, _, e1, e2, e3, e4, _⟩
  · exact ⟨by omega, by omega, by omega, e3, by omega⟩
  · exact ⟨e2, by omega, by omega, e4, by omega⟩
theorem law_in {L j : Nat} (hL : L ≤ 2560) (hj : j ≤ 512) (h : ¬ Int32.ofNat L - 5 < nI (5 * j)) : 5 * j + 5 ≤ L := by
  have e5 : (5 : Int32).toInt = 5 := by decide
  have eL : (Int32.ofNat L).toInt = (L : Int) := nI_toInt (n := L) (by omega)
  rw [pk_ti, nI_toInt (by omega), Int32.toInt_sub, eL, e5] at h
  have hb : ((L : Int) - 5).bmod (2 ^ 32) = (L : Int) - 5 := by
    apply Int.bmod_eq_of_le <;> omega
  rw [hb] at h
  omega
/-- both texts are alike -/
def fp_tx (lt : Nat) (ft : Nat → Int32) (msz : Nat) (T : Nat → Int32) : Prop := lt = msz ∧ ∀ i, i < lt → ft i = T i
theorem fp_tx_0 {ft T : Nat → Int32} : fp_tx 0 ft 0 T := ⟨rfl, fun i hi => absurd hi (Nat.not_lt_zero _)⟩
theorem fp_tx_u {lt lt2 nt nt2 msz sz2 : Nat} {ft f2 T T2 : Nat → Int32} {k r r2 : Int32} (hE : fp_tx lt ft msz T) (h1 : ((k < 1 ∨ 127 < k) ∧ r = 0 ∧ lt2 = lt ∧ nt2 = nt ∧ sb_Fit f2 ∧ f2 = ft) ∨ (¬ k < 1 ∧ ¬ 127 < k ∧ r = 1 ∧ lt2 = lt + 1 ∧ lt2 ≤ nt2 ∧ (nt2 = nt ∨ nt2 = 2 * nt ∧ nt ≤ lt) ∧ sb_Fit f2 ∧ (∀ j, j < lt → f2 j = ft j) ∧ f2 lt = vp_nar .byte k.toInt8.toInt32)) (h2 : ((k < 1 ∨ 127 < k) ∧ r2 = 0 ∧ sz2 = msz ∧ T2 = T) ∨ (¬ (k < 1 ∨ 127 < k) ∧ r2 = 1 ∧ sz2 = msz + 1 ∧ T2 = upd T msz (vp_nar .byte k.toInt8.toInt32))) : fp_tx lt2 f2 sz2 T2 := by
  obtain ⟨e0, e1⟩ := hE
  rcases h1 with ⟨a1, _, a2, _, _, a3⟩ | ⟨a0, a1, _, a2, _, _, _, a3, a4⟩
  · rcases h2 with ⟨_, _, b2, b3⟩ | ⟨b1, _⟩
    · rw [a2, a3, b2, b3]
      exact ⟨e0, e1⟩
    · exact absurd a1 b1
  · rcases h2 with ⟨b1, _⟩ | ⟨_, _, b2, b3⟩
    · exact absurd b1 (fun q => q.elim a0 a1)
    · refine ⟨by omega, fun i hi => ?_⟩
      rw [b3]
      by_cases e : i = lt
      · subst e
        rw [a4, e0, pk_us]
      · rw [a3 i (by omega), pk_un (by omega)]
        exact e1 i (by omega)
theorem fp_rd_same {lt msz : Nat} {ft T : Nat → Int32} {r r2 : Int32} (hE : fp_tx lt ft msz T) (h1 : r = fp_ans (fp_read ft lt)) (h2 : r2 = fp_ans (fp_read T msz)) : r = r2 := by
  obtain ⟨e0, e1⟩ := hE
  subst e0
  rw [h1, h2, fp_read_congr e1]

/-- the class's conditions against the reference's -/
def cst (cf : Nat → Int64) (x : Int32) : Prop := ∀ j, j < 16 → cf j = if bt x j = true then -1 else 0
theorem cst_0 : cst (fun _ => 0) 0 := fun j _ => by
  rw [b_0, if_neg (by decide)]
theorem cst_b {x : Int32} {j i : Nat} (hj : j < 16) (hi : i < 16) : bt (x ^^^ ((1 : Int32) <<< (nI j &&& 31))) i = (bt x i ^^ decide (i = j)) := by
  rw [b_xor, b_shl j (by omega) 1 (by omega)]
  by_cases h : j ≤ i
  · rw [bt1 _ (by omega), decide_eq_true h, Bool.true_and]
    by_cases e : i = j
    · rw [decide_eq_true e, decide_eq_true (by omega)]
    · rw [decide_eq_false e, decide_eq_false (by omega)]
  · rw [decide_eq_false h, Bool.false_and, decide_eq_false (by omega)]
theorem cst_up {cf : Nat → Int64} {x x2 : Int32} {j : Nat} {v : Int64} (h : cst cf x) (hv : v = if bt x2 j = true then -1 else 0) (ho : ∀ i, i < 16 → ¬ i = j → bt x2 i = bt x i) : cst (vp_updL cf j v) x2 := by
  intro i hi
  by_cases e : i = j
  · subst e
    rw [pk_uLs]
    exact hv
  · rw [pk_uLn e, ho i hi e]
    exact h i hi
theorem cst_step {cf cf2 : Nat → Int64} {x x2 k on r r2 : Int32} (ho : on = 0 ∨ on = 1) (hE : cst cf x) (h1 : cnd cf k on r cf2) (h2 : md_C x k on r2 x2) : cst cf2 x2 ∧ r = r2 := by
  unfold cnd at h1
  by_cases hk : k < 0 ∨ ¬ k < 16
  · rw [if_pos hk] at h1
    rcases h2 with ⟨_, e1, e2⟩ | ⟨a, b, _⟩ | ⟨a, b, _⟩
    · rw [h1.1, h1.2, e1, e2]
      exact ⟨hE, rfl⟩
    · exact absurd hk (fun q => q.elim a (fun q => q (pk_16 b)))
    · exact absurd hk (fun q => q.elim a (fun q => q (pk_16 b)))
  · rw [if_neg hk] at h1
    obtain ⟨e1, e2⟩ := h1
    have k1 : ¬ k < 0 := fun q => hk (Or.inl q)
    have k2 : k < 16 := Decidable.byContradiction (fun q => hk (Or.inr q))
    obtain ⟨j, hj, rfl⟩ := nI_of k1
    have hj16 : j < 16 := (nI_ltI (b := 16) hj (by decide)).mp k2
    rw [nI_clamp hj] at e1 e2
    have hb := b_one (x := x) (j := j) (by omega)
    have hc := hE j hj16
    rcases h2 with ⟨q, _⟩ | ⟨_, _, q, e3, e4⟩ | ⟨_, _, q, e3, e4⟩
    · rcases q with q | q
      · exact absurd q k1
      · exact absurd k2 (pk_15 q)
    · subst e4
      rcases q with ⟨q1, q2⟩ | ⟨q1, q2⟩
      · have hb1 := hb.mp q1
        rw [hb1, if_pos rfl] at hc
        have hs : (if on = 0 then (0 : Int64) else -1) = -1 := by rw [q2]; rfl
        rw [hc, hs, if_pos (by decide)] at e1
        rw [hs] at e2
        subst e2
        exact ⟨cst_up hE (by rw [hb1, if_pos rfl]) (fun _ _ _ => rfl), by rw [e1, e3]⟩
      · have hb1 : ¬ bt x2 j = true := fun z => q1 (hb.mpr z)
        rw [if_neg hb1] at hc
        have hs : (if on = 0 then (0 : Int64) else -1) = 0 := by rw [q2]; rfl
        rw [hc, hs, if_pos (by decide)] at e1
        rw [hs] at e2
        subst e2
        exact ⟨cst_up hE (by rw [if_neg hb1]) (fun _ _ _ => rfl), by rw [e1, e3]⟩
    · subst e4
      have hx : ∀ i, i < 16 → ¬ i = j → bt (x ^^^ ((1 : Int32) <<< (nI j &&& 31))) i = bt x i := fun i hi e => by
        rw [cst_b hj16 hi, decide_eq_false e, Bool.xor_false]
      have hy : bt (x ^^^ ((1 : Int32) <<< (nI j &&& 31))) j = !bt x j := by
        rw [cst_b hj16 hj16, decide_eq_true rfl, Bool.xor_true]
      rcases q with ⟨q1, q2⟩ | ⟨q1, q2⟩
      · have hb1 := hb.mp q1
        have o0 : on = 0 := ho.resolve_right q2
        rw [hb1, if_pos rfl] at hc
        have hs : (if on = 0 then (0 : Int64) else -1) = 0 := by rw [o0]; rfl
        rw [hc, hs, if_neg (by decide)] at e1
        rw [hs] at e2
        subst e2
        exact ⟨cst_up hE (by rw [hy, hb1]; rfl) hx, by rw [e1, e3]⟩
      · have hb1 : bt x j = false := by
          cases hz : bt x j with
          | false => rfl
          | true => exact absurd (hb.mpr hz) q1
        have o1 : on = 1 := ho.resolve_left q2
        rw [hb1, if_neg (by decide)] at hc
        have hs : (if on = 0 then (0 : Int64) else -1) = -1 := by rw [o1]; rfl
        rw [hc, hs, if_neg (by decide)] at e1
        rw [hs] at e2
        subst e2
        exact ⟨cst_up hE (by rw [hy, hb1]; rfl) hx, by rw [e1, e3]⟩

/-- what stands in a row for good, against the parsed row -/
def rcs (row : fp_row) (x : rwT) (fc : Nat → Int32) (z : Nat) : Prop := x.2.2.1 1 = nI row.1.length ∧ fp_seg x.2.2.2 0 row.1 ∧ fp_bits (x.2.2.1 2) row.1 ∧ x.2.2.1 3 = nI row.2.2.2.1 ∧ x.2.2.1 7 = row.2.1 ∧ x.2.2.1 8 = row.2.2.1 ∧ ∃ b, x.2.2.1 4 = nI b ∧ x.2.2.1 5 = nI (b + row.2.2.2.2.length) ∧ b + row.2.2.2.2.length ≤ z ∧ fp_seg fc b row.2.2.2.2
theorem rcs_of {row : fp_row} {x : rwT} {fc : Nat → Int32} {z : Nat} (h : fp_rc row x fc z) : rcs row x fc z := by
  obtain ⟨a1, a2, a3, a4, a5, a6, _, _, _, _, b⟩ := h
  exact ⟨a1, a2, a3, a4, a5, a6, b⟩
theorem rcs_st {row : fp_row} {x y : rwT} {fc : Nat → Int32} {z : Nat} (h : rcs row x fc z) (hs : rst x.2.2.1 y.2.2.1) (ha : y.2.2.2 = x.2.2.2) : rcs row y fc z := by
  obtain ⟨s1, s2, s3, s4, s5, s6, s7, s8⟩ := hs
  obtain ⟨a1, a2, a3, a4, a5, a6, b, b1, b2, b3, b4⟩ := h
  exact ⟨s1.trans a1, by rw [ha]; exact a2, by rw [s2]; exact a3, s3.trans a4, s7.trans a5, s8.trans a6, b, s4.trans b1, s5.trans b2, b3, b4⟩
/-- the class's rows and the reference's are the same rows, and stand alike -/
def LE4 (rs : List rwT) (fc : Nat → Int32) (z : Nat) (tp cn ac nu la co W F S : Nat → Int32) (h rw : Nat) : Prop := rs.length = rw ∧ ∃ rows : List fp_row, fp_rs rows tp cn ac nu la co W F S h rw 512 ∧ (∀ (k : Nat) (row : fp_row), rows[k]? = some row → ∃ x, rs[k]? = some x ∧ rcs row x fc z) ∧ (∀ row ∈ rows, row.2.2.2.1 = fp_lc row.2.2.2.2 ∧ row.2.2.2.1 ≤ 32)
def LD5 (rs : List rwT) (ct lt ps : Nat → Int32) : Prop := ∀ (k : Nat) (x : rwT), rs[k]? = some x → x.2.2.1 9 = ct k ∧ x.2.2.1 10 = lt k ∧ x.2.2.1 11 = ps k ∧ (lt k = 0 ∨ lt k = 1) ∧ ∃ a, a ≤ 3600 ∧ ps k = nI a
def LE5 (rs : List rwT) (fc : Nat → Int32) (z : Nat) (tp cn ac nu la co W F S ct lt ps : Nat → Int32) (h rw : Nat) : Prop := LE4 rs fc z tp cn ac nu la co W F S h rw ∧ LD5 rs ct lt ps
section L5
variable {rs rs2 : List rwT} {fc : Nat → Int32} {z : Nat} {tp cn ac nu la co W F S ct lt ps ct2 lt2 ps2 : Nat → Int32} {h rw k : Nat} {x y : rwT}
theorem LE5_0 : LE5 [] fc z tp cn ac nu la co W F S ct lt ps h 0 := ⟨⟨rfl, [], ⟨rfl, fun k row hk => by simp at hk⟩, fun k row hk => by simp at hk, fun row hr => by simp at hr⟩, fun k x hk => by simp at hk⟩
theorem gsome {α : Type} {l : List α} {k : Nat} (hk : k < l.length) : ∃ x, l[k]? = some x := ⟨l[k], List.getElem?_eq_getElem hk⟩
theorem gslt {α : Type} {l : List α} {k : Nat} {x : α} (hk : l[k]? = some x) : k < l.length := (List.getElem?_eq_some_iff.mp hk).1
/-- a row of both sides -/
theorem LE4_row (hL : LE4 rs fc z tp cn ac nu la co W F S h rw) (hx : rs[k]? = some x) : k < rw ∧ ∃ row : fp_row, rcs row x fc z ∧ fp_ra row tp cn ac nu la co W F S (40 * h + k) (3000 * h) (3000 * h + 512) ∧ row.2.2.2.1 = fp_lc row.2.2.2.2 ∧ row.2.2.2.1 ≤ 32 := by
  obtain ⟨e, rows, ⟨r1, r2⟩, r3, r4⟩ := hL
  have hk := gslt hx
  obtain ⟨row, hr⟩ := gsome (l := rows) (k := k) (by omega)
  obtain ⟨x', q1, q2⟩ := r3 k row hr
  have e2 : x' = x := Option.some.inj (q1.symm.trans hx)
  rw [e2] at q2
  exact ⟨by omega, row, q2, r2 k row hr, r4 row (List.mem_of_getElem? hr)⟩
theorem LE4_nums (hL : LE4 rs fc z tp cn ac nu la co W F S h rw) (hx : rs[k]? = some x) : x.2.2.1 1 = cn (40 * h + k) ∧ x.2.2.1 7 = nu (40 * h + k) ∧ x.2.2.1 8 = la (40 * h + k) ∧ x.2.2.1 3 = co (40 * h + k) := by
  obtain ⟨_, row, ⟨a1, a2, a3, a4, a5, a6, _⟩, ⟨b1, b2, b3, b4, b5, b6, b7, _⟩, _⟩ := LE4_row hL hx
  exact ⟨a1.trans b1.symm, a5.trans b5.symm, a6.trans b6.symm, a4.trans b7.symm⟩
theorem LE4_has (hL : LE4 rs fc z tp cn ac nu la co W F S h rw) (hx : rs[k]? = some x) {kn : Nat} (hkn : kn < 32) : bt (x.2.2.1 2) kn = true ↔ ra_has cn ac (40 * h + k) (nI kn) := by
  obtain ⟨_, row, ⟨a1, a2, a3, _⟩, ⟨b1, b2, b3, b4, _⟩, _⟩ := LE4_row hL hx
  have hc : (cn (40 * h + k)).toNatClampNeg = row.1.length := by rw [b1, nI_clamp (by omega)]
  rw [a3 kn hkn]
  unfold ra_has
  rw [hc]
  constructor
  · intro hm
    obtain ⟨t, ht⟩ := List.mem_iff_getElem?.mp hm
    exact ⟨t, gslt ht, b2 t _ ht⟩
  · intro ⟨t, ht, e⟩
    obtain ⟨v, hv⟩ := gsome (l := row.1) ht
    have e2 := b2 t v hv
    rw [e] at e2
    rw [e2]
    exact List.mem_of_getElem? hv
/-- what row j is worth, in lanes -/
def vvf (W F S tp : Nat → Int32) (x : Int32) (h j : Nat) : Int64 := if ron W F S tp x h j = 0 then 0 else -1
theorem ron_01 {xs : Int32} (j : Nat) : ron W F S tp xs h j = 0 ∨ ron W F S tp xs h j = 1 := vl_01 _ _ _ _ _ _
theorem vvf_z {xs : Int32} {j : Nat} : vvf W F S tp xs h j = 0 ↔ ron W F S tp xs h j = 0 := by
  unfold vvf
  by_cases e : ron W F S tp xs h j = 0
  · rw [if_pos e]
    exact ⟨fun _ => e, fun _ => rfl⟩
  · rw [if_neg e]
    exact ⟨fun q => absurd q (by decide), fun q => absurd q e⟩
theorem vvf_on {xs : Int32} {j : Nat} : kc_on (vvf W F S tp xs h j) = ron W F S tp xs h j := by
  unfold kc_on
  rcases ron_01 (W := W) (F := F) (S := S) (tp := tp) (h := h) (xs := xs) j with e | e
  · rw [if_pos (vvf_z.mpr e), e]
  · rw [if_neg (fun q => absurd ((vvf_z.mp q).symm.trans e) (by decide)), e]
theorem cst_ln {cf : Nat → Int64} {xs : Int32} (hc : cst cf xs) : fp_ln xs cf := by
  intro j hj
  rw [hc j hj]
  by_cases e : bt xs j = true
  · rw [if_pos e, if_pos ((b_one (by omega)).mpr e)]
  · rw [if_neg e, if_neg (fun q => e ((b_one (by omega)).mp q))]
theorem LE4_cev {cf : Nat → Int64} {xs : Int32} (hL : LE4 rs fc z tp cn ac nu la co W F S h rw) (hh : h ≤ 1) (hc : cst cf xs) : cev rs fc z cf (vvf W F S tp xs h) := by
  intro k x hx
  obtain ⟨_, row, ⟨_, _, _, _, _, _, b, b1, b2, b3, b4⟩, ⟨_, _, _, _, _, _, _, _, lo, n, q1, q2, q3, q4, q5, q6, q7⟩, c1, c2⟩ := LE4_row hL hx
  refine ⟨b, row.2.2.2.2, b1, b2, b3, b4, fun g9 => ?_⟩
  obtain ⟨e1, e2, _⟩ := fp_mr_tr (σ := cf) _ _ _ _ (by omega) q7 row.2.2.2.2 (0, g9) q5 q6 (by show 0 + fp_lc row.2.2.2.2 ≤ 32; omega)
  unfold fp_bot
  rw [if_pos (by rw [e1]; exact Nat.zero_lt_succ _)]
  refine Eq.trans e2 ?_
  rw [fp_tv_vl (cst_ln hc) _ _ _ _ (by omega) q7]
  unfold vvf
  rw [← ron_eq q1 (by omega), fp_vl_fuel (n + 1 - lo) 512 42 lo n (by omega) (by omega) q7]
theorem LE4_up (hL : LE4 rs fc z tp cn ac nu la co W F S h rw) (hl : rs2.length = rs.length) (hu : ∀ (k : Nat) (x : rwT), rs[k]? = some x → ∃ y, rs2[k]? = some y ∧ y.2.2.2 = x.2.2.2 ∧ rst x.2.2.1 y.2.2.1) : LE4 rs2 fc z tp cn ac nu la co W F S h rw := by
  obtain ⟨e, rows, r1, r3, r4⟩ := hL
  refine ⟨hl.trans e, rows, r1, fun k row hr => ?_, r4⟩
  obtain ⟨x, q1, q2⟩ := r3 k row hr
  obtain ⟨y, y1, y2, y3⟩ := hu k x q1
  exact ⟨y, y1, rcs_st q2 y3 y2⟩
theorem rup_inv {P : Nat → (Nat → Int32) → (Nat → Int32) → Prop} (hu : rup rs rs2 P) (hy : rs2[k]? = some y) : ∃ x, rs[k]? = some x ∧ P k x.2.2.1 y.2.2.1 := by
  have hk := gslt hy
  obtain ⟨x, hx⟩ := gsome (l := rs) (k := k) (by have := hu.1; omega)
  obtain ⟨y', q1, _, q3⟩ := hu.2 k x hx
  have e : y' = y := Option.some.inj (q1.symm.trans hy)
  rw [e] at q3
  exact ⟨x, hx, q3⟩
theorem kc_ct_eq {on n c : Int32} : kc_ct on n c = tk_ct on n c := by
  unfold kc_ct tk_ct
  by_cases h0 : on = 0
  · rw [if_pos h0, if_pos h0]
  · rw [if_neg h0, if_neg h0]
    by_cases h1 : c + n < 1000000
    · rw [if_pos h1, if_neg (Int32.not_lt.mpr (Int32.le_of_lt h1))]
    · by_cases h2 : 1000000 < c + n
      · rw [if_neg h1, if_pos h2]
      · rw [if_neg h1, if_neg h2]
        exact Int32.le_antisymm (Int32.not_lt.mp h1) (Int32.not_lt.mp h2)
theorem kc_lt_eq {on la nu c l : Int32} : kc_lt on la nu c l = tk_lt on la nu c l := by
  have e : ¬ kc_h on c nu = 0 ↔ ¬ on = 0 ∧ ¬ c < nu := by
    unfold kc_h
    by_cases h1 : on = 0 ∨ c < nu
    · rw [if_pos h1]
      exact ⟨fun q => absurd rfl q, fun q => absurd h1 (not_or.mpr q)⟩
    · rw [if_neg h1]
      exact ⟨fun _ => not_or.mp h1, fun _ => by decide⟩
  unfold kc_lt tk_lt
  by_cases h1 : ¬ la = 0 ∧ ¬ kc_h on c nu = 0
  · rw [if_pos h1, if_pos ⟨(e.mp h1.2).1, h1.1, (e.mp h1.2).2⟩]
  · rw [if_neg h1, if_neg (fun q => h1 ⟨q.2.1, e.mpr ⟨q.1, q.2.2⟩⟩)]
theorem n5 {n : Int32} (h : 0 < n ∧ n ≤ 100000) : ∃ b, 0 < b ∧ b ≤ 100000 ∧ n = nI b := by
  obtain ⟨b, hb, rfl⟩ := nI_of (Int32.not_lt.mpr (Int32.le_of_lt h.1))
  have h1 := (nI_leI (a := b) (b := 100000) hb (by decide)).mp h.2
  have h2 := (nI_ltI (a := 0) (b := b) (by decide) hb).mp h.1
  exact ⟨b, h2, h1, rfl⟩
theorem kc_ps_eq {a b : Nat} (ha : a ≤ 3600) (hb : b ≤ 100000) : kc_ps (nI b) (nI a) = tk_ps (nI b) (nI a) ∧ ∃ c, c ≤ 3600 ∧ tk_ps (nI b) (nI a) = nI c := by
  unfold kc_ps tk_ps
  by_cases h1 : b < a
  · have e : nI a - nI b = nI (a - b) := pk_sub (by omega)
    rw [if_pos (nI_lt h1 (by omega)), e, if_pos (show (0 : Int32) < nI (a - b) from nI_lt (a := 0) (b := a - b) (by omega) (by omega))]
    exact ⟨rfl, a - b, by omega, rfl⟩
  · have h2 : ¬ 0 < nI a - nI b := by
      rw [pk_ti, pk_sub_toInt (by omega) (by omega)]
      have e0 : (0 : Int32).toInt = 0 := by decide
      omega
    rw [if_neg h2, if_neg (nI_nlt (by omega) (by omega))]
    exact ⟨rfl, 0, by omega, rfl⟩
theorem tk_lt_01 {on la nu c l : Int32} (h : l = 0 ∨ l = 1) : tk_lt on la nu c l = 0 ∨ tk_lt on la nu c l = 1 := by
  unfold tk_lt
  split
  · exact Or.inr rfl
  · exact h
theorem LE5_tick {n xs : Int32} (hL : LE5 rs fc z tp cn ac nu la co W F S ct lt ps h rw) (h1 : ¬ (0 < n ∧ n ≤ 100000) → rs2 = rs) (h2 : (0 < n ∧ n ≤ 100000) → rup rs rs2 (tkP n (vvf W F S tp xs h))) (h3 : tk_R n (fun j => ron W F S tp xs h j) (fun j => la (40 * h + j)) (fun j => nu (40 * h + j)) rw ct lt ps ct2 lt2 ps2) : LE5 rs2 fc z tp cn ac nu la co W F S ct2 lt2 ps2 h rw := by
  by_cases hn : 0 < n ∧ n ≤ 100000
  · have hu := h2 hn
    refine ⟨LE4_up hL.1 hu.1 (fun k x hx => ?_), fun k y hy => ?_⟩
    · obtain ⟨y, q1, q2, q3⟩ := hu.2 k x hx
      exact ⟨y, q1, q2, q3.1⟩
    · obtain ⟨x, hx, _, _, p9, p11, p10⟩ := rup_inv hu hy
      obtain ⟨d9, d10, d11, d01, a, ha, da⟩ := hL.2 k x hx
      obtain ⟨_, n7, n8, _⟩ := LE4_nums hL.1 hx
      obtain ⟨t1, t2, t3⟩ := h3.2 hn k (LE4_row hL.1 hx).1
      obtain ⟨b, _, hb, rfl⟩ := n5 hn
      obtain ⟨e1, c, hc, e2⟩ := kc_ps_eq ha hb
      have e9 : y.2.2.1 9 = ct2 k := by rw [p9, kc_ct_eq, vvf_on, d9, t1]
      refine ⟨e9, ?_, ?_, ?_, c, hc, ?_⟩
      · rw [p10, kc_lt_eq, ← p9, e9, vvf_on, n7, n8, d10, t2]
      · rw [p11, d11, da, e1, t3, da]
      · rw [t2]
        exact tk_lt_01 d01
      · rw [t3, da, e2]
  · rw [h1 hn]
    obtain ⟨e1, e2, e3⟩ := h3.1 hn
    rw [e1, e2, e3]
    exact hL
theorem fp_pas_0 {a b s p : Int32} (hp : fp_pas a b s p = 0) : ∃ m, m ≤ 3600 ∧ s = nI m := by
  unfold fp_pas at hp
  by_cases h1 : a < 1 ∨ 999 < a ∨ b < 1 ∨ 999 < b ∨ a = b
  · rw [if_pos h1] at hp
    exact absurd hp (by decide)
  · rw [if_neg h1] at hp
    by_cases h2 : s < 1 ∨ 3600 < s
    · rw [if_pos h2] at hp
      exact absurd hp (by decide)
    · have h3 : ¬ s < 0 := fun q => h2 (Or.inl (Int32.lt_of_lt_of_le q (by decide)))
      obtain ⟨m, hm, rfl⟩ := nI_of h3
      refine ⟨m, ?_, rfl⟩
      apply Nat.le_of_not_lt
      intro q
      exact h2 (Or.inr (nI_lt (a := 3600) q hm))
theorem LE5_pass {i a b w r r2 : Int32} (hL : LE5 rs fc z tp cn ac nu la co W F S ct lt ps h rw) (hrw : rw ≤ 40) (hu : rup rs rs2 (passP i a b w)) (h3 : (fp_rq rw i ∧ r2 = -1 ∧ ps2 = ps) ∨ (∃ j, i = nI (j + 1) ∧ j < rw ∧ r2 = fp_pas a b w (ps j) ∧ ps2 = if r2 = 0 then upd ps j w else ps)) : LE5 rs2 fc z tp cn ac nu la co W F S ct lt ps2 h rw := by
  refine ⟨LE4_up hL.1 hu.1 (fun k x hx => ?_), fun k y hy => ?_⟩
  · obtain ⟨y, q1, q2, q3⟩ := hu.2 k x hx
    exact ⟨y, q1, q2, q3.1⟩
  · obtain ⟨x, hx, _, _, p9, p10, p11⟩ := rup_inv hu hy
    obtain ⟨d9, d10, d11, d01, m, hm, da⟩ := hL.2 k x hx
    have hk := (LE4_row hL.1 hx).1
    refine ⟨p9.trans d9, p10.trans d10, ?_⟩
    rcases h3 with ⟨c1, _, c3⟩ | ⟨j, c1, c2, c3, c4⟩
    · rw [if_neg (fun q => fp_rq_no c1 q.1 hk (by omega))] at p11
      rw [c3]
      exact ⟨p11.trans d11, d01, m, hm, da⟩
    · by_cases e : k = j
      · subst e
        rw [d11, ← c3] at p11
        by_cases e0 : r2 = 0
        · rw [if_pos ⟨c1, e0⟩] at p11
          rw [if_pos e0] at c4
          rw [c4, pk_us]
          exact ⟨p11, d01, fp_pas_0 (c3.symm.trans e0)⟩
        · rw [if_neg (fun q => e0 q.2)] at p11
          rw [if_neg e0] at c4
          rw [c4]
          exact ⟨p11, d01, m, hm, da⟩
      · rw [if_neg (fun q => nI_ne c1 (by omega) (by omega) e q.1)] at p11
        have e5 : ps2 k = ps k := by
          rw [c4]
          split
          · rw [pk_un e]
          · rfl
        rw [e5]
        exact ⟨p11.trans d11, d01, m, hm, da⟩
theorem pass_same {i a b w r r2 : Int32} (hL : LE5 rs fc z tp cn ac nu la co W F S ct lt ps h rw) (hrw : rw ≤ 40) (h1 : (fp_rq rs.length i ∧ r = -1) ∨ (∃ j x, i = nI (j + 1) ∧ j < rs.length ∧ rs[j]? = some x ∧ r = fp_pas a b w (x.2.2.1 11))) (h3 : (fp_rq rw i ∧ r2 = -1 ∧ ps2 = ps) ∨ (∃ j, i = nI (j + 1) ∧ j < rw ∧ r2 = fp_pas a b w (ps j) ∧ ps2 = if r2 = 0 then upd ps j w else ps)) : r = r2 := by
  have el := hL.1.1
  rcases h1 with ⟨a1, a2⟩ | ⟨j, x, a1, a2, a3, a4⟩
  · rcases h3 with ⟨_, c2, _⟩ | ⟨j, c1, c2, _⟩
    · rw [a2, c2]
    · exact (fp_rq_no a1 c1 (by omega) (by omega)).elim
  · rcases h3 with ⟨c1, _, _⟩ | ⟨j', c1, c2, c3, _⟩
    · exact (fp_rq_no c1 a1 (by omega) (by omega)).elim
    · have e : j = j' := Decidable.byContradiction (fun q => nI_ne c1 (by omega) (by omega) q a1)
      subst e
      rw [a4, c3, (hL.2 j x a3).2.2.1]
theorem LE5_reset {i xs r r2 : Int32} (hL : LE5 rs fc z tp cn ac nu la co W F S ct lt ps h rw) (hrw : rw ≤ 40) (hu : rup rs rs2 (resP i (vvf W F S tp xs h))) (h3 : (fp_rq rw i ∧ r2 = 0 ∧ lt2 = lt) ∨ (∃ j, i = nI (j + 1) ∧ j < rw ∧ (r2 = if lt j = 0 ∨ ¬ ron W F S tp xs h j = 0 then 0 else 1) ∧ lt2 = if r2 = 0 then lt else upd lt j (vp_nar .boolean 0))) : LE5 rs2 fc z tp cn ac nu la co W F S ct lt2 ps h rw := by
  refine ⟨LE4_up hL.1 hu.1 (fun k x hx => ?_), fun k y hy => ?_⟩
  · obtain ⟨y, q1, q2, q3⟩ := hu.2 k x hx
    exact ⟨y, q1, q2, q3.1⟩
  · obtain ⟨x, hx, _, _, p9, p11, p10⟩ := rup_inv hu hy
    obtain ⟨d9, d10, d11, d01, m, hm, da⟩ := hL.2 k x hx
    have hk := (LE4_row hL.1 hx).1
    refine ⟨p9.trans d9, ?_⟩
    rcases h3 with ⟨c1, _, c3⟩ | ⟨j, c1, c2, c3, c4⟩
    · rw [if_neg (fun q => fp_rq_no c1 q.1 hk (by omega))] at p10
      rw [c3]
      exact ⟨p10.trans d10, p11.trans d11, d01, m, hm, da⟩
    · by_cases e : k = j
      · subst e
        by_cases e0 : vvf W F S tp xs h k = 0
        · rw [if_pos ⟨c1, e0⟩] at p10
          by_cases e1 : lt k = 0
          · rw [if_pos (Or.inl e1)] at c3
            rw [if_pos c3] at c4
            rw [c4]
            exact ⟨p10.trans e1.symm, p11.trans d11, d01, m, hm, da⟩
          · rw [if_neg (not_or.mpr ⟨e1, not_not_intro (vvf_z.mp e0)⟩)] at c3
            rw [if_neg (by rw [c3]; decide)] at c4
            rw [c4, pk_us]
            exact ⟨p10, p11.trans d11, Or.inl rfl, m, hm, da⟩
        · rw [if_neg (fun q => e0 q.2)] at p10
          rw [if_pos (Or.inr (fun q => e0 (vvf_z.mpr q)))] at c3
          rw [if_pos c3] at c4
          rw [c4]
          exact ⟨p10.trans d10, p11.trans d11, d01, m, hm, da⟩
      · rw [if_neg (fun q => nI_ne c1 (by omega) (by omega) e q.1)] at p10
        have e5 : lt2 k = lt k := by
          rw [c4]
          split
          · rfl
          · rw [pk_un e]
        rw [e5]
        exact ⟨p10.trans d10, p11.trans d11, d01, m, hm, da⟩
theorem reset_same {i xs r r2 : Int32} (hL : LE5 rs fc z tp cn ac nu la co W F S ct lt ps h rw) (hrw : rw ≤ 40) (h1 : (fp_rq rs.length i ∧ r = 0) ∨ (∃ j x, i = nI (j + 1) ∧ j < rs.length ∧ rs[j]? = some x ∧ r = if x.2.2.1 10 = 0 ∨ ¬ vvf W F S tp xs h j = 0 then 0 else 1)) (h3 : (fp_rq rw i ∧ r2 = 0 ∧ lt2 = lt) ∨ (∃ j, i = nI (j + 1) ∧ j < rw ∧ (r2 = if lt j = 0 ∨ ¬ ron W F S tp xs h j = 0 then 0 else 1) ∧ lt2 = if r2 = 0 then lt else upd lt j (vp_nar .boolean 0))) : r = r2 := by
  have el := hL.1.1
  rcases h1 with ⟨a1, a2⟩ | ⟨j, x, a1, a2, a3, a4⟩
  · rcases h3 with ⟨_, c2, _⟩ | ⟨j, c1, c2, _⟩
    · rw [a2, c2]
    · exact (fp_rq_no a1 c1 (by omega) (by omega)).elim
  · rcases h3 with ⟨c1, _, _⟩ | ⟨j', c1, c2, c3, _⟩
    · exact (fp_rq_no c1 a1 (by omega) (by omega)).elim
    · have e : j = j' := Decidable.byContradiction (fun q => nI_ne c1 (by omega) (by omega) q a1)
      subst e
      rw [a4, c3, (hL.2 j x a3).2.1]
      by_cases e1 : lt j = 0 ∨ ¬ ron W F S tp xs h j = 0
      · rw [if_pos e1, if_pos (e1.imp id (fun q q2 => q (vvf_z.mp q2)))]
      · rw [if_neg e1, if_neg (fun q => e1 (q.imp id (fun q q2 => q (vvf_z.mpr q2))))]
theorem row_same {i w xs r r2 : Int32} (hL : LE5 rs fc z tp cn ac nu la co W F S ct lt ps h rw) (hrw : rw ≤ 40) (h1 : (fp_rq rs.length i ∧ r = -1) ∨ (∃ j x, i = nI (j + 1) ∧ j < rs.length ∧ rs[j]? = some x ∧ r = fp_r8 w (x.2.2.1 1) (x.2.2.1 7) (x.2.2.1 8) (x.2.2.1 9) (x.2.2.1 10) (x.2.2.1 11) (x.2.2.1 3) (kc_on (vvf W F S tp xs h j)))) (h3 : (fp_rq rw i ∧ r2 = -1) ∨ (∃ j, i = nI (j + 1) ∧ j < rw ∧ r2 = fp_r8 w (cn (40 * h + j)) (nu (40 * h + j)) (la (40 * h + j)) (ct j) (lt j) (ps j) (co (40 * h + j)) (ron W F S tp xs h j))) : r = r2 := by
  have el := hL.1.1
  rcases h1 with ⟨a1, a2⟩ | ⟨j, x, a1, a2, a3, a4⟩
  · rcases h3 with ⟨_, c2⟩ | ⟨j, c1, c2, _⟩
    · rw [a2, c2]
    · exact (fp_rq_no a1 c1 (by omega) (by omega)).elim
  · rcases h3 with ⟨c1, _⟩ | ⟨j', c1, c2, c3⟩
    · exact (fp_rq_no c1 a1 (by omega) (by omega)).elim
    · have e : j = j' := Decidable.byContradiction (fun q => nI_ne c1 (by omega) (by omega) q a1)
      subst e
      obtain ⟨d9, d10, d11, _⟩ := hL.2 j x a3
      obtain ⟨n1, n7, n8, n3⟩ := LE4_nums hL.1 a3
      rw [a4, c3, d9, d10, d11, n1, n7, n8, n3, vvf_on]
theorem act_same {i xs r r2 : Int32} (hL : LE5 rs fc z tp cn ac nu la co W F S ct lt ps h rw) (h1 : ((i < 0 ∨ ¬ i < 32) ∧ r = -1) ∨ (∃ kn, i = nI kn ∧ kn < 32 ∧ fp_first rs.length (barC rs (vvf W F S tp xs h) kn) r)) (h3 : ((i < 0 ∨ 31 < i) ∧ r2 = -1) ∨ (¬ (i < 0 ∨ 31 < i) ∧ fp_first rw (fun j => (ps j = 0 ∧ (¬ lt j = 0 ∨ (¬ ron W F S tp xs h j = 0 ∧ ¬ ct j < nu (40 * h + j)))) ∧ ra_has cn ac (40 * h + j) i) r2)) : r = r2 := by
  have el := hL.1.1
  have e31 : (31 : Int32) < i ↔ ¬ i < 32 := by
    rw [Int32.lt_iff_toInt_lt, Int32.lt_iff_toInt_lt]
    have e1 : (31 : Int32).toInt = 31 := by decide
    have e2 : (32 : Int32).toInt = 32 := by decide
    omega
  rcases h1 with ⟨a1, a2⟩ | ⟨kn, a1, a2, a3⟩
  · rcases h3 with ⟨_, c2⟩ | ⟨c1, _⟩
    · rw [a2, c2]
    · exact absurd (a1.imp id e31.mpr) c1
  · have hin : ¬ (i < 0 ∨ 31 < i) := by
      rw [a1]
      intro q
      rcases q with q | q
      · exact nI_pos (by omega) q
      · have := (nI_ltI (a := 31) (b := kn) (by decide) (by omega)).mp q
        omega
    rcases h3 with ⟨c1, _⟩ | ⟨_, c2⟩
    · exact absurd c1 hin
    · rw [el] at a3
      refine fp_first_eq a3 c2 (fun j hj => ?_)
      obtain ⟨x, hx⟩ := gsome (l := rs) (k := j) (by omega)
      obtain ⟨d9, d10, d11, _⟩ := hL.2 j x hx
      obtain ⟨_, n7, _, _⟩ := LE4_nums hL.1 hx
      have hh := LE4_has hL.1 hx a2
      rw [a1]
      constructor
      · intro ⟨x', q1, q2, q3, q4⟩
        have e : x' = x := Option.some.inj (q1.symm.trans hx)
        rw [e] at q2 q3 q4
        rw [d9, d10, n7] at q4
        rw [d11] at q3
        exact ⟨⟨q3, q4.imp id (fun q => ⟨fun q5 => q.1 (vvf_z.mpr q5), q.2⟩)⟩, hh.mp q2⟩
      · intro ⟨⟨q3, q4⟩, q5⟩
        refine ⟨x, hx, hh.mpr q5, d11.trans q3, ?_⟩
        rw [d9, d10, n7]
        exact q4.imp id (fun q => ⟨fun q6 => q.1 (vvf_z.mp q6), q.2⟩)
theorem LE5_test (hL : LE5 rs fc z tp cn ac nu la co W F S ct lt ps h rw) (hu : rup rs rs2 tstP) : LE5 rs2 fc z tp cn ac nu la co W F S ct lt ps h rw := by
  refine ⟨LE4_up hL.1 hu.1 (fun k x hx => ?_), fun k y hy => ?_⟩
  · obtain ⟨y, q1, q2, q3⟩ := hu.2 k x hx
    exact ⟨y, q1, q2, q3.1⟩
  · obtain ⟨x, hx, _, p9, p10, p11⟩ := rup_inv hu hy
    obtain ⟨d9, d10, d11, d⟩ := hL.2 k x hx
    exact ⟨p9.trans d9, p10.trans d10, p11.trans d11, d⟩
theorem LE5_listed (hL : LE5 rs fc z tp cn ac nu la co W F S ct lt ps h rw) : ∀ (i : Nat) (x : rwT), rs[i]? = some x → ((fun j => decide (0 < ps j)) i = true ↔ 0 < x.2.2.1 11) := by
  intro i x hx
  rw [(hL.2 i x hx).2.2.1]
  exact decide_eq_true_iff
theorem LE5_01 (hL : LE5 rs fc z tp cn ac nu la co W F S ct lt ps h rw) : ∀ j, j < rw → lt j = 0 ∨ lt j = 1 := by
  intro j hj
  obtain ⟨x, hx⟩ := gsome (l := rs) (k := j) (by have := hL.1.1; omega)
  exact (hL.2 j x hx).2.2.2.1
end L5
/-- a read: both sides take the same rows, or none -/
theorem LE5_read {rs rs2 : List rwT} {ft fc fc2 T : Nat → Int32} {lt0 msz z z2 h rw h2 rw2 : Nat} {tp cn ac nu la co W F S ct lt ps tp2 cn2 ac2 nu2 la2 co2 W2 F2 S2 ct2 lt2 ps2 : Nat → Int32} {sv sv2 te te2 : Int32} (hL : LE5 rs fc z tp cn ac nu la co W F S ct lt ps h rw) (hrw : rw ≤ 40) (hE : fp_tx lt0 ft msz T)
    (h1 : ((∃ i, fp_read ft lt0 = (i, none)) ∧ rs2 = rs ∧ fc2 = fc ∧ z2 = z ∧ sv2 = sv) ∨ (∃ i rows, fp_read ft lt0 = (i, some rows) ∧ fp_rl rows rs2 fc2 z2 ∧ sv2 = 0))
    (h3 : ((∃ i, fp_read T msz = (i, none)) ∧ h2 = h ∧ rw2 = rw ∧ fp_old h tp cn ac nu la co W F S tp2 cn2 ac2 nu2 la2 co2 W2 F2 S2 ∧ ct2 = ct ∧ lt2 = lt ∧ ps2 = ps ∧ te2 = te) ∨ (∃ i rows, fp_read T msz = (i, some rows) ∧ fp_rs rows tp2 cn2 ac2 nu2 la2 co2 W2 F2 S2 h2 rw2 512 ∧ (∀ j, j < rw2 → ct2 j = 0 ∧ lt2 j = 0 ∧ ps2 j = 0) ∧ te2 = 0)) : LE5 rs2 fc2 z2 tp2 cn2 ac2 nu2 la2 co2 W2 F2 S2 ct2 lt2 ps2 h2 rw2 := by
  obtain ⟨e0, e1⟩ := hE
  subst e0
  rw [fp_read_congr e1] at h1
  rcases h1 with ⟨⟨i, a1⟩, a2, a3, a4, _⟩ | ⟨i, rows, a1, a2, _⟩
  · rcases h3 with ⟨_, c2, c3, c4, c5, c6, c7, _⟩ | ⟨i2, rows, c1, _⟩
    · rw [a2, a3, a4, c2, c3, c5, c6, c7]
      obtain ⟨⟨l1, rows, l2, l3, l4⟩, l5⟩ := hL
      obtain ⟨o1, o2, o3⟩ := c4
      exact ⟨⟨l1, rows, fp_rs_congr l2 hrw (fun j p q => (o1 j p q).1) (fun j p q => (o1 j p q).2.1) o2 (fun j p q => (o1 j p q).2.2.1) (fun j p q => (o1 j p q).2.2.2.1) (fun j p q => (o1 j p q).2.2.2.2) (fun j p q => o3 j p (by omega)), l3, l4⟩, l5⟩
    · rw [a1] at c1
      cases c1
  · rcases h3 with ⟨⟨i2, c1⟩, _⟩ | ⟨i2, rows2, c1, c2, c3, _⟩
    · rw [a1] at c1
      cases c1
    · rw [a1] at c1
      cases c1
      have hlen : rs2.length = rw2 := a2.1.symm.trans c2.1
      have hlc : ∀ row ∈ rows, row.2.2.2.1 = fp_lc row.2.2.2.2 ∧ row.2.2.2.1 ≤ 32 := fp_text_lc (K := fp_K T lt0) (V := fp_V T lt0) (n := (fp_ws T lt0 0).length) (fun i hi => Nat.lt_of_not_le (fun q => hi (fp_K_0.mpr q))) fp_KVr_of 41 0 i [] rows (fun row hr => by simp at hr) a1
      refine ⟨⟨hlen, rows, c2, fun k row hr => ?_, hlc⟩, fun k x hx => ?_⟩
      · obtain ⟨x, q1, q2⟩ := a2.2 k row hr
        exact ⟨x, q1, rcs_of q2⟩
      · have hk := gslt hx
        obtain ⟨row, hr⟩ := gsome (l := rows) (k := k) (by have := a2.1; omega)
        obtain ⟨x', q1, q2⟩ := a2.2 k row hr
        have e2 : x' = x := Option.some.inj (q1.symm.trans hx)
        rw [e2] at q2
        obtain ⟨_, _, _, _, _, _, z9, z10, z11, _⟩ := q2
        obtain ⟨y9, y10, y11⟩ := c3 k (by omega)
        exact ⟨z9.trans y9.symm, z10.trans y10.symm, z11.trans y11.symm, Or.inl y10, 0, by decide, y11.trans nI_0.symm⟩

noncomputable def hsf (cn ac : Nat → Int32) (h q a : Nat) : Bool := @decide (ra_has cn ac (40 * h + q) (nI a)) (Classical.propDecidable _)
theorem hsf_iff {cn ac : Nat → Int32} {h q a : Nat} : hsf cn ac h q a = true ↔ ra_has cn ac (40 * h + q) (nI a) := by
  unfold hsf
  exact @decide_eq_true_iff _ (Classical.propDecidable _)
def onf (W F S tp : Nat → Int32) (h q : Nat) (s : Nat → Bool) : Bool := tb W F S s 512 (tp (40 * h + q)).toNatClampNeg
def vsf (W F S tp : Nat → Int32) (h : Nat) (σ : Nat → Int64) (q : Nat) : Int64 := fp_tv W F S σ 512 (tp (40 * h + q)).toNatClampNeg
theorem Ev_congr {hs hs' : Nat → Nat → Bool} {on on' : Nat → (Nat → Bool) → Bool} {r : Nat} (h1 : ∀ q, q ≤ r → ∀ a, a < 32 → hs q a = hs' q a) (h2 : ∀ q, q ≤ r → ∀ s, on q s = on' q s) : Ev hs on r ↔ Ev hs' on' r := by
  constructor
  · intro ⟨s, a, ha, e1, e2, e3⟩
    refine ⟨s, a, ha, by rw [← h1 r (Nat.le_refl _) a ha]; exact e1, by rw [← h2 r (Nat.le_refl _)]; exact e2, fun q hq hh => ?_⟩
    rw [← h2 q (by omega)]
    exact e3 q hq (by rw [h1 q (by omega) a ha]; exact hh)
  · intro ⟨s, a, ha, e1, e2, e3⟩
    refine ⟨s, a, ha, by rw [h1 r (Nat.le_refl _) a ha]; exact e1, by rw [h2 r (Nat.le_refl _)]; exact e2, fun q hq hh => ?_⟩
    rw [h2 q (by omega)]
    exact e3 q hq (by rw [← h1 q (by omega) a ha]; exact hh)
theorem tb_arr {W F S W' F' S' : Nat → Int32} {s : Nat → Bool} : ∀ (d rd lo n : Nat), n < 2 ^ 31 → tr W F S d rd lo n → (∀ m, lo ≤ m → m ≤ n → W' m = W m ∧ F' m = F m ∧ S' m = S m) → tb W' F' S' s d n = tb W F S s d n := by
  intro d
  induction d with
  | zero => intro rd lo n _ h; exact h.elim
  | succ d ih =>
    intro rd lo n hn h hs
    have hlon : lo ≤ n := by
      rcases h with ⟨h1, _⟩ | ⟨_, hlo, _⟩ | ⟨_, _, k, hk1, hk2, _⟩ <;> omega
    obtain ⟨g1, g2, g3⟩ := hs n hlon (Nat.le_refl _)
    rw [tb, tb, g1, g2, g3]
    rcases h with ⟨h1, a, ha, hW⟩ | ⟨hW, hlo, hF, hT⟩ | ⟨hW, hrd, k, hk1, hk2, hF, hS, hT1, hT2⟩
    · have q16 : ¬ nI a = 16 := cc_ne ha
      have q17 : ¬ nI a = 17 := fun q => by have := (nI_eq (a := a) (b := 17) (by omega) (by decide)).mp q; omega
      have q18 : ¬ nI a = 18 := fun q => by have := (nI_eq (a := a) (b := 18) (by omega) (by decide)).mp q; omega
      rw [hW, if_neg q16, if_neg q17, if_neg q18, if_neg q16, if_neg q17, if_neg q18]
    · rw [if_pos hW, if_pos hW, hF, nI_clamp (by omega), ih rd lo (n - 1) (by omega) hT (fun m p q => hs m p (by omega))]
    · have e1 := ih rd lo k (by omega) hT1 (fun m p q => hs m p (by omega))
      have e2 := ih (rd - 1) (k + 1) (n - 1) (by omega) hT2 (fun m p q => hs m (by omega) (by omega))
      rcases hW with q | q
      · rw [if_neg (by rw [q]; decide), if_pos q, if_neg (by rw [q]; decide), if_pos q, hF, hS, nI_clamp (by omega), nI_clamp (by omega), e1, e2]
      · rw [if_neg (by rw [q]; decide), if_neg (by rw [q]; decide), if_pos q, if_neg (by rw [q]; decide), if_neg (by rw [q]; decide), if_pos q, hF, hS, nI_clamp (by omega), nI_clamp (by omega), e1, e2]
section L10
variable {rs rs2 : List rwT} {fc : Nat → Int32} {z : Nat} {tp cn ac nu la co W F S : Nat → Int32} {h rw k : Nat} {x : rwT}
/-- a row's tree, and where its conditions stand in the class's code -/
theorem LE4_tr (hL : LE4 rs fc z tp cn ac nu la co W F S h rw) (hh : h ≤ 1) (hk : k < rw) : ∃ lo n, tp (40 * h + k) = nI n ∧ n < 6000 ∧ tr W F S 512 42 lo n ∧ ∀ m a, lo ≤ m → m ≤ n → W m = nI a → ∃ i, i < z ∧ fc i = nI a := by
  obtain ⟨x, hx⟩ := gsome (l := rs) (k := k) (by have := hL.1; omega)
  obtain ⟨_, row, ⟨_, _, _, _, _, _, b, b1, b2, b3, b4⟩, ⟨_, _, _, _, _, _, _, _, lo, n, q1, q2, q3, q4, q5, q6, q7⟩, c1, c2⟩ := LE4_row hL hx
  refine ⟨lo, n, q1, by omega, tr_mono _ _ _ _ _ _ (by omega) (Nat.le_refl _) q7, fun m a h1 h2 h3 => ⟨b + (m - lo), by omega, ?_⟩⟩
  have e1 := fp_seg_at q6 (j := m - lo) (by omega)
  rw [show lo + (m - lo) = m by omega, h3] at e1
  exact b4 _ _ e1
theorem LE4_cevs (hL : LE4 rs fc z tp cn ac nu la co W F S h rw) (hh : h ≤ 1) (σ : Nat → Int64) : cev rs fc z σ (vsf W F S tp h σ) := by
  intro k x hx
  obtain ⟨_, row, ⟨_, _, _, _, _, _, b, b1, b2, b3, b4⟩, ⟨_, _, _, _, _, _, _, _, lo, n, q1, q2, q3, q4, q5, q6, q7⟩, c1, c2⟩ := LE4_row hL hx
  refine ⟨b, row.2.2.2.2, b1, b2, b3, b4, fun g9 => ?_⟩
  obtain ⟨e1, e2, _⟩ := fp_mr_tr (σ := σ) 512 42 lo n (by omega) (tr_mono _ _ _ _ _ _ (by omega) (Nat.le_refl _) q7) row.2.2.2.2 (0, g9) q5 q6 (by show 0 + fp_lc row.2.2.2.2 ≤ 32; omega)
  unfold fp_bot
  rw [if_pos (by rw [e1]; exact Nat.zero_lt_succ _)]
  refine Eq.trans e2 ?_
  unfold vsf
  rw [q1, nI_clamp (by omega)]
theorem LE4_ract (hL : LE4 rs fc z tp cn ac nu la co W F S h rw) (hr : rws tp cn ac nu W F S h rw) : ∀ (k : Nat) (x : rwT), rs[k]? = some x → ractP (hsf cn ac h) k x := by
  intro k x hx
  obtain ⟨hk, row, ⟨a1, a2, a3, _⟩, ⟨b1, b2, b3, b4, _⟩, _⟩ := LE4_row hL hx
  have hac := rws_acts hr hk b1 b4
  refine ⟨row.1, a1, b4, a2, fun y hy => ?_, fun a ha => ?_⟩
  · obtain ⟨t, ht⟩ := List.mem_iff_getElem?.mp hy
    obtain ⟨n, n1, n2⟩ := hac t (gslt ht)
    exact ⟨n, by omega, (b2 t y ht).symm.trans n1⟩
  · rw [hsf_iff, ← LE4_has hL hx ha]
    exact a3 a ha
theorem nv_iff (hL : LE4 rs fc z tp cn ac nu la co W F S h rw) (hh : h ≤ 1) (hk : k < rw) {hs : Nat → Nat → Bool} : (∃ w, w < 1024 ∧ Fr hs (fun q9 => fp_tv W F S (bsg w) 512 (tp (40 * h + q9)).toNatClampNeg) k) ↔ Ev hs (onf W F S tp h) k := by
  constructor
  · intro ⟨w, _, hF⟩
    obtain ⟨l, hl, a, e1, e2, e3, e4⟩ := (Fr_iff (on := onf W F S tp h) (sg := fun l c => lb (bsg w c) l) (fun q _ l hl => tv_lb hl _ _)).mp hF
    exact ⟨_, a, e1, e2, e3, e4⟩
  · intro ⟨s, a, e1, e2, e3, e4⟩
    obtain ⟨w, l, hw, hl, hc⟩ := bsg_all s
    have hq : ∀ q, q ≤ k → onf W F S tp h q (fun c => lb (bsg w c) l) = onf W F S tp h q s := by
      intro q hq
      obtain ⟨lo, n, n1, n2, n3, _⟩ := LE4_tr hL hh (k := q) (by omega)
      unfold onf
      rw [n1, nI_clamp (by omega)]
      exact tb_congr _ _ _ _ (by omega) n3 (fun m b _ _ _ hb => hc b hb)
    refine ⟨w, hw, (Fr_iff (on := onf W F S tp h) (sg := fun l c => lb (bsg w c) l) (fun q _ l hl => tv_lb hl _ _)).mpr ⟨l, hl, a, e1, e2, ?_, fun q h1 h2 => ?_⟩⟩
    · rw [hq k (Nat.le_refl _)]
      exact e3
    · rw [hq q (by omega)]
      exact e4 q h1 h2
theorem and1 (y : Int32) : y &&& 1 = 0 ∨ y &&& 1 = 1 := by
  cases hb : bt y 0 with
  | false =>
    left
    apply b_ext
    intro i hi
    rw [b_and, bt1 i hi, b_0]
    by_cases e : i = 0
    · rw [e, hb]
      rfl
    · rw [decide_eq_false e, Bool.and_false]
  | true =>
    right
    apply b_ext
    intro i hi
    rw [b_and, bt1 i hi]
    by_cases e : i = 0
    · rw [e, hb]
      rfl
    · rw [decide_eq_false e, Bool.and_false]
theorem ln6_lb {b j l : Nat} (hl : l < 64) (hj : j < 16) : lb (ln6 b j) l = if j < 6 then Nat.testBit l j else Nat.testBit b (j - 6) := by
  unfold ln6
  by_cases e : j < 6
  · rw [if_pos e, if_pos e]
    exact lb_pat j e l hl
  · rw [if_neg e, if_neg e]
    have h0 := b_u1 (x := nI b) (j := j - 6) (by omega)
    rw [bt_nI (by omega)] at h0
    rcases and1 (((nI b).toUInt32 >>> ((nI (j - 6)).toUInt32 &&& Int32.toUInt32 31)).toInt32) with q | q
    · rw [q, h0.mp q]
      exact lb_0 l
    · have q2 : Nat.testBit b (j - 6) = true := by
        cases hb : Nat.testBit b (j - 6) with
        | true => rfl
        | false => exact absurd (q.symm.trans (h0.mpr hb)) (by decide)
      rw [q, q2]
      exact lb_m1 l hl
theorem mr_iff (hL : LE4 rs fc z tp cn ac nu la co W F S h rw) (hh : h ≤ 1) (hk : k < rw) {hs : Nat → Nat → Bool} {uc : Nat} {uf f f2 : Nat → Int32} (hu : usdP fc z uc uf) (hm : mrP hs (vsf W F S tp h) uc uf (2 ^ (uc - 6)) k f f2) : f2 12 = 1 ↔ Ev hs (onf W F S tp h) k := by
  obtain ⟨_, _, m2, m3⟩ := hm
  constructor
  · intro q
    obtain ⟨σ, hF⟩ := m2 q
    obtain ⟨l, hl, a, e1, e2, e3, e4⟩ := (Fr_iff (on := onf W F S tp h) (sg := fun l c => lb (σ c) l) (fun q _ l hl => tv_lb hl _ _)).mp hF
    exact ⟨_, a, e1, e2, e3, e4⟩
  · intro ⟨s, a, e1, e2, e3, e4⟩
    obtain ⟨u1, u2, u3, u4⟩ := hu
    refine m3 (nb (fun i => s (uf (i + 6)).toNatClampNeg) (uc - 6)) (nb_lt _) (fun σ hσ => ?_)
    have hl : nb (fun j => s (uf j).toNatClampNeg) 6 < 64 := nb_lt 6
    have hq : ∀ q, q ≤ k → onf W F S tp h q (fun c => lb (σ c) (nb (fun j => s (uf j).toNatClampNeg) 6)) = onf W F S tp h q s := by
      intro q hq
      obtain ⟨lo, n, n1, n2, n3, n4⟩ := LE4_tr hL hh (k := q) (by omega)
      unfold onf
      rw [n1, nI_clamp (by omega)]
      refine tb_congr _ _ _ _ (by omega) n3 (fun m b h1 h2 h3 hb => ?_)
      obtain ⟨i, i1, i2⟩ := n4 m b h1 h2 h3
      obtain ⟨j, j1, j2⟩ := u4 i i1 b hb i2
      have ej : (uf j).toNatClampNeg = b := by rw [j2, nI_clamp (by omega)]
      have e5 := hσ j j1
      rw [ej] at e5
      show lb (σ b) _ = s b
      rw [e5, ln6_lb hl (by omega)]
      by_cases h6 : j < 6
      · rw [if_pos h6, nb_bit 6 j h6, ej]
      · rw [if_neg h6, nb_bit (uc - 6) (j - 6) (by omega), show j - 6 + 6 = j by omega, ej]
    refine (Fr_iff (on := onf W F S tp h) (sg := fun l c => lb (σ c) l) (fun q _ l hl => tv_lb hl _ _)).mpr ⟨_, hl, a, e1, e2, ?_, fun q h1 h2 => ?_⟩
    · rw [hq k (Nat.le_refl _)]
      exact e3
    · rw [hq q (by omega)]
      exact e4 q h1 h2
/-- the marks of both sides -/
def LT10 (rs : List rwT) (sv te : Int32) (nv cn ac W F S tp : Nat → Int32) (h rw : Nat) : Prop := (sv = 0 → ∀ (k : Nat) (x : rwT), rs[k]? = some x → x.2.2.1 12 = 0) ∧ (¬ sv = 0 → ∀ (k : Nat) (x : rwT), rs[k]? = some x → (x.2.2.1 12 = 0 ∨ x.2.2.1 12 = 1) ∧ (x.2.2.1 12 = 1 ↔ Ev (hsf cn ac h) (onf W F S tp h) k)) ∧ (¬ te = 0 → ∀ q, q < rw → (nv q = 0 ∨ nv q = 1) ∧ (nv q = 0 ↔ Ev (hsf cn ac h) (onf W F S tp h) q))
theorem LT10_0 {sv te : Int32} {nv : Nat → Int32} : LT10 [] sv te nv cn ac W F S tp h 0 := ⟨fun _ k x hk => by simp at hk, fun _ k x hk => by simp at hk, fun _ q hq => absurd hq (Nat.not_lt_zero _)⟩
theorem LT10_up {sv te : Int32} {nv : Nat → Int32} {P : Nat → (Nat → Int32) → (Nat → Int32) → Prop} (hM : LT10 rs sv te nv cn ac W F S tp h rw) (hu : rup rs rs2 P) (hP : ∀ k f f2, P k f f2 → f2 12 = f 12) : LT10 rs2 sv te nv cn ac W F S tp h rw := by
  obtain ⟨h1, h2, h3⟩ := hM
  refine ⟨fun q k y hy => ?_, fun q k y hy => ?_, h3⟩
  · obtain ⟨x, hx, q3⟩ := rup_inv hu hy
    exact (hP _ _ _ q3).trans (h1 q k x hx)
  · obtain ⟨x, hx, q3⟩ := rup_inv hu hy
    rw [hP _ _ _ q3]
    exact h2 q k x hx
theorem LT10_tick {n : Int32} {vv : Nat → Int64} {sv te : Int32} {nv : Nat → Int32} (hM : LT10 rs sv te nv cn ac W F S tp h rw) (h1 : ¬ (0 < n ∧ n ≤ 100000) → rs2 = rs) (h2 : (0 < n ∧ n ≤ 100000) → rup rs rs2 (tkP n vv)) : LT10 rs2 sv te nv cn ac W F S tp h rw := by
  by_cases hn : 0 < n ∧ n ≤ 100000
  · exact LT10_up hM (h2 hn) (fun _ _ _ q => q.2.1)
  · rw [h1 hn]
    exact hM
theorem LT10_nv {sv te : Int32} {nv : Nat → Int32} (hL : LE4 rs fc z tp cn ac nu la co W F S h rw) (hh : h ≤ 1) (hM : LT10 rs sv te nv cn ac W F S tp h rw) : ¬ te = 0 → nvok (hsf cn ac h) W F S tp h rw nv := by
  intro ht q hq
  obtain ⟨a1, a2⟩ := hM.2.2 ht q hq
  exact ⟨a1, a2.trans (nv_iff hL hh hq).symm⟩
theorem test_t {hs : Nat → Nat → Bool} {vvs : (Nat → Int64) → Nat → Int64} {sv : Int32} (h1 : ¬ sv = 0 → rs2 = rs) (h2 : sv = 0 → ∃ uc uf, usdP fc z uc uf ∧ rup rs rs2 (mrP hs vvs uc uf (2 ^ (uc - 6)))) : rup rs rs2 tstP := by
  by_cases hs0 : sv = 0
  · obtain ⟨uc, uf, _, hu⟩ := h2 hs0
    refine ⟨hu.1, fun k x hx => ?_⟩
    obtain ⟨y, y1, y2, y3⟩ := hu.2 k x hx
    exact ⟨y, y1, y2, y3.1⟩
  · rw [h1 hs0]
    exact rup_self (fun _ _ _ => tstP_rfl)
theorem LT10_test {sv sv2 te te2 : Int32} {nv nv2 : Nat → Int32} (hL : LE4 rs fc z tp cn ac nu la co W F S h rw) (hh : h ≤ 1) (hM : LT10 rs sv te nv cn ac W F S tp h rw) (h1 : ¬ sv = 0 → rs2 = rs) (h2 : sv = 0 → ∃ uc uf, usdP fc z uc uf ∧ rup rs rs2 (mrP (hsf cn ac h) (vsf W F S tp h) uc uf (2 ^ (uc - 6)))) (h3 : ¬ sv2 = 0) (hn : nvok (hsf cn ac h) W F S tp h rw nv2) : LT10 rs2 sv2 te2 nv2 cn ac W F S tp h rw := by
  refine ⟨fun q => absurd q h3, fun _ k y hy => ?_, fun _ q hq => ?_⟩
  · by_cases hs0 : sv = 0
    · obtain ⟨uc, uf, u1, hu⟩ := h2 hs0
      obtain ⟨x, hx, q3⟩ := rup_inv hu hy
      exact ⟨q3.2.1, mr_iff hL hh (LE4_row hL hx).1 u1 q3⟩
    · rw [h1 hs0] at hy
      exact hM.2.1 hs0 k y hy
  · obtain ⟨a1, a2⟩ := hn q hq
    exact ⟨a1, a2.trans (nv_iff hL hh hq)⟩
theorem test_same {sv2 te2 r r2 i : Int32} {nv2 : Nat → Int32} (hl : rs2.length = rw) (hM : LT10 rs2 sv2 te2 nv2 cn ac W F S tp h rw) (h3 : ¬ sv2 = 0) (h4 : ¬ te2 = 0) (h1 : r = fp_pk (idq rs2) rw 0 i) (h2 : r2 = fp_pk (fun j => decide (¬ nv2 j = 0)) rw 0 i) : r = r2 := by
  rw [h1, h2]
  refine fp_pk_congr rw 0 i (fun j _ hj => ?_)
  obtain ⟨x, hx⟩ := gsome (l := rs2) (k := j) (by omega)
  obtain ⟨a1, a2⟩ := hM.2.1 h3 j x hx
  obtain ⟨b1, b2⟩ := hM.2.2 h4 j (by omega)
  have e : idq rs2 j = true ↔ ¬ nv2 j = 0 := by
    rw [idq_iff hx, b2, ← a2]
    constructor
    · intro q q2
      rw [q] at q2
      exact absurd q2 (by decide)
    · intro q
      exact a1.resolve_right q
  cases hb : idq rs2 j with
  | true => exact (decide_eq_true (e.mp hb)).symm
  | false => exact (decide_eq_false (fun q => absurd (e.mpr q) (by rw [hb]; decide))).symm
end L10
theorem LT10_read {rs rs2 : List rwT} {ft fc fc2 T : Nat → Int32} {lt0 msz z z2 h rw h2 rw2 : Nat} {tp cn ac nu la co W F S ct lt ps tp2 cn2 ac2 nu2 la2 co2 W2 F2 S2 ct2 lt2 ps2 nv : Nat → Int32} {sv sv2 te te2 : Int32} (hL : LE5 rs fc z tp cn ac nu la co W F S ct lt ps h rw) (hh : h ≤ 1) (hrw : rw ≤ 40) (hE : fp_tx lt0 ft msz T) (hM : LT10 rs sv te nv cn ac W F S tp h rw)
    (h1 : ((∃ i, fp_read ft lt0 = (i, none)) ∧ rs2 = rs ∧ fc2 = fc ∧ z2 = z ∧ sv2 = sv) ∨ (∃ i rows, fp_read ft lt0 = (i, some rows) ∧ fp_rl rows rs2 fc2 z2 ∧ sv2 = 0))
    (h3 : ((∃ i, fp_read T msz = (i, none)) ∧ h2 = h ∧ rw2 = rw ∧ fp_old h tp cn ac nu la co W F S tp2 cn2 ac2 nu2 la2 co2 W2 F2 S2 ∧ ct2 = ct ∧ lt2 = lt ∧ ps2 = ps ∧ te2 = te) ∨ (∃ i rows, fp_read T msz = (i, some rows) ∧ fp_rs rows tp2 cn2 ac2 nu2 la2 co2 W2 F2 S2 h2 rw2 512 ∧ (∀ j, j < rw2 → ct2 j = 0 ∧ lt2 j = 0 ∧ ps2 j = 0) ∧ te2 = 0)) : LT10 rs2 sv2 te2 nv cn2 ac2 W2 F2 S2 tp2 h2 rw2 := by
  obtain ⟨e0, e1⟩ := hE
  subst e0
  rw [fp_read_congr e1] at h1
  rcases h1 with ⟨⟨i, a1⟩, a2, a3, a4, a5⟩ | ⟨i, rows, a1, a2, a5⟩
  · rcases h3 with ⟨_, c2, c3, c4, c5, c6, c7, c8⟩ | ⟨i2, rows, c1, _⟩
    · rw [a2, a5, c2, c3, c8]
      obtain ⟨o1, o2, o3⟩ := c4
      have hev : ∀ q, q < rw → (Ev (hsf cn2 ac2 h) (onf W2 F2 S2 tp2 h) q ↔ Ev (hsf cn ac h) (onf W F S tp h) q) := by
        intro q hq
        refine Ev_congr (fun p hp a ha => ?_) (fun p hp s => ?_)
        · have e2 : hsf cn2 ac2 h p a = true ↔ hsf cn ac h p a = true := by
            rw [hsf_iff, hsf_iff]
            unfold ra_has
            rw [(o1 (40 * h + p) (by omega) (by omega)).2.1]
            obtain ⟨x, hx⟩ := gsome (l := rs) (k := p) (by have := hL.1.1; omega)
            obtain ⟨_, row, _, ⟨b1, _, _, b4, _⟩, _⟩ := LE4_row hL.1 hx
            have hc : (cn (40 * h + p)).toNatClampNeg ≤ 8 := by rw [b1, nI_clamp (by omega)]; exact b4
            constructor
            · intro ⟨t, t1, t2⟩
              exact ⟨t, t1, by rw [← o2 _ (by omega) (by omega)]; exact t2⟩
            · intro ⟨t, t1, t2⟩
              exact ⟨t, t1, by rw [o2 _ (by omega) (by omega)]; exact t2⟩
          cases hb : hsf cn ac h p a with
          | true => exact e2.mpr hb
          | false =>
            cases hb2 : hsf cn2 ac2 h p a with
            | false => rfl
            | true => exact absurd (e2.mp hb2) (by rw [hb]; decide)
        · obtain ⟨x, hx⟩ := gsome (l := rs) (k := p) (by have := hL.1.1; omega)
          obtain ⟨_, row, _, ⟨_, _, _, _, _, _, _, _, lo, n, q1, q2, q3, q4, q5, q6, q7⟩, _⟩ := LE4_row hL.1 hx
          unfold onf
          rw [(o1 (40 * h + p) (by omega) (by omega)).1, q1, nI_clamp (by omega)]
          exact tb_arr 512 42 lo n (by omega) (tr_mono _ _ _ _ _ _ (by omega) (Nat.le_refl _) q7) (fun m m1 m2 => o3 m (by omega) (by omega))
      obtain ⟨m1, m2, m3⟩ := hM
      refine ⟨m1, fun q k x hx => ?_, fun q k hk => ?_⟩
      · rw [hev k (by have := gslt hx; have := hL.1.1; omega)]
        exact m2 q k x hx
      · rw [hev k hk]
        exact m3 q k hk
    · rw [a1] at c1
      cases c1
  · rcases h3 with ⟨⟨i2, c1⟩, _⟩ | ⟨i2, rows2, c1, c2, c3, c4⟩
    · rw [a1] at c1
      cases c1
    · refine ⟨fun _ k x hx => ?_, fun q => absurd a5 q, fun q => absurd c4 q⟩
      obtain ⟨row, hr⟩ := gsome (l := rows) (k := k) (by have := gslt hx; have := a2.1; omega)
      obtain ⟨x', q1, q2⟩ := a2.2 k row hr
      have e2 : x' = x := Option.some.inj (q1.symm.trans hx)
      rw [e2] at q2
      obtain ⟨_, _, _, _, _, _, _, _, _, z12, _⟩ := q2
      exact z12

theorem ccA_4 (L cap : Nat) : ccA L cap ≤ 4 := by
  unfold ccA
  repeat' split
  all_goals omega
theorem cap_w {T cap : Nat} (h : T ≤ 4096) (h1 : 256 ≤ cap) (h2 : cap ≤ 8192) : 256 ≤ capA T cap ∧ capA T cap ≤ 8192 ∧ ssA T cap + 2 * cap = 2 * capA T cap ∧ ssA 0 cap = 0 := by
  unfold capA ssA
  refine ⟨?_, ?_, ?_, ?_⟩
  all_goals repeat' split
  all_goals omega
