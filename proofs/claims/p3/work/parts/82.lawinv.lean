-- deps: 77 78

def LT1 (j lt nt : Nat) (ft : Nat → Int32) : Prop := lt ≤ nt ∧ 1 ≤ nt ∧ nt ≤ 1024 ∧ sb_Fit ft ∧ lt ≤ j
def LT2 (e : Nat → Nat) (sz0 n1 ea na : Nat) (fl : Nat → Option Nat) (rs : List rwT) (ln : Nat) (w : Option (Nat × Nat × Nat × Nat × (Nat → Int32))) : Prop := sz0 ≤ n1 ∧ n1 < 65536 ∧ lsok e ea na fl rs ∧ na ≤ 60 ∧ rs.length = ln ∧ wok w
def LT3 (ma : Nat → Nat → Int32) (hh rw : Nat) : Prop := hh ≤ 1 ∧ rw ≤ 40 ∧ rws (ma 6) (ma 7) (ma 8) (ma 9) (ma 3) (ma 4) (ma 5) hh rw
def crd : Option (Nat × Nat × Nat × Nat × (Nat → Int32)) → Nat
  | none => 8192
  | some _ => 0
theorem crd_le (w : Option (Nat × Nat × Nat × Nat × (Nat → Int32))) : crd w ≤ 8192 := by cases w <;> simp [crd]
theorem wcc_le (w : Option (Nat × Nat × Nat × Nat × (Nat → Int32))) : wcc w ≤ 10 := by cases w <;> simp [wcc]
theorem wss_le (w : Option (Nat × Nat × Nat × Nat × (Nat → Int32))) : wss w ≤ crd w + 8134 := by cases w <;> simp [wss, crd]
theorem crd_some {w : Option (Nat × Nat × Nat × Nat × (Nat → Int32))} (h : w.isSome = true) : crd w = 0 := by
  cases w with
  | none => cases h
  | some _ => rfl
theorem LT1_0 : LT1 0 0 64 (fun _ => 0) := ⟨by decide, by decide, by decide, sb_fit0, Nat.le_refl _⟩
theorem LT2_0 {e : Nat → Nat} : LT2 e 0 0 (e 0) 0 (fun _ => none) [] 0 none := ⟨Nat.le_refl _, by decide, ls_none, by decide, rfl, trivial⟩
theorem LT3_c {ma : Nat → Nat → Int32} {hh : Nat} (h : hh ≤ 1) : LT3 ma hh 0 := ⟨h, by decide, fun _ => 0, fun _ => 0, fun _ => 0, rfl, by decide, fun k hk => absurd hk (Nat.not_lt_zero _)⟩
theorem LT3_0 {ma : Nat → Nat → Int32} (_ : 0 = 0) : LT3 ma 0 0 := LT3_c (by decide)
theorem lt1_unit {j lt nt lt2 nt2 : Nat} {ft f2 : Nat → Int32} {k r : Int32} (h1 : lt ≤ nt) (h2 : 1 ≤ nt) (h3 : nt ≤ 1024) (h4 : lt ≤ j) (hj : j ≤ 511) (hw : ((k < 1 ∨ 127 < k) ∧ r = 0 ∧ lt2 = lt ∧ nt2 = nt ∧ sb_Fit f2 ∧ f2 = ft) ∨ (¬ k < 1 ∧ ¬ 127 < k ∧ r = 1 ∧ lt2 = lt + 1 ∧ lt2 ≤ nt2 ∧ (nt2 = nt ∨ nt2 = 2 * nt ∧ nt ≤ lt) ∧ sb_Fit f2 ∧ (∀ j, j < lt → f2 j = ft j) ∧ f2 lt = vp_nar .byte k.toInt8.toInt32)) : LT1 (j + 1) lt2 nt2 f2 := by
  rcases hw with ⟨_, _, e1, e2, e3, _⟩ | ⟨_, _, _, e1, e2, e3, e4, _⟩
  · exact ⟨by omega, by omega, by omega, e3, by omega⟩
  · exact ⟨e2, by omega, by omega, e4, by omega⟩
theorem law_in {L j : Nat} (hL : L ≤ 2560) (hj : j ≤ 512) (h : ¬ Int32.ofNat L - 5 < nI (5 * j)) : 5 * j + 5 ≤ L := by
  have e5 : (5 : Int32).toInt = 5 := by decide
  have eL : (Int32.ofNat L).toInt = (L : Int) := nI_toInt (n := L) (by omega)
  rw [pk_ti, nI_toInt (by omega), Int32.toInt_sub, eL, e5] at h
  have hb : ((L : Int) - 5).bmod (2 ^ 32) = (L : Int) - 5 := by
    apply Int.bmod_eq_of_le <;> omega
  rw [hb] at h
  omega
/-- both texts are alike -/
def fp_tx (lt : Nat) (ft : Nat → Int32) (msz : Nat) (T : Nat → Int32) : Prop := lt = msz ∧ ∀ i, i < lt → ft i = T i
theorem fp_tx_0 {ft T : Nat → Int32} : fp_tx 0 ft 0 T := ⟨rfl, fun i hi => absurd hi (Nat.not_lt_zero _)⟩
theorem fp_tx_u {lt lt2 nt nt2 msz sz2 : Nat} {ft f2 T T2 : Nat → Int32} {k r r2 : Int32} (hE : fp_tx lt ft msz T) (h1 : ((k < 1 ∨ 127 < k) ∧ r = 0 ∧ lt2 = lt ∧ nt2 = nt ∧ sb_Fit f2 ∧ f2 = ft) ∨ (¬ k < 1 ∧ ¬ 127 < k ∧ r = 1 ∧ lt2 = lt + 1 ∧ lt2 ≤ nt2 ∧ (nt2 = nt ∨ nt2 = 2 * nt ∧ nt ≤ lt) ∧ sb_Fit f2 ∧ (∀ j, j < lt → f2 j = ft j) ∧ f2 lt = vp_nar .byte k.toInt8.toInt32)) (h2 : ((k < 1 ∨ 127 < k) ∧ r2 = 0 ∧ sz2 = msz ∧ T2 = T) ∨ (¬ (k < 1 ∨ 127 < k) ∧ r2 = 1 ∧ sz2 = msz + 1 ∧ T2 = upd T msz (vp_nar .byte k.toInt8.toInt32))) : fp_tx lt2 f2 sz2 T2 := by
  obtain ⟨e0, e1⟩ := hE
  rcases h1 with ⟨a1, _, a2, _, _, a3⟩ | ⟨a0, a1, _, a2, _, _, _, a3, a4⟩
  · rcases h2 with ⟨_, _, b2, b3⟩ | ⟨b1, _⟩
    · rw [a2, a3, b2, b3]
      exact ⟨e0, e1⟩
    · exact absurd a1 b1
  · rcases h2 with ⟨b1, _⟩ | ⟨_, _, b2, b3⟩
    · exact absurd b1 (fun q => q.elim a0 a1)
    · refine ⟨by omega, fun i hi => ?_⟩
      rw [b3]
      by_cases e : i = lt
      · subst e
        rw [a4, e0, pk_us]
      · rw [a3 i (by omega), pk_un (by omega)]
        exact e1 i (by omega)
theorem fp_rd_same {lt msz : Nat} {ft T : Nat → Int32} {r r2 : Int32} (hE : fp_tx lt ft msz T) (h1 : r = fp_ans (fp_read ft lt)) (h2 : r2 = fp_ans (fp_read T msz)) : r = r2 := by
  obtain ⟨e0, e1⟩ := hE
  subst e0
  rw [h1, h2, fp_read_congr e1]

theorem ccA_4 (L cap : Nat) : ccA L cap ≤ 4 := by
  unfold ccA
  repeat' split
  all_goals omega
theorem cap_w {T cap : Nat} (h : T ≤ 4096) (h1 : 256 ≤ cap) (h2 : cap ≤ 8192) : 256 ≤ capA T cap ∧ capA T cap ≤ 8192 ∧ ssA T cap + 2 * cap = 2 * capA T cap ∧ ssA 0 cap = 0 := by
  unfold capA ssA
  refine ⟨?_, ?_, ?_, ?_⟩
  all_goals repeat' split
  all_goals omega
