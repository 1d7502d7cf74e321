-- deps: 77 78

def LT1 (j lt nt : Nat) (ft : Nat → Int32) : Prop := lt ≤ nt ∧ 1 ≤ nt ∧ nt ≤ 1024 ∧ sb_Fit ft ∧ lt ≤ j
def LT2 (e : Nat → Nat) (sz0 n1 ea na : Nat) (fl : Nat → Option Nat) (rs : List rwT) (ln : Nat) (w : Option (Nat × Nat × Nat × Nat × (Nat → Int32))) : Prop := sz0 ≤ n1 ∧ n1 < 65536 ∧ lsok e ea na fl rs ∧ na ≤ 60 ∧ rs.length = ln ∧ wok w
def LT3 (ma : Nat → Nat → Int32) (hh rw : Nat) : Prop := hh ≤ 1 ∧ rw ≤ 40 ∧ rws (ma 6) (ma 7) (ma 8) (ma 9) (ma 3) (ma 4) (ma 5) hh rw
def crd : Option (Nat × Nat × Nat × Nat × (Nat → Int32)) → Nat
  | none => 8192
  | some _ => 0
theorem crd_le (w : Option (Nat × Nat × Nat × Nat × (Nat → Int32))) : crd w ≤ 8192 := by cases w <;> simp [crd]
theorem wcc_le (w : Option (Nat × Nat × Nat × Nat × (Nat → Int32))) : wcc w ≤ 10 := by cases w <;> simp [wcc]
theorem wss_le (w : Option (Nat × Nat × Nat × Nat × (Nat → Int32))) : wss w ≤ crd w + 8134 := by cases w <;> simp [wss, crd]
theorem crd_some {w : Option (Nat × Nat × Nat × Nat × (Nat → Int32))} (h : w.isSome = true) : crd w = 0 := by
  cases w with
  | none => cases h
  | some _ => rfl
theorem LT1_0 : LT1 0 0 64 (fun _ => 0) := ⟨by decide, by decide, by decide, sb_fit0, Nat.le_refl _⟩
theorem LT2_0 {e : Nat → Nat} : LT2 e 0 0 (e 0) 0 (fun _ => none) [] 0 none := ⟨Nat.le_refl _, by decide, ls_none, by decide, rfl, trivial⟩
theorem LT3_c {ma : Nat → Nat → Int32} {hh : Nat} (h : hh ≤ 1) : LT3 ma hh 0 := ⟨h, by decide, fun _ => 0, fun _ => 0, fun _ => 0, rfl, by decide, fun k hk => absurd hk (Nat.not_lt_zero _)⟩
theorem LT3_0 {ma : Nat → Nat → Int32} (_ : 0 = 0) : LT3 ma 0 0 := LT3_c (by decide)
theorem lt1_unit {j lt nt lt2 nt2 : Nat} {f2 : Nat → Int32} {k r : Int32} (h1 : lt ≤ nt) (h2 : 1 ≤ nt) (h3 : nt ≤ 1024) (h4 : lt ≤ j) (hj : j ≤ 511) (hw : ((k < 1 ∨ 127 < k) ∧ r = 0 ∧ lt2 = lt ∧ nt2 = nt ∧ sb_Fit f2) ∨ (¬ k < 1 ∧ ¬ 127 < k ∧ r = 1 ∧ lt2 = lt + 1 ∧ lt2 ≤ nt2 ∧ (nt2 = nt ∨ nt2 = 2 * nt ∧ nt ≤ lt) ∧ sb_Fit f2)) : LT1 (j + 1) lt2 nt2 f2 := by
  rcases hw with ⟨_, _, e1, e2, e3⟩ | ⟨_, _, _, e1, e2, e3, e4⟩
  · exact ⟨by omega, by omega, by omega, e3, by omega⟩
  · exact ⟨e2, by omega, by omega, e4, by omega⟩
theorem law_in {L j : Nat} (hL : L ≤ 2560) (hj : j ≤ 512) (h : ¬ Int32.ofNat L - 5 < nI (5 * j)) : 5 * j + 5 ≤ L := by
  have e5 : (5 : Int32).toInt = 5 := by decide
  have eL : (Int32.ofNat L).toInt = (L : Int) := nI_toInt (n := L) (by omega)
  rw [pk_ti, nI_toInt (by omega), Int32.toInt_sub, eL, e5] at h
  have hb : ((L : Int) - 5).bmod (2 ^ 32) = (L : Int) - 5 := by
    apply Int.bmod_eq_of_le <;> omega
  rw [hb] at h
  omega

theorem unit_same {k r r2 : Int32} {A B C E : Prop} (h1 : ((k < 1 ∨ 127 < k) ∧ r = 0 ∧ A) ∨ (¬ k < 1 ∧ ¬ 127 < k ∧ r = 1 ∧ B)) (h2 : ((k < 1 ∨ 127 < k) ∧ r2 = 0 ∧ C) ∨ (¬ (k < 1 ∨ 127 < k) ∧ r2 = 1 ∧ E)) : r = r2 := by
  rcases h1 with ⟨a1, a2, _⟩ | ⟨a0, a1, a2, _⟩
  · rcases h2 with ⟨_, b2, _⟩ | ⟨b1, _, _⟩
    · rw [a2, b2]
    · exact absurd a1 b1
  · rcases h2 with ⟨b1, _, _⟩ | ⟨_, b2, _⟩
    · exact absurd b1 (fun q => q.elim a0 a1)
    · rw [a2, b2]

theorem ccA_4 (L cap : Nat) : ccA L cap ≤ 4 := by
  unfold ccA
  repeat' split
  all_goals omega
theorem cap_w {T cap : Nat} (h : T ≤ 4096) (h1 : 256 ≤ cap) (h2 : cap ≤ 8192) : 256 ≤ capA T cap ∧ capA T cap ≤ 8192 ∧ ssA T cap + 2 * cap = 2 * capA T cap ∧ ssA 0 cap = 0 := by
  unfold capA ssA
  refine ⟨?_, ?_, ?_, ?_⟩
  all_goals repeat' split
  all_goals omega
