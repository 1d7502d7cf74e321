/-- the word from b to n of a text: byte i, 0 behind its end -/
def fp_wf (f : Nat → Int32) (b n i : Nat) : Int32 := if b + i < n then f (b + i) else 0
theorem fp_wf_in {f : Nat → Int32} {b n i : Nat} (h : b + i < n) : fp_wf f b n i = f (b + i) := if_pos h
theorem fp_wf_ww {f : Nat → Int32} {L : List (Nat × Nat)} {j b n : Nat} (h : L[j]? = some (b, n)) : fp_ww f L j = fp_wf f b n := by
  funext i
  rw [fp_ww_s h]
  rfl
theorem fp_bat {f : Nat → Int32} {i len : Nat} (h : i < len) (hl : len < 2 ^ 31) : (if nI i < 0 ∨ ¬ nI i < nI len then -1 else f (nI i).toNatClampNeg) = f i := by
  rw [if_neg (fun q => q.elim (nI_pos (by omega)) (fun q => q (nI_lt h hl))), nI_clamp (by omega)]
theorem fp_byte {z : Int32} (h : fits .byte (.int z) = true) : -128 ≤ z.toInt ∧ z.toInt ≤ 127 := by
  have h1 : (-128 : Int32).toInt = -128 := by decide
  have h2 : (127 : Int32).toInt = 127 := by decide
  simp only [fits, Bool.and_eq_true, decide_eq_true_eq, Int32.le_iff_toInt_le, h1, h2] at h
  exact h
theorem fp_m48 {z : Int32} (h : fits .byte (.int z) = true) : (z - 48).toInt = z.toInt - 48 := by
  have h1 := fp_byte h
  have e1 : (48 : Int32).toInt = 48 := by decide
  rw [Int32.toInt_sub, e1]
  apply Int.bmod_eq_of_le <;> omega
theorem fp_lo {z : Int32} (h : fits .byte (.int z) = true) (hz : z - 48 < 0) : z < 48 := by
  rw [pk_ti, fp_m48 h] at hz
  rw [pk_ti]
  have e1 : (48 : Int32).toInt = 48 := by decide
  have e0 : (0 : Int32).toInt = 0 := by decide
  omega
theorem fp_hi {z : Int32} (h : fits .byte (.int z) = true) (hz : ¬ z - 48 ≤ 9) : 57 < z := by
  rw [pk_tl, fp_m48 h] at hz
  rw [pk_ti]
  have e1 : (57 : Int32).toInt = 57 := by decide
  have e0 : (9 : Int32).toInt = 9 := by decide
  omega
theorem fp_dg {z : Int32} (h : fits .byte (.int z) = true) (h1 : ¬ z - 48 < 0) (h2 : z - 48 ≤ 9) : ∃ d, 48 ≤ d ∧ d ≤ 57 ∧ z = nI d ∧ z - 48 = nI (d - 48) := by
  have e8 : (48 : Int32).toInt = 48 := by decide
  have e7 : (57 : Int32).toInt = 57 := by decide
  have e0 : (0 : Int32).toInt = 0 := by decide
  have e9 : (9 : Int32).toInt = 9 := by decide
  rw [pk_ti, fp_m48 h, e0] at h1
  rw [pk_tl, fp_m48 h, e9] at h2
  obtain ⟨d, a1, a2, rfl⟩ := pk_dig (w := z) (by rw [pk_ti, e8]; omega) (by rw [pk_tl, e7]; omega)
  exact ⟨d, a1, a2, rfl, pk_sub (a := d) (b := 48) a1⟩
theorem fp_num10 {x d : Nat} : (10 : Int32) * nI x + nI d = nI (10 * x + d) := by
  rw [show (10 : Int32) = nI 10 from rfl, pk_mul, nI_add]
theorem fp_bk_of {b : Int32} (h : ¬ (if b = 32 ∨ b = 10 then (1 : Int32) else 0) = 0) : fp_bk b := by
  by_cases hs : b = 32 ∨ b = 10
  · exact hs
  · rw [if_neg hs] at h
    exact absurd rfl h
theorem fp_bk_no {b : Int32} (h : (if b = 32 ∨ b = 10 then (1 : Int32) else 0) = 0) : ¬ fp_bk b := by
  intro hs
  rw [if_pos hs] at h
  exact absurd h (by decide)
theorem fp_in_of {b : Int32} (h : ¬ (if fp_in b then (1 : Int32) else 0) = 0) : fp_in b := by
  by_cases hs : fp_in b
  · exact hs
  · rw [if_neg hs] at h
    exact absurd rfl h
theorem fp_in_no {b : Int32} (h : (if fp_in b then (1 : Int32) else 0) = 0) : ¬ fp_in b := by
  intro hs
  rw [if_pos hs] at h
  exact absurd h (by decide)
/-- the class's own words: each char is its byte -/
theorem fp_chr (k : Nat) (hk : k < 11) (i : Nat) (hi : i < (sbs.getD k []).length) : ((((sbs.getD k []).getD i 0) &&& 255).toUInt32 % 65536).toInt32 = (sbs.getD k []).getD i 0 := by
  have h : ∀ k : Fin 11, ∀ i : Fin 8, i.val < (sbs.getD k.val []).length → ((((sbs.getD k.val []).getD i.val 0) &&& 255).toUInt32 % 65536).toInt32 = (sbs.getD k.val []).getD i.val 0 := by decide +kernel
  have hl : ∀ k : Fin 11, (sbs.getD k.val []).length ≤ 8 := by decide +kernel
  have h2 : i < 8 := Nat.lt_of_lt_of_le hi (hl ⟨k, hk⟩)
  exact h ⟨k, hk⟩ ⟨i, h2⟩ hi
/-- is the word from b to n the word S? -/
def fp_isw (f : Nat → Int32) (b n : Nat) (S : List Int32) : Int32 := if n - b = S.length ∧ (∀ i, i < S.length → f (b + i) = S.getD i 0) then 1 else 0
section Isw
variable {f : Nat → Int32} {b n : Nat} {a1 a2 a3 a4 a5 a6 a7 : Int32}
theorem fp_len_iff {l k : Nat} (hl : l < 2 ^ 31) (hk : k < 2 ^ 31) : nI l = nI k ↔ l = k := nI_eq hl hk
theorem fp_isw2 (hl : n < 2 ^ 31) : fp_isw f b n [a1, a2] = isv2 (fp_wf f b n) (n - b) a1 a2 := by
  unfold fp_isw isv2
  by_cases h : n - b = 2
  · have w0 : fp_wf f b n 0 = f (b + 0) := fp_wf_in (by omega)
    have w1 : fp_wf f b n 1 = f (b + 1) := fp_wf_in (by omega)
    by_cases hq : f (b + 0) = a1 ∧ f (b + 1) = a2
    · rw [if_pos, if_pos]
      · exact ⟨by rw [h]; rfl, by rw [w0]; exact hq.1, by rw [w1]; exact hq.2⟩
      · refine ⟨h, fun i hi => ?_⟩
        have hi' : i < 2 := hi
        rcases (show i = 0 ∨ i = 1 by omega) with rfl | rfl
        · exact hq.1
        · exact hq.2
    · rw [if_neg, if_neg]
      · intro q
        exact hq ⟨by rw [← w0]; exact q.2.1, by rw [← w1]; exact q.2.2⟩
      · intro q
        exact hq ⟨q.2 0 (show 0 < 2 by decide), q.2 1 (show 1 < 2 by decide)⟩
  · rw [if_neg (fun q => h q.1), if_neg (fun q => h ((nI_eq (b := 2) (by omega) (by decide)).mp q.1))]
theorem fp_isw3 (hl : n < 2 ^ 31) : fp_isw f b n [a1, a2, a3] = isv3 (fp_wf f b n) (n - b) a1 a2 a3 := by
  unfold fp_isw isv3
  by_cases h : n - b = 3
  · have w0 : fp_wf f b n 0 = f (b + 0) := fp_wf_in (by omega)
    have w1 : fp_wf f b n 1 = f (b + 1) := fp_wf_in (by omega)
    have w2 : fp_wf f b n 2 = f (b + 2) := fp_wf_in (by omega)
    by_cases hq : f (b + 0) = a1 ∧ f (b + 1) = a2 ∧ f (b + 2) = a3
    · rw [if_pos, if_pos]
      · exact ⟨by rw [h]; rfl, by rw [w0]; exact hq.1, by rw [w1]; exact hq.2.1, by rw [w2]; exact hq.2.2⟩
      · refine ⟨h, fun i hi => ?_⟩
        have hi' : i < 3 := hi
        rcases (show i = 0 ∨ i = 1 ∨ i = 2 by omega) with rfl | rfl | rfl
        · exact hq.1
        · exact hq.2.1
        · exact hq.2.2
    · rw [if_neg, if_neg]
      · intro q
        exact hq ⟨by rw [← w0]; exact q.2.1, by rw [← w1]; exact q.2.2.1, by rw [← w2]; exact q.2.2.2⟩
      · intro q
        exact hq ⟨q.2 0 (show 0 < 3 by decide), q.2 1 (show 1 < 3 by decide), q.2 2 (show 2 < 3 by decide)⟩
  · rw [if_neg (fun q => h q.1), if_neg (fun q => h ((nI_eq (b := 3) (by omega) (by decide)).mp q.1))]
theorem fp_isw4 (hl : n < 2 ^ 31) : fp_isw f b n [a1, a2, a3, a4] = isv4 (fp_wf f b n) (n - b) a1 a2 a3 a4 := by
  unfold fp_isw isv4
  by_cases h : n - b = 4
  · have w0 : fp_wf f b n 0 = f (b + 0) := fp_wf_in (by omega)
    have w1 : fp_wf f b n 1 = f (b + 1) := fp_wf_in (by omega)
    have w2 : fp_wf f b n 2 = f (b + 2) := fp_wf_in (by omega)
    have w3 : fp_wf f b n 3 = f (b + 3) := fp_wf_in (by omega)
    by_cases hq : f (b + 0) = a1 ∧ f (b + 1) = a2 ∧ f (b + 2) = a3 ∧ f (b + 3) = a4
    · rw [if_pos, if_pos]
      · exact ⟨by rw [h]; rfl, by rw [w0]; exact hq.1, by rw [w1]; exact hq.2.1, by rw [w2]; exact hq.2.2.1, by rw [w3]; exact hq.2.2.2⟩
      · refine ⟨h, fun i hi => ?_⟩
        have hi' : i < 4 := hi
        rcases (show i = 0 ∨ i = 1 ∨ i = 2 ∨ i = 3 by omega) with rfl | rfl | rfl | rfl
        · exact hq.1
        · exact hq.2.1
        · exact hq.2.2.1
        · exact hq.2.2.2
    · rw [if_neg, if_neg]
      · intro q
        exact hq ⟨by rw [← w0]; exact q.2.1, by rw [← w1]; exact q.2.2.1, by rw [← w2]; exact q.2.2.2.1, by rw [← w3]; exact q.2.2.2.2⟩
      · intro q
        exact hq ⟨q.2 0 (show 0 < 4 by decide), q.2 1 (show 1 < 4 by decide), q.2 2 (show 2 < 4 by decide), q.2 3 (show 3 < 4 by decide)⟩
  · rw [if_neg (fun q => h q.1), if_neg (fun q => h ((nI_eq (b := 4) (by omega) (by decide)).mp q.1))]
theorem fp_isw7 (hl : n < 2 ^ 31) : fp_isw f b n [a1, a2, a3, a4, a5, a6, a7] = isv7 (fp_wf f b n) (n - b) a1 a2 a3 a4 a5 a6 a7 := by
  unfold fp_isw isv7
  by_cases h : n - b = 7
  · have w0 : fp_wf f b n 0 = f (b + 0) := fp_wf_in (by omega)
    have w1 : fp_wf f b n 1 = f (b + 1) := fp_wf_in (by omega)
    have w2 : fp_wf f b n 2 = f (b + 2) := fp_wf_in (by omega)
    have w3 : fp_wf f b n 3 = f (b + 3) := fp_wf_in (by omega)
    have w4 : fp_wf f b n 4 = f (b + 4) := fp_wf_in (by omega)
    have w5 : fp_wf f b n 5 = f (b + 5) := fp_wf_in (by omega)
    have w6 : fp_wf f b n 6 = f (b + 6) := fp_wf_in (by omega)
    by_cases hq : f (b + 0) = a1 ∧ f (b + 1) = a2 ∧ f (b + 2) = a3 ∧ f (b + 3) = a4 ∧ f (b + 4) = a5 ∧ f (b + 5) = a6 ∧ f (b + 6) = a7
    · rw [if_pos, if_pos]
      · exact ⟨by rw [h]; rfl, by rw [w0]; exact hq.1, by rw [w1]; exact hq.2.1, by rw [w2]; exact hq.2.2.1, by rw [w3]; exact hq.2.2.2.1, by rw [w4]; exact hq.2.2.2.2.1, by rw [w5]; exact hq.2.2.2.2.2.1, by rw [w6]; exact hq.2.2.2.2.2.2⟩
      · refine ⟨h, fun i hi => ?_⟩
        have hi' : i < 7 := hi
        rcases (show i = 0 ∨ i = 1 ∨ i = 2 ∨ i = 3 ∨ i = 4 ∨ i = 5 ∨ i = 6 by omega) with rfl | rfl | rfl | rfl | rfl | rfl | rfl
        · exact hq.1
        · exact hq.2.1
        · exact hq.2.2.1
        · exact hq.2.2.2.1
        · exact hq.2.2.2.2.1
        · exact hq.2.2.2.2.2.1
        · exact hq.2.2.2.2.2.2
    · rw [if_neg, if_neg]
      · intro q
        exact hq ⟨by rw [← w0]; exact q.2.1, by rw [← w1]; exact q.2.2.1, by rw [← w2]; exact q.2.2.2.1, by rw [← w3]; exact q.2.2.2.2.1, by rw [← w4]; exact q.2.2.2.2.2.1, by rw [← w5]; exact q.2.2.2.2.2.2.1, by rw [← w6]; exact q.2.2.2.2.2.2.2⟩
      · intro q
        exact hq ⟨q.2 0 (show 0 < 7 by decide), q.2 1 (show 1 < 7 by decide), q.2 2 (show 2 < 7 by decide), q.2 3 (show 3 < 7 by decide), q.2 4 (show 4 < 7 by decide), q.2 5 (show 5 < 7 by decide), q.2 6 (show 6 < 7 by decide)⟩
  · rw [if_neg (fun q => h q.1), if_neg (fun q => h ((nI_eq (b := 7) (by omega) (by decide)).mp q.1))]
end Isw
/-- a word's kind by name, 1 where it has none -/
def fp_nm (w : Nat → Int32) (l : Nat) : Int32 := if isv3 w l 98 97 114 = 1 then 5 else if isv4 w l 119 104 101 110 = 1 then 6 else if isv3 w l 102 111 114 = 1 then 7
  else if isv7 w l 108 97 116 99 104 101 100 = 1 then 8 else if isv2 w l 111 114 = 1 then 9 else if isv3 w l 97 110 100 = 1 then 10
  else if isv3 w l 110 111 116 = 1 then 11 else 1
def fp_nk (w : Nat → Int32) (l : Nat) : Int32 := if w 0 = 97 then (if fp_nu w l 1 31 = -1 then 1 else 12) else if w 0 = 99 then (if fp_nu w l 1 15 = -1 then 1 else 13) else (if fp_nu w l 0 3600 = -1 then 1 else 14)
def fp_nv (w : Nat → Int32) (l : Nat) : Int32 := if w 0 = 97 then fp_nu w l 1 31 else if w 0 = 99 then fp_nu w l 1 15 else fp_nu w l 0 3600
theorem fp_ne1 {x : Int32} (h : x = 0) : ¬ x = 1 := by
  rw [h]
  decide
theorem fp_k_split {w : Nat → Int32} {l : Nat} (hl : ¬ l = 0) (h1 : ¬ w 0 = 40) (h2 : ¬ w 0 = 41) (h3 : ¬ w 0 = 59) : fp_k w l = if fp_nm w l = 1 then fp_nk w l else fp_nm w l := by
  unfold fp_k fp_nm fp_nk
  rw [if_neg hl, if_neg h1, if_neg h2, if_neg h3]
  by_cases c0 : isv3 w l 98 97 114 = 1
  · rw [if_pos c0, if_pos c0, if_neg (by decide)]
  rw [if_neg c0, if_neg c0]
  by_cases c1 : isv4 w l 119 104 101 110 = 1
  · rw [if_pos c1, if_pos c1, if_neg (by decide)]
  rw [if_neg c1, if_neg c1]
  by_cases c2 : isv3 w l 102 111 114 = 1
  · rw [if_pos c2, if_pos c2, if_neg (by decide)]
  rw [if_neg c2, if_neg c2]
  by_cases c3 : isv7 w l 108 97 116 99 104 101 100 = 1
  · rw [if_pos c3, if_pos c3, if_neg (by decide)]
  rw [if_neg c3, if_neg c3]
  by_cases c4 : isv2 w l 111 114 = 1
  · rw [if_pos c4, if_pos c4, if_neg (by decide)]
  rw [if_neg c4, if_neg c4]
  by_cases c5 : isv3 w l 97 110 100 = 1
  · rw [if_pos c5, if_pos c5, if_neg (by decide)]
  rw [if_neg c5, if_neg c5]
  by_cases c6 : isv3 w l 110 111 116 = 1
  · rw [if_pos c6, if_pos c6, if_neg (by decide)]
  rw [if_neg c6, if_neg c6]
  rw [if_pos rfl]
theorem fp_v_split {w : Nat → Int32} {l : Nat} (hl : ¬ l = 0) (h1 : ¬ w 0 = 40) (h2 : ¬ w 0 = 41) (h3 : ¬ w 0 = 59) : fp_v w l = if fp_nm w l = 1 then fp_nv w l else -1 := by
  unfold fp_v fp_nm fp_nv
  rw [if_neg hl, if_neg h1, if_neg h2, if_neg h3]
  by_cases c0 : isv3 w l 98 97 114 = 1
  · rw [if_pos c0, if_pos c0, if_neg (by decide)]
  rw [if_neg c0, if_neg c0]
  by_cases c1 : isv4 w l 119 104 101 110 = 1
  · rw [if_pos c1, if_pos c1, if_neg (by decide)]
  rw [if_neg c1, if_neg c1]
  by_cases c2 : isv3 w l 102 111 114 = 1
  · rw [if_pos c2, if_pos c2, if_neg (by decide)]
  rw [if_neg c2, if_neg c2]
  by_cases c3 : isv7 w l 108 97 116 99 104 101 100 = 1
  · rw [if_pos c3, if_pos c3, if_neg (by decide)]
  rw [if_neg c3, if_neg c3]
  by_cases c4 : isv2 w l 111 114 = 1
  · rw [if_pos c4, if_pos c4, if_neg (by decide)]
  rw [if_neg c4, if_neg c4]
  by_cases c5 : isv3 w l 97 110 100 = 1
  · rw [if_pos c5, if_pos c5, if_neg (by decide)]
  rw [if_neg c5, if_neg c5]
  by_cases c6 : isv3 w l 110 111 116 = 1
  · rw [if_pos c6, if_pos c6, if_neg (by decide)]
  rw [if_neg c6, if_neg c6]
  rw [if_pos rfl]
theorem fp_k_all {w : Nat → Int32} {l : Nat} : ∃ j, j < 19 ∧ fp_k w l = nI j := by
  unfold fp_k
  by_cases c0 : l = 0
  · exact ⟨0, by decide, if_pos c0⟩
  rw [if_neg c0]
  by_cases c1 : w 0 = 40
  · exact ⟨2, by decide, if_pos c1⟩
  rw [if_neg c1]
  by_cases c2 : w 0 = 41
  · exact ⟨3, by decide, if_pos c2⟩
  rw [if_neg c2]
  by_cases c3 : w 0 = 59
  · exact ⟨4, by decide, if_pos c3⟩
  rw [if_neg c3]
  by_cases c4 : isv3 w l 98 97 114 = 1
  · exact ⟨5, by decide, if_pos c4⟩
  rw [if_neg c4]
  by_cases c5 : isv4 w l 119 104 101 110 = 1
  · exact ⟨6, by decide, if_pos c5⟩
  rw [if_neg c5]
  by_cases c6 : isv3 w l 102 111 114 = 1
  · exact ⟨7, by decide, if_pos c6⟩
  rw [if_neg c6]
  by_cases c7 : isv7 w l 108 97 116 99 104 101 100 = 1
  · exact ⟨8, by decide, if_pos c7⟩
  rw [if_neg c7]
  by_cases c8 : isv2 w l 111 114 = 1
  · exact ⟨9, by decide, if_pos c8⟩
  rw [if_neg c8]
  by_cases c9 : isv3 w l 97 110 100 = 1
  · exact ⟨10, by decide, if_pos c9⟩
  rw [if_neg c9]
  by_cases c10 : isv3 w l 110 111 116 = 1
  · exact ⟨11, by decide, if_pos c10⟩
  rw [if_neg c10]
  by_cases c11 : w 0 = 97
  · rw [if_pos c11]
    by_cases d11 : fp_nu w l 1 31 = -1
    · exact ⟨1, by decide, if_pos d11⟩
    · exact ⟨12, by decide, if_neg d11⟩
  rw [if_neg c11]
  by_cases c12 : w 0 = 99
  · rw [if_pos c12]
    by_cases d12 : fp_nu w l 1 15 = -1
    · exact ⟨1, by decide, if_pos d12⟩
    · exact ⟨13, by decide, if_neg d12⟩
  rw [if_neg c12]
  by_cases d13 : fp_nu w l 0 3600 = -1
  · exact ⟨1, by decide, if_pos d13⟩
  · exact ⟨14, by decide, if_neg d13⟩
theorem fp_nb : ∀ x : Fin 19, vp_nar .byte (nI x.val).toInt8.toInt32 = nI x.val := by decide +kernel
theorem fp_k_nar {w : Nat → Int32} {l : Nat} : vp_nar .byte (fp_k w l).toInt8.toInt32 = fp_k w l := by
  obtain ⟨j, hj, h⟩ := fp_k_all (w := w) (l := l)
  rw [h]
  exact fp_nb ⟨j, hj⟩
theorem fp_num_r {w : Nat → Int32} {mx : Nat} : ∀ f i x, fp_num w mx f i x = -1 ∨ ∃ y, y ≤ mx ∧ fp_num w mx f i x = nI y := by
  intro f
  induction f with
  | zero =>
    intro i x
    rw [fp_num]
    split
    · rename_i h
      exact Or.inr ⟨x, h, rfl⟩
    · exact Or.inl rfl
  | succ f ih =>
    intro i x
    rw [fp_num]
    split
    · exact Or.inl rfl
    · exact ih _ _
theorem fp_nu_r {w : Nat → Int32} {l a mx : Nat} : fp_nu w l a mx = -1 ∨ ∃ y, y ≤ mx ∧ fp_nu w l a mx = nI y := by
  unfold fp_nu
  split
  · exact Or.inl rfl
  · exact fp_num_r _ _ _
theorem fp_s16 {x : Nat} (h : x ≤ 3600) : vp_nar .short (nI x).toInt16.toInt32 = nI x := by
  rw [pk_vs]
  apply Int32.toInt_inj.mp
  rw [Int16.toInt_toInt32, Int32.toInt_toInt16, nI_toInt (by omega)]
  apply Int.bmod_eq_of_le <;> omega
theorem fp_nu_nar {w : Nat → Int32} {l a mx : Nat} (hm : mx ≤ 3600) : vp_nar .short (fp_nu w l a mx).toInt16.toInt32 = fp_nu w l a mx := by
  rcases fp_nu_r (w := w) (l := l) (a := a) (mx := mx) with h | ⟨y, hy, h⟩
  · rw [h]
    rfl
  · rw [h]
    exact fp_s16 (by omega)
theorem fp_v_nar {w : Nat → Int32} {l : Nat} : vp_nar .short (fp_v w l).toInt16.toInt32 = fp_v w l := by
  unfold fp_v
  by_cases c0 : l = 0
  · simp only [if_pos c0]
    rfl
  simp only [if_neg c0]
  by_cases c1 : w 0 = 40
  · simp only [if_pos c1]
    rfl
  simp only [if_neg c1]
  by_cases c2 : w 0 = 41
  · simp only [if_pos c2]
    rfl
  simp only [if_neg c2]
  by_cases c3 : w 0 = 59
  · simp only [if_pos c3]
    rfl
  simp only [if_neg c3]
  by_cases c4 : isv3 w l 98 97 114 = 1
  · simp only [if_pos c4]
    rfl
  simp only [if_neg c4]
  by_cases c5 : isv4 w l 119 104 101 110 = 1
  · simp only [if_pos c5]
    rfl
  simp only [if_neg c5]
  by_cases c6 : isv3 w l 102 111 114 = 1
  · simp only [if_pos c6]
    rfl
  simp only [if_neg c6]
  by_cases c7 : isv7 w l 108 97 116 99 104 101 100 = 1
  · simp only [if_pos c7]
    rfl
  simp only [if_neg c7]
  by_cases c8 : isv2 w l 111 114 = 1
  · simp only [if_pos c8]
    rfl
  simp only [if_neg c8]
  by_cases c9 : isv3 w l 97 110 100 = 1
  · simp only [if_pos c9]
    rfl
  simp only [if_neg c9]
  by_cases c10 : isv3 w l 110 111 116 = 1
  · simp only [if_pos c10]
    rfl
  simp only [if_neg c10]
  by_cases c11 : w 0 = 97
  · simp only [if_pos c11]
    exact fp_nu_nar (by decide)
  simp only [if_neg c11]
  by_cases c12 : w 0 = 99
  · simp only [if_pos c12]
    exact fp_nu_nar (by decide)
  simp only [if_neg c12]
  exact fp_nu_nar (by decide)
/-- the arrays of kinds and numbers hold what a text's words are -/
def fp_KV (f1 f2 : Nat → Int32) (cnt : Nat) (K V : Nat → Int32) : Prop := (∀ j, j < cnt → f1 j = K j ∧ f2 j = V j) ∧ (∀ j, K j = 0 ↔ cnt ≤ j) ∧ ∀ j, cnt ≤ j → V j = -1
/-- while a text is split -/
def fp_sp (f : Nat → Int32) (len a cn : Nat) (g1 g2 : Nat → Int32) : Prop := (fp_ws f len 0).drop cn = fp_ws f len a ∧ cn ≤ (fp_ws f len 0).length ∧ ∀ j, j < cn → g1 j = fp_K f len j ∧ g2 j = fp_V f len j
section Split
variable {f g1 g2 : Nat → Int32} {len a b cn : Nat} {k v : Int32}
theorem fp_sp_0 : fp_sp f len 0 0 g1 g2 := ⟨rfl, Nat.zero_le _, fun j hj => absurd hj (Nat.not_lt_zero _)⟩
theorem fp_sp_b (h : fp_sp f len a cn g1 g2) (ha : a < len) (hb : fp_bk (f a)) : fp_sp f len (a + 1) cn g1 g2 := ⟨by rw [h.1, fp_ws_b ha hb], h.2⟩
theorem fp_end_b (hb : ¬ fp_in (f a)) : fp_end f len a = a + 1 := by
  unfold fp_end
  rw [if_neg hb]
theorem fp_sp_at (h : fp_sp f len a cn g1 g2) (ha : a < len) (hb : ¬ fp_bk (f a)) : (fp_ws f len 0)[cn]? = some (a, fp_end f len a) := by
  have h1 := h.1
  rw [fp_ws_w ha hb] at h1
  have h2 : ((fp_ws f len 0).drop cn)[0]? = some (a, fp_end f len a) := by rw [h1]; rfl
  rw [List.getElem?_drop] at h2
  exact h2
theorem fp_sp_w (h : fp_sp f len a cn g1 g2) (ha : a < len) (hb : ¬ fp_bk (f a)) (he : fp_end f len a = b) (hk : k = fp_k (fp_wf f a b) (b - a)) (hv : v = fp_v (fp_wf f a b) (b - a)) : fp_sp f len b (cn + 1) (upd g1 cn (vp_nar .byte k.toInt8.toInt32)) (upd g2 cn (vp_nar .short v.toInt16.toInt32)) := by
  have hat := fp_sp_at h ha hb
  rw [he] at hat
  have h1 := h.1
  rw [fp_ws_w ha hb, he] at h1
  obtain ⟨hlt, _⟩ := List.getElem?_eq_some_iff.mp hat
  refine ⟨?_, hlt, fun j hj => ?_⟩
  · have h2 : ((fp_ws f len 0).drop cn).tail = fp_ws f len b := by rw [h1]; rfl
    rw [List.tail_drop] at h2
    exact h2
  · by_cases e : j = cn
    · subst e
      rw [pk_us, pk_us, hk, hv, fp_k_nar, fp_v_nar]
      unfold fp_K fp_V
      rw [fp_wf_ww hat, fp_wl_s hat]
      exact ⟨rfl, rfl⟩
    · rw [pk_un e, pk_un e]
      exact h.2.2 j (by omega)
theorem fp_sp_e (h : fp_sp f len a cn g1 g2) (ha : len ≤ a) : cn = (fp_ws f len 0).length ∧ fp_KV g1 g2 cn (fp_K f len) (fp_V f len) := by
  have h1 := h.1
  rw [fp_ws_e ha] at h1
  have h2 : (fp_ws f len 0).length ≤ cn := List.drop_eq_nil_iff.mp h1
  have h3 := h.2.1
  have e : cn = (fp_ws f len 0).length := by omega
  refine ⟨e, h.2.2, fun j => by rw [e]; exact fp_K_0, fun j q => ?_⟩
  have hl : fp_wl (fp_ws f len 0) j = 0 := fp_wl_n (by omega)
  unfold fp_V fp_v
  rw [hl, if_pos rfl]
end Split

theorem fp_kv2 {w : Nat → Int32} {l : Nat} (hl : ¬ l = 0) (h : w 0 = 40) : 2 = fp_k w l ∧ -1 = fp_v w l := by
  unfold fp_k fp_v
  rw [if_neg hl, if_pos h, if_neg hl, if_pos h]
  exact ⟨rfl, rfl⟩
theorem fp_kv3 {w : Nat → Int32} {l : Nat} (hl : ¬ l = 0) (h : w 0 = 41) : 3 = fp_k w l ∧ -1 = fp_v w l := by
  unfold fp_k fp_v
  rw [if_neg hl, if_neg (by rw [h]; decide), if_pos h, if_neg hl, if_neg (by rw [h]; decide), if_pos h]
  exact ⟨rfl, rfl⟩
theorem fp_kv4 {w : Nat → Int32} {l : Nat} (hl : ¬ l = 0) (h : w 0 = 59) : 4 = fp_k w l ∧ -1 = fp_v w l := by
  unfold fp_k fp_v
  rw [if_neg hl, if_neg (by rw [h]; decide), if_neg (by rw [h]; decide), if_pos h, if_neg hl, if_neg (by rw [h]; decide), if_neg (by rw [h]; decide), if_pos h]
  exact ⟨rfl, rfl⟩
theorem fp_cpy0 {f g : Nat → Int32} {n j : Nat} (hn : n < 2 ^ 31) (hj : j < n) : va_cpy f g (0 : Int32).toNatClampNeg (0 : Int32).toNatClampNeg (nI n).toNatClampNeg j = f j := by
  rw [sb_cl0, nI_clamp hn, pk_cpy_in (Nat.zero_le _) (by omega), Nat.sub_zero, Nat.zero_add]
