
/-- where the words of a text lie: each has a byte -/
def wo (Bf Ef : Nat → Int32) (Bn En : Nat → Nat) (wd : Nat) : Prop := ∀ j, j < wd → Bf j = nI (Bn j) ∧ Ef j = nI (En j) ∧ Bn j < En j ∧ En j ≤ 3000
/-- byte i of the word at nx, 0 behind its end and behind the last word -/
def ww (T : Nat → Int32) (Bn En : Nat → Nat) (wd nx i : Nat) : Int32 := if nx < wd ∧ Bn nx + i < En nx then T (Bn nx + i) else 0
def wl (Bn En : Nat → Nat) (wd nx : Nat) : Nat := if nx < wd then En nx - Bn nx else 0
theorem ww_ge {T : Nat → Int32} {Bn En : Nat → Nat} {wd nx i : Nat} (h : wd ≤ nx) : ww T Bn En wd nx i = 0 := if_neg (by omega)
theorem ww_out {T : Nat → Int32} {Bn En : Nat → Nat} {wd nx i : Nat} (h : En nx ≤ Bn nx + i) : ww T Bn En wd nx i = 0 := if_neg (by omega)
theorem ww_in {T : Nat → Int32} {Bn En : Nat → Nat} {wd nx i : Nat} (h1 : nx < wd) (h : Bn nx + i < En nx) : ww T Bn En wd nx i = T (Bn nx + i) := if_pos ⟨h1, h⟩
theorem wl_ge {Bn En : Nat → Nat} {wd nx : Nat} (h : wd ≤ nx) : wl Bn En wd nx = 0 := if_neg (by omega)
theorem wl_in {Bn En : Nat → Nat} {wd nx : Nat} (h : nx < wd) : wl Bn En wd nx = En nx - Bn nx := if_pos h
theorem wl_le {Bf Ef : Nat → Int32} {Bn En : Nat → Nat} {wd nx : Nat} (hw : wo Bf Ef Bn En wd) (_ : nx ≤ wd) : wl Bn En wd nx ≤ 3000 := by
  by_cases h2 : nx < wd
  · have h3 := (hw nx h2).2.2
    rw [wl_in h2]
    omega
  · rw [wl_ge (by omega)]
    omega
theorem wl_pos {Bn En : Nat → Nat} {wd nx : Nat} (h : 0 < wl Bn En wd nx) : nx < wd := by
  by_cases h2 : nx < wd
  · exact h2
  · rw [wl_ge (by omega)] at h
    omega
def isv1 (w : Nat → Int32) (l : Nat) (a : Int32) : Int32 := if nI l = 1 ∧ w 0 = a then 1 else 0
def isv2 (w : Nat → Int32) (l : Nat) (a b : Int32) : Int32 := if nI l = 2 ∧ w 0 = a ∧ w 1 = b then 1 else 0
def isv3 (w : Nat → Int32) (l : Nat) (a b c : Int32) : Int32 := if nI l = 3 ∧ w 0 = a ∧ w 1 = b ∧ w 2 = c then 1 else 0
def isv4 (w : Nat → Int32) (l : Nat) (a b c d : Int32) : Int32 := if nI l = 4 ∧ w 0 = a ∧ w 1 = b ∧ w 2 = c ∧ w 3 = d then 1 else 0
def isv7 (w : Nat → Int32) (l : Nat) (a b c d e f g : Int32) : Int32 := if nI l = 7 ∧ w 0 = a ∧ w 1 = b ∧ w 2 = c ∧ w 3 = d ∧ w 4 = e ∧ w 5 = f ∧ w 6 = g then 1 else 0
theorem isv1_lt {w : Nat → Int32} {Bn En : Nat → Nat} {wd nx : Nat} {a : Int32} (h : ¬ isv1 w (wl Bn En wd nx) a = 0) : nx < wd := by
  by_cases h2 : nx < wd
  · exact h2
  · exact absurd (if_neg (by rw [wl_ge (by omega)]; intro hh; exact absurd hh.1 (by decide))) h
theorem isv2_lt {w : Nat → Int32} {Bn En : Nat → Nat} {wd nx : Nat} {a b : Int32} (h : ¬ isv2 w (wl Bn En wd nx) a b = 0) : nx < wd := by
  by_cases h2 : nx < wd
  · exact h2
  · exact absurd (if_neg (by rw [wl_ge (by omega)]; intro hh; exact absurd hh.1 (by decide))) h
theorem isv3_lt {w : Nat → Int32} {Bn En : Nat → Nat} {wd nx : Nat} {a b c : Int32} (h : ¬ isv3 w (wl Bn En wd nx) a b c = 0) : nx < wd := by
  by_cases h2 : nx < wd
  · exact h2
  · exact absurd (if_neg (by rw [wl_ge (by omega)]; intro hh; exact absurd hh.1 (by decide))) h
theorem isv4_lt {w : Nat → Int32} {Bn En : Nat → Nat} {wd nx : Nat} {a b c d : Int32} (h : ¬ isv4 w (wl Bn En wd nx) a b c d = 0) : nx < wd := by
  by_cases h2 : nx < wd
  · exact h2
  · exact absurd (if_neg (by rw [wl_ge (by omega)]; intro hh; exact absurd hh.1 (by decide))) h
theorem isv7_lt {w : Nat → Int32} {Bn En : Nat → Nat} {wd nx : Nat} {a b c d e f g : Int32} (h : ¬ isv7 w (wl Bn En wd nx) a b c d e f g = 0) : nx < wd := by
  by_cases h2 : nx < wd
  · exact h2
  · exact absurd (if_neg (by rw [wl_ge (by omega)]; intro hh; exact absurd hh.1 (by decide))) h
theorem wo_add {Bf Ef : Nat → Int32} {Bn En : Nat → Nat} {w b k : Nat} (h : wo Bf Ef Bn En w) (h1 : b < k) (h2 : k ≤ 3000) : wo (upd Bf w (nI b)) (upd Ef w (nI k)) (va_up Bn w b) (va_up En w k) (w + 1) := by
  intro j hj
  by_cases e : j = w
  · subst e
    rw [pk_us, pk_us, va_up_self, va_up_self]
    exact ⟨rfl, rfl, h1, h2⟩
  · rw [pk_un e, pk_un e, va_up_ne _ _ e, va_up_ne _ _ e]
    exact h j (by omega)
theorem pk_dig {w : Int32} (h1 : ¬ w < 48) (h2 : w ≤ 57) : ∃ d, 48 ≤ d ∧ d ≤ 57 ∧ w = nI d := by
  rw [pk_ti] at h1
  rw [pk_tl] at h2
  have e1 : (48 : Int32).toInt = 48 := by decide
  have e2 : (57 : Int32).toInt = 57 := by decide
  obtain ⟨j, hj, rfl⟩ := nI_of (x := w) (by rw [pk_ti]; have e0 : (0 : Int32).toInt = 0 := by decide
                                            omega)
  rw [nI_toInt hj] at h1 h2
  exact ⟨j, by omega, by omega, rfl⟩
theorem pk_num {x d : Nat} (h : 48 ≤ d) : 10 * nI x + nI d - 48 = nI (10 * x + (d - 48)) := by
  have e1 : (10 : Int32) = nI 10 := rfl
  have e2 : (48 : Int32) = nI 48 := rfl
  rw [e1, e2, pk_mul, nI_add, pk_sub (by omega)]
  congr 1
  omega
