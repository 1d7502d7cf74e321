/-- every row's code is worth vv of its place -/
def cev (rs : List rwT) (fc : Nat → Int32) (z : Nat) (sf : Nat → Int64) (vv : Nat → Int64) : Prop := ∀ (k : Nat) (x : rwT), rs[k]? = some x → ∃ b c, x.2.2.1 4 = nI b ∧ x.2.2.1 5 = nI (b + c.length) ∧ b + c.length ≤ z ∧ fp_seg fc b c ∧ ∀ g9, fp_bot (fp_mr sf c (0, g9)) = vv k
def rup (rs rs2 : List rwT) (P : Nat → (Nat → Int32) → (Nat → Int32) → Prop) : Prop := rs2.length = rs.length ∧ ∀ (k : Nat) (x : rwT), rs[k]? = some x → ∃ y, rs2[k]? = some y ∧ y.2.2.2 = x.2.2.2 ∧ P k x.2.2.1 y.2.2.1
def lpI (rs rs1 : List rwT) (i : Nat) (P : Nat → (Nat → Int32) → (Nat → Int32) → Prop) : Prop := rs1.length = rs.length ∧ (∀ j, i ≤ j → rs1[j]? = rs[j]?) ∧ (∀ (j : Nat) (x : rwT), j < i → rs[j]? = some x → ∃ y, rs1[j]? = some y ∧ y.2.2.2 = x.2.2.2 ∧ P j x.2.2.1 y.2.2.1)
theorem mid_at {pre post : List rwT} {x : rwT} : (pre ++ x :: post)[pre.length]? = some x := by
  rw [List.getElem?_append_right (Nat.le_refl _), Nat.sub_self]
  rfl
theorem mid_ne {pre post : List rwT} {x y : rwT} {j : Nat} (h : ¬ j = pre.length) : (pre ++ y :: post)[j]? = (pre ++ x :: post)[j]? := by
  by_cases hj : j < pre.length
  · rw [List.getElem?_append_left hj, List.getElem?_append_left hj]
  · rw [List.getElem?_append_right (by omega), List.getElem?_append_right (by omega)]
    obtain ⟨k, hk⟩ : ∃ k, j - pre.length = k + 1 := ⟨j - pre.length - 1, by omega⟩
    rw [hk, List.getElem?_cons_succ, List.getElem?_cons_succ]
section Lp
variable {rs rs1 pre post : List rwT} {x y : rwT} {i : Nat} {P : Nat → (Nat → Int32) → (Nat → Int32) → Prop}
theorem lpI_0 : lpI rs rs 0 P := ⟨rfl, fun _ _ => rfl, fun j _ hj => absurd hj (Nat.not_lt_zero _)⟩
theorem lpI_x (h : lpI rs (pre ++ x :: post) i P) (hpl : pre.length = i) : rs[i]? = some x := by
  rw [← h.2.1 i (Nat.le_refl _), ← hpl]
  exact mid_at
theorem lpI_s (h : lpI rs (pre ++ x :: post) i P) (hpl : pre.length = i) (h1 : y.2.2.2 = x.2.2.2) (h2 : P i x.2.2.1 y.2.2.1) : lpI rs (pre ++ y :: post) (i + 1) P := by
  have hx := lpI_x h hpl
  obtain ⟨a, b, c⟩ := h
  refine ⟨ls_len.trans a, fun j hj => ?_, fun j z hj hz => ?_⟩
  · rw [mid_ne (x := x) (by omega)]
    exact b j (by omega)
  · by_cases e : j = i
    · rw [e] at hz
      have e2 : z = x := Option.some.inj (hz.symm.trans hx)
      refine ⟨y, ?_, by rw [e2]; exact h1, by rw [e2, e]; exact h2⟩
      rw [e, ← hpl]
      exact mid_at
    · obtain ⟨y', q1, q2⟩ := c j z (by omega) hz
      exact ⟨y', by rw [mid_ne (x := x) (by omega)]; exact q1, q2⟩
theorem lpI_e (h : lpI rs rs1 i P) (hi : rs.length ≤ i) : rup rs rs1 P := ⟨h.1, fun k x hk => h.2.2 k x (by obtain ⟨h9, _⟩ := List.getElem?_eq_some_iff.mp hk; omega) hk⟩
theorem rup_one (h2 : rs = pre ++ x :: post) (h1 : y.2.2.2 = x.2.2.2) (hP : P pre.length x.2.2.1 y.2.2.1) (hn : ∀ k, k < rs.length → ¬ k = pre.length → ∀ f, P k f f) : rup rs (pre ++ y :: post) P := by
  subst h2
  refine ⟨ls_len, fun k z hz => ?_⟩
  by_cases e : k = pre.length
  · rw [e, mid_at] at hz
    have e2 : x = z := Option.some.inj hz
    exact ⟨y, by rw [e]; exact mid_at, by rw [← e2]; exact h1, by rw [← e2, e]; exact hP⟩
  · exact ⟨z, by rw [mid_ne (x := x) e]; exact hz, rfl, hn k (List.getElem?_eq_some_iff.mp hz).1 e _⟩
theorem rup_self (hn : ∀ k, k < rs.length → ∀ f, P k f f) : rup rs rs P := ⟨rfl, fun k x hx => ⟨x, hx, rfl, hn k (List.getElem?_eq_some_iff.mp hx).1 _⟩⟩
end Lp
/-- what stands in a row for good -/
def rst (f f2 : Nat → Int32) : Prop := f2 1 = f 1 ∧ f2 2 = f 2 ∧ f2 3 = f 3 ∧ f2 4 = f 4 ∧ f2 5 = f 5 ∧ f2 6 = f 6 ∧ f2 7 = f 7 ∧ f2 8 = f 8
theorem rst_rfl {f : Nat → Int32} : rst f f := ⟨rfl, rfl, rfl, rfl, rfl, rfl, rfl, rfl⟩
def kc_ct (on n c : Int32) : Int32 := if on = 0 then 0 else if c + n < 1000000 then c + n else 1000000
def kc_ps (n p : Int32) : Int32 := if 0 < p - n then p - n else 0
def kc_h (on c nu : Int32) : Int32 := if on = 0 ∨ c < nu then 0 else 1
def kc_lt (on la nu c l : Int32) : Int32 := if ¬ la = 0 ∧ ¬ kc_h on c nu = 0 then 1 else l
def kc_bar (on nu c l p : Int32) : Int32 := if p = 0 ∧ (¬ l = 0 ∨ ¬ kc_h on c nu = 0) then 1 else 0
def kc_on (v : Int64) : Int32 := if v = 0 then 0 else 1
def tkP (n : Int32) (vv : Nat → Int64) (k : Nat) (f f2 : Nat → Int32) : Prop := rst f f2 ∧ f2 12 = f 12 ∧ f2 9 = kc_ct (kc_on (vv k)) n (f 9) ∧ f2 11 = kc_ps n (f 11) ∧ f2 10 = kc_lt (kc_on (vv k)) (f 8) (f 7) (kc_ct (kc_on (vv k)) n (f 9)) (f 10)
def barC (rs : List rwT) (vv : Nat → Int64) (kn j : Nat) : Prop := ∃ x, rs[j]? = some x ∧ bt (x.2.2.1 2) kn = true ∧ x.2.2.1 11 = 0 ∧ (¬ x.2.2.1 10 = 0 ∨ (¬ vv j = 0 ∧ ¬ x.2.2.1 9 < x.2.2.1 7))
theorem kc_bar_iff {v : Int64} {nu c l p : Int32} : ¬ kc_bar (kc_on v) nu c l p = 0 ↔ p = 0 ∧ (¬ l = 0 ∨ (¬ v = 0 ∧ ¬ c < nu)) := by
  have h1 : ¬ kc_h (kc_on v) c nu = 0 ↔ ¬ v = 0 ∧ ¬ c < nu := by
    unfold kc_h kc_on
    by_cases hv : v = 0
    · rw [if_pos hv, if_pos (Or.inl rfl)]
      exact ⟨fun h => absurd rfl h, fun h => absurd hv h.1⟩
    · rw [if_neg hv]
      by_cases hc : c < nu
      · rw [if_pos (Or.inr hc)]
        exact ⟨fun h => absurd rfl h, fun h => absurd hc h.2⟩
      · rw [if_neg (fun q => q.elim (by decide) hc)]
        exact ⟨fun _ => ⟨hv, hc⟩, fun _ => by decide⟩
  unfold kc_bar
  by_cases hp : p = 0 ∧ (¬ l = 0 ∨ ¬ kc_h (kc_on v) c nu = 0)
  · rw [if_pos hp]
    exact ⟨fun _ => ⟨hp.1, hp.2.imp id h1.mp⟩, fun _ => by decide⟩
  · rw [if_neg hp]
    exact ⟨fun h => absurd rfl h, fun h => absurd ⟨h.1, h.2.imp id h1.mpr⟩ hp⟩
section Bar
variable {rs : List rwT} {vv : Nat → Int64} {kn i : Nat} {x : rwT}
theorem barC_n1 (hx : rs[i]? = some x) (h : (if bt (x.2.2.1 2) kn = true then (1 : Int32) else 0) = 0) : ¬ barC rs vv kn i := by
  intro ⟨y, h1, h2, _⟩
  have e : y = x := Option.some.inj (h1.symm.trans hx)
  rw [e] at h2
  rw [if_pos h2] at h
  exact absurd h (by decide)
theorem barC_n2 (hx : rs[i]? = some x) (h : kc_bar (kc_on (vv i)) (x.2.2.1 7) (x.2.2.1 9) (x.2.2.1 10) (x.2.2.1 11) = 0) : ¬ barC rs vv kn i := by
  intro ⟨y, h1, _, h2⟩
  have e : y = x := Option.some.inj (h1.symm.trans hx)
  rw [e] at h2
  exact absurd h (kc_bar_iff.mpr h2)
theorem barC_y (hx : rs[i]? = some x) (h0 : ¬ (if bt (x.2.2.1 2) kn = true then (1 : Int32) else 0) = 0) (h : ¬ kc_bar (kc_on (vv i)) (x.2.2.1 7) (x.2.2.1 9) (x.2.2.1 10) (x.2.2.1 11) = 0) : barC rs vv kn i := by
  refine ⟨x, hx, ?_, kc_bar_iff.mp h⟩
  by_cases hb : bt (x.2.2.1 2) kn = true
  · exact hb
  · exact absurd (if_neg hb) h0
end Bar
section Pz
variable {lf b k : Int32}
theorem pz_0 (h : lf + b = k) (e : b = k) : lf = 0 := by
  have h1 := Int32.add_sub_cancel lf b
  rw [h, e, Int32.sub_self] at h1
  exact h1.symm
theorem pz_n (h : lf + b = k) (e : ¬ b = k) : ¬ lf = 0 := fun q => e (by rw [q, Int32.zero_add] at h; exact h)
theorem pz_s (h : lf + b = k) : (lf - 1) + (b + 1) = k := by
  rw [Int32.add_comm b 1, ← Int32.add_assoc, Int32.sub_add_cancel]
  exact h
theorem one_le {k : Int32} : 1 ≤ k ↔ 0 < k := by
  rw [Int32.le_iff_toInt_le, Int32.lt_iff_toInt_lt]
  have e1 : (1 : Int32).toInt = 1 := by decide
  have e0 : (0 : Int32).toInt = 0 := by decide
  omega
end Pz
def passP (k a b s : Int32) (j : Nat) (f f2 : Nat → Int32) : Prop := rst f f2 ∧ f2 12 = f 12 ∧ f2 9 = f 9 ∧ f2 10 = f 10 ∧ f2 11 = if k = nI (j + 1) ∧ fp_pas a b s (f 11) = 0 then s else f 11
def resP (k : Int32) (vv : Nat → Int64) (j : Nat) (f f2 : Nat → Int32) : Prop := rst f f2 ∧ f2 12 = f 12 ∧ f2 9 = f 9 ∧ f2 11 = f 11 ∧ f2 10 = if k = nI (j + 1) ∧ vv j = 0 then 0 else f 10
def tstP (_ : Nat) (f f2 : Nat → Int32) : Prop := rst f f2 ∧ f2 9 = f 9 ∧ f2 10 = f 10 ∧ f2 11 = f 11
theorem tstP_rfl {j : Nat} {f : Nat → Int32} : tstP j f f := ⟨rst_rfl, rfl, rfl, rfl⟩
theorem passP_out {k a b s : Int32} {j : Nat} {f : Nat → Int32} (h : ¬ k = nI (j + 1)) : passP k a b s j f f := ⟨rst_rfl, rfl, rfl, rfl, (if_neg (fun q => h q.1)).symm⟩
theorem passP_no {k a b s : Int32} {j : Nat} {f : Nat → Int32} (h : ¬ fp_pas a b s (f 11) = 0) : passP k a b s j f f := ⟨rst_rfl, rfl, rfl, rfl, (if_neg (fun q => h q.2)).symm⟩
theorem nI_ne {k : Int32} {p j : Nat} (h : k = nI (p + 1)) (hp : p < 2 ^ 30) (hj : j < 2 ^ 30) (hne : ¬ j = p) : ¬ k = nI (j + 1) := fun q => hne (by have h2 := (nI_eq (a := p + 1) (b := j + 1) (by omega) (by omega)).mp (h.symm.trans q); omega)
