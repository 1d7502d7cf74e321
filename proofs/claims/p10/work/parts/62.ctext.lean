-- deps: 60 61

theorem tl_nilP {D : va_G} {cl : List vw_C} {X T : va_W} {H : Heap} (h : T = []) (hP : va_P D cl (X ++ T) H) : va_P D cl X H := by
  subst h
  rw [List.append_nil] at hP
  exact hP
theorem tl_nilD {A : Nat → Prop} {X T : va_W} (h : T = []) (hD : va_D A (X ++ T)) : va_D A X := by
  subst h
  rw [List.append_nil] at hD
  exact hD
theorem tl_cons {X T : va_W} {a : Nat × va_E} : X ++ a :: T = (X ++ [a]) ++ T := by simp
theorem snoc_perm {cy : Nat → ClassId} {ea n : Nat} {f : Nat → Option Nat} {rs : List rwT} {x : rwT} {X : va_W} : ((X ++ (acell cy ea n f :: rcell cy x)) ++ rpool cy rs).Perm (X ++ ltail cy ea n f (rs ++ [x])) := by
  have h := (foc_perm (cy := cy) (ea := ea) (n := n) (f := f) (pre := rs) (post := []) (x := x) (X := X)).symm
  rw [List.append_nil] at h
  exact h
theorem ls_first {e : Nat → Nat} {ea : Nat} {x : rwT} : lsok e ea 10 (va_up (fun _ => none) 0 (some x.1)) [x] := by
  refine ⟨fun h => by simp at h, fun _ => by decide, by simp, ?_⟩
  intro i z hz
  cases i with
  | zero =>
    have : x = z := Option.some.inj hz
    subst this
    exact va_up_self _ _ _
  | succ k => cases hz
theorem ls_push {e : Nat → Nat} {ea n : Nat} {f : Nat → Option Nat} {rs : List rwT} {x : rwT} (h : lsok e ea n f rs) (h1 : rs.length < n) (h2 : 10 ≤ n) : lsok e ea n (va_up f rs.length (some x.1)) (rs ++ [x]) := by
  refine ⟨fun h0 => by simp at h0, fun _ => h2, by rw [List.length_append]; exact h1, ?_⟩
  intro i z hz
  by_cases hi : i < rs.length
  · rw [List.getElem?_append_left hi] at hz
    rw [va_up_ne _ _ (by omega)]
    exact h.2.2.2 i z hz
  · rw [List.getElem?_append_right (by omega)] at hz
    by_cases h0 : i - rs.length = 0
    · rw [h0] at hz
      have hz' : x = z := Option.some.inj hz
      have e1 : i = rs.length := by omega
      subst hz'
      rw [e1]
      exact va_up_self _ _ _
    · obtain ⟨k, hk⟩ : ∃ k, i - rs.length = k + 1 := ⟨i - rs.length - 1, by omega⟩
      rw [hk] at hz
      cases hz
theorem ls_grow {e : Nat → Nat} {ea ea2 n : Nat} {f : Nat → Option Nat} {rs : List rwT} {x : rwT} (h : lsok e ea n f rs) (h1 : rs.length = n) (h2 : 10 ≤ n) : lsok e ea2 (n + n / 2) (va_up (va_cpy f (fun _ => none) 0 0 n) n (some x.1)) (rs ++ [x]) := by
  have h3 : lsok e ea2 (n + n / 2) (va_cpy f (fun _ => none) 0 0 n) rs := by
    refine ⟨fun h0 => by rw [h0] at h1; exact absurd h1.symm (by simp; omega), fun _ => by omega, by omega, ?_⟩
    intro i z hz
    have hi : i < n := by
      obtain ⟨hi, _⟩ := List.getElem?_eq_some_iff.mp hz
      omega
    unfold va_cpy
    rw [if_pos (by omega)]
    rw [show 0 + (i - 0) = i by omega]
    exact h.2.2.2 i z hz
  have h4 := ls_push (x := x) h3 (by omega) (by omega)
  rw [h1] at h4
  exact h4
