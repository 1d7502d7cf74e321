-- deps:

section CExt
variable {p : Program} {l : Launch} {ev : Env} {R : Room} {s : State} {m : MethodId} {args : Array Value} {below : List Frame} {meth : Method} {c : Code} {H : Heap} {locs : List Loc} {cells slots : Nat} {Q : State → Prop} {D : va_G} {cy : Nat → ClassId} {e : Nat → Nat} {A : Nat → Prop} {ws wc wr : va_W} {pc : Nat} {ls : Array Slot} {st0 rest : List Value} {a : Array Value} {mc ms : Nat} {cc : ByteArray}
theorem pu_preVs {b : Nat} {C : String} {As : List Value} (hP : va_P D vwCl ws H) (hK : va_K D vwCl (TY cy) s) (hS : va_S A s.heap H locs) (hG : gl_G e A s s.heap) (isC : List Nat) (hC : isC.map (fun i => ws[i]?) = wc.map some) (hO : va_O C b A s s.heap) : PreV s H C b (va_Pc (.ref b :: As) (pu_B D cy e wc)) As := by
  refine ⟨pu_blind, ?_, fun U hU hW => ⟨rfl, pu_at hP hK hS hG isC hC U hU hW⟩⟩
  obtain ⟨cell, h1, h2, h3, _⟩ := hO.kept hS.2.1
  exact ⟨cell, h1, h2, h3⟩

end CExt
theorem gl_X.ld {e : Nat → Nat} {A : Nat → Prop} {U : State} {H : Heap} (h : gl_X e A U H) (k : Nat) {a t : String} {i j : Nat} (hk : strL[k]? = some (a, i, t, j)) : vk_R a i t (e (10 + j)) U := by
  have h2 := h.2.1 (a, i, t, j) (List.mem_of_getElem? hk)
  exact h2
theorem zq_ex {C n d : String} {A : Nat → Prop} {U : State} {H : Heap} (h : va_Zq C n d A U H) : ∃ q : Option Nat, va_Z C n d (va_rf q) A U H := by
  rcases h with h | ⟨t, h⟩
  · exact ⟨none, h⟩
  · exact ⟨some t, h⟩
theorem pk_succ {i e : Int32} (h : i < e) : (i + 1).toInt = i.toInt + 1 := by
  rw [pk_ti] at h
  have h1 := Int32.toInt_lt e
  have h2 := Int32.le_toInt i
  have e1 : (1 : Int32).toInt = 1 := by decide
  rw [Int32.toInt_add, e1]
  apply Int.bmod_eq_of_le <;> omega
theorem qk_mu {i e : Int32} (h : i < e) : (e.toInt - (i + 1).toInt).toNat < (e.toInt - i.toInt).toNat := by
  have h2 := pk_succ h
  rw [pk_ti] at h
  omega
theorem fitB (z : Int32) : fits .byte (.int (vp_nar .byte z.toInt8.toInt32)) = true := by
  rw [pk_vb]
  exact pk_fb z
theorem sh0 (x : Int32) : x >>> ((0 : Int32) &&& 31) = x := by
  have h : (0 : Int32) &&& 31 = 0 := by decide
  rw [h]
  exact Int32.shiftRight_zero
theorem qk_nge {a b : Nat} (hb : b < 2 ^ 31) (h : ¬ nI a < nI b) : b ≤ a := by
  apply Nat.le_of_not_lt
  intro h2
  exact h (nI_lt h2 (by omega))
theorem qk_lt {a b : Nat} (ha : a < 2 ^ 31) (hb : b < 2 ^ 31) (h : nI a < nI b) : a < b := (nI_ltI ha hb).mp h
