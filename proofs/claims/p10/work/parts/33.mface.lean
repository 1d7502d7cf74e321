set_option maxHeartbeats 4000000 in
set_option maxRecDepth 100000 in
/-- isRow -/
theorem c_M_isRow (l : Launch) (D : va_G) (cy : Nat → ClassId) (e : Nat → Nat)  (h0 : Nat) (q : Nat → Nat) (wa : Nat) (i_size : Int32) (i_words : Int32) (i_next : Int32) (i_open : Int32) (i_stood : Int32) (i_nodes : Int32) (i_half : Int32) (i_made : Int32) (i_state : Int32) (i_tested : Int32) (i_length : Int32) (rw : Nat) (i : Int32)  : Met l yX9_isRow wsX9_isRow ({ frames := 0, cells := 0, slots := 0, locals := 0 }) (va_Pc [.ref h0, .int i] (pu_B D cy e [(h0, .inr (10, [.ref (q 0), .int i_size, .ref (q 1), .ref (q 2), .int i_words, .int i_next, .int i_open, .int i_stood, .ref (q 3), .ref (q 4), .ref (q 5), .int i_nodes, .int i_half, .int i_made, .ref (q 6), .ref (q 7), .ref (q 8), .ref (q 9), .ref (q 10), .ref (q 11), .int (nI rw), .ref (q 12), .ref (q 13), .ref (q 14), .int i_state, .ref (q 15), .ref (q 16), .ref (q 17), .int i_tested, .ref (q 18), .ref wa, .int i_length]))])) (va_Qi (fun (r : Int32) (_ : Unit) => r = if i < 1 ∨ nI rw < i then 0 else 1) (fun _ _ => True) (fun _ => False)) 0 0 (fun _ => False) := by
  refine Met.ofW (cc := cX9_isRow) (maxL := 2) (ret := (some .boolean)) (by decide) rfl ?_
  intro p ev s m args below meth c s₁ B hml hv
  obtain ⟨rfl, hP, hK, hG⟩ := hv
  have hx := B.exec
  have hb := B.bytes
  have hr := B.returns
  have hts := atoms_spec (ws := wsX9_isRow) B.pre
  have hown : s.vm.findClass RX9 = some m.cls := findClass_of_methodNamed B.named
  have hlocks := B.notSynchronized
  have hS : va_S (fun _ => False) s.heap s.heap [] := va_S.rf
  have hP : va_P D vwCl [(h0, .inr (10, [.ref (q 0), .int i_size, .ref (q 1), .ref (q 2), .int i_words, .int i_next, .int i_open, .int i_stood, .ref (q 3), .ref (q 4), .ref (q 5), .int i_nodes, .int i_half, .int i_made, .ref (q 6), .ref (q 7), .ref (q 8), .ref (q 9), .ref (q 10), .ref (q 11), .int (nI rw), .ref (q 12), .ref (q 13), .ref (q 14), .int i_state, .ref (q 15), .ref (q 16), .ref (q 17), .int i_tested, .ref (q 18), .ref wa, .int i_length]))] s.heap := hP
  have iX9 : ∀ w ∈ wsX90, w ∈ wsX9_isRow := fun w h => List.mem_cons_of_mem _ (List.mem_append_right _ h)
  have hl := lv_entry ([.ref h0, .int i]) (n := 2) (Nat.le_of_ble_eq_true rfl)
  rw [lg_entry_eq]
  generalize (lg_sl ([.ref h0, .int i]) ++ List.replicate (2 - (lg_sl ([.ref h0, .int i])).length) Slot.unset).toArray = ls at hl ⊢
  have hl : lv_has ls 2 [(0, .ref h0), (1, .int i)] := hl
  refine lv_iload_n hx hb dX9_isRow_0 rfl (lv_at hl 1 rfl) ?_
  refine lv_iconst (v := 1) hx hb dX9_isRow_1 (by decide +kernel) ?_
  refine lv_icmp_lt (tgt := 17) hx hb dX9_isRow_2 (by decide) (fun c2 => ?_) (fun c2 => ?_)
  · refine lv_iconst (v := 0) hx hb dX9_isRow_17 (by decide +kernel) ?_
    exact W.zret hx hb hr rfl (fun t ht hW => ⟨⟨_, (), rfl, by simp [c2], trivial⟩, hS.F ht⟩) hS.2.2 dX9_isRow_18
  · refine lv_iload_n hx hb dX9_isRow_5 rfl (lv_at hl 1 rfl) ?_
    refine lv_aload_n hx hb dX9_isRow_6 rfl (lv_at hl 0 rfl) ?_
    refine va_get (D := D) (ci := 10) (v := .int (nI rw)) (C := RX9) (T := TX9) (N := 32) hx hb hts iX9 hown hK hP 0 rfl rfl 20 (by decide) (hts (.fieldLink RX9 149 "InterlockTablesModel" "rows" "I") (by decide +kernel)) (fun _ h9 => h9) rfl dX9_isRow_7 ?_
    refine lv_icmp_gt (tgt := 17) hx hb dX9_isRow_10 (by decide) (fun c10 => ?_) (fun c10 => ?_)
    · refine lv_iconst (v := 0) hx hb dX9_isRow_17 (by decide +kernel) ?_
      exact W.zret hx hb hr rfl (fun t ht hW => ⟨⟨_, (), rfl, by simp [c2, c10], trivial⟩, hS.F ht⟩) hS.2.2 dX9_isRow_18
    · refine lv_iconst (v := 1) hx hb dX9_isRow_13 (by decide +kernel) ?_
      refine lv_goto (tgt := 18) hx hb dX9_isRow_14 (by decide) ?_
      exact W.zret hx hb hr rfl (fun t ht hW => ⟨⟨_, (), rfl, by simp [c2, c10], trivial⟩, hS.F ht⟩) hS.2.2 dX9_isRow_18

set_option maxHeartbeats 4000000 in
set_option maxRecDepth 100000 in
/-- unit, where there is room -/
theorem c_M_unit (l : Launch) (D : va_G) (cy : Nat → ClassId) (e : Nat → Nat)  (h0 : Nat) (q : Nat → Nat) (wa : Nat) (i_words : Int32) (i_next : Int32) (i_open : Int32) (i_stood : Int32) (i_nodes : Int32) (i_half : Int32) (i_made : Int32) (i_rows : Int32) (i_state : Int32) (i_tested : Int32) (i_length : Int32) (sz0 : Nat) (T : Nat → Int32) (u0 : Int32) (sz : Nat) (hsz : sz0 < 3000) : Met l yX9_unit wsX9_unit ({ frames := 0, cells := 0, slots := 0, locals := 0 }) (va_Pc [.ref h0, .int u0] (mt_B D cy e [(h0, .inr (10, [.ref (q 0), .int (nI sz0), .ref (q 1), .ref (q 2), .int i_words, .int i_next, .int i_open, .int i_stood, .ref (q 3), .ref (q 4), .ref (q 5), .int i_nodes, .int i_half, .int i_made, .ref (q 6), .ref (q 7), .ref (q 8), .ref (q 9), .ref (q 10), .ref (q 11), .int i_rows, .ref (q 12), .ref (q 13), .ref (q 14), .int i_state, .ref (q 15), .ref (q 16), .ref (q 17), .int i_tested, .ref (q 18), .ref wa, .int i_length])), (q 0, .inl (cy 0, 3000, .inl T))] sz)) (va_Qi (fun (r : Int32) (u : Nat × (Nat → Int32)) => match u with | (sz2, T2) => ((u0 < 1 ∨ 127 < u0) ∧ r = 0 ∧ sz2 = sz0 ∧ T2 = T) ∨ (¬ (u0 < 1 ∨ 127 < u0) ∧ r = 1 ∧ sz2 = sz0 + 1 ∧ T2 = upd T sz0 (vp_nar .byte u0.toInt8.toInt32))) (mt_Q D (fun (u : Nat × (Nat → Int32)) => match u with | (sz2, T2) => [(h0, .inr (10, [.ref (q 0), .int (nI sz2), .ref (q 1), .ref (q 2), .int i_words, .int i_next, .int i_open, .int i_stood, .ref (q 3), .ref (q 4), .ref (q 5), .int i_nodes, .int i_half, .int i_made, .ref (q 6), .ref (q 7), .ref (q 8), .ref (q 9), .ref (q 10), .ref (q 11), .int i_rows, .ref (q 12), .ref (q 13), .ref (q 14), .int i_state, .ref (q 15), .ref (q 16), .ref (q 17), .int i_tested, .ref (q 18), .ref wa, .int i_length])), (q 0, .inl (cy 0, 3000, .inl T2))]) (va_A [(h0, .inr (10, [.ref (q 0), .int (nI sz0), .ref (q 1), .ref (q 2), .int i_words, .int i_next, .int i_open, .int i_stood, .ref (q 3), .ref (q 4), .ref (q 5), .int i_nodes, .int i_half, .int i_made, .ref (q 6), .ref (q 7), .ref (q 8), .ref (q 9), .ref (q 10), .ref (q 11), .int i_rows, .ref (q 12), .ref (q 13), .ref (q 14), .int i_state, .ref (q 15), .ref (q 16), .ref (q 17), .int i_tested, .ref (q 18), .ref wa, .int i_length])), (q 0, .inl (cy 0, 3000, .inl T))] sz)) (va_A [(h0, .inr (10, [.ref (q 0), .int (nI sz0), .ref (q 1), .ref (q 2), .int i_words, .int i_next, .int i_open, .int i_stood, .ref (q 3), .ref (q 4), .ref (q 5), .int i_nodes, .int i_half, .int i_made, .ref (q 6), .ref (q 7), .ref (q 8), .ref (q 9), .ref (q 10), .ref (q 11), .int i_rows, .ref (q 12), .ref (q 13), .ref (q 14), .int i_state, .ref (q 15), .ref (q 16), .ref (q 17), .int i_tested, .ref (q 18), .ref wa, .int i_length])), (q 0, .inl (cy 0, 3000, .inl T))] sz)) (0) (0) (va_A [(h0, .inr (10, [.ref (q 0), .int (nI sz0), .ref (q 1), .ref (q 2), .int i_words, .int i_next, .int i_open, .int i_stood, .ref (q 3), .ref (q 4), .ref (q 5), .int i_nodes, .int i_half, .int i_made, .ref (q 6), .ref (q 7), .ref (q 8), .ref (q 9), .ref (q 10), .ref (q 11), .int i_rows, .ref (q 12), .ref (q 13), .ref (q 14), .int i_state, .ref (q 15), .ref (q 16), .ref (q 17), .int i_tested, .ref (q 18), .ref wa, .int i_length])), (q 0, .inl (cy 0, 3000, .inl T))] sz) := by
  refine Met.ofW (cc := cX9_unit) (maxL := 2) (ret := (some .boolean)) (by decide) rfl ?_
  intro p ev s m args below meth c s₁ B hml hv
  obtain ⟨rfl, hsz, hP, hK, hD0, hG⟩ := hv
  have hx := B.exec
  have hb := B.bytes
  have hr := B.returns
  have hts := atoms_spec (ws := wsX9_unit) B.pre
  have hown : s.vm.findClass RX9 = some m.cls := findClass_of_methodNamed B.named
  have hlocks := B.notSynchronized
  subst hsz
  have hD := hD0.self (sz := s.heap.size)
  generalize hAe : va_A [(h0, .inr (10, [.ref (q 0), .int (nI sz0), .ref (q 1), .ref (q 2), .int i_words, .int i_next, .int i_open, .int i_stood, .ref (q 3), .ref (q 4), .ref (q 5), .int i_nodes, .int i_half, .int i_made, .ref (q 6), .ref (q 7), .ref (q 8), .ref (q 9), .ref (q 10), .ref (q 11), .int i_rows, .ref (q 12), .ref (q 13), .ref (q 14), .int i_state, .ref (q 15), .ref (q 16), .ref (q 17), .int i_tested, .ref (q 18), .ref wa, .int i_length])), (q 0, .inl (cy 0, 3000, .inl T))] s.heap.size = A at hD hG ⊢
  have hA : ∀ q : Nat, s.heap.size ≤ q → A q := fun q h => by rw [← hAe]; exact Or.inr h
  have hS : va_S A s.heap s.heap [] := va_S.rf
  have hP : va_P D vwCl [(h0, .inr (10, [.ref (q 0), .int (nI sz0), .ref (q 1), .ref (q 2), .int i_words, .int i_next, .int i_open, .int i_stood, .ref (q 3), .ref (q 4), .ref (q 5), .int i_nodes, .int i_half, .int i_made, .ref (q 6), .ref (q 7), .ref (q 8), .ref (q 9), .ref (q 10), .ref (q 11), .int i_rows, .ref (q 12), .ref (q 13), .ref (q 14), .int i_state, .ref (q 15), .ref (q 16), .ref (q 17), .int i_tested, .ref (q 18), .ref wa, .int i_length])), (q 0, .inl (cy 0, 3000, .inl T))] s.heap := hP
  have iX9 : ∀ w ∈ wsX90, w ∈ wsX9_unit := fun w h => List.mem_cons_of_mem _ (List.mem_append_right _ h)
  have hl := lv_entry ([.ref h0, .int u0]) (n := 2) (Nat.le_of_ble_eq_true rfl)
  rw [lg_entry_eq]
  generalize (lg_sl ([.ref h0, .int u0]) ++ List.replicate (2 - (lg_sl ([.ref h0, .int u0])).length) Slot.unset).toArray = ls at hl ⊢
  have hl : lv_has ls 2 [(0, .ref h0), (1, .int u0)] := hl
  refine lv_iload_n hx hb dX9_unit_0 rfl (lv_at hl 1 rfl) ?_
  refine lv_iconst (v := 1) hx hb dX9_unit_1 (by decide +kernel) ?_
  refine lv_icmp_lt (tgt := 21) hx hb dX9_unit_2 (by decide) (fun c2 => ?_) (fun c2 => ?_)
  · refine lv_iconst (v := 0) hx hb dX9_unit_21 (by decide +kernel) ?_
    have hP9 : va_P D vwCl [(h0, .inr (10, [.ref (q 0), .int (nI sz0), .ref (q 1), .ref (q 2), .int i_words, .int i_next, .int i_open, .int i_stood, .ref (q 3), .ref (q 4), .ref (q 5), .int i_nodes, .int i_half, .int i_made, .ref (q 6), .ref (q 7), .ref (q 8), .ref (q 9), .ref (q 10), .ref (q 11), .int i_rows, .ref (q 12), .ref (q 13), .ref (q 14), .int i_state, .ref (q 15), .ref (q 16), .ref (q 17), .int i_tested, .ref (q 18), .ref wa, .int i_length])), (q 0, .inl (cy 0, 3000, .inl T))] s.heap := hP.sub [0, 1] rfl
    have hD9 : va_D A [(h0, .inr (10, [.ref (q 0), .int (nI sz0), .ref (q 1), .ref (q 2), .int i_words, .int i_next, .int i_open, .int i_stood, .ref (q 3), .ref (q 4), .ref (q 5), .int i_nodes, .int i_half, .int i_made, .ref (q 6), .ref (q 7), .ref (q 8), .ref (q 9), .ref (q 10), .ref (q 11), .int i_rows, .ref (q 12), .ref (q 13), .ref (q 14), .int i_state, .ref (q 15), .ref (q 16), .ref (q 17), .int i_tested, .ref (q 18), .ref wa, .int i_length])), (q 0, .inl (cy 0, 3000, .inl T))] := hD.sub [0, 1] (by decide) rfl
    refine W.widen (k := 0) (n := 0) (by omega) (by omega) ?_
    exact W.zret hx hb hr rfl (fun t ht hW => ⟨⟨_, (sz0, T), rfl, Or.inl ⟨by simp [c2], rfl, rfl, rfl⟩, by rw [ht]; exact hP9, hD9⟩, hS.F ht⟩) hS.2.2 dX9_unit_22
  · refine lv_iload_n hx hb dX9_unit_5 rfl (lv_at hl 1 rfl) ?_
    refine lv_bipush (v := 127) hx hb dX9_unit_6 (by decide +kernel) ?_
    refine lv_icmp_gt (tgt := 21) hx hb dX9_unit_8 (by decide) (fun c8 => ?_) (fun c8 => ?_)
    · refine lv_iconst (v := 0) hx hb dX9_unit_21 (by decide +kernel) ?_
      have hP9 : va_P D vwCl [(h0, .inr (10, [.ref (q 0), .int (nI sz0), .ref (q 1), .ref (q 2), .int i_words, .int i_next, .int i_open, .int i_stood, .ref (q 3), .ref (q 4), .ref (q 5), .int i_nodes, .int i_half, .int i_made, .ref (q 6), .ref (q 7), .ref (q 8), .ref (q 9), .ref (q 10), .ref (q 11), .int i_rows, .ref (q 12), .ref (q 13), .ref (q 14), .int i_state, .ref (q 15), .ref (q 16), .ref (q 17), .int i_tested, .ref (q 18), .ref wa, .int i_length])), (q 0, .inl (cy 0, 3000, .inl T))] s.heap := hP.sub [0, 1] rfl
      have hD9 : va_D A [(h0, .inr (10, [.ref (q 0), .int (nI sz0), .ref (q 1), .ref (q 2), .int i_words, .int i_next, .int i_open, .int i_stood, .ref (q 3), .ref (q 4), .ref (q 5), .int i_nodes, .int i_half, .int i_made, .ref (q 6), .ref (q 7), .ref (q 8), .ref (q 9), .ref (q 10), .ref (q 11), .int i_rows, .ref (q 12), .ref (q 13), .ref (q 14), .int i_state, .ref (q 15), .ref (q 16), .ref (q 17), .int i_tested, .ref (q 18), .ref wa, .int i_length])), (q 0, .inl (cy 0, 3000, .inl T))] := hD.sub [0, 1] (by decide) rfl
      refine W.widen (k := 0) (n := 0) (by omega) (by omega) ?_
      exact W.zret hx hb hr rfl (fun t ht hW => ⟨⟨_, (sz0, T), rfl, Or.inl ⟨by simp [c2, c8], rfl, rfl, rfl⟩, by rw [ht]; exact hP9, hD9⟩, hS.F ht⟩) hS.2.2 dX9_unit_22
    · refine lv_aload_n hx hb dX9_unit_11 rfl (lv_at hl 0 rfl) ?_
      refine va_get (D := D) (ci := 10) (v := .int (nI sz0)) (C := RX9) (T := TX9) (N := 32) hx hb hts iX9 hown hK hP 0 rfl rfl 1 (by decide) (hts (.fieldLink RX9 75 "InterlockTablesModel" "size" "I") (by decide +kernel)) (fun _ h9 => h9) rfl dX9_unit_12 ?_
      refine lv_sipush (v := 3000) hx hb dX9_unit_15 (by decide +kernel) ?_
      refine lv_icmp_ne (tgt := 23) hx hb dX9_unit_18 (by decide) (fun _ => ?_) (fun c18 => absurd c18 (fun h => by (have := (nI_eq (a := sz0) (b := 3000) (by omega) (by decide)).mp h); omega))
      refine lv_aload_n hx hb dX9_unit_23 rfl (lv_at hl 0 rfl) ?_
      refine va_get (D := D) (ci := 10) (v := .ref (q 0)) (C := RX9) (T := TX9) (N := 32) hx hb hts iX9 hown hK hP 0 rfl rfl 0 (by decide) (hts (.fieldLink RX9 9 "InterlockTablesModel" "text" "[B") (by decide +kernel)) (fun _ h9 => h9) rfl dX9_unit_24 ?_
      refine lv_aload_n hx hb dX9_unit_27 rfl (lv_at hl 0 rfl) ?_
      refine va_get (D := D) (ci := 10) (v := .int (nI sz0)) (C := RX9) (T := TX9) (N := 32) hx hb hts iX9 hown hK hP 0 rfl rfl 1 (by decide) (hts (.fieldLink RX9 75 "InterlockTablesModel" "size" "I") (by decide +kernel)) (fun _ h9 => h9) rfl dX9_unit_28 ?_
      refine lv_iload_n hx hb dX9_unit_31 rfl (lv_at hl 1 rfl) ?_
      refine lv_i2b (v := u0.toInt8.toInt32) hx hb dX9_unit_32 (rfl) ?_
      refine va_bast hx hb hK hP hD hS 1 0 rfl rfl (vp_in_nI hsz (by decide)) dX9_unit_33 (fun H locs hP hD hS => ?_)
      have hP : va_P D vwCl [(h0, .inr (10, [.ref (q 0), .int (nI sz0), .ref (q 1), .ref (q 2), .int i_words, .int i_next, .int i_open, .int i_stood, .ref (q 3), .ref (q 4), .ref (q 5), .int i_nodes, .int i_half, .int i_made, .ref (q 6), .ref (q 7), .ref (q 8), .ref (q 9), .ref (q 10), .ref (q 11), .int i_rows, .ref (q 12), .ref (q 13), .ref (q 14), .int i_state, .ref (q 15), .ref (q 16), .ref (q 17), .int i_tested, .ref (q 18), .ref wa, .int i_length])), (q 0, .inl (cy 0, 3000, .inl (upd T (nI sz0).toNatClampNeg (vp_nar .byte u0.toInt8.toInt32))))] H := hP
      have hD : va_D A [(h0, .inr (10, [.ref (q 0), .int (nI sz0), .ref (q 1), .ref (q 2), .int i_words, .int i_next, .int i_open, .int i_stood, .ref (q 3), .ref (q 4), .ref (q 5), .int i_nodes, .int i_half, .int i_made, .ref (q 6), .ref (q 7), .ref (q 8), .ref (q 9), .ref (q 10), .ref (q 11), .int i_rows, .ref (q 12), .ref (q 13), .ref (q 14), .int i_state, .ref (q 15), .ref (q 16), .ref (q 17), .int i_tested, .ref (q 18), .ref wa, .int i_length])), (q 0, .inl (cy 0, 3000, .inl (upd T (nI sz0).toNatClampNeg (vp_nar .byte u0.toInt8.toInt32))))] := hD
      have ef_33 : (upd T (nI sz0).toNatClampNeg (vp_nar .byte u0.toInt8.toInt32)) = (upd T sz0 (vp_nar .byte u0.toInt8.toInt32)) := by rw [nI_clamp (by omega)]
      rw [ef_33] at hP hD
      refine lv_aload_n hx hb dX9_unit_34 rfl (lv_at hl 0 rfl) ?_
      refine lv_dup hx hb dX9_unit_35 rfl ?_
      refine va_get (D := D) (ci := 10) (v := .int (nI sz0)) (C := RX9) (T := TX9) (N := 32) hx hb hts iX9 hown hK hP 0 rfl rfl 1 (by decide) (hts (.fieldLink RX9 75 "InterlockTablesModel" "size" "I") (by decide +kernel)) (fun _ h9 => h9) rfl dX9_unit_36 ?_
      refine lv_iconst (v := 1) hx hb dX9_unit_39 (by decide +kernel) ?_
      refine lv_iadd hx hb dX9_unit_40 ?_
      refine lv_topi (fun x_1 ex_1 => ?_)
      obtain rfl : x_1 = nI (sz0 + 1) := by rw [ex_1]; exact nI_1 _
      refine va_put (D := D) (ci := 10) (v := .int (nI (sz0 + 1))) (ty := .int) (C := RX9) (T := TX9) (N := 32) hx hb hts iX9 tyX9 tyX9_ok nmX9 hown hK hP hD hS 0 rfl rfl 1 (by decide) (hts (.fieldLink RX9 75 "InterlockTablesModel" "size" "I") (by decide +kernel)) (fun _ h9 => h9) rfl (by decide +kernel) rfl rfl (Nat.le_of_ble_eq_true rfl) dX9_unit_41 (fun H locs hP hD hS => ?_)
      have hP : va_P D vwCl [(h0, .inr (10, [.ref (q 0), .int (nI (sz0 + 1)), .ref (q 1), .ref (q 2), .int i_words, .int i_next, .int i_open, .int i_stood, .ref (q 3), .ref (q 4), .ref (q 5), .int i_nodes, .int i_half, .int i_made, .ref (q 6), .ref (q 7), .ref (q 8), .ref (q 9), .ref (q 10), .ref (q 11), .int i_rows, .ref (q 12), .ref (q 13), .ref (q 14), .int i_state, .ref (q 15), .ref (q 16), .ref (q 17), .int i_tested, .ref (q 18), .ref wa, .int i_length])), (q 0, .inl (cy 0, 3000, .inl (upd T sz0 (vp_nar .byte u0.toInt8.toInt32))))] H := hP
      have hD : va_D A [(h0, .inr (10, [.ref (q 0), .int (nI (sz0 + 1)), .ref (q 1), .ref (q 2), .int i_words, .int i_next, .int i_open, .int i_stood, .ref (q 3), .ref (q 4), .ref (q 5), .int i_nodes, .int i_half, .int i_made, .ref (q 6), .ref (q 7), .ref (q 8), .ref (q 9), .ref (q 10), .ref (q 11), .int i_rows, .ref (q 12), .ref (q 13), .ref (q 14), .int i_state, .ref (q 15), .ref (q 16), .ref (q 17), .int i_tested, .ref (q 18), .ref wa, .int i_length])), (q 0, .inl (cy 0, 3000, .inl (upd T sz0 (vp_nar .byte u0.toInt8.toInt32))))] := hD
      refine lv_iconst (v := 1) hx hb dX9_unit_44 (by decide +kernel) ?_
      have hP9 : va_P D vwCl [(h0, .inr (10, [.ref (q 0), .int (nI (sz0 + 1)), .ref (q 1), .ref (q 2), .int i_words, .int i_next, .int i_open, .int i_stood, .ref (q 3), .ref (q 4), .ref (q 5), .int i_nodes, .int i_half, .int i_made, .ref (q 6), .ref (q 7), .ref (q 8), .ref (q 9), .ref (q 10), .ref (q 11), .int i_rows, .ref (q 12), .ref (q 13), .ref (q 14), .int i_state, .ref (q 15), .ref (q 16), .ref (q 17), .int i_tested, .ref (q 18), .ref wa, .int i_length])), (q 0, .inl (cy 0, 3000, .inl (upd T sz0 (vp_nar .byte u0.toInt8.toInt32))))] H := hP.sub [0, 1] rfl
      have hD9 : va_D A [(h0, .inr (10, [.ref (q 0), .int (nI (sz0 + 1)), .ref (q 1), .ref (q 2), .int i_words, .int i_next, .int i_open, .int i_stood, .ref (q 3), .ref (q 4), .ref (q 5), .int i_nodes, .int i_half, .int i_made, .ref (q 6), .ref (q 7), .ref (q 8), .ref (q 9), .ref (q 10), .ref (q 11), .int i_rows, .ref (q 12), .ref (q 13), .ref (q 14), .int i_state, .ref (q 15), .ref (q 16), .ref (q 17), .int i_tested, .ref (q 18), .ref wa, .int i_length])), (q 0, .inl (cy 0, 3000, .inl (upd T sz0 (vp_nar .byte u0.toInt8.toInt32))))] := hD.sub [0, 1] (by decide) rfl
      refine W.widen (k := 0) (n := 0) (by omega) (by omega) ?_
      exact W.zret hx hb hr rfl (fun t ht hW => ⟨⟨_, ((sz0 + 1), (upd T sz0 (vp_nar .byte u0.toInt8.toInt32))), rfl, Or.inr ⟨by simp [c2, c8], rfl, rfl, rfl⟩, by rw [ht]; exact hP9, hD9⟩, hS.F ht⟩) hS.2.2 dX9_unit_45

set_option maxHeartbeats 4000000 in
set_option maxRecDepth 100000 in
/-- condition -/
theorem c_M_condition (l : Launch) (D : va_G) (cy : Nat → ClassId) (e : Nat → Nat)  (h0 : Nat) (q : Nat → Nat) (wa : Nat) (i_size : Int32) (i_words : Int32) (i_next : Int32) (i_open : Int32) (i_stood : Int32) (i_nodes : Int32) (i_half : Int32) (i_made : Int32) (i_rows : Int32) (i_tested : Int32) (i_length : Int32) (x : Int32) (k : Int32) (on : Int32) (sz : Nat)  : Met l yX9_condition wsX9_condition ({ frames := 0, cells := 0, slots := 0, locals := 0 }) (va_Pc [.ref h0, .int k, .int on] (mt_B D cy e [(h0, .inr (10, [.ref (q 0), .int i_size, .ref (q 1), .ref (q 2), .int i_words, .int i_next, .int i_open, .int i_stood, .ref (q 3), .ref (q 4), .ref (q 5), .int i_nodes, .int i_half, .int i_made, .ref (q 6), .ref (q 7), .ref (q 8), .ref (q 9), .ref (q 10), .ref (q 11), .int i_rows, .ref (q 12), .ref (q 13), .ref (q 14), .int x, .ref (q 15), .ref (q 16), .ref (q 17), .int i_tested, .ref (q 18), .ref wa, .int i_length]))] sz)) (va_Qi (fun (r : Int32) (x2 : Int32) => md_C x k on r x2) (mt_Q D (fun x2 => [(h0, .inr (10, [.ref (q 0), .int i_size, .ref (q 1), .ref (q 2), .int i_words, .int i_next, .int i_open, .int i_stood, .ref (q 3), .ref (q 4), .ref (q 5), .int i_nodes, .int i_half, .int i_made, .ref (q 6), .ref (q 7), .ref (q 8), .ref (q 9), .ref (q 10), .ref (q 11), .int i_rows, .ref (q 12), .ref (q 13), .ref (q 14), .int x2, .ref (q 15), .ref (q 16), .ref (q 17), .int i_tested, .ref (q 18), .ref wa, .int i_length]))]) (va_A [(h0, .inr (10, [.ref (q 0), .int i_size, .ref (q 1), .ref (q 2), .int i_words, .int i_next, .int i_open, .int i_stood, .ref (q 3), .ref (q 4), .ref (q 5), .int i_nodes, .int i_half, .int i_made, .ref (q 6), .ref (q 7), .ref (q 8), .ref (q 9), .ref (q 10), .ref (q 11), .int i_rows, .ref (q 12), .ref (q 13), .ref (q 14), .int x, .ref (q 15), .ref (q 16), .ref (q 17), .int i_tested, .ref (q 18), .ref wa, .int i_length]))] sz)) (va_A [(h0, .inr (10, [.ref (q 0), .int i_size, .ref (q 1), .ref (q 2), .int i_words, .int i_next, .int i_open, .int i_stood, .ref (q 3), .ref (q 4), .ref (q 5), .int i_nodes, .int i_half, .int i_made, .ref (q 6), .ref (q 7), .ref (q 8), .ref (q 9), .ref (q 10), .ref (q 11), .int i_rows, .ref (q 12), .ref (q 13), .ref (q 14), .int x, .ref (q 15), .ref (q 16), .ref (q 17), .int i_tested, .ref (q 18), .ref wa, .int i_length]))] sz)) (0) (0) (va_A [(h0, .inr (10, [.ref (q 0), .int i_size, .ref (q 1), .ref (q 2), .int i_words, .int i_next, .int i_open, .int i_stood, .ref (q 3), .ref (q 4), .ref (q 5), .int i_nodes, .int i_half, .int i_made, .ref (q 6), .ref (q 7), .ref (q 8), .ref (q 9), .ref (q 10), .ref (q 11), .int i_rows, .ref (q 12), .ref (q 13), .ref (q 14), .int x, .ref (q 15), .ref (q 16), .ref (q 17), .int i_tested, .ref (q 18), .ref wa, .int i_length]))] sz) := by
  refine Met.ofW (cc := cX9_condition) (maxL := 3) (ret := (some .boolean)) (by decide) rfl ?_
  intro p ev s m args below meth c s₁ B hml hv
  obtain ⟨rfl, hsz, hP, hK, hD0, hG⟩ := hv
  have hx := B.exec
  have hb := B.bytes
  have hr := B.returns
  have hts := atoms_spec (ws := wsX9_condition) B.pre
  have hown : s.vm.findClass RX9 = some m.cls := findClass_of_methodNamed B.named
  have hlocks := B.notSynchronized
  subst hsz
  have hD := hD0.self (sz := s.heap.size)
  generalize hAe : va_A [(h0, .inr (10, [.ref (q 0), .int i_size, .ref (q 1), .ref (q 2), .int i_words, .int i_next, .int i_open, .int i_stood, .ref (q 3), .ref (q 4), .ref (q 5), .int i_nodes, .int i_half, .int i_made, .ref (q 6), .ref (q 7), .ref (q 8), .ref (q 9), .ref (q 10), .ref (q 11), .int i_rows, .ref (q 12), .ref (q 13), .ref (q 14), .int x, .ref (q 15), .ref (q 16), .ref (q 17), .int i_tested, .ref (q 18), .ref wa, .int i_length]))] s.heap.size = A at hD hG ⊢
  have hA : ∀ q : Nat, s.heap.size ≤ q → A q := fun q h => by rw [← hAe]; exact Or.inr h
  have hS : va_S A s.heap s.heap [] := va_S.rf
  have hP : va_P D vwCl [(h0, .inr (10, [.ref (q 0), .int i_size, .ref (q 1), .ref (q 2), .int i_words, .int i_next, .int i_open, .int i_stood, .ref (q 3), .ref (q 4), .ref (q 5), .int i_nodes, .int i_half, .int i_made, .ref (q 6), .ref (q 7), .ref (q 8), .ref (q 9), .ref (q 10), .ref (q 11), .int i_rows, .ref (q 12), .ref (q 13), .ref (q 14), .int x, .ref (q 15), .ref (q 16), .ref (q 17), .int i_tested, .ref (q 18), .ref wa, .int i_length]))] s.heap := hP
  have iX9 : ∀ w ∈ wsX90, w ∈ wsX9_condition := fun w h => List.mem_cons_of_mem _ (List.mem_append_right _ h)
  have hl := lv_entry ([.ref h0, .int k, .int on]) (n := 3) (Nat.le_of_ble_eq_true rfl)
  rw [lg_entry_eq]
  generalize (lg_sl ([.ref h0, .int k, .int on]) ++ List.replicate (3 - (lg_sl ([.ref h0, .int k, .int on])).length) Slot.unset).toArray = ls at hl ⊢
  have hl : lv_has ls 3 [(0, .ref h0), (1, .int k), (2, .int on)] := hl
  refine lv_iload_n hx hb dX9_condition_0 rfl (lv_at hl 1 rfl) ?_
  refine lv_if_lt (tgt := 31) hx hb dX9_condition_1 (by decide) (fun c1 => ?_) (fun c1 => ?_)
  · refine lv_iconst (v := 0) hx hb dX9_condition_31 (by decide +kernel) ?_
    have hP9 : va_P D vwCl [(h0, .inr (10, [.ref (q 0), .int i_size, .ref (q 1), .ref (q 2), .int i_words, .int i_next, .int i_open, .int i_stood, .ref (q 3), .ref (q 4), .ref (q 5), .int i_nodes, .int i_half, .int i_made, .ref (q 6), .ref (q 7), .ref (q 8), .ref (q 9), .ref (q 10), .ref (q 11), .int i_rows, .ref (q 12), .ref (q 13), .ref (q 14), .int x, .ref (q 15), .ref (q 16), .ref (q 17), .int i_tested, .ref (q 18), .ref wa, .int i_length]))] s.heap := hP.sub [0] rfl
    have hD9 : va_D A [(h0, .inr (10, [.ref (q 0), .int i_size, .ref (q 1), .ref (q 2), .int i_words, .int i_next, .int i_open, .int i_stood, .ref (q 3), .ref (q 4), .ref (q 5), .int i_nodes, .int i_half, .int i_made, .ref (q 6), .ref (q 7), .ref (q 8), .ref (q 9), .ref (q 10), .ref (q 11), .int i_rows, .ref (q 12), .ref (q 13), .ref (q 14), .int x, .ref (q 15), .ref (q 16), .ref (q 17), .int i_tested, .ref (q 18), .ref wa, .int i_length]))] := hD.sub [0] (by decide) rfl
    refine W.widen (k := 0) (n := 0) (by omega) (by omega) ?_
    exact W.zret hx hb hr rfl (fun t ht hW => ⟨⟨_, x, rfl, Or.inl ⟨Or.inl c1, rfl, rfl⟩, by rw [ht]; exact hP9, hD9⟩, hS.F ht⟩) hS.2.2 dX9_condition_32
  · refine lv_iload_n hx hb dX9_condition_4 rfl (lv_at hl 1 rfl) ?_
    refine lv_bipush (v := 15) hx hb dX9_condition_5 (by decide +kernel) ?_
    refine lv_icmp_gt (tgt := 31) hx hb dX9_condition_7 (by decide) (fun c7 => ?_) (fun c7 => ?_)
    · refine lv_iconst (v := 0) hx hb dX9_condition_31 (by decide +kernel) ?_
      have hP9 : va_P D vwCl [(h0, .inr (10, [.ref (q 0), .int i_size, .ref (q 1), .ref (q 2), .int i_words, .int i_next, .int i_open, .int i_stood, .ref (q 3), .ref (q 4), .ref (q 5), .int i_nodes, .int i_half, .int i_made, .ref (q 6), .ref (q 7), .ref (q 8), .ref (q 9), .ref (q 10), .ref (q 11), .int i_rows, .ref (q 12), .ref (q 13), .ref (q 14), .int x, .ref (q 15), .ref (q 16), .ref (q 17), .int i_tested, .ref (q 18), .ref wa, .int i_length]))] s.heap := hP.sub [0] rfl
      have hD9 : va_D A [(h0, .inr (10, [.ref (q 0), .int i_size, .ref (q 1), .ref (q 2), .int i_words, .int i_next, .int i_open, .int i_stood, .ref (q 3), .ref (q 4), .ref (q 5), .int i_nodes, .int i_half, .int i_made, .ref (q 6), .ref (q 7), .ref (q 8), .ref (q 9), .ref (q 10), .ref (q 11), .int i_rows, .ref (q 12), .ref (q 13), .ref (q 14), .int x, .ref (q 15), .ref (q 16), .ref (q 17), .int i_tested, .ref (q 18), .ref wa, .int i_length]))] := hD.sub [0] (by decide) rfl
      refine W.widen (k := 0) (n := 0) (by omega) (by omega) ?_
      exact W.zret hx hb hr rfl (fun t ht hW => ⟨⟨_, x, rfl, Or.inl ⟨Or.inr c7, rfl, rfl⟩, by rw [ht]; exact hP9, hD9⟩, hS.F ht⟩) hS.2.2 dX9_condition_32
    · refine lv_aload_n hx hb dX9_condition_10 rfl (lv_at hl 0 rfl) ?_
      refine va_get (D := D) (ci := 10) (v := .int x) (C := RX9) (T := TX9) (N := 32) hx hb hts iX9 hown hK hP 0 rfl rfl 24 (by decide) (hts (.fieldLink RX9 156 "InterlockTablesModel" "state" "I") (by decide +kernel)) (fun _ h9 => h9) rfl dX9_condition_11 ?_
      refine lv_iload_n hx hb dX9_condition_14 rfl (lv_at hl 1 rfl) ?_
      refine lv_ishr hx hb dX9_condition_15 ?_
      refine lv_iconst (v := 1) hx hb dX9_condition_16 (by decide +kernel) ?_
      refine lv_iand hx hb dX9_condition_17 ?_
      refine lv_iconst (v := 1) hx hb dX9_condition_18 (by decide +kernel) ?_
      refine lv_icmp_ne (tgt := 26) hx hb dX9_condition_19 (by decide) (fun c19 => ?_) (fun c19 => ?_)
      · refine lv_iconst (v := 0) hx hb dX9_condition_26 (by decide +kernel) ?_
        refine lv_iload_n hx hb dX9_condition_27 rfl (lv_at hl 2 rfl) ?_
        refine lv_icmp_ne (tgt := 33) hx hb dX9_condition_28 (by decide) (fun c28 => ?_) (fun c28 => ?_)
        · refine lv_aload_n hx hb dX9_condition_33 rfl (lv_at hl 0 rfl) ?_
          refine lv_dup hx hb dX9_condition_34 rfl ?_
          refine va_get (D := D) (ci := 10) (v := .int x) (C := RX9) (T := TX9) (N := 32) hx hb hts iX9 hown hK hP 0 rfl rfl 24 (by decide) (hts (.fieldLink RX9 156 "InterlockTablesModel" "state" "I") (by decide +kernel)) (fun _ h9 => h9) rfl dX9_condition_35 ?_
          refine lv_iconst (v := 1) hx hb dX9_condition_38 (by decide +kernel) ?_
          refine lv_iload_n hx hb dX9_condition_39 rfl (lv_at hl 1 rfl) ?_
          refine lv_ishl hx hb dX9_condition_40 ?_
          refine lv_ixor hx hb dX9_condition_41 ?_
          refine va_put (D := D) (ci := 10) (v := .int (x ^^^ ((1 : Int32) <<< (k &&& 31)))) (ty := .int) (C := RX9) (T := TX9) (N := 32) hx hb hts iX9 tyX9 tyX9_ok nmX9 hown hK hP hD hS 0 rfl rfl 24 (by decide) (hts (.fieldLink RX9 156 "InterlockTablesModel" "state" "I") (by decide +kernel)) (fun _ h9 => h9) rfl (by decide +kernel) rfl rfl (Nat.le_of_ble_eq_true rfl) dX9_condition_42 (fun H locs hP hD hS => ?_)
          have hP : va_P D vwCl [(h0, .inr (10, [.ref (q 0), .int i_size, .ref (q 1), .ref (q 2), .int i_words, .int i_next, .int i_open, .int i_stood, .ref (q 3), .ref (q 4), .ref (q 5), .int i_nodes, .int i_half, .int i_made, .ref (q 6), .ref (q 7), .ref (q 8), .ref (q 9), .ref (q 10), .ref (q 11), .int i_rows, .ref (q 12), .ref (q 13), .ref (q 14), .int (x ^^^ ((1 : Int32) <<< (k &&& 31))), .ref (q 15), .ref (q 16), .ref (q 17), .int i_tested, .ref (q 18), .ref wa, .int i_length]))] H := hP
          have hD : va_D A [(h0, .inr (10, [.ref (q 0), .int i_size, .ref (q 1), .ref (q 2), .int i_words, .int i_next, .int i_open, .int i_stood, .ref (q 3), .ref (q 4), .ref (q 5), .int i_nodes, .int i_half, .int i_made, .ref (q 6), .ref (q 7), .ref (q 8), .ref (q 9), .ref (q 10), .ref (q 11), .int i_rows, .ref (q 12), .ref (q 13), .ref (q 14), .int (x ^^^ ((1 : Int32) <<< (k &&& 31))), .ref (q 15), .ref (q 16), .ref (q 17), .int i_tested, .ref (q 18), .ref wa, .int i_length]))] := hD
          refine lv_iconst (v := 1) hx hb dX9_condition_45 (by decide +kernel) ?_
          have hP9 : va_P D vwCl [(h0, .inr (10, [.ref (q 0), .int i_size, .ref (q 1), .ref (q 2), .int i_words, .int i_next, .int i_open, .int i_stood, .ref (q 3), .ref (q 4), .ref (q 5), .int i_nodes, .int i_half, .int i_made, .ref (q 6), .ref (q 7), .ref (q 8), .ref (q 9), .ref (q 10), .ref (q 11), .int i_rows, .ref (q 12), .ref (q 13), .ref (q 14), .int (x ^^^ ((1 : Int32) <<< (k &&& 31))), .ref (q 15), .ref (q 16), .ref (q 17), .int i_tested, .ref (q 18), .ref wa, .int i_length]))] H := hP.sub [0] rfl
          have hD9 : va_D A [(h0, .inr (10, [.ref (q 0), .int i_size, .ref (q 1), .ref (q 2), .int i_words, .int i_next, .int i_open, .int i_stood, .ref (q 3), .ref (q 4), .ref (q 5), .int i_nodes, .int i_half, .int i_made, .ref (q 6), .ref (q 7), .ref (q 8), .ref (q 9), .ref (q 10), .ref (q 11), .int i_rows, .ref (q 12), .ref (q 13), .ref (q 14), .int (x ^^^ ((1 : Int32) <<< (k &&& 31))), .ref (q 15), .ref (q 16), .ref (q 17), .int i_tested, .ref (q 18), .ref wa, .int i_length]))] := hD.sub [0] (by decide) rfl
          refine W.widen (k := 0) (n := 0) (by omega) (by omega) ?_
          exact W.zret hx hb hr rfl (fun t ht hW => ⟨⟨_, (x ^^^ ((1 : Int32) <<< (k &&& 31))), rfl, Or.inr (Or.inr ⟨c1, c7, Or.inr ⟨c19, fun h => c28 h.symm⟩, rfl, rfl⟩), by rw [ht]; exact hP9, hD9⟩, hS.F ht⟩) hS.2.2 dX9_condition_46
        · refine lv_iconst (v := 0) hx hb dX9_condition_31 (by decide +kernel) ?_
          have hP9 : va_P D vwCl [(h0, .inr (10, [.ref (q 0), .int i_size, .ref (q 1), .ref (q 2), .int i_words, .int i_next, .int i_open, .int i_stood, .ref (q 3), .ref (q 4), .ref (q 5), .int i_nodes, .int i_half, .int i_made, .ref (q 6), .ref (q 7), .ref (q 8), .ref (q 9), .ref (q 10), .ref (q 11), .int i_rows, .ref (q 12), .ref (q 13), .ref (q 14), .int x, .ref (q 15), .ref (q 16), .ref (q 17), .int i_tested, .ref (q 18), .ref wa, .int i_length]))] s.heap := hP.sub [0] rfl
          have hD9 : va_D A [(h0, .inr (10, [.ref (q 0), .int i_size, .ref (q 1), .ref (q 2), .int i_words, .int i_next, .int i_open, .int i_stood, .ref (q 3), .ref (q 4), .ref (q 5), .int i_nodes, .int i_half, .int i_made, .ref (q 6), .ref (q 7), .ref (q 8), .ref (q 9), .ref (q 10), .ref (q 11), .int i_rows, .ref (q 12), .ref (q 13), .ref (q 14), .int x, .ref (q 15), .ref (q 16), .ref (q 17), .int i_tested, .ref (q 18), .ref wa, .int i_length]))] := hD.sub [0] (by decide) rfl
          refine W.widen (k := 0) (n := 0) (by omega) (by omega) ?_
          exact W.zret hx hb hr rfl (fun t ht hW => ⟨⟨_, x, rfl, Or.inr (Or.inl ⟨c1, c7, Or.inr ⟨c19, c28.symm⟩, rfl, rfl⟩), by rw [ht]; exact hP9, hD9⟩, hS.F ht⟩) hS.2.2 dX9_condition_32
      · refine lv_iconst (v := 1) hx hb dX9_condition_22 (by decide +kernel) ?_
        refine lv_goto (tgt := 27) hx hb dX9_condition_23 (by decide) ?_
        refine lv_iload_n hx hb dX9_condition_27 rfl (lv_at hl 2 rfl) ?_
        refine lv_icmp_ne (tgt := 33) hx hb dX9_condition_28 (by decide) (fun c28 => ?_) (fun c28 => ?_)
        · refine lv_aload_n hx hb dX9_condition_33 rfl (lv_at hl 0 rfl) ?_
          refine lv_dup hx hb dX9_condition_34 rfl ?_
          refine va_get (D := D) (ci := 10) (v := .int x) (C := RX9) (T := TX9) (N := 32) hx hb hts iX9 hown hK hP 0 rfl rfl 24 (by decide) (hts (.fieldLink RX9 156 "InterlockTablesModel" "state" "I") (by decide +kernel)) (fun _ h9 => h9) rfl dX9_condition_35 ?_
          refine lv_iconst (v := 1) hx hb dX9_condition_38 (by decide +kernel) ?_
          refine lv_iload_n hx hb dX9_condition_39 rfl (lv_at hl 1 rfl) ?_
          refine lv_ishl hx hb dX9_condition_40 ?_
          refine lv_ixor hx hb dX9_condition_41 ?_
          refine va_put (D := D) (ci := 10) (v := .int (x ^^^ ((1 : Int32) <<< (k &&& 31)))) (ty := .int) (C := RX9) (T := TX9) (N := 32) hx hb hts iX9 tyX9 tyX9_ok nmX9 hown hK hP hD hS 0 rfl rfl 24 (by decide) (hts (.fieldLink RX9 156 "InterlockTablesModel" "state" "I") (by decide +kernel)) (fun _ h9 => h9) rfl (by decide +kernel) rfl rfl (Nat.le_of_ble_eq_true rfl) dX9_condition_42 (fun H locs hP hD hS => ?_)
          have hP : va_P D vwCl [(h0, .inr (10, [.ref (q 0), .int i_size, .ref (q 1), .ref (q 2), .int i_words, .int i_next, .int i_open, .int i_stood, .ref (q 3), .ref (q 4), .ref (q 5), .int i_nodes, .int i_half, .int i_made, .ref (q 6), .ref (q 7), .ref (q 8), .ref (q 9), .ref (q 10), .ref (q 11), .int i_rows, .ref (q 12), .ref (q 13), .ref (q 14), .int (x ^^^ ((1 : Int32) <<< (k &&& 31))), .ref (q 15), .ref (q 16), .ref (q 17), .int i_tested, .ref (q 18), .ref wa, .int i_length]))] H := hP
          have hD : va_D A [(h0, .inr (10, [.ref (q 0), .int i_size, .ref (q 1), .ref (q 2), .int i_words, .int i_next, .int i_open, .int i_stood, .ref (q 3), .ref (q 4), .ref (q 5), .int i_nodes, .int i_half, .int i_made, .ref (q 6), .ref (q 7), .ref (q 8), .ref (q 9), .ref (q 10), .ref (q 11), .int i_rows, .ref (q 12), .ref (q 13), .ref (q 14), .int (x ^^^ ((1 : Int32) <<< (k &&& 31))), .ref (q 15), .ref (q 16), .ref (q 17), .int i_tested, .ref (q 18), .ref wa, .int i_length]))] := hD
          refine lv_iconst (v := 1) hx hb dX9_condition_45 (by decide +kernel) ?_
          have hP9 : va_P D vwCl [(h0, .inr (10, [.ref (q 0), .int i_size, .ref (q 1), .ref (q 2), .int i_words, .int i_next, .int i_open, .int i_stood, .ref (q 3), .ref (q 4), .ref (q 5), .int i_nodes, .int i_half, .int i_made, .ref (q 6), .ref (q 7), .ref (q 8), .ref (q 9), .ref (q 10), .ref (q 11), .int i_rows, .ref (q 12), .ref (q 13), .ref (q 14), .int (x ^^^ ((1 : Int32) <<< (k &&& 31))), .ref (q 15), .ref (q 16), .ref (q 17), .int i_tested, .ref (q 18), .ref wa, .int i_length]))] H := hP.sub [0] rfl
          have hD9 : va_D A [(h0, .inr (10, [.ref (q 0), .int i_size, .ref (q 1), .ref (q 2), .int i_words, .int i_next, .int i_open, .int i_stood, .ref (q 3), .ref (q 4), .ref (q 5), .int i_nodes, .int i_half, .int i_made, .ref (q 6), .ref (q 7), .ref (q 8), .ref (q 9), .ref (q 10), .ref (q 11), .int i_rows, .ref (q 12), .ref (q 13), .ref (q 14), .int (x ^^^ ((1 : Int32) <<< (k &&& 31))), .ref (q 15), .ref (q 16), .ref (q 17), .int i_tested, .ref (q 18), .ref wa, .int i_length]))] := hD.sub [0] (by decide) rfl
          refine W.widen (k := 0) (n := 0) (by omega) (by omega) ?_
          exact W.zret hx hb hr rfl (fun t ht hW => ⟨⟨_, (x ^^^ ((1 : Int32) <<< (k &&& 31))), rfl, Or.inr (Or.inr ⟨c1, c7, Or.inl ⟨c19, fun h => c28 h.symm⟩, rfl, rfl⟩), by rw [ht]; exact hP9, hD9⟩, hS.F ht⟩) hS.2.2 dX9_condition_46
        · refine lv_iconst (v := 0) hx hb dX9_condition_31 (by decide +kernel) ?_
          have hP9 : va_P D vwCl [(h0, .inr (10, [.ref (q 0), .int i_size, .ref (q 1), .ref (q 2), .int i_words, .int i_next, .int i_open, .int i_stood, .ref (q 3), .ref (q 4), .ref (q 5), .int i_nodes, .int i_half, .int i_made, .ref (q 6), .ref (q 7), .ref (q 8), .ref (q 9), .ref (q 10), .ref (q 11), .int i_rows, .ref (q 12), .ref (q 13), .ref (q 14), .int x, .ref (q 15), .ref (q 16), .ref (q 17), .int i_tested, .ref (q 18), .ref wa, .int i_length]))] s.heap := hP.sub [0] rfl
          have hD9 : va_D A [(h0, .inr (10, [.ref (q 0), .int i_size, .ref (q 1), .ref (q 2), .int i_words, .int i_next, .int i_open, .int i_stood, .ref (q 3), .ref (q 4), .ref (q 5), .int i_nodes, .int i_half, .int i_made, .ref (q 6), .ref (q 7), .ref (q 8), .ref (q 9), .ref (q 10), .ref (q 11), .int i_rows, .ref (q 12), .ref (q 13), .ref (q 14), .int x, .ref (q 15), .ref (q 16), .ref (q 17), .int i_tested, .ref (q 18), .ref wa, .int i_length]))] := hD.sub [0] (by decide) rfl
          refine W.widen (k := 0) (n := 0) (by omega) (by omega) ?_
          exact W.zret hx hb hr rfl (fun t ht hW => ⟨⟨_, x, rfl, Or.inr (Or.inl ⟨c1, c7, Or.inl ⟨c19, c28.symm⟩, rfl, rfl⟩), by rw [ht]; exact hP9, hD9⟩, hS.F ht⟩) hS.2.2 dX9_condition_32

set_option maxHeartbeats 4000000 in
set_option maxRecDepth 100000 in
/-- clear -/
theorem c_M_clear (l : Launch) (D : va_G) (cy : Nat → ClassId) (e : Nat → Nat)  (h0 : Nat) (q : Nat → Nat) (wa : Nat) (i_size : Int32) (i_words : Int32) (i_next : Int32) (i_open : Int32) (i_stood : Int32) (i_nodes : Int32) (i_half : Int32) (i_made : Int32) (i_rows : Int32) (i_state : Int32) (i_tested : Int32) (i_length : Int32) (sz : Nat)  : Met l yX9_clear wsX9_clear ({ frames := 0, cells := 0, slots := 0, locals := 0 }) (va_Pc [.ref h0] (mt_B D cy e [(h0, .inr (10, [.ref (q 0), .int i_size, .ref (q 1), .ref (q 2), .int i_words, .int i_next, .int i_open, .int i_stood, .ref (q 3), .ref (q 4), .ref (q 5), .int i_nodes, .int i_half, .int i_made, .ref (q 6), .ref (q 7), .ref (q 8), .ref (q 9), .ref (q 10), .ref (q 11), .int i_rows, .ref (q 12), .ref (q 13), .ref (q 14), .int i_state, .ref (q 15), .ref (q 16), .ref (q 17), .int i_tested, .ref (q 18), .ref wa, .int i_length]))] sz)) (va_Qv (fun (_ : Unit) => True) (mt_Q D (fun (_ : Unit) => [(h0, .inr (10, [.ref (q 0), .int (nI 0), .ref (q 1), .ref (q 2), .int i_words, .int i_next, .int i_open, .int i_stood, .ref (q 3), .ref (q 4), .ref (q 5), .int i_nodes, .int i_half, .int i_made, .ref (q 6), .ref (q 7), .ref (q 8), .ref (q 9), .ref (q 10), .ref (q 11), .int (nI 0), .ref (q 12), .ref (q 13), .ref (q 14), .int i_state, .ref (q 15), .ref (q 16), .ref (q 17), .int 0, .ref (q 18), .ref wa, .int i_length]))]) (va_A [(h0, .inr (10, [.ref (q 0), .int i_size, .ref (q 1), .ref (q 2), .int i_words, .int i_next, .int i_open, .int i_stood, .ref (q 3), .ref (q 4), .ref (q 5), .int i_nodes, .int i_half, .int i_made, .ref (q 6), .ref (q 7), .ref (q 8), .ref (q 9), .ref (q 10), .ref (q 11), .int i_rows, .ref (q 12), .ref (q 13), .ref (q 14), .int i_state, .ref (q 15), .ref (q 16), .ref (q 17), .int i_tested, .ref (q 18), .ref wa, .int i_length]))] sz)) (va_A [(h0, .inr (10, [.ref (q 0), .int i_size, .ref (q 1), .ref (q 2), .int i_words, .int i_next, .int i_open, .int i_stood, .ref (q 3), .ref (q 4), .ref (q 5), .int i_nodes, .int i_half, .int i_made, .ref (q 6), .ref (q 7), .ref (q 8), .ref (q 9), .ref (q 10), .ref (q 11), .int i_rows, .ref (q 12), .ref (q 13), .ref (q 14), .int i_state, .ref (q 15), .ref (q 16), .ref (q 17), .int i_tested, .ref (q 18), .ref wa, .int i_length]))] sz)) (0) (0) (va_A [(h0, .inr (10, [.ref (q 0), .int i_size, .ref (q 1), .ref (q 2), .int i_words, .int i_next, .int i_open, .int i_stood, .ref (q 3), .ref (q 4), .ref (q 5), .int i_nodes, .int i_half, .int i_made, .ref (q 6), .ref (q 7), .ref (q 8), .ref (q 9), .ref (q 10), .ref (q 11), .int i_rows, .ref (q 12), .ref (q 13), .ref (q 14), .int i_state, .ref (q 15), .ref (q 16), .ref (q 17), .int i_tested, .ref (q 18), .ref wa, .int i_length]))] sz) := by
  refine Met.ofW (cc := cX9_clear) (maxL := 1) (ret := none) (by decide) rfl ?_
  intro p ev s m args below meth c s₁ B hml hv
  obtain ⟨rfl, hsz, hP, hK, hD0, hG⟩ := hv
  have hx := B.exec
  have hb := B.bytes
  have hr := B.returns
  have hts := atoms_spec (ws := wsX9_clear) B.pre
  have hown : s.vm.findClass RX9 = some m.cls := findClass_of_methodNamed B.named
  have hlocks := B.notSynchronized
  subst hsz
  have hD := hD0.self (sz := s.heap.size)
  generalize hAe : va_A [(h0, .inr (10, [.ref (q 0), .int i_size, .ref (q 1), .ref (q 2), .int i_words, .int i_next, .int i_open, .int i_stood, .ref (q 3), .ref (q 4), .ref (q 5), .int i_nodes, .int i_half, .int i_made, .ref (q 6), .ref (q 7), .ref (q 8), .ref (q 9), .ref (q 10), .ref (q 11), .int i_rows, .ref (q 12), .ref (q 13), .ref (q 14), .int i_state, .ref (q 15), .ref (q 16), .ref (q 17), .int i_tested, .ref (q 18), .ref wa, .int i_length]))] s.heap.size = A at hD hG ⊢
  have hA : ∀ q : Nat, s.heap.size ≤ q → A q := fun q h => by rw [← hAe]; exact Or.inr h
  have hS : va_S A s.heap s.heap [] := va_S.rf
  have hP : va_P D vwCl [(h0, .inr (10, [.ref (q 0), .int i_size, .ref (q 1), .ref (q 2), .int i_words, .int i_next, .int i_open, .int i_stood, .ref (q 3), .ref (q 4), .ref (q 5), .int i_nodes, .int i_half, .int i_made, .ref (q 6), .ref (q 7), .ref (q 8), .ref (q 9), .ref (q 10), .ref (q 11), .int i_rows, .ref (q 12), .ref (q 13), .ref (q 14), .int i_state, .ref (q 15), .ref (q 16), .ref (q 17), .int i_tested, .ref (q 18), .ref wa, .int i_length]))] s.heap := hP
  have iX9 : ∀ w ∈ wsX90, w ∈ wsX9_clear := fun w h => List.mem_cons_of_mem _ (List.mem_append_right _ h)
  have hl := lv_entry ([.ref h0]) (n := 1) (Nat.le_of_ble_eq_true rfl)
  rw [lg_entry_eq]
  generalize (lg_sl ([.ref h0]) ++ List.replicate (1 - (lg_sl ([.ref h0])).length) Slot.unset).toArray = ls at hl ⊢
  have hl : lv_has ls 1 [(0, .ref h0)] := hl
  refine lv_aload_n hx hb dX9_clear_0 rfl (lv_at hl 0 rfl) ?_
  refine lv_iconst (v := 0) hx hb dX9_clear_1 (by decide +kernel) ?_
  refine lv_topi (fun x_1 ex_1 => ?_)
  obtain rfl : x_1 = nI 0 := by rw [ex_1]; exact nI_0.symm
  refine va_put (D := D) (ci := 10) (v := .int (nI 0)) (ty := .int) (C := RX9) (T := TX9) (N := 32) hx hb hts iX9 tyX9 tyX9_ok nmX9 hown hK hP hD hS 0 rfl rfl 20 (by decide) (hts (.fieldLink RX9 149 "InterlockTablesModel" "rows" "I") (by decide +kernel)) (fun _ h9 => h9) rfl (by decide +kernel) rfl rfl (Nat.le_of_ble_eq_true rfl) dX9_clear_2 (fun H locs hP hD hS => ?_)
  have hP : va_P D vwCl [(h0, .inr (10, [.ref (q 0), .int i_size, .ref (q 1), .ref (q 2), .int i_words, .int i_next, .int i_open, .int i_stood, .ref (q 3), .ref (q 4), .ref (q 5), .int i_nodes, .int i_half, .int i_made, .ref (q 6), .ref (q 7), .ref (q 8), .ref (q 9), .ref (q 10), .ref (q 11), .int (nI 0), .ref (q 12), .ref (q 13), .ref (q 14), .int i_state, .ref (q 15), .ref (q 16), .ref (q 17), .int i_tested, .ref (q 18), .ref wa, .int i_length]))] H := hP
  have hD : va_D A [(h0, .inr (10, [.ref (q 0), .int i_size, .ref (q 1), .ref (q 2), .int i_words, .int i_next, .int i_open, .int i_stood, .ref (q 3), .ref (q 4), .ref (q 5), .int i_nodes, .int i_half, .int i_made, .ref (q 6), .ref (q 7), .ref (q 8), .ref (q 9), .ref (q 10), .ref (q 11), .int (nI 0), .ref (q 12), .ref (q 13), .ref (q 14), .int i_state, .ref (q 15), .ref (q 16), .ref (q 17), .int i_tested, .ref (q 18), .ref wa, .int i_length]))] := hD
  refine lv_aload_n hx hb dX9_clear_5 rfl (lv_at hl 0 rfl) ?_
  refine lv_iconst (v := 0) hx hb dX9_clear_6 (by decide +kernel) ?_
  refine lv_topi (fun x_2 ex_2 => ?_)
  obtain rfl : x_2 = nI 0 := by rw [ex_2]; exact nI_0.symm
  refine va_put (D := D) (ci := 10) (v := .int (nI 0)) (ty := .int) (C := RX9) (T := TX9) (N := 32) hx hb hts iX9 tyX9 tyX9_ok nmX9 hown hK hP hD hS 0 rfl rfl 1 (by decide) (hts (.fieldLink RX9 75 "InterlockTablesModel" "size" "I") (by decide +kernel)) (fun _ h9 => h9) rfl (by decide +kernel) rfl rfl (Nat.le_of_ble_eq_true rfl) dX9_clear_7 (fun H locs hP hD hS => ?_)
  have hP : va_P D vwCl [(h0, .inr (10, [.ref (q 0), .int (nI 0), .ref (q 1), .ref (q 2), .int i_words, .int i_next, .int i_open, .int i_stood, .ref (q 3), .ref (q 4), .ref (q 5), .int i_nodes, .int i_half, .int i_made, .ref (q 6), .ref (q 7), .ref (q 8), .ref (q 9), .ref (q 10), .ref (q 11), .int (nI 0), .ref (q 12), .ref (q 13), .ref (q 14), .int i_state, .ref (q 15), .ref (q 16), .ref (q 17), .int i_tested, .ref (q 18), .ref wa, .int i_length]))] H := hP
  have hD : va_D A [(h0, .inr (10, [.ref (q 0), .int (nI 0), .ref (q 1), .ref (q 2), .int i_words, .int i_next, .int i_open, .int i_stood, .ref (q 3), .ref (q 4), .ref (q 5), .int i_nodes, .int i_half, .int i_made, .ref (q 6), .ref (q 7), .ref (q 8), .ref (q 9), .ref (q 10), .ref (q 11), .int (nI 0), .ref (q 12), .ref (q 13), .ref (q 14), .int i_state, .ref (q 15), .ref (q 16), .ref (q 17), .int i_tested, .ref (q 18), .ref wa, .int i_length]))] := hD
  refine lv_aload_n hx hb dX9_clear_10 rfl (lv_at hl 0 rfl) ?_
  refine lv_iconst (v := 0) hx hb dX9_clear_11 (by decide +kernel) ?_
  refine va_put (D := D) (ci := 10) (v := .int 0) (ty := .boolean) (C := RX9) (T := TX9) (N := 32) hx hb hts iX9 tyX9 tyX9_ok nmX9 hown hK hP hD hS 0 rfl rfl 28 (by decide) (hts (.fieldLink RX9 152 "InterlockTablesModel" "tested" "Z") (by decide +kernel)) (fun _ h9 => h9) rfl (by decide +kernel) rfl rfl (Nat.le_of_ble_eq_true rfl) dX9_clear_12 (fun H locs hP hD hS => ?_)
  have hP : va_P D vwCl [(h0, .inr (10, [.ref (q 0), .int (nI 0), .ref (q 1), .ref (q 2), .int i_words, .int i_next, .int i_open, .int i_stood, .ref (q 3), .ref (q 4), .ref (q 5), .int i_nodes, .int i_half, .int i_made, .ref (q 6), .ref (q 7), .ref (q 8), .ref (q 9), .ref (q 10), .ref (q 11), .int (nI 0), .ref (q 12), .ref (q 13), .ref (q 14), .int i_state, .ref (q 15), .ref (q 16), .ref (q 17), .int 0, .ref (q 18), .ref wa, .int i_length]))] H := hP
  have hD : va_D A [(h0, .inr (10, [.ref (q 0), .int (nI 0), .ref (q 1), .ref (q 2), .int i_words, .int i_next, .int i_open, .int i_stood, .ref (q 3), .ref (q 4), .ref (q 5), .int i_nodes, .int i_half, .int i_made, .ref (q 6), .ref (q 7), .ref (q 8), .ref (q 9), .ref (q 10), .ref (q 11), .int (nI 0), .ref (q 12), .ref (q 13), .ref (q 14), .int i_state, .ref (q 15), .ref (q 16), .ref (q 17), .int 0, .ref (q 18), .ref wa, .int i_length]))] := hD
  have hP9 : va_P D vwCl [(h0, .inr (10, [.ref (q 0), .int (nI 0), .ref (q 1), .ref (q 2), .int i_words, .int i_next, .int i_open, .int i_stood, .ref (q 3), .ref (q 4), .ref (q 5), .int i_nodes, .int i_half, .int i_made, .ref (q 6), .ref (q 7), .ref (q 8), .ref (q 9), .ref (q 10), .ref (q 11), .int (nI 0), .ref (q 12), .ref (q 13), .ref (q 14), .int i_state, .ref (q 15), .ref (q 16), .ref (q 17), .int 0, .ref (q 18), .ref wa, .int i_length]))] H := hP.sub [0] rfl
  have hD9 : va_D A [(h0, .inr (10, [.ref (q 0), .int (nI 0), .ref (q 1), .ref (q 2), .int i_words, .int i_next, .int i_open, .int i_stood, .ref (q 3), .ref (q 4), .ref (q 5), .int i_nodes, .int i_half, .int i_made, .ref (q 6), .ref (q 7), .ref (q 8), .ref (q 9), .ref (q 10), .ref (q 11), .int (nI 0), .ref (q 12), .ref (q 13), .ref (q 14), .int i_state, .ref (q 15), .ref (q 16), .ref (q 17), .int 0, .ref (q 18), .ref wa, .int i_length]))] := hD.sub [0] (by decide) rfl
  refine W.widen (k := 0) (n := 0) (by omega) (by omega) ?_
  exact W.vret hx hb hr (fun t ht hW => ⟨⟨(), rfl, trivial, by rw [ht]; exact hP9, hD9⟩, hS.F ht⟩) hS.2.2 dX9_clear_15

set_option maxHeartbeats 4000000 in
set_option maxRecDepth 100000 in
/-- hasAct -/
theorem c_M_hasAct (l : Launch) (D : va_G) (cy : Nat → ClassId) (e : Nat → Nat)  (h0 : Nat) (q : Nat → Nat) (wa : Nat) (i_size : Int32) (i_words : Int32) (i_next : Int32) (i_open : Int32) (i_stood : Int32) (i_nodes : Int32) (i_made : Int32) (i_rows : Int32) (i_state : Int32) (i_tested : Int32) (i_length : Int32) (h : Nat) (cn0 : Nat → Int32) (ac0 : Nat → Int32) (k : Nat) (a : Nat) (w : Int32) (hh : h ≤ 1) (hk : k < 40) (hcn : cn0 (40 * h + k) = nI a) (ha : a ≤ 8) : Met l yX9_hasAct wsX9_hasAct ({ frames := 0, cells := 0, slots := 0, locals := 0 }) (va_Pc [.ref h0, .int (nI k), .int w] (pu_B D cy e [(h0, .inr (10, [.ref (q 0), .int i_size, .ref (q 1), .ref (q 2), .int i_words, .int i_next, .int i_open, .int i_stood, .ref (q 3), .ref (q 4), .ref (q 5), .int i_nodes, .int (nI h), .int i_made, .ref (q 6), .ref (q 7), .ref (q 8), .ref (q 9), .ref (q 10), .ref (q 11), .int i_rows, .ref (q 12), .ref (q 13), .ref (q 14), .int i_state, .ref (q 15), .ref (q 16), .ref (q 17), .int i_tested, .ref (q 18), .ref wa, .int i_length])), (q 7, .inl (cy 1, 80, .inl cn0)), (q 8, .inl (cy 1, 640, .inl ac0))])) (va_Qi (fun (r : Int32) (_ : Unit) => (r = 1 ∧ ra_has cn0 ac0 (40 * h + k) w) ∨ (r = 0 ∧ ¬ ra_has cn0 ac0 (40 * h + k) w)) (fun _ _ => True) (fun _ => False)) 0 0 (fun _ => False) := by
  refine Met.ofW (cc := cX9_hasAct) (maxL := 6) (ret := (some .boolean)) (by decide) rfl ?_
  intro p ev s m args below meth c s₁ B hml hv
  obtain ⟨rfl, hP, hK, hG⟩ := hv
  have hx := B.exec
  have hb := B.bytes
  have hr := B.returns
  have hts := atoms_spec (ws := wsX9_hasAct) B.pre
  have hown : s.vm.findClass RX9 = some m.cls := findClass_of_methodNamed B.named
  have hlocks := B.notSynchronized
  have hS : va_S (fun _ => False) s.heap s.heap [] := va_S.rf
  have hP : va_P D vwCl [(h0, .inr (10, [.ref (q 0), .int i_size, .ref (q 1), .ref (q 2), .int i_words, .int i_next, .int i_open, .int i_stood, .ref (q 3), .ref (q 4), .ref (q 5), .int i_nodes, .int (nI h), .int i_made, .ref (q 6), .ref (q 7), .ref (q 8), .ref (q 9), .ref (q 10), .ref (q 11), .int i_rows, .ref (q 12), .ref (q 13), .ref (q 14), .int i_state, .ref (q 15), .ref (q 16), .ref (q 17), .int i_tested, .ref (q 18), .ref wa, .int i_length])), (q 7, .inl (cy 1, 80, .inl cn0)), (q 8, .inl (cy 1, 640, .inl ac0))] s.heap := hP
  have iX9 : ∀ w ∈ wsX90, w ∈ wsX9_hasAct := fun w h => List.mem_cons_of_mem _ (List.mem_append_right _ h)
  have hl := lv_entry ([.ref h0, .int (nI k), .int w]) (n := 6) (Nat.le_of_ble_eq_true rfl)
  rw [lg_entry_eq]
  generalize (lg_sl ([.ref h0, .int (nI k), .int w]) ++ List.replicate (6 - (lg_sl ([.ref h0, .int (nI k), .int w])).length) Slot.unset).toArray = ls at hl ⊢
  have hl : lv_has ls 6 [(0, .ref h0), (1, .int (nI k)), (2, .int w)] := hl
  refine lv_bipush (v := 40) hx hb dX9_hasAct_0 (by decide +kernel) ?_
  refine lv_aload_n hx hb dX9_hasAct_2 rfl (lv_at hl 0 rfl) ?_
  refine va_get (D := D) (ci := 10) (v := .int (nI h)) (C := RX9) (T := TX9) (N := 32) hx hb hts iX9 hown hK hP 0 rfl rfl 12 (by decide) (hts (.fieldLink RX9 101 "InterlockTablesModel" "half" "I") (by decide +kernel)) (fun _ h9 => h9) rfl dX9_hasAct_3 ?_
  refine lv_imul hx hb dX9_hasAct_6 ?_
  refine lv_topi (fun x_1 ex_1 => ?_)
  obtain rfl : x_1 = nI (40 * h) := by rw [ex_1]; exact pk_mul 40 h
  refine lv_iload_n hx hb dX9_hasAct_7 rfl (lv_at hl 1 rfl) ?_
  refine lv_iadd hx hb dX9_hasAct_8 ?_
  refine lv_topi (fun x_2 ex_2 => ?_)
  obtain rfl : x_2 = nI (40 * h + k) := by rw [ex_2]; exact nI_add _ _
  refine lv_istore_n (lv' := [(3, .int (nI (40 * h + k))), (0, .ref h0), (1, .int (nI k)), (2, .int w)]) hx hb dX9_hasAct_9 rfl hl (by decide) rfl (fun ls hl => ?_)
  refine lv_iconst (v := 0) hx hb dX9_hasAct_10 (by decide +kernel) ?_
  refine lv_istore (lv' := [(4, .int 0), (3, .int (nI (40 * h + k))), (0, .ref h0), (1, .int (nI k)), (2, .int w)]) hx hb dX9_hasAct_11 hl (by decide) rfl (fun ls hl => ?_)
  refine lv_iconst (v := 0) hx hb dX9_hasAct_13 (by decide +kernel) ?_
  refine lv_topi (fun x_3 ex_3 => ?_)
  obtain rfl : x_3 = nI 0 := by rw [ex_3]; exact nI_0.symm
  refine lv_istore (lv' := [(5, .int (nI 0)), (4, .int 0), (3, .int (nI (40 * h + k))), (0, .ref h0), (1, .int (nI k)), (2, .int w)]) hx hb dX9_hasAct_14 hl (by decide) rfl (fun ls hl => ?_)
  refine lp_W (σ := Nat × Int32) (Wf := fun H locs ls => W p l ev _ s m _ below meth c H locs (0) (0) _ (F0 m 16 ls [])) (fun zz9 H locs ls => match zz9 with | (j, hb_) => va_P D vwCl [(h0, .inr (10, [.ref (q 0), .int i_size, .ref (q 1), .ref (q 2), .int i_words, .int i_next, .int i_open, .int i_stood, .ref (q 3), .ref (q 4), .ref (q 5), .int i_nodes, .int (nI h), .int i_made, .ref (q 6), .ref (q 7), .ref (q 8), .ref (q 9), .ref (q 10), .ref (q 11), .int i_rows, .ref (q 12), .ref (q 13), .ref (q 14), .int i_state, .ref (q 15), .ref (q 16), .ref (q 17), .int i_tested, .ref (q 18), .ref wa, .int i_length])), (q 7, .inl (cy 1, 80, .inl cn0)), (q 8, .inl (cy 1, 640, .inl ac0))] H ∧ va_S (fun _ => False) s.heap H locs ∧ lv_has ls 6 [(5, .int (nI j)), (4, .int hb_), (3, .int (nI (40 * h + k))), (0, .ref h0), (1, .int (nI k)), (2, .int w)] ∧ (j ≤ a ∧ ((hb_ = 1 ∧ ra_has cn0 ac0 (40 * h + k) w) ∨ (hb_ = 0 ∧ ∀ t, t < j → ¬ ac0 (8 * (40 * h + k) + t) = w)))) (fun zz9 => match zz9 with | (j, hb_) => a - j) ?_ (0, 0) _ _ ls ⟨hP, hS, lv_sub hl [0, 1, 2, 3, 4, 5] rfl, ⟨Nat.zero_le _, Or.inr ⟨rfl, fun t ht => absurd ht (Nat.not_lt_zero _)⟩⟩⟩
  intro zz9 H locs ls hI ih
  obtain ⟨j, hb_⟩ := zz9
  obtain ⟨hP, hS, hl, hI⟩ := hI
  have ih16 := ih
  have hI16 := hI
  have hP : va_P D vwCl [(h0, .inr (10, [.ref (q 0), .int i_size, .ref (q 1), .ref (q 2), .int i_words, .int i_next, .int i_open, .int i_stood, .ref (q 3), .ref (q 4), .ref (q 5), .int i_nodes, .int (nI h), .int i_made, .ref (q 6), .ref (q 7), .ref (q 8), .ref (q 9), .ref (q 10), .ref (q 11), .int i_rows, .ref (q 12), .ref (q 13), .ref (q 14), .int i_state, .ref (q 15), .ref (q 16), .ref (q 17), .int i_tested, .ref (q 18), .ref wa, .int i_length])), (q 7, .inl (cy 1, 80, .inl cn0)), (q 8, .inl (cy 1, 640, .inl ac0))] H := hP
  have hl : lv_has ls 6 [(5, .int (nI j)), (4, .int hb_), (3, .int (nI (40 * h + k))), (0, .ref h0), (1, .int (nI k)), (2, .int w)] := hl
  have hac : (cn0 (40 * h + k)).toNatClampNeg = a := by rw [hcn]; exact nI_clamp (by omega)
  obtain ⟨hJ1, hJ2⟩ := hI
  refine lv_iload hx hb dX9_hasAct_16 (lv_at hl 0 rfl) ?_
  refine lv_aload_n hx hb dX9_hasAct_18 rfl (lv_at hl 3 rfl) ?_
  refine va_get (D := D) (ci := 10) (v := .ref (q 7)) (C := RX9) (T := TX9) (N := 32) hx hb hts iX9 hown hK hP 0 rfl rfl 15 (by decide) (hts (.fieldLink RX9 32 "InterlockTablesModel" "actCounts" "[I") (by decide +kernel)) (fun _ h9 => h9) rfl dX9_hasAct_19 ?_
  refine lv_iload_n hx hb dX9_hasAct_22 rfl (lv_at hl 2 rfl) ?_
  refine va_iald hx hb hK hP 1 1 rfl rfl (vp_in_nI (by omega) (by omega)) dX9_hasAct_23 ?_
  refine lv_topi (fun x_4 ex_4 => ?_)
  obtain rfl : x_4 = nI a := by rw [ex_4]; rw [nI_clamp (by omega)]; exact hcn
  refine lv_icmp_ge (tgt := 61) hx hb dX9_hasAct_24 (by decide) (fun c24 => ?_) (fun c24 => ?_)
  · have hjg : a ≤ j := (nI_leI (by omega) (by omega)).mp c24
    refine lv_iload hx hb dX9_hasAct_61 (lv_at hl 1 rfl) ?_
    exact W.zret hx hb hr (z01_nar (hJ2.elim (fun q9 => Or.inr q9.1) (fun q9 => Or.inl q9.1))) (fun t ht hW => ⟨⟨_, (), rfl, (hJ2.elim (fun q9 => Or.inl q9) (fun q9 => Or.inr ⟨q9.1, fun ⟨t9, h9, e9⟩ => q9.2 t9 (by rw [hac] at h9; omega) e9⟩)), trivial⟩, hS.F ht⟩) hS.2.2 dX9_hasAct_63
  · have hja : j < a := pk_nle (by omega) c24
    refine lv_iload hx hb dX9_hasAct_27 (lv_at hl 1 rfl) ?_
    refine lv_if_ne (tgt := 48) hx hb dX9_hasAct_29 (by decide) (fun c29 => ?_) (fun c29 => ?_)
    · refine lv_iconst (v := 1) hx hb dX9_hasAct_48 (by decide +kernel) ?_
      refine lv_goto (tgt := 53) hx hb dX9_hasAct_49 (by decide) ?_
      refine lv_istore (lv' := [(4, .int 1), (5, .int (nI j)), (3, .int (nI (40 * h + k))), (0, .ref h0), (1, .int (nI k)), (2, .int w)]) hx hb dX9_hasAct_53 hl (by decide) rfl (fun ls hl => ?_)
      refine lv_iinc (v := nI (j + 1)) (lv' := [(5, .int (nI (j + 1))), (4, .int 1), (3, .int (nI (40 * h + k))), (0, .ref h0), (1, .int (nI k)), (2, .int w)]) hx hb dX9_hasAct_55 hl (k := 1) rfl (nI_1 j) (by decide) rfl (fun ls hl => ?_)
      refine lv_goto (tgt := 16) hx hb dX9_hasAct_58 (by decide) ?_
      exact ih16 ((j + 1), 1) _ _ ls ⟨hP.sub [0, 1, 2] rfl, hS, lv_sub hl [0, 1, 2, 3, 4, 5] rfl, ⟨by omega, Or.inl ⟨rfl, ra_yes hJ2 c29⟩⟩⟩ (by (try dsimp only); omega)
    · refine lv_aload_n hx hb dX9_hasAct_32 rfl (lv_at hl 3 rfl) ?_
      refine va_get (D := D) (ci := 10) (v := .ref (q 8)) (C := RX9) (T := TX9) (N := 32) hx hb hts iX9 hown hK hP 0 rfl rfl 16 (by decide) (hts (.fieldLink RX9 35 "InterlockTablesModel" "acts" "[I") (by decide +kernel)) (fun _ h9 => h9) rfl dX9_hasAct_33 ?_
      refine lv_bipush (v := 8) hx hb dX9_hasAct_36 (by decide +kernel) ?_
      refine lv_iload_n hx hb dX9_hasAct_38 rfl (lv_at hl 2 rfl) ?_
      refine lv_imul hx hb dX9_hasAct_39 ?_
      refine lv_topi (fun x_5 ex_5 => ?_)
      obtain rfl : x_5 = nI (8 * (40 * h + k)) := by rw [ex_5]; exact pk_mul 8 _
      refine lv_iload hx hb dX9_hasAct_40 (lv_at hl 0 rfl) ?_
      refine lv_iadd hx hb dX9_hasAct_42 ?_
      refine lv_topi (fun x_6 ex_6 => ?_)
      obtain rfl : x_6 = nI (8 * (40 * h + k) + j) := by rw [ex_6]; exact nI_add _ _
      refine va_iald hx hb hK hP 2 1 rfl rfl (vp_in_nI (by omega) (by omega)) dX9_hasAct_43 ?_
      refine lv_topi (fun x_7 ex_7 => ?_)
      obtain rfl : x_7 = ac0 (8 * (40 * h + k) + j) := by rw [ex_7]; rw [nI_clamp (by omega)]
      refine lv_iload_n hx hb dX9_hasAct_44 rfl (lv_at hl 5 rfl) ?_
      refine lv_icmp_ne (tgt := 52) hx hb dX9_hasAct_45 (by decide) (fun c45 => ?_) (fun c45 => ?_)
      · refine lv_iconst (v := 0) hx hb dX9_hasAct_52 (by decide +kernel) ?_
        refine lv_istore (lv' := [(4, .int 0), (5, .int (nI j)), (3, .int (nI (40 * h + k))), (0, .ref h0), (1, .int (nI k)), (2, .int w)]) hx hb dX9_hasAct_53 hl (by decide) rfl (fun ls hl => ?_)
        refine lv_iinc (v := nI (j + 1)) (lv' := [(5, .int (nI (j + 1))), (4, .int 0), (3, .int (nI (40 * h + k))), (0, .ref h0), (1, .int (nI k)), (2, .int w)]) hx hb dX9_hasAct_55 hl (k := 1) rfl (nI_1 j) (by decide) rfl (fun ls hl => ?_)
        refine lv_goto (tgt := 16) hx hb dX9_hasAct_58 (by decide) ?_
        exact ih16 ((j + 1), 0) _ _ ls ⟨hP.sub [0, 1, 2] rfl, hS, lv_sub hl [0, 1, 2, 3, 4, 5] rfl, ⟨by omega, Or.inr ⟨rfl, ra_no hJ2 c29 c45⟩⟩⟩ (by (try dsimp only); omega)
      · refine lv_iconst (v := 1) hx hb dX9_hasAct_48 (by decide +kernel) ?_
        refine lv_goto (tgt := 53) hx hb dX9_hasAct_49 (by decide) ?_
        refine lv_istore (lv' := [(4, .int 1), (5, .int (nI j)), (3, .int (nI (40 * h + k))), (0, .ref h0), (1, .int (nI k)), (2, .int w)]) hx hb dX9_hasAct_53 hl (by decide) rfl (fun ls hl => ?_)
        refine lv_iinc (v := nI (j + 1)) (lv' := [(5, .int (nI (j + 1))), (4, .int 1), (3, .int (nI (40 * h + k))), (0, .ref h0), (1, .int (nI k)), (2, .int w)]) hx hb dX9_hasAct_55 hl (k := 1) rfl (nI_1 j) (by decide) rfl (fun ls hl => ?_)
        refine lv_goto (tgt := 16) hx hb dX9_hasAct_58 (by decide) ?_
        exact ih16 ((j + 1), 1) _ _ ls ⟨hP.sub [0, 1, 2] rfl, hS, lv_sub hl [0, 1, 2, 3, 4, 5] rfl, ⟨by omega, Or.inl ⟨rfl, ⟨j, by rw [hac]; exact hja, c45⟩⟩⟩⟩ (by (try dsimp only); omega)
