set_option maxHeartbeats 4000000 in
set_option maxRecDepth 100000 in
theorem c_M_unit0 (l : Launch) (D : va_G) (cy : Nat → ClassId) (e : Nat → Nat) (h0 : Nat) (q : Nat → Nat) (u0 : Int32) (sz : Nat)  : Met l yX9_unit wsX9_unit ({ frames := 0, cells := 0, slots := 0, locals := 0 }) (va_Pc [.ref h0, .int u0] (mt_B D cy e [(h0, .inr (10, [.ref (q 0), .int (nI 0), .ref (q 1), .ref (q 2), .int (nI 0), .int (nI 0), .int 0, .int 0, .ref (q 3), .ref (q 4), .ref (q 5), .int (nI 0), .int (nI 0), .int (nI 0), .ref (q 6), .ref (q 7), .ref (q 8), .ref (q 9), .ref (q 10), .ref (q 11), .int (nI 0), .ref (q 12), .ref (q 13), .ref (q 14), .int 0, .ref (q 15), .ref (q 16), .ref (q 17), .int 0, .ref (q 18), .ref (q 19), .int 0])), (q 0, .inl (cy 0, 3000, .inl (fun _ => 0)))] sz)) (va_Qi (fun (r : Int32) (_ : Unit) => r = if u0 < 1 ∨ 127 < u0 then 0 else 1) (mt_Q D (fun (_ : Unit) => []) (va_A [(h0, .inr (10, [.ref (q 0), .int (nI 0), .ref (q 1), .ref (q 2), .int (nI 0), .int (nI 0), .int 0, .int 0, .ref (q 3), .ref (q 4), .ref (q 5), .int (nI 0), .int (nI 0), .int (nI 0), .ref (q 6), .ref (q 7), .ref (q 8), .ref (q 9), .ref (q 10), .ref (q 11), .int (nI 0), .ref (q 12), .ref (q 13), .ref (q 14), .int 0, .ref (q 15), .ref (q 16), .ref (q 17), .int 0, .ref (q 18), .ref (q 19), .int 0])), (q 0, .inl (cy 0, 3000, .inl (fun _ => 0)))] sz)) (va_A [(h0, .inr (10, [.ref (q 0), .int (nI 0), .ref (q 1), .ref (q 2), .int (nI 0), .int (nI 0), .int 0, .int 0, .ref (q 3), .ref (q 4), .ref (q 5), .int (nI 0), .int (nI 0), .int (nI 0), .ref (q 6), .ref (q 7), .ref (q 8), .ref (q 9), .ref (q 10), .ref (q 11), .int (nI 0), .ref (q 12), .ref (q 13), .ref (q 14), .int 0, .ref (q 15), .ref (q 16), .ref (q 17), .int 0, .ref (q 18), .ref (q 19), .int 0])), (q 0, .inl (cy 0, 3000, .inl (fun _ => 0)))] sz)) (0) (0) (va_A [(h0, .inr (10, [.ref (q 0), .int (nI 0), .ref (q 1), .ref (q 2), .int (nI 0), .int (nI 0), .int 0, .int 0, .ref (q 3), .ref (q 4), .ref (q 5), .int (nI 0), .int (nI 0), .int (nI 0), .ref (q 6), .ref (q 7), .ref (q 8), .ref (q 9), .ref (q 10), .ref (q 11), .int (nI 0), .ref (q 12), .ref (q 13), .ref (q 14), .int 0, .ref (q 15), .ref (q 16), .ref (q 17), .int 0, .ref (q 18), .ref (q 19), .int 0])), (q 0, .inl (cy 0, 3000, .inl (fun _ => 0)))] sz) := by
  refine Met.ofW (cc := cX9_unit) (maxL := 2) (ret := (some .boolean)) (by decide) rfl ?_
  intro p ev s m args below meth c s₁ B hml hv
  obtain ⟨rfl, hsz, hP, hK, hD0, hG⟩ := hv
  have hx := B.exec
  have hb := B.bytes
  have hr := B.returns
  have hts := atoms_spec (ws := wsX9_unit) B.pre
  have hown : s.vm.findClass RX9 = some m.cls := findClass_of_methodNamed B.named
  have hlocks := B.notSynchronized
  subst hsz
  have hD := hD0.self (sz := s.heap.size)
  generalize hAe : va_A [(h0, .inr (10, [.ref (q 0), .int (nI 0), .ref (q 1), .ref (q 2), .int (nI 0), .int (nI 0), .int 0, .int 0, .ref (q 3), .ref (q 4), .ref (q 5), .int (nI 0), .int (nI 0), .int (nI 0), .ref (q 6), .ref (q 7), .ref (q 8), .ref (q 9), .ref (q 10), .ref (q 11), .int (nI 0), .ref (q 12), .ref (q 13), .ref (q 14), .int 0, .ref (q 15), .ref (q 16), .ref (q 17), .int 0, .ref (q 18), .ref (q 19), .int 0])), (q 0, .inl (cy 0, 3000, .inl (fun _ => 0)))] s.heap.size = A at hD hG ⊢
  have hA : ∀ q : Nat, s.heap.size ≤ q → A q := fun q h => by rw [← hAe]; exact Or.inr h
  have hS : va_S A s.heap s.heap [] := va_S.rf
  have hP : va_P D vwCl [(h0, .inr (10, [.ref (q 0), .int (nI 0), .ref (q 1), .ref (q 2), .int (nI 0), .int (nI 0), .int 0, .int 0, .ref (q 3), .ref (q 4), .ref (q 5), .int (nI 0), .int (nI 0), .int (nI 0), .ref (q 6), .ref (q 7), .ref (q 8), .ref (q 9), .ref (q 10), .ref (q 11), .int (nI 0), .ref (q 12), .ref (q 13), .ref (q 14), .int 0, .ref (q 15), .ref (q 16), .ref (q 17), .int 0, .ref (q 18), .ref (q 19), .int 0])), (q 0, .inl (cy 0, 3000, .inl (fun _ => 0)))] s.heap := hP
  have iX9 : ∀ w ∈ wsX90, w ∈ wsX9_unit := fun w h => List.mem_cons_of_mem _ (List.mem_append_right _ h)
  have hl := lv_entry ([.ref h0, .int u0]) (n := 2) (Nat.le_of_ble_eq_true rfl)
  rw [lg_entry_eq]
  generalize (lg_sl ([.ref h0, .int u0]) ++ List.replicate (2 - (lg_sl ([.ref h0, .int u0])).length) Slot.unset).toArray = ls at hl ⊢
  have hl : lv_has ls 2 [(0, .ref h0), (1, .int u0)] := hl
  refine lv_iload_n hx hb dX9_unit_0 rfl (lv_at hl 1 rfl) ?_
  refine lv_iconst (v := 1) hx hb dX9_unit_1 (by decide +kernel) ?_
  refine lv_icmp_lt (tgt := 21) hx hb dX9_unit_2 (by decide) (fun c2 => ?_) (fun c2 => ?_)
  · refine lv_iconst (v := 0) hx hb dX9_unit_21 (by decide +kernel) ?_
    have hP9 : va_P D vwCl [] s.heap := hP.sub [] rfl
    have hD9 : va_D A [] := hD.sub [] (by decide) rfl
    refine W.widen (k := 0) (n := 0) (by omega) (by omega) ?_
    exact W.zret hx hb hr rfl (fun t ht hW => ⟨⟨_, (), rfl, by simp [c2], by rw [ht]; exact hP9, hD9⟩, hS.F ht⟩) hS.2.2 dX9_unit_22
  · refine lv_iload_n hx hb dX9_unit_5 rfl (lv_at hl 1 rfl) ?_
    refine lv_bipush (v := 127) hx hb dX9_unit_6 (by decide +kernel) ?_
    refine lv_icmp_gt (tgt := 21) hx hb dX9_unit_8 (by decide) (fun c8 => ?_) (fun c8 => ?_)
    · refine lv_iconst (v := 0) hx hb dX9_unit_21 (by decide +kernel) ?_
      have hP9 : va_P D vwCl [] s.heap := hP.sub [] rfl
      have hD9 : va_D A [] := hD.sub [] (by decide) rfl
      refine W.widen (k := 0) (n := 0) (by omega) (by omega) ?_
      exact W.zret hx hb hr rfl (fun t ht hW => ⟨⟨_, (), rfl, by simp [c2, c8], by rw [ht]; exact hP9, hD9⟩, hS.F ht⟩) hS.2.2 dX9_unit_22
    · refine lv_aload_n hx hb dX9_unit_11 rfl (lv_at hl 0 rfl) ?_
      refine va_get (D := D) (ci := 10) (v := .int (nI 0)) (C := RX9) (T := TX9) (N := 32) hx hb hts iX9 hown hK hP 0 rfl rfl 1 (by decide) (hts (.fieldLink RX9 75 "InterlockTablesModel" "size" "I") (by decide +kernel)) (fun _ h9 => h9) rfl dX9_unit_12 ?_
      refine lv_sipush (v := 3000) hx hb dX9_unit_15 (by decide +kernel) ?_
      refine lv_icmp_ne (tgt := 23) hx hb dX9_unit_18 (by decide) (fun _ => ?_) (fun c18 => absurd c18 (by decide))
      refine lv_aload_n hx hb dX9_unit_23 rfl (lv_at hl 0 rfl) ?_
      refine va_get (D := D) (ci := 10) (v := .ref (q 0)) (C := RX9) (T := TX9) (N := 32) hx hb hts iX9 hown hK hP 0 rfl rfl 0 (by decide) (hts (.fieldLink RX9 9 "InterlockTablesModel" "text" "[B") (by decide +kernel)) (fun _ h9 => h9) rfl dX9_unit_24 ?_
      refine lv_aload_n hx hb dX9_unit_27 rfl (lv_at hl 0 rfl) ?_
      refine va_get (D := D) (ci := 10) (v := .int (nI 0)) (C := RX9) (T := TX9) (N := 32) hx hb hts iX9 hown hK hP 0 rfl rfl 1 (by decide) (hts (.fieldLink RX9 75 "InterlockTablesModel" "size" "I") (by decide +kernel)) (fun _ h9 => h9) rfl dX9_unit_28 ?_
      refine lv_iload_n hx hb dX9_unit_31 rfl (lv_at hl 1 rfl) ?_
      refine lv_i2b (v := u0.toInt8.toInt32) hx hb dX9_unit_32 (rfl) ?_
      refine va_bast hx hb hK hP hD hS 1 0 rfl rfl (by unfold vp_in; decide) dX9_unit_33 (fun H locs hP hD hS => ?_)
      have hP : va_P D vwCl [(h0, .inr (10, [.ref (q 0), .int (nI 0), .ref (q 1), .ref (q 2), .int (nI 0), .int (nI 0), .int 0, .int 0, .ref (q 3), .ref (q 4), .ref (q 5), .int (nI 0), .int (nI 0), .int (nI 0), .ref (q 6), .ref (q 7), .ref (q 8), .ref (q 9), .ref (q 10), .ref (q 11), .int (nI 0), .ref (q 12), .ref (q 13), .ref (q 14), .int 0, .ref (q 15), .ref (q 16), .ref (q 17), .int 0, .ref (q 18), .ref (q 19), .int 0])), (q 0, .inl (cy 0, 3000, .inl (upd (fun _ => 0) (nI 0).toNatClampNeg (vp_nar .byte u0.toInt8.toInt32))))] H := hP
      have hD : va_D A [(h0, .inr (10, [.ref (q 0), .int (nI 0), .ref (q 1), .ref (q 2), .int (nI 0), .int (nI 0), .int 0, .int 0, .ref (q 3), .ref (q 4), .ref (q 5), .int (nI 0), .int (nI 0), .int (nI 0), .ref (q 6), .ref (q 7), .ref (q 8), .ref (q 9), .ref (q 10), .ref (q 11), .int (nI 0), .ref (q 12), .ref (q 13), .ref (q 14), .int 0, .ref (q 15), .ref (q 16), .ref (q 17), .int 0, .ref (q 18), .ref (q 19), .int 0])), (q 0, .inl (cy 0, 3000, .inl (upd (fun _ => 0) (nI 0).toNatClampNeg (vp_nar .byte u0.toInt8.toInt32))))] := hD
      refine lv_aload_n hx hb dX9_unit_34 rfl (lv_at hl 0 rfl) ?_
      refine lv_dup hx hb dX9_unit_35 rfl ?_
      refine va_get (D := D) (ci := 10) (v := .int (nI 0)) (C := RX9) (T := TX9) (N := 32) hx hb hts iX9 hown hK hP 0 rfl rfl 1 (by decide) (hts (.fieldLink RX9 75 "InterlockTablesModel" "size" "I") (by decide +kernel)) (fun _ h9 => h9) rfl dX9_unit_36 ?_
      refine lv_iconst (v := 1) hx hb dX9_unit_39 (by decide +kernel) ?_
      refine lv_iadd hx hb dX9_unit_40 ?_
      refine va_put (D := D) (ci := 10) (v := .int ((nI 0) + 1)) (ty := .int) (C := RX9) (T := TX9) (N := 32) hx hb hts iX9 tyX9 tyX9_ok nmX9 hown hK hP hD hS 0 rfl rfl 1 (by decide) (hts (.fieldLink RX9 75 "InterlockTablesModel" "size" "I") (by decide +kernel)) (fun _ h9 => h9) rfl (by decide +kernel) rfl rfl (Nat.le_of_ble_eq_true rfl) dX9_unit_41 (fun H locs hP hD hS => ?_)
      have hP : va_P D vwCl [(h0, .inr (10, [.ref (q 0), .int ((nI 0) + 1), .ref (q 1), .ref (q 2), .int (nI 0), .int (nI 0), .int 0, .int 0, .ref (q 3), .ref (q 4), .ref (q 5), .int (nI 0), .int (nI 0), .int (nI 0), .ref (q 6), .ref (q 7), .ref (q 8), .ref (q 9), .ref (q 10), .ref (q 11), .int (nI 0), .ref (q 12), .ref (q 13), .ref (q 14), .int 0, .ref (q 15), .ref (q 16), .ref (q 17), .int 0, .ref (q 18), .ref (q 19), .int 0])), (q 0, .inl (cy 0, 3000, .inl (upd (fun _ => 0) (nI 0).toNatClampNeg (vp_nar .byte u0.toInt8.toInt32))))] H := hP
      have hD : va_D A [(h0, .inr (10, [.ref (q 0), .int ((nI 0) + 1), .ref (q 1), .ref (q 2), .int (nI 0), .int (nI 0), .int 0, .int 0, .ref (q 3), .ref (q 4), .ref (q 5), .int (nI 0), .int (nI 0), .int (nI 0), .ref (q 6), .ref (q 7), .ref (q 8), .ref (q 9), .ref (q 10), .ref (q 11), .int (nI 0), .ref (q 12), .ref (q 13), .ref (q 14), .int 0, .ref (q 15), .ref (q 16), .ref (q 17), .int 0, .ref (q 18), .ref (q 19), .int 0])), (q 0, .inl (cy 0, 3000, .inl (upd (fun _ => 0) (nI 0).toNatClampNeg (vp_nar .byte u0.toInt8.toInt32))))] := hD
      refine lv_iconst (v := 1) hx hb dX9_unit_44 (by decide +kernel) ?_
      have hP9 : va_P D vwCl [] H := hP.sub [] rfl
      have hD9 : va_D A [] := hD.sub [] (by decide) rfl
      refine W.widen (k := 0) (n := 0) (by omega) (by omega) ?_
      exact W.zret hx hb hr rfl (fun t ht hW => ⟨⟨_, (), rfl, by simp [c2, c8], by rw [ht]; exact hP9, hD9⟩, hS.F ht⟩) hS.2.2 dX9_unit_45

set_option maxHeartbeats 4000000 in
set_option maxRecDepth 100000 in
theorem c_M_cut0 (l : Launch) (D : va_G) (cy : Nat → ClassId) (e : Nat → Nat) (h0 : Nat) (q : Nat → Nat) (sz : Nat)  : Met l yX9_cut wsX9_cut ({ frames := 0, cells := 0, slots := 0, locals := 0 }) (va_Pc [.ref h0] (mt_B D cy e [(h0, .inr (10, [.ref (q 0), .int (nI 0), .ref (q 1), .ref (q 2), .int (nI 0), .int (nI 0), .int 0, .int 0, .ref (q 3), .ref (q 4), .ref (q 5), .int (nI 0), .int (nI 0), .int (nI 0), .ref (q 6), .ref (q 7), .ref (q 8), .ref (q 9), .ref (q 10), .ref (q 11), .int (nI 0), .ref (q 12), .ref (q 13), .ref (q 14), .int 0, .ref (q 15), .ref (q 16), .ref (q 17), .int 0, .ref (q 18), .ref (q 19), .int 0]))] sz)) (va_Qv (fun (_ : Unit) => True) (mt_Q D (fun (_ : Unit) => [(h0, .inr (10, [.ref (q 0), .int (nI 0), .ref (q 1), .ref (q 2), .int (nI 0), .int (nI 0), .int 0, .int 0, .ref (q 3), .ref (q 4), .ref (q 5), .int (nI 0), .int (nI 0), .int (nI 0), .ref (q 6), .ref (q 7), .ref (q 8), .ref (q 9), .ref (q 10), .ref (q 11), .int (nI 0), .ref (q 12), .ref (q 13), .ref (q 14), .int 0, .ref (q 15), .ref (q 16), .ref (q 17), .int 0, .ref (q 18), .ref (q 19), .int 0]))]) (va_A [(h0, .inr (10, [.ref (q 0), .int (nI 0), .ref (q 1), .ref (q 2), .int (nI 0), .int (nI 0), .int 0, .int 0, .ref (q 3), .ref (q 4), .ref (q 5), .int (nI 0), .int (nI 0), .int (nI 0), .ref (q 6), .ref (q 7), .ref (q 8), .ref (q 9), .ref (q 10), .ref (q 11), .int (nI 0), .ref (q 12), .ref (q 13), .ref (q 14), .int 0, .ref (q 15), .ref (q 16), .ref (q 17), .int 0, .ref (q 18), .ref (q 19), .int 0]))] sz)) (va_A [(h0, .inr (10, [.ref (q 0), .int (nI 0), .ref (q 1), .ref (q 2), .int (nI 0), .int (nI 0), .int 0, .int 0, .ref (q 3), .ref (q 4), .ref (q 5), .int (nI 0), .int (nI 0), .int (nI 0), .ref (q 6), .ref (q 7), .ref (q 8), .ref (q 9), .ref (q 10), .ref (q 11), .int (nI 0), .ref (q 12), .ref (q 13), .ref (q 14), .int 0, .ref (q 15), .ref (q 16), .ref (q 17), .int 0, .ref (q 18), .ref (q 19), .int 0]))] sz)) (0) (0) (va_A [(h0, .inr (10, [.ref (q 0), .int (nI 0), .ref (q 1), .ref (q 2), .int (nI 0), .int (nI 0), .int 0, .int 0, .ref (q 3), .ref (q 4), .ref (q 5), .int (nI 0), .int (nI 0), .int (nI 0), .ref (q 6), .ref (q 7), .ref (q 8), .ref (q 9), .ref (q 10), .ref (q 11), .int (nI 0), .ref (q 12), .ref (q 13), .ref (q 14), .int 0, .ref (q 15), .ref (q 16), .ref (q 17), .int 0, .ref (q 18), .ref (q 19), .int 0]))] sz) := by
  refine Met.ofW (cc := cX9_cut) (maxL := 3) (ret := none) (by decide) rfl ?_
  intro p ev s m args below meth c s₁ B hml hv
  obtain ⟨rfl, hsz, hP, hK, hD0, hG⟩ := hv
  have hx := B.exec
  have hb := B.bytes
  have hr := B.returns
  have hts := atoms_spec (ws := wsX9_cut) B.pre
  have hown : s.vm.findClass RX9 = some m.cls := findClass_of_methodNamed B.named
  have hlocks := B.notSynchronized
  subst hsz
  have hD := hD0.self (sz := s.heap.size)
  generalize hAe : va_A [(h0, .inr (10, [.ref (q 0), .int (nI 0), .ref (q 1), .ref (q 2), .int (nI 0), .int (nI 0), .int 0, .int 0, .ref (q 3), .ref (q 4), .ref (q 5), .int (nI 0), .int (nI 0), .int (nI 0), .ref (q 6), .ref (q 7), .ref (q 8), .ref (q 9), .ref (q 10), .ref (q 11), .int (nI 0), .ref (q 12), .ref (q 13), .ref (q 14), .int 0, .ref (q 15), .ref (q 16), .ref (q 17), .int 0, .ref (q 18), .ref (q 19), .int 0]))] s.heap.size = A at hD hG ⊢
  have hA : ∀ q : Nat, s.heap.size ≤ q → A q := fun q h => by rw [← hAe]; exact Or.inr h
  have hS : va_S A s.heap s.heap [] := va_S.rf
  have hP : va_P D vwCl [(h0, .inr (10, [.ref (q 0), .int (nI 0), .ref (q 1), .ref (q 2), .int (nI 0), .int (nI 0), .int 0, .int 0, .ref (q 3), .ref (q 4), .ref (q 5), .int (nI 0), .int (nI 0), .int (nI 0), .ref (q 6), .ref (q 7), .ref (q 8), .ref (q 9), .ref (q 10), .ref (q 11), .int (nI 0), .ref (q 12), .ref (q 13), .ref (q 14), .int 0, .ref (q 15), .ref (q 16), .ref (q 17), .int 0, .ref (q 18), .ref (q 19), .int 0]))] s.heap := hP
  have iX9 : ∀ w ∈ wsX90, w ∈ wsX9_cut := fun w h => List.mem_cons_of_mem _ (List.mem_append_right _ h)
  have hl := lv_entry ([.ref h0]) (n := 3) (Nat.le_of_ble_eq_true rfl)
  rw [lg_entry_eq]
  generalize (lg_sl ([.ref h0]) ++ List.replicate (3 - (lg_sl ([.ref h0])).length) Slot.unset).toArray = ls at hl ⊢
  have hl : lv_has ls 3 [(0, .ref h0)] := hl
  refine lv_aload_n hx hb dX9_cut_0 rfl (lv_at hl 0 rfl) ?_
  refine lv_iconst (v := 0) hx hb dX9_cut_1 (by decide +kernel) ?_
  refine lv_topi (fun x_1 ex_1 => ?_)
  obtain rfl : x_1 = nI 0 := by rw [ex_1]; exact nI_0.symm
  refine va_put (D := D) (ci := 10) (v := .int (nI 0)) (ty := .int) (C := RX9) (T := TX9) (N := 32) hx hb hts iX9 tyX9 tyX9_ok nmX9 hown hK hP hD hS 0 rfl rfl 4 (by decide) (hts (.fieldLink RX9 79 "InterlockTablesModel" "words" "I") (by decide +kernel)) (fun _ h9 => h9) rfl (by decide +kernel) rfl rfl (Nat.le_of_ble_eq_true rfl) dX9_cut_2 (fun H locs hP hD hS => ?_)
  have hP : va_P D vwCl [(h0, .inr (10, [.ref (q 0), .int (nI 0), .ref (q 1), .ref (q 2), .int (nI 0), .int (nI 0), .int 0, .int 0, .ref (q 3), .ref (q 4), .ref (q 5), .int (nI 0), .int (nI 0), .int (nI 0), .ref (q 6), .ref (q 7), .ref (q 8), .ref (q 9), .ref (q 10), .ref (q 11), .int (nI 0), .ref (q 12), .ref (q 13), .ref (q 14), .int 0, .ref (q 15), .ref (q 16), .ref (q 17), .int 0, .ref (q 18), .ref (q 19), .int 0]))] H := hP
  have hD : va_D A [(h0, .inr (10, [.ref (q 0), .int (nI 0), .ref (q 1), .ref (q 2), .int (nI 0), .int (nI 0), .int 0, .int 0, .ref (q 3), .ref (q 4), .ref (q 5), .int (nI 0), .int (nI 0), .int (nI 0), .ref (q 6), .ref (q 7), .ref (q 8), .ref (q 9), .ref (q 10), .ref (q 11), .int (nI 0), .ref (q 12), .ref (q 13), .ref (q 14), .int 0, .ref (q 15), .ref (q 16), .ref (q 17), .int 0, .ref (q 18), .ref (q 19), .int 0]))] := hD
  refine lv_iconst (v := 0) hx hb dX9_cut_5 (by decide +kernel) ?_
  refine lv_istore_n (lv' := [(1, .int 0), (0, .ref h0)]) hx hb dX9_cut_6 rfl hl (by decide) rfl (fun ls hl => ?_)
  refine lv_iload_n hx hb dX9_cut_7 rfl (lv_at hl 0 rfl) ?_
  refine lv_aload_n hx hb dX9_cut_8 rfl (lv_at hl 1 rfl) ?_
  refine va_get (D := D) (ci := 10) (v := .int (nI 0)) (C := RX9) (T := TX9) (N := 32) hx hb hts iX9 hown hK hP 0 rfl rfl 1 (by decide) (hts (.fieldLink RX9 75 "InterlockTablesModel" "size" "I") (by decide +kernel)) (fun _ h9 => h9) rfl dX9_cut_9 ?_
  refine lv_icmp_ge (tgt := 131) hx hb dX9_cut_12 (by decide) (fun _ => ?_) (fun c12 => absurd (by decide) c12)
  have hP9 : va_P D vwCl [(h0, .inr (10, [.ref (q 0), .int (nI 0), .ref (q 1), .ref (q 2), .int (nI 0), .int (nI 0), .int 0, .int 0, .ref (q 3), .ref (q 4), .ref (q 5), .int (nI 0), .int (nI 0), .int (nI 0), .ref (q 6), .ref (q 7), .ref (q 8), .ref (q 9), .ref (q 10), .ref (q 11), .int (nI 0), .ref (q 12), .ref (q 13), .ref (q 14), .int 0, .ref (q 15), .ref (q 16), .ref (q 17), .int 0, .ref (q 18), .ref (q 19), .int 0]))] H := hP.sub [0] rfl
  have hD9 : va_D A [(h0, .inr (10, [.ref (q 0), .int (nI 0), .ref (q 1), .ref (q 2), .int (nI 0), .int (nI 0), .int 0, .int 0, .ref (q 3), .ref (q 4), .ref (q 5), .int (nI 0), .int (nI 0), .int (nI 0), .ref (q 6), .ref (q 7), .ref (q 8), .ref (q 9), .ref (q 10), .ref (q 11), .int (nI 0), .ref (q 12), .ref (q 13), .ref (q 14), .int 0, .ref (q 15), .ref (q 16), .ref (q 17), .int 0, .ref (q 18), .ref (q 19), .int 0]))] := hD.sub [0] (by decide) rfl
  refine W.widen (k := 0) (n := 0) (by omega) (by omega) ?_
  exact W.vret hx hb hr (fun t ht hW => ⟨⟨(), rfl, trivial, by rw [ht]; exact hP9, hD9⟩, hS.F ht⟩) hS.2.2 dX9_cut_131

set_option maxHeartbeats 4000000 in
set_option maxRecDepth 100000 in
theorem c_M_read0 (l : Launch) (D : va_G) (cy : Nat → ClassId) (e : Nat → Nat) (h0 : Nat) (q : Nat → Nat) (sz : Nat)  : Met l yX9_read wsX9_read ({ frames := 1, cells := 0, slots := 0, locals := 22 }) (va_Pc [.ref h0] (mt_B D cy e [(h0, .inr (10, [.ref (q 0), .int (nI 0), .ref (q 1), .ref (q 2), .int (nI 0), .int (nI 0), .int 0, .int 0, .ref (q 3), .ref (q 4), .ref (q 5), .int (nI 0), .int (nI 0), .int (nI 0), .ref (q 6), .ref (q 7), .ref (q 8), .ref (q 9), .ref (q 10), .ref (q 11), .int (nI 0), .ref (q 12), .ref (q 13), .ref (q 14), .int 0, .ref (q 15), .ref (q 16), .ref (q 17), .int 0, .ref (q 18), .ref (q 19), .int 0]))] sz)) (va_Qi (fun (r : Int32) (_ : Unit) => r = 0) (mt_Q D (fun (_ : Unit) => []) (va_A [(h0, .inr (10, [.ref (q 0), .int (nI 0), .ref (q 1), .ref (q 2), .int (nI 0), .int (nI 0), .int 0, .int 0, .ref (q 3), .ref (q 4), .ref (q 5), .int (nI 0), .int (nI 0), .int (nI 0), .ref (q 6), .ref (q 7), .ref (q 8), .ref (q 9), .ref (q 10), .ref (q 11), .int (nI 0), .ref (q 12), .ref (q 13), .ref (q 14), .int 0, .ref (q 15), .ref (q 16), .ref (q 17), .int 0, .ref (q 18), .ref (q 19), .int 0]))] sz)) (va_A [(h0, .inr (10, [.ref (q 0), .int (nI 0), .ref (q 1), .ref (q 2), .int (nI 0), .int (nI 0), .int 0, .int 0, .ref (q 3), .ref (q 4), .ref (q 5), .int (nI 0), .int (nI 0), .int (nI 0), .ref (q 6), .ref (q 7), .ref (q 8), .ref (q 9), .ref (q 10), .ref (q 11), .int (nI 0), .ref (q 12), .ref (q 13), .ref (q 14), .int 0, .ref (q 15), .ref (q 16), .ref (q 17), .int 0, .ref (q 18), .ref (q 19), .int 0]))] sz)) (0) (0) (va_A [(h0, .inr (10, [.ref (q 0), .int (nI 0), .ref (q 1), .ref (q 2), .int (nI 0), .int (nI 0), .int 0, .int 0, .ref (q 3), .ref (q 4), .ref (q 5), .int (nI 0), .int (nI 0), .int (nI 0), .ref (q 6), .ref (q 7), .ref (q 8), .ref (q 9), .ref (q 10), .ref (q 11), .int (nI 0), .ref (q 12), .ref (q 13), .ref (q 14), .int 0, .ref (q 15), .ref (q 16), .ref (q 17), .int 0, .ref (q 18), .ref (q 19), .int 0]))] sz) := by
  refine Met.ofW (cc := cX9_read) (maxL := 3) (ret := (some .int)) (by decide) rfl ?_
  intro p ev s m args below meth c s₁ B hml hv
  obtain ⟨rfl, hsz, hP, hK, hD0, hG⟩ := hv
  have hx := B.exec
  have hb := B.bytes
  have hr := B.returns
  have hts := atoms_spec (ws := wsX9_read) B.pre
  have hown : s.vm.findClass RX9 = some m.cls := findClass_of_methodNamed B.named
  have hlocks := B.notSynchronized
  subst hsz
  have hD := hD0.self (sz := s.heap.size)
  generalize hAe : va_A [(h0, .inr (10, [.ref (q 0), .int (nI 0), .ref (q 1), .ref (q 2), .int (nI 0), .int (nI 0), .int 0, .int 0, .ref (q 3), .ref (q 4), .ref (q 5), .int (nI 0), .int (nI 0), .int (nI 0), .ref (q 6), .ref (q 7), .ref (q 8), .ref (q 9), .ref (q 10), .ref (q 11), .int (nI 0), .ref (q 12), .ref (q 13), .ref (q 14), .int 0, .ref (q 15), .ref (q 16), .ref (q 17), .int 0, .ref (q 18), .ref (q 19), .int 0]))] s.heap.size = A at hD hG ⊢
  have hA : ∀ q : Nat, s.heap.size ≤ q → A q := fun q h => by rw [← hAe]; exact Or.inr h
  have hS : va_S A s.heap s.heap [] := va_S.rf
  have hP : va_P D vwCl [(h0, .inr (10, [.ref (q 0), .int (nI 0), .ref (q 1), .ref (q 2), .int (nI 0), .int (nI 0), .int 0, .int 0, .ref (q 3), .ref (q 4), .ref (q 5), .int (nI 0), .int (nI 0), .int (nI 0), .ref (q 6), .ref (q 7), .ref (q 8), .ref (q 9), .ref (q 10), .ref (q 11), .int (nI 0), .ref (q 12), .ref (q 13), .ref (q 14), .int 0, .ref (q 15), .ref (q 16), .ref (q 17), .int 0, .ref (q 18), .ref (q 19), .int 0]))] s.heap := hP
  have iX9 : ∀ w ∈ wsX90, w ∈ wsX9_read := fun w h => List.mem_cons_of_mem _ (List.mem_append_right _ h)
  have hl := lv_entry ([.ref h0]) (n := 3) (Nat.le_of_ble_eq_true rfl)
  rw [lg_entry_eq]
  generalize (lg_sl ([.ref h0]) ++ List.replicate (3 - (lg_sl ([.ref h0])).length) Slot.unset).toArray = ls at hl ⊢
  have hl : lv_has ls 3 [(0, .ref h0)] := hl
  refine lv_aload_n hx hb dX9_read_0 rfl (lv_at hl 0 rfl) ?_
  refine mt_callv (wr := []) (va_runV (As := []) (rest := []) ⟨hx, hb, hml, hown, hts⟩ (c_M_cut0 l D cy e h0 q s.heap.size ) (cwV 0 hts gX9_read_X9_cut rfl rfl rfl (by decide +kernel) ⟨Nat.le_of_ble_eq_true rfl, Nat.le_of_ble_eq_true rfl⟩) (mt_preV hP hD hK hS hA hG [0] rfl (by decide) (q := (RX9, TX9, 32)) (ci := 10) (q0 := 0) rfl rfl) rfl rfl hl.1 rfl (lv_room (Nat.le_of_ble_eq_true rfl)) dX9_read_1 ⟨(Nat.le_of_ble_eq_true rfl), (Nat.le_of_ble_eq_true rfl)⟩) hP hD hS hA [0] [] rfl rfl (by decide) (by decide) (fun u H locs hw hP hD hS => ?_)
  have hP : va_P D vwCl [(h0, .inr (10, [.ref (q 0), .int (nI 0), .ref (q 1), .ref (q 2), .int (nI 0), .int (nI 0), .int 0, .int 0, .ref (q 3), .ref (q 4), .ref (q 5), .int (nI 0), .int (nI 0), .int (nI 0), .ref (q 6), .ref (q 7), .ref (q 8), .ref (q 9), .ref (q 10), .ref (q 11), .int (nI 0), .ref (q 12), .ref (q 13), .ref (q 14), .int 0, .ref (q 15), .ref (q 16), .ref (q 17), .int 0, .ref (q 18), .ref (q 19), .int 0]))] H := hP
  have hD : va_D A [(h0, .inr (10, [.ref (q 0), .int (nI 0), .ref (q 1), .ref (q 2), .int (nI 0), .int (nI 0), .int 0, .int 0, .ref (q 3), .ref (q 4), .ref (q 5), .int (nI 0), .int (nI 0), .int (nI 0), .ref (q 6), .ref (q 7), .ref (q 8), .ref (q 9), .ref (q 10), .ref (q 11), .int (nI 0), .ref (q 12), .ref (q 13), .ref (q 14), .int 0, .ref (q 15), .ref (q 16), .ref (q 17), .int 0, .ref (q 18), .ref (q 19), .int 0]))] := hD
  replace hw : True := hw
  refine W.widen (k := 0) (n := 0) (by omega) (by omega) ?_
  refine lv_aload_n hx hb dX9_read_4 rfl (lv_at hl 0 rfl) ?_
  refine lv_iconst (v := 0) hx hb dX9_read_5 (by decide +kernel) ?_
  refine va_put (D := D) (ci := 10) (v := .int 0) (ty := .int) (C := RX9) (T := TX9) (N := 32) hx hb hts iX9 tyX9 tyX9_ok nmX9 hown hK hP hD hS 0 rfl rfl 1 (by decide) (hts (.fieldLink RX9 75 "InterlockTablesModel" "size" "I") (by decide +kernel)) (fun _ h9 => h9) rfl (by decide +kernel) rfl rfl (Nat.le_of_ble_eq_true rfl) dX9_read_6 (fun H locs hP hD hS => ?_)
  have hP : va_P D vwCl [(h0, .inr (10, [.ref (q 0), .int 0, .ref (q 1), .ref (q 2), .int (nI 0), .int (nI 0), .int 0, .int 0, .ref (q 3), .ref (q 4), .ref (q 5), .int (nI 0), .int (nI 0), .int (nI 0), .ref (q 6), .ref (q 7), .ref (q 8), .ref (q 9), .ref (q 10), .ref (q 11), .int (nI 0), .ref (q 12), .ref (q 13), .ref (q 14), .int 0, .ref (q 15), .ref (q 16), .ref (q 17), .int 0, .ref (q 18), .ref (q 19), .int 0]))] H := hP
  have hD : va_D A [(h0, .inr (10, [.ref (q 0), .int 0, .ref (q 1), .ref (q 2), .int (nI 0), .int (nI 0), .int 0, .int 0, .ref (q 3), .ref (q 4), .ref (q 5), .int (nI 0), .int (nI 0), .int (nI 0), .ref (q 6), .ref (q 7), .ref (q 8), .ref (q 9), .ref (q 10), .ref (q 11), .int (nI 0), .ref (q 12), .ref (q 13), .ref (q 14), .int 0, .ref (q 15), .ref (q 16), .ref (q 17), .int 0, .ref (q 18), .ref (q 19), .int 0]))] := hD
  refine lv_aload_n hx hb dX9_read_9 rfl (lv_at hl 0 rfl) ?_
  refine lv_iconst (v := 0) hx hb dX9_read_10 (by decide +kernel) ?_
  refine va_put (D := D) (ci := 10) (v := .int 0) (ty := .int) (C := RX9) (T := TX9) (N := 32) hx hb hts iX9 tyX9 tyX9_ok nmX9 hown hK hP hD hS 0 rfl rfl 5 (by decide) (hts (.fieldLink RX9 86 "InterlockTablesModel" "next" "I") (by decide +kernel)) (fun _ h9 => h9) rfl (by decide +kernel) rfl rfl (Nat.le_of_ble_eq_true rfl) dX9_read_11 (fun H locs hP hD hS => ?_)
  have hP : va_P D vwCl [(h0, .inr (10, [.ref (q 0), .int 0, .ref (q 1), .ref (q 2), .int (nI 0), .int 0, .int 0, .int 0, .ref (q 3), .ref (q 4), .ref (q 5), .int (nI 0), .int (nI 0), .int (nI 0), .ref (q 6), .ref (q 7), .ref (q 8), .ref (q 9), .ref (q 10), .ref (q 11), .int (nI 0), .ref (q 12), .ref (q 13), .ref (q 14), .int 0, .ref (q 15), .ref (q 16), .ref (q 17), .int 0, .ref (q 18), .ref (q 19), .int 0]))] H := hP
  have hD : va_D A [(h0, .inr (10, [.ref (q 0), .int 0, .ref (q 1), .ref (q 2), .int (nI 0), .int 0, .int 0, .int 0, .ref (q 3), .ref (q 4), .ref (q 5), .int (nI 0), .int (nI 0), .int (nI 0), .ref (q 6), .ref (q 7), .ref (q 8), .ref (q 9), .ref (q 10), .ref (q 11), .int (nI 0), .ref (q 12), .ref (q 13), .ref (q 14), .int 0, .ref (q 15), .ref (q 16), .ref (q 17), .int 0, .ref (q 18), .ref (q 19), .int 0]))] := hD
  refine lv_aload_n hx hb dX9_read_14 rfl (lv_at hl 0 rfl) ?_
  refine lv_iconst (v := 0) hx hb dX9_read_15 (by decide +kernel) ?_
  refine va_put (D := D) (ci := 10) (v := .int 0) (ty := .int) (C := RX9) (T := TX9) (N := 32) hx hb hts iX9 tyX9 tyX9_ok nmX9 hown hK hP hD hS 0 rfl rfl 11 (by decide) (hts (.fieldLink RX9 104 "InterlockTablesModel" "nodes" "I") (by decide +kernel)) (fun _ h9 => h9) rfl (by decide +kernel) rfl rfl (Nat.le_of_ble_eq_true rfl) dX9_read_16 (fun H locs hP hD hS => ?_)
  have hP : va_P D vwCl [(h0, .inr (10, [.ref (q 0), .int 0, .ref (q 1), .ref (q 2), .int (nI 0), .int 0, .int 0, .int 0, .ref (q 3), .ref (q 4), .ref (q 5), .int 0, .int (nI 0), .int (nI 0), .ref (q 6), .ref (q 7), .ref (q 8), .ref (q 9), .ref (q 10), .ref (q 11), .int (nI 0), .ref (q 12), .ref (q 13), .ref (q 14), .int 0, .ref (q 15), .ref (q 16), .ref (q 17), .int 0, .ref (q 18), .ref (q 19), .int 0]))] H := hP
  have hD : va_D A [(h0, .inr (10, [.ref (q 0), .int 0, .ref (q 1), .ref (q 2), .int (nI 0), .int 0, .int 0, .int 0, .ref (q 3), .ref (q 4), .ref (q 5), .int 0, .int (nI 0), .int (nI 0), .ref (q 6), .ref (q 7), .ref (q 8), .ref (q 9), .ref (q 10), .ref (q 11), .int (nI 0), .ref (q 12), .ref (q 13), .ref (q 14), .int 0, .ref (q 15), .ref (q 16), .ref (q 17), .int 0, .ref (q 18), .ref (q 19), .int 0]))] := hD
  refine lv_aload_n hx hb dX9_read_19 rfl (lv_at hl 0 rfl) ?_
  refine lv_iconst (v := 0) hx hb dX9_read_20 (by decide +kernel) ?_
  refine va_put (D := D) (ci := 10) (v := .int 0) (ty := .int) (C := RX9) (T := TX9) (N := 32) hx hb hts iX9 tyX9 tyX9_ok nmX9 hown hK hP hD hS 0 rfl rfl 13 (by decide) (hts (.fieldLink RX9 136 "InterlockTablesModel" "made" "I") (by decide +kernel)) (fun _ h9 => h9) rfl (by decide +kernel) rfl rfl (Nat.le_of_ble_eq_true rfl) dX9_read_21 (fun H locs hP hD hS => ?_)
  have hP : va_P D vwCl [(h0, .inr (10, [.ref (q 0), .int 0, .ref (q 1), .ref (q 2), .int (nI 0), .int 0, .int 0, .int 0, .ref (q 3), .ref (q 4), .ref (q 5), .int 0, .int (nI 0), .int 0, .ref (q 6), .ref (q 7), .ref (q 8), .ref (q 9), .ref (q 10), .ref (q 11), .int (nI 0), .ref (q 12), .ref (q 13), .ref (q 14), .int 0, .ref (q 15), .ref (q 16), .ref (q 17), .int 0, .ref (q 18), .ref (q 19), .int 0]))] H := hP
  have hD : va_D A [(h0, .inr (10, [.ref (q 0), .int 0, .ref (q 1), .ref (q 2), .int (nI 0), .int 0, .int 0, .int 0, .ref (q 3), .ref (q 4), .ref (q 5), .int 0, .int (nI 0), .int 0, .ref (q 6), .ref (q 7), .ref (q 8), .ref (q 9), .ref (q 10), .ref (q 11), .int (nI 0), .ref (q 12), .ref (q 13), .ref (q 14), .int 0, .ref (q 15), .ref (q 16), .ref (q 17), .int 0, .ref (q 18), .ref (q 19), .int 0]))] := hD
  refine lv_iconst (v := 1) hx hb dX9_read_24 (by decide +kernel) ?_
  refine lv_istore_n (lv' := [(1, .int 1), (0, .ref h0)]) hx hb dX9_read_25 rfl hl (by decide) rfl (fun ls hl => ?_)
  refine lv_iload_n hx hb dX9_read_26 rfl (lv_at hl 0 rfl) ?_
  refine lv_if_eq (tgt := 84) hx hb dX9_read_27 (by decide) (fun c27 => absurd c27 (by decide)) (fun _ => ?_)
  refine lv_aload_n hx hb dX9_read_30 rfl (lv_at hl 1 rfl) ?_
  refine va_get (D := D) (ci := 10) (v := .int 0) (C := RX9) (T := TX9) (N := 32) hx hb hts iX9 hown hK hP 0 rfl rfl 5 (by decide) (hts (.fieldLink RX9 86 "InterlockTablesModel" "next" "I") (by decide +kernel)) (fun _ h9 => h9) rfl dX9_read_31 ?_
  refine lv_aload_n hx hb dX9_read_34 rfl (lv_at hl 1 rfl) ?_
  refine va_get (D := D) (ci := 10) (v := .int (nI 0)) (C := RX9) (T := TX9) (N := 32) hx hb hts iX9 hown hK hP 0 rfl rfl 4 (by decide) (hts (.fieldLink RX9 79 "InterlockTablesModel" "words" "I") (by decide +kernel)) (fun _ h9 => h9) rfl dX9_read_35 ?_
  refine lv_icmp_ge (tgt := 84) hx hb dX9_read_38 (by decide) (fun _ => ?_) (fun c38 => absurd (by decide) c38)
  refine lv_iload_n hx hb dX9_read_84 rfl (lv_at hl 0 rfl) ?_
  refine lv_if_ne (tgt := 95) hx hb dX9_read_85 (by decide) (fun _ => ?_) (fun c85 => absurd c85 (by decide))
  refine lv_aload_n hx hb dX9_read_95 rfl (lv_at hl 1 rfl) ?_
  refine lv_iconst (v := 1) hx hb dX9_read_96 (by decide +kernel) ?_
  refine lv_aload_n hx hb dX9_read_97 rfl (lv_at hl 1 rfl) ?_
  refine va_get (D := D) (ci := 10) (v := .int (nI 0)) (C := RX9) (T := TX9) (N := 32) hx hb hts iX9 hown hK hP 0 rfl rfl 12 (by decide) (hts (.fieldLink RX9 101 "InterlockTablesModel" "half" "I") (by decide +kernel)) (fun _ h9 => h9) rfl dX9_read_98 ?_
  refine lv_isub hx hb dX9_read_101 ?_
  refine va_put (D := D) (ci := 10) (v := .int (1 - (nI 0))) (ty := .int) (C := RX9) (T := TX9) (N := 32) hx hb hts iX9 tyX9 tyX9_ok nmX9 hown hK hP hD hS 0 rfl rfl 12 (by decide) (hts (.fieldLink RX9 101 "InterlockTablesModel" "half" "I") (by decide +kernel)) (fun _ h9 => h9) rfl (by decide +kernel) rfl rfl (Nat.le_of_ble_eq_true rfl) dX9_read_102 (fun H locs hP hD hS => ?_)
  have hP : va_P D vwCl [(h0, .inr (10, [.ref (q 0), .int 0, .ref (q 1), .ref (q 2), .int (nI 0), .int 0, .int 0, .int 0, .ref (q 3), .ref (q 4), .ref (q 5), .int 0, .int (1 - (nI 0)), .int 0, .ref (q 6), .ref (q 7), .ref (q 8), .ref (q 9), .ref (q 10), .ref (q 11), .int (nI 0), .ref (q 12), .ref (q 13), .ref (q 14), .int 0, .ref (q 15), .ref (q 16), .ref (q 17), .int 0, .ref (q 18), .ref (q 19), .int 0]))] H := hP
  have hD : va_D A [(h0, .inr (10, [.ref (q 0), .int 0, .ref (q 1), .ref (q 2), .int (nI 0), .int 0, .int 0, .int 0, .ref (q 3), .ref (q 4), .ref (q 5), .int 0, .int (1 - (nI 0)), .int 0, .ref (q 6), .ref (q 7), .ref (q 8), .ref (q 9), .ref (q 10), .ref (q 11), .int (nI 0), .ref (q 12), .ref (q 13), .ref (q 14), .int 0, .ref (q 15), .ref (q 16), .ref (q 17), .int 0, .ref (q 18), .ref (q 19), .int 0]))] := hD
  refine lv_aload_n hx hb dX9_read_105 rfl (lv_at hl 1 rfl) ?_
  refine lv_aload_n hx hb dX9_read_106 rfl (lv_at hl 1 rfl) ?_
  refine va_get (D := D) (ci := 10) (v := .int 0) (C := RX9) (T := TX9) (N := 32) hx hb hts iX9 hown hK hP 0 rfl rfl 13 (by decide) (hts (.fieldLink RX9 136 "InterlockTablesModel" "made" "I") (by decide +kernel)) (fun _ h9 => h9) rfl dX9_read_107 ?_
  refine va_put (D := D) (ci := 10) (v := .int 0) (ty := .int) (C := RX9) (T := TX9) (N := 32) hx hb hts iX9 tyX9 tyX9_ok nmX9 hown hK hP hD hS 0 rfl rfl 20 (by decide) (hts (.fieldLink RX9 149 "InterlockTablesModel" "rows" "I") (by decide +kernel)) (fun _ h9 => h9) rfl (by decide +kernel) rfl rfl (Nat.le_of_ble_eq_true rfl) dX9_read_110 (fun H locs hP hD hS => ?_)
  have hP : va_P D vwCl [(h0, .inr (10, [.ref (q 0), .int 0, .ref (q 1), .ref (q 2), .int (nI 0), .int 0, .int 0, .int 0, .ref (q 3), .ref (q 4), .ref (q 5), .int 0, .int (1 - (nI 0)), .int 0, .ref (q 6), .ref (q 7), .ref (q 8), .ref (q 9), .ref (q 10), .ref (q 11), .int 0, .ref (q 12), .ref (q 13), .ref (q 14), .int 0, .ref (q 15), .ref (q 16), .ref (q 17), .int 0, .ref (q 18), .ref (q 19), .int 0]))] H := hP
  have hD : va_D A [(h0, .inr (10, [.ref (q 0), .int 0, .ref (q 1), .ref (q 2), .int (nI 0), .int 0, .int 0, .int 0, .ref (q 3), .ref (q 4), .ref (q 5), .int 0, .int (1 - (nI 0)), .int 0, .ref (q 6), .ref (q 7), .ref (q 8), .ref (q 9), .ref (q 10), .ref (q 11), .int 0, .ref (q 12), .ref (q 13), .ref (q 14), .int 0, .ref (q 15), .ref (q 16), .ref (q 17), .int 0, .ref (q 18), .ref (q 19), .int 0]))] := hD
  refine lv_aload_n hx hb dX9_read_113 rfl (lv_at hl 1 rfl) ?_
  refine lv_iconst (v := 0) hx hb dX9_read_114 (by decide +kernel) ?_
  refine va_put (D := D) (ci := 10) (v := .int 0) (ty := .boolean) (C := RX9) (T := TX9) (N := 32) hx hb hts iX9 tyX9 tyX9_ok nmX9 hown hK hP hD hS 0 rfl rfl 28 (by decide) (hts (.fieldLink RX9 152 "InterlockTablesModel" "tested" "Z") (by decide +kernel)) (fun _ h9 => h9) rfl (by decide +kernel) rfl rfl (Nat.le_of_ble_eq_true rfl) dX9_read_115 (fun H locs hP hD hS => ?_)
  have hP : va_P D vwCl [(h0, .inr (10, [.ref (q 0), .int 0, .ref (q 1), .ref (q 2), .int (nI 0), .int 0, .int 0, .int 0, .ref (q 3), .ref (q 4), .ref (q 5), .int 0, .int (1 - (nI 0)), .int 0, .ref (q 6), .ref (q 7), .ref (q 8), .ref (q 9), .ref (q 10), .ref (q 11), .int 0, .ref (q 12), .ref (q 13), .ref (q 14), .int 0, .ref (q 15), .ref (q 16), .ref (q 17), .int 0, .ref (q 18), .ref (q 19), .int 0]))] H := hP
  have hD : va_D A [(h0, .inr (10, [.ref (q 0), .int 0, .ref (q 1), .ref (q 2), .int (nI 0), .int 0, .int 0, .int 0, .ref (q 3), .ref (q 4), .ref (q 5), .int 0, .int (1 - (nI 0)), .int 0, .ref (q 6), .ref (q 7), .ref (q 8), .ref (q 9), .ref (q 10), .ref (q 11), .int 0, .ref (q 12), .ref (q 13), .ref (q 14), .int 0, .ref (q 15), .ref (q 16), .ref (q 17), .int 0, .ref (q 18), .ref (q 19), .int 0]))] := hD
  refine lv_iconst (v := 0) hx hb dX9_read_118 (by decide +kernel) ?_
  refine lv_istore_n (lv' := [(2, .int 0), (1, .int 1), (0, .ref h0)]) hx hb dX9_read_119 rfl hl (by decide) rfl (fun ls hl => ?_)
  refine lv_iload_n hx hb dX9_read_120 rfl (lv_at hl 0 rfl) ?_
  refine lv_aload_n hx hb dX9_read_121 rfl (lv_at hl 2 rfl) ?_
  refine va_get (D := D) (ci := 10) (v := .int 0) (C := RX9) (T := TX9) (N := 32) hx hb hts iX9 hown hK hP 0 rfl rfl 20 (by decide) (hts (.fieldLink RX9 149 "InterlockTablesModel" "rows" "I") (by decide +kernel)) (fun _ h9 => h9) rfl dX9_read_122 ?_
  refine lv_icmp_ge (tgt := 155) hx hb dX9_read_125 (by decide) (fun _ => ?_) (fun c125 => absurd (by decide) c125)
  refine lv_aload_n hx hb dX9_read_155 rfl (lv_at hl 2 rfl) ?_
  refine va_get (D := D) (ci := 10) (v := .int 0) (C := RX9) (T := TX9) (N := 32) hx hb hts iX9 hown hK hP 0 rfl rfl 20 (by decide) (hts (.fieldLink RX9 149 "InterlockTablesModel" "rows" "I") (by decide +kernel)) (fun _ h9 => h9) rfl dX9_read_156 ?_
  have hP9 : va_P D vwCl [] H := hP.sub [] rfl
  have hD9 : va_D A [] := hD.sub [] (by decide) rfl
  refine W.widen (k := 0) (n := 0) (by omega) (by omega) ?_
  exact W.iret hx hb hr (fun t ht hW => ⟨⟨_, (), rfl, rfl, by rw [ht]; exact hP9, hD9⟩, hS.F ht⟩) hS.2.2 dX9_read_159

set_option maxHeartbeats 4000000 in
set_option maxRecDepth 100000 in
theorem c_M_condition0 (l : Launch) (D : va_G) (cy : Nat → ClassId) (e : Nat → Nat) (h0 : Nat) (q : Nat → Nat) (k : Int32) (on : Int32) (sz : Nat)  : Met l yX9_condition wsX9_condition ({ frames := 0, cells := 0, slots := 0, locals := 0 }) (va_Pc [.ref h0, .int k, .int on] (mt_B D cy e [(h0, .inr (10, [.ref (q 0), .int (nI 0), .ref (q 1), .ref (q 2), .int (nI 0), .int (nI 0), .int 0, .int 0, .ref (q 3), .ref (q 4), .ref (q 5), .int (nI 0), .int (nI 0), .int (nI 0), .ref (q 6), .ref (q 7), .ref (q 8), .ref (q 9), .ref (q 10), .ref (q 11), .int (nI 0), .ref (q 12), .ref (q 13), .ref (q 14), .int 0, .ref (q 15), .ref (q 16), .ref (q 17), .int 0, .ref (q 18), .ref (q 19), .int 0]))] sz)) (va_Qi (fun (r : Int32) (_ : Unit) => r = if k < 0 ∨ ¬ k < 16 then 0 else if on = 0 then 0 else 1) (mt_Q D (fun (_ : Unit) => []) (va_A [(h0, .inr (10, [.ref (q 0), .int (nI 0), .ref (q 1), .ref (q 2), .int (nI 0), .int (nI 0), .int 0, .int 0, .ref (q 3), .ref (q 4), .ref (q 5), .int (nI 0), .int (nI 0), .int (nI 0), .ref (q 6), .ref (q 7), .ref (q 8), .ref (q 9), .ref (q 10), .ref (q 11), .int (nI 0), .ref (q 12), .ref (q 13), .ref (q 14), .int 0, .ref (q 15), .ref (q 16), .ref (q 17), .int 0, .ref (q 18), .ref (q 19), .int 0]))] sz)) (va_A [(h0, .inr (10, [.ref (q 0), .int (nI 0), .ref (q 1), .ref (q 2), .int (nI 0), .int (nI 0), .int 0, .int 0, .ref (q 3), .ref (q 4), .ref (q 5), .int (nI 0), .int (nI 0), .int (nI 0), .ref (q 6), .ref (q 7), .ref (q 8), .ref (q 9), .ref (q 10), .ref (q 11), .int (nI 0), .ref (q 12), .ref (q 13), .ref (q 14), .int 0, .ref (q 15), .ref (q 16), .ref (q 17), .int 0, .ref (q 18), .ref (q 19), .int 0]))] sz)) (0) (0) (va_A [(h0, .inr (10, [.ref (q 0), .int (nI 0), .ref (q 1), .ref (q 2), .int (nI 0), .int (nI 0), .int 0, .int 0, .ref (q 3), .ref (q 4), .ref (q 5), .int (nI 0), .int (nI 0), .int (nI 0), .ref (q 6), .ref (q 7), .ref (q 8), .ref (q 9), .ref (q 10), .ref (q 11), .int (nI 0), .ref (q 12), .ref (q 13), .ref (q 14), .int 0, .ref (q 15), .ref (q 16), .ref (q 17), .int 0, .ref (q 18), .ref (q 19), .int 0]))] sz) := by
  refine Met.ofW (cc := cX9_condition) (maxL := 3) (ret := (some .boolean)) (by decide) rfl ?_
  intro p ev s m args below meth c s₁ B hml hv
  obtain ⟨rfl, hsz, hP, hK, hD0, hG⟩ := hv
  have hx := B.exec
  have hb := B.bytes
  have hr := B.returns
  have hts := atoms_spec (ws := wsX9_condition) B.pre
  have hown : s.vm.findClass RX9 = some m.cls := findClass_of_methodNamed B.named
  have hlocks := B.notSynchronized
  subst hsz
  have hD := hD0.self (sz := s.heap.size)
  generalize hAe : va_A [(h0, .inr (10, [.ref (q 0), .int (nI 0), .ref (q 1), .ref (q 2), .int (nI 0), .int (nI 0), .int 0, .int 0, .ref (q 3), .ref (q 4), .ref (q 5), .int (nI 0), .int (nI 0), .int (nI 0), .ref (q 6), .ref (q 7), .ref (q 8), .ref (q 9), .ref (q 10), .ref (q 11), .int (nI 0), .ref (q 12), .ref (q 13), .ref (q 14), .int 0, .ref (q 15), .ref (q 16), .ref (q 17), .int 0, .ref (q 18), .ref (q 19), .int 0]))] s.heap.size = A at hD hG ⊢
  have hA : ∀ q : Nat, s.heap.size ≤ q → A q := fun q h => by rw [← hAe]; exact Or.inr h
  have hS : va_S A s.heap s.heap [] := va_S.rf
  have hP : va_P D vwCl [(h0, .inr (10, [.ref (q 0), .int (nI 0), .ref (q 1), .ref (q 2), .int (nI 0), .int (nI 0), .int 0, .int 0, .ref (q 3), .ref (q 4), .ref (q 5), .int (nI 0), .int (nI 0), .int (nI 0), .ref (q 6), .ref (q 7), .ref (q 8), .ref (q 9), .ref (q 10), .ref (q 11), .int (nI 0), .ref (q 12), .ref (q 13), .ref (q 14), .int 0, .ref (q 15), .ref (q 16), .ref (q 17), .int 0, .ref (q 18), .ref (q 19), .int 0]))] s.heap := hP
  have iX9 : ∀ w ∈ wsX90, w ∈ wsX9_condition := fun w h => List.mem_cons_of_mem _ (List.mem_append_right _ h)
  have hl := lv_entry ([.ref h0, .int k, .int on]) (n := 3) (Nat.le_of_ble_eq_true rfl)
  rw [lg_entry_eq]
  generalize (lg_sl ([.ref h0, .int k, .int on]) ++ List.replicate (3 - (lg_sl ([.ref h0, .int k, .int on])).length) Slot.unset).toArray = ls at hl ⊢
  have hl : lv_has ls 3 [(0, .ref h0), (1, .int k), (2, .int on)] := hl
  refine lv_iload_n hx hb dX9_condition_0 rfl (lv_at hl 1 rfl) ?_
  refine lv_if_lt (tgt := 31) hx hb dX9_condition_1 (by decide) (fun c1 => ?_) (fun c1 => ?_)
  · refine lv_iconst (v := 0) hx hb dX9_condition_31 (by decide +kernel) ?_
    have hP9 : va_P D vwCl [] s.heap := hP.sub [] rfl
    have hD9 : va_D A [] := hD.sub [] (by decide) rfl
    refine W.widen (k := 0) (n := 0) (by omega) (by omega) ?_
    exact W.zret hx hb hr rfl (fun t ht hW => ⟨⟨_, (), rfl, by rw [if_pos (Or.inl c1)], by rw [ht]; exact hP9, hD9⟩, hS.F ht⟩) hS.2.2 dX9_condition_32
  · refine lv_iload_n hx hb dX9_condition_4 rfl (lv_at hl 1 rfl) ?_
    refine lv_bipush (v := 15) hx hb dX9_condition_5 (by decide +kernel) ?_
    refine lv_icmp_gt (tgt := 31) hx hb dX9_condition_7 (by decide) (fun c7 => ?_) (fun c7 => ?_)
    · refine lv_iconst (v := 0) hx hb dX9_condition_31 (by decide +kernel) ?_
      have hP9 : va_P D vwCl [] s.heap := hP.sub [] rfl
      have hD9 : va_D A [] := hD.sub [] (by decide) rfl
      refine W.widen (k := 0) (n := 0) (by omega) (by omega) ?_
      exact W.zret hx hb hr rfl (fun t ht hW => ⟨⟨_, (), rfl, by rw [if_pos (Or.inr (pk_15 c7))], by rw [ht]; exact hP9, hD9⟩, hS.F ht⟩) hS.2.2 dX9_condition_32
    · refine lv_aload_n hx hb dX9_condition_10 rfl (lv_at hl 0 rfl) ?_
      refine va_get (D := D) (ci := 10) (v := .int 0) (C := RX9) (T := TX9) (N := 32) hx hb hts iX9 hown hK hP 0 rfl rfl 24 (by decide) (hts (.fieldLink RX9 156 "InterlockTablesModel" "state" "I") (by decide +kernel)) (fun _ h9 => h9) rfl dX9_condition_11 ?_
      refine lv_iload_n hx hb dX9_condition_14 rfl (lv_at hl 1 rfl) ?_
      refine lv_ishr hx hb dX9_condition_15 ?_
      refine lv_iconst (v := 1) hx hb dX9_condition_16 (by decide +kernel) ?_
      refine lv_iand hx hb dX9_condition_17 ?_
      refine lv_iconst (v := 1) hx hb dX9_condition_18 (by decide +kernel) ?_
      refine lv_icmp_ne (tgt := 26) hx hb dX9_condition_19 (by decide) (fun _ => ?_) (fun c19 => absurd c19 (pk_sh0 k))
      refine lv_iconst (v := 0) hx hb dX9_condition_26 (by decide +kernel) ?_
      refine lv_iload_n hx hb dX9_condition_27 rfl (lv_at hl 2 rfl) ?_
      refine lv_icmp_ne (tgt := 33) hx hb dX9_condition_28 (by decide) (fun c28 => ?_) (fun c28 => ?_)
      · refine lv_aload_n hx hb dX9_condition_33 rfl (lv_at hl 0 rfl) ?_
        refine lv_dup hx hb dX9_condition_34 rfl ?_
        refine va_get (D := D) (ci := 10) (v := .int 0) (C := RX9) (T := TX9) (N := 32) hx hb hts iX9 hown hK hP 0 rfl rfl 24 (by decide) (hts (.fieldLink RX9 156 "InterlockTablesModel" "state" "I") (by decide +kernel)) (fun _ h9 => h9) rfl dX9_condition_35 ?_
        refine lv_iconst (v := 1) hx hb dX9_condition_38 (by decide +kernel) ?_
        refine lv_iload_n hx hb dX9_condition_39 rfl (lv_at hl 1 rfl) ?_
        refine lv_ishl hx hb dX9_condition_40 ?_
        refine lv_ixor hx hb dX9_condition_41 ?_
        refine va_put (D := D) (ci := 10) (v := .int (0 ^^^ ((1 : Int32) <<< (k &&& 31)))) (ty := .int) (C := RX9) (T := TX9) (N := 32) hx hb hts iX9 tyX9 tyX9_ok nmX9 hown hK hP hD hS 0 rfl rfl 24 (by decide) (hts (.fieldLink RX9 156 "InterlockTablesModel" "state" "I") (by decide +kernel)) (fun _ h9 => h9) rfl (by decide +kernel) rfl rfl (Nat.le_of_ble_eq_true rfl) dX9_condition_42 (fun H locs hP hD hS => ?_)
        have hP : va_P D vwCl [(h0, .inr (10, [.ref (q 0), .int (nI 0), .ref (q 1), .ref (q 2), .int (nI 0), .int (nI 0), .int 0, .int 0, .ref (q 3), .ref (q 4), .ref (q 5), .int (nI 0), .int (nI 0), .int (nI 0), .ref (q 6), .ref (q 7), .ref (q 8), .ref (q 9), .ref (q 10), .ref (q 11), .int (nI 0), .ref (q 12), .ref (q 13), .ref (q 14), .int (0 ^^^ ((1 : Int32) <<< (k &&& 31))), .ref (q 15), .ref (q 16), .ref (q 17), .int 0, .ref (q 18), .ref (q 19), .int 0]))] H := hP
        have hD : va_D A [(h0, .inr (10, [.ref (q 0), .int (nI 0), .ref (q 1), .ref (q 2), .int (nI 0), .int (nI 0), .int 0, .int 0, .ref (q 3), .ref (q 4), .ref (q 5), .int (nI 0), .int (nI 0), .int (nI 0), .ref (q 6), .ref (q 7), .ref (q 8), .ref (q 9), .ref (q 10), .ref (q 11), .int (nI 0), .ref (q 12), .ref (q 13), .ref (q 14), .int (0 ^^^ ((1 : Int32) <<< (k &&& 31))), .ref (q 15), .ref (q 16), .ref (q 17), .int 0, .ref (q 18), .ref (q 19), .int 0]))] := hD
        refine lv_iconst (v := 1) hx hb dX9_condition_45 (by decide +kernel) ?_
        have hP9 : va_P D vwCl [] H := hP.sub [] rfl
        have hD9 : va_D A [] := hD.sub [] (by decide) rfl
        refine W.widen (k := 0) (n := 0) (by omega) (by omega) ?_
        exact W.zret hx hb hr rfl (fun t ht hW => ⟨⟨_, (), rfl, by rw [if_neg (by intro h; rcases h with h | h; exact c1 h; exact h (pk_16 c7)), if_neg (fun h => c28 h.symm)], by rw [ht]; exact hP9, hD9⟩, hS.F ht⟩) hS.2.2 dX9_condition_46
      · refine lv_iconst (v := 0) hx hb dX9_condition_31 (by decide +kernel) ?_
        have hP9 : va_P D vwCl [] s.heap := hP.sub [] rfl
        have hD9 : va_D A [] := hD.sub [] (by decide) rfl
        refine W.widen (k := 0) (n := 0) (by omega) (by omega) ?_
        exact W.zret hx hb hr rfl (fun t ht hW => ⟨⟨_, (), rfl, by rw [if_neg (by intro h; rcases h with h | h; exact c1 h; exact h (pk_16 c7)), if_pos c28.symm], by rw [ht]; exact hP9, hD9⟩, hS.F ht⟩) hS.2.2 dX9_condition_32

set_option maxHeartbeats 4000000 in
set_option maxRecDepth 100000 in
theorem c_M_tick0 (l : Launch) (D : va_G) (cy : Nat → ClassId) (e : Nat → Nat) (h0 : Nat) (q : Nat → Nat) (i : Int32)  : Met l yX9_tick wsX9_tick ({ frames := 0, cells := 0, slots := 0, locals := 0 }) (va_Pc [.ref h0, .int i] (pu_B D cy e [(h0, .inr (10, [.ref (q 0), .int (nI 0), .ref (q 1), .ref (q 2), .int (nI 0), .int (nI 0), .int 0, .int 0, .ref (q 3), .ref (q 4), .ref (q 5), .int (nI 0), .int (nI 0), .int (nI 0), .ref (q 6), .ref (q 7), .ref (q 8), .ref (q 9), .ref (q 10), .ref (q 11), .int (nI 0), .ref (q 12), .ref (q 13), .ref (q 14), .int 0, .ref (q 15), .ref (q 16), .ref (q 17), .int 0, .ref (q 18), .ref (q 19), .int 0]))])) (va_Qi (fun (r : Int32) (_ : Unit) => r = if i < 0 ∨ ¬ i ≤ 100000 then 0 else 1) (fun _ _ => True) (fun _ => False)) 0 0 (fun _ => False) := by
  refine Met.ofW (cc := cX9_tick) (maxL := 4) (ret := (some .boolean)) (by decide) rfl ?_
  intro p ev s m args below meth c s₁ B hml hv
  obtain ⟨rfl, hP, hK, hG⟩ := hv
  have hx := B.exec
  have hb := B.bytes
  have hr := B.returns
  have hts := atoms_spec (ws := wsX9_tick) B.pre
  have hown : s.vm.findClass RX9 = some m.cls := findClass_of_methodNamed B.named
  have hlocks := B.notSynchronized
  have hS : va_S (fun _ => False) s.heap s.heap [] := va_S.rf
  have hP : va_P D vwCl [(h0, .inr (10, [.ref (q 0), .int (nI 0), .ref (q 1), .ref (q 2), .int (nI 0), .int (nI 0), .int 0, .int 0, .ref (q 3), .ref (q 4), .ref (q 5), .int (nI 0), .int (nI 0), .int (nI 0), .ref (q 6), .ref (q 7), .ref (q 8), .ref (q 9), .ref (q 10), .ref (q 11), .int (nI 0), .ref (q 12), .ref (q 13), .ref (q 14), .int 0, .ref (q 15), .ref (q 16), .ref (q 17), .int 0, .ref (q 18), .ref (q 19), .int 0]))] s.heap := hP
  have iX9 : ∀ w ∈ wsX90, w ∈ wsX9_tick := fun w h => List.mem_cons_of_mem _ (List.mem_append_right _ h)
  have hl := lv_entry ([.ref h0, .int i]) (n := 4) (Nat.le_of_ble_eq_true rfl)
  rw [lg_entry_eq]
  generalize (lg_sl ([.ref h0, .int i]) ++ List.replicate (4 - (lg_sl ([.ref h0, .int i])).length) Slot.unset).toArray = ls at hl ⊢
  have hl : lv_has ls 4 [(0, .ref h0), (1, .int i)] := hl
  refine lv_iload_n hx hb dX9_tick_0 rfl (lv_at hl 1 rfl) ?_
  refine lv_if_lt (tgt := 10) hx hb dX9_tick_1 (by decide) (fun c1 => ?_) (fun c1 => ?_)
  · refine lv_iconst (v := 0) hx hb dX9_tick_10 (by decide +kernel) ?_
    exact W.zret hx hb hr rfl (fun t ht hW => ⟨⟨_, (), rfl, by simp [c1], trivial⟩, hS.F ht⟩) hS.2.2 dX9_tick_11
  · refine lv_iload_n hx hb dX9_tick_4 rfl (lv_at hl 1 rfl) ?_
    refine lv_ldc (v := 100000) hx hb hown (hts (.constant RX9 162 (100000)) (by decide +kernel)) dX9_tick_5 ?_
    refine lv_icmp_le (tgt := 12) hx hb dX9_tick_7 (by decide) (fun c7 => ?_) (fun c7 => ?_)
    · refine lv_iconst (v := 0) hx hb dX9_tick_12 (by decide +kernel) ?_
      refine lv_istore_n (lv' := [(2, .int 0), (0, .ref h0), (1, .int i)]) hx hb dX9_tick_13 rfl hl (by decide) rfl (fun ls hl => ?_)
      refine lv_iload_n hx hb dX9_tick_14 rfl (lv_at hl 0 rfl) ?_
      refine lv_aload_n hx hb dX9_tick_15 rfl (lv_at hl 1 rfl) ?_
      refine va_get (D := D) (ci := 10) (v := .int (nI 0)) (C := RX9) (T := TX9) (N := 32) hx hb hts iX9 hown hK hP 0 rfl rfl 20 (by decide) (hts (.fieldLink RX9 149 "InterlockTablesModel" "rows" "I") (by decide +kernel)) (fun _ h9 => h9) rfl dX9_tick_16 ?_
      refine lv_icmp_ge (tgt := 164) hx hb dX9_tick_19 (by decide) (fun _ => ?_) (fun c19 => absurd (by decide) c19)
      refine lv_iconst (v := 1) hx hb dX9_tick_164 (by decide +kernel) ?_
      exact W.zret hx hb hr rfl (fun t ht hW => ⟨⟨_, (), rfl, by simp [c1, c7], trivial⟩, hS.F ht⟩) hS.2.2 dX9_tick_165
    · refine lv_iconst (v := 0) hx hb dX9_tick_10 (by decide +kernel) ?_
      exact W.zret hx hb hr rfl (fun t ht hW => ⟨⟨_, (), rfl, by simp [c1, c7], trivial⟩, hS.F ht⟩) hS.2.2 dX9_tick_11

set_option maxHeartbeats 4000000 in
set_option maxRecDepth 100000 in
theorem c_M_act0 (l : Launch) (D : va_G) (cy : Nat → ClassId) (e : Nat → Nat) (h0 : Nat) (q : Nat → Nat) (i : Int32)  : Met l yX9_act_ wsX9_act_ ({ frames := 0, cells := 0, slots := 0, locals := 0 }) (va_Pc [.ref h0, .int i] (pu_B D cy e [(h0, .inr (10, [.ref (q 0), .int (nI 0), .ref (q 1), .ref (q 2), .int (nI 0), .int (nI 0), .int 0, .int 0, .ref (q 3), .ref (q 4), .ref (q 5), .int (nI 0), .int (nI 0), .int (nI 0), .ref (q 6), .ref (q 7), .ref (q 8), .ref (q 9), .ref (q 10), .ref (q 11), .int (nI 0), .ref (q 12), .ref (q 13), .ref (q 14), .int 0, .ref (q 15), .ref (q 16), .ref (q 17), .int 0, .ref (q 18), .ref (q 19), .int 0]))])) (va_Qi (fun (r : Int32) (_ : Unit) => r = if i < 0 ∨ ¬ i < 32 then -1 else 0) (fun _ _ => True) (fun _ => False)) 0 0 (fun _ => False) := by
  refine Met.ofW (cc := cX9_act_) (maxL := 4) (ret := (some .int)) (by decide) rfl ?_
  intro p ev s m args below meth c s₁ B hml hv
  obtain ⟨rfl, hP, hK, hG⟩ := hv
  have hx := B.exec
  have hb := B.bytes
  have hr := B.returns
  have hts := atoms_spec (ws := wsX9_act_) B.pre
  have hown : s.vm.findClass RX9 = some m.cls := findClass_of_methodNamed B.named
  have hlocks := B.notSynchronized
  have hS : va_S (fun _ => False) s.heap s.heap [] := va_S.rf
  have hP : va_P D vwCl [(h0, .inr (10, [.ref (q 0), .int (nI 0), .ref (q 1), .ref (q 2), .int (nI 0), .int (nI 0), .int 0, .int 0, .ref (q 3), .ref (q 4), .ref (q 5), .int (nI 0), .int (nI 0), .int (nI 0), .ref (q 6), .ref (q 7), .ref (q 8), .ref (q 9), .ref (q 10), .ref (q 11), .int (nI 0), .ref (q 12), .ref (q 13), .ref (q 14), .int 0, .ref (q 15), .ref (q 16), .ref (q 17), .int 0, .ref (q 18), .ref (q 19), .int 0]))] s.heap := hP
  have iX9 : ∀ w ∈ wsX90, w ∈ wsX9_act_ := fun w h => List.mem_cons_of_mem _ (List.mem_append_right _ h)
  have hl := lv_entry ([.ref h0, .int i]) (n := 4) (Nat.le_of_ble_eq_true rfl)
  rw [lg_entry_eq]
  generalize (lg_sl ([.ref h0, .int i]) ++ List.replicate (4 - (lg_sl ([.ref h0, .int i])).length) Slot.unset).toArray = ls at hl ⊢
  have hl : lv_has ls 4 [(0, .ref h0), (1, .int i)] := hl
  refine lv_iload_n hx hb dX9_act__0 rfl (lv_at hl 1 rfl) ?_
  refine lv_if_lt (tgt := 10) hx hb dX9_act__1 (by decide) (fun c1 => ?_) (fun c1 => ?_)
  · refine lv_iconst (v := -1) hx hb dX9_act__10 (by decide +kernel) ?_
    exact W.iret hx hb hr (fun t ht hW => ⟨⟨_, (), rfl, (if_pos (Or.inl c1)).symm, trivial⟩, hS.F ht⟩) hS.2.2 dX9_act__11
  · refine lv_iload_n hx hb dX9_act__4 rfl (lv_at hl 1 rfl) ?_
    refine lv_bipush (v := 31) hx hb dX9_act__5 (by decide +kernel) ?_
    refine lv_icmp_le (tgt := 12) hx hb dX9_act__7 (by decide) (fun c7 => ?_) (fun c7 => ?_)
    · refine lv_iconst (v := 0) hx hb dX9_act__12 (by decide +kernel) ?_
      refine lv_istore_n (lv' := [(2, .int 0), (0, .ref h0), (1, .int i)]) hx hb dX9_act__13 rfl hl (by decide) rfl (fun ls hl => ?_)
      refine lv_iload_n hx hb dX9_act__14 rfl (lv_at hl 0 rfl) ?_
      refine lv_aload_n hx hb dX9_act__15 rfl (lv_at hl 1 rfl) ?_
      refine va_get (D := D) (ci := 10) (v := .int (nI 0)) (C := RX9) (T := TX9) (N := 32) hx hb hts iX9 hown hK hP 0 rfl rfl 20 (by decide) (hts (.fieldLink RX9 149 "InterlockTablesModel" "rows" "I") (by decide +kernel)) (fun _ h9 => h9) rfl dX9_act__16 ?_
      refine lv_icmp_ge (tgt := 100) hx hb dX9_act__19 (by decide) (fun _ => ?_) (fun c19 => absurd (by decide) c19)
      refine lv_iconst (v := 0) hx hb dX9_act__100 (by decide +kernel) ?_
      exact W.iret hx hb hr (fun t ht hW => ⟨⟨_, (), rfl, (if_neg (by intro h; rcases h with h | h; exact c1 h; exact h (pk_32 c7))).symm, trivial⟩, hS.F ht⟩) hS.2.2 dX9_act__101
    · refine lv_iconst (v := -1) hx hb dX9_act__10 (by decide +kernel) ?_
      exact W.iret hx hb hr (fun t ht hW => ⟨⟨_, (), rfl, (if_pos (Or.inr (pk_31 c7))).symm, trivial⟩, hS.F ht⟩) hS.2.2 dX9_act__11

set_option maxHeartbeats 4000000 in
set_option maxRecDepth 100000 in
theorem c_M_isRow0 (l : Launch) (D : va_G) (cy : Nat → ClassId) (e : Nat → Nat) (h0 : Nat) (q : Nat → Nat) (i : Int32)  : Met l yX9_isRow wsX9_isRow ({ frames := 0, cells := 0, slots := 0, locals := 0 }) (va_Pc [.ref h0, .int i] (pu_B D cy e [(h0, .inr (10, [.ref (q 0), .int (nI 0), .ref (q 1), .ref (q 2), .int (nI 0), .int (nI 0), .int 0, .int 0, .ref (q 3), .ref (q 4), .ref (q 5), .int (nI 0), .int (nI 0), .int (nI 0), .ref (q 6), .ref (q 7), .ref (q 8), .ref (q 9), .ref (q 10), .ref (q 11), .int (nI 0), .ref (q 12), .ref (q 13), .ref (q 14), .int 0, .ref (q 15), .ref (q 16), .ref (q 17), .int 0, .ref (q 18), .ref (q 19), .int 0]))])) (va_Qi (fun (r : Int32) (_ : Unit) => r = 0) (fun _ _ => True) (fun _ => False)) 0 0 (fun _ => False) := by
  refine Met.ofW (cc := cX9_isRow) (maxL := 2) (ret := (some .boolean)) (by decide) rfl ?_
  intro p ev s m args below meth c s₁ B hml hv
  obtain ⟨rfl, hP, hK, hG⟩ := hv
  have hx := B.exec
  have hb := B.bytes
  have hr := B.returns
  have hts := atoms_spec (ws := wsX9_isRow) B.pre
  have hown : s.vm.findClass RX9 = some m.cls := findClass_of_methodNamed B.named
  have hlocks := B.notSynchronized
  have hS : va_S (fun _ => False) s.heap s.heap [] := va_S.rf
  have hP : va_P D vwCl [(h0, .inr (10, [.ref (q 0), .int (nI 0), .ref (q 1), .ref (q 2), .int (nI 0), .int (nI 0), .int 0, .int 0, .ref (q 3), .ref (q 4), .ref (q 5), .int (nI 0), .int (nI 0), .int (nI 0), .ref (q 6), .ref (q 7), .ref (q 8), .ref (q 9), .ref (q 10), .ref (q 11), .int (nI 0), .ref (q 12), .ref (q 13), .ref (q 14), .int 0, .ref (q 15), .ref (q 16), .ref (q 17), .int 0, .ref (q 18), .ref (q 19), .int 0]))] s.heap := hP
  have iX9 : ∀ w ∈ wsX90, w ∈ wsX9_isRow := fun w h => List.mem_cons_of_mem _ (List.mem_append_right _ h)
  have hl := lv_entry ([.ref h0, .int i]) (n := 2) (Nat.le_of_ble_eq_true rfl)
  rw [lg_entry_eq]
  generalize (lg_sl ([.ref h0, .int i]) ++ List.replicate (2 - (lg_sl ([.ref h0, .int i])).length) Slot.unset).toArray = ls at hl ⊢
  have hl : lv_has ls 2 [(0, .ref h0), (1, .int i)] := hl
  refine lv_iload_n hx hb dX9_isRow_0 rfl (lv_at hl 1 rfl) ?_
  refine lv_iconst (v := 1) hx hb dX9_isRow_1 (by decide +kernel) ?_
  refine lv_icmp_lt (tgt := 17) hx hb dX9_isRow_2 (by decide) (fun c2 => ?_) (fun c2 => ?_)
  · refine lv_iconst (v := 0) hx hb dX9_isRow_17 (by decide +kernel) ?_
    exact W.zret hx hb hr rfl (fun t ht hW => ⟨⟨_, (), rfl, rfl, trivial⟩, hS.F ht⟩) hS.2.2 dX9_isRow_18
  · refine lv_iload_n hx hb dX9_isRow_5 rfl (lv_at hl 1 rfl) ?_
    refine lv_aload_n hx hb dX9_isRow_6 rfl (lv_at hl 0 rfl) ?_
    refine va_get (D := D) (ci := 10) (v := .int (nI 0)) (C := RX9) (T := TX9) (N := 32) hx hb hts iX9 hown hK hP 0 rfl rfl 20 (by decide) (hts (.fieldLink RX9 149 "InterlockTablesModel" "rows" "I") (by decide +kernel)) (fun _ h9 => h9) rfl dX9_isRow_7 ?_
    refine lv_icmp_gt (tgt := 17) hx hb dX9_isRow_10 (by decide) (fun _ => ?_) (fun c10 => absurd (pk_gt0 c2) c10)
    refine lv_iconst (v := 0) hx hb dX9_isRow_17 (by decide +kernel) ?_
    exact W.zret hx hb hr rfl (fun t ht hW => ⟨⟨_, (), rfl, rfl, trivial⟩, hS.F ht⟩) hS.2.2 dX9_isRow_18

set_option maxHeartbeats 4000000 in
set_option maxRecDepth 100000 in
theorem c_M_pass0 (l : Launch) (D : va_G) (cy : Nat → ClassId) (e : Nat → Nat) (h0 : Nat) (q : Nat → Nat) (i : Int32) (a : Int32) (b : Int32) (w : Int32)  : Met l yX9_pass wsX9_pass ({ frames := 1, cells := 0, slots := 0, locals := 21 }) (va_Pc [.ref h0, .int i, .int a, .int b, .int w] (pu_B D cy e [(h0, .inr (10, [.ref (q 0), .int (nI 0), .ref (q 1), .ref (q 2), .int (nI 0), .int (nI 0), .int 0, .int 0, .ref (q 3), .ref (q 4), .ref (q 5), .int (nI 0), .int (nI 0), .int (nI 0), .ref (q 6), .ref (q 7), .ref (q 8), .ref (q 9), .ref (q 10), .ref (q 11), .int (nI 0), .ref (q 12), .ref (q 13), .ref (q 14), .int 0, .ref (q 15), .ref (q 16), .ref (q 17), .int 0, .ref (q 18), .ref (q 19), .int 0]))])) (va_Qi (fun (r : Int32) (_ : Unit) => r = -1) (fun _ _ => True) (fun _ => False)) 0 0 (fun _ => False) := by
  refine Met.ofW (cc := cX9_pass) (maxL := 5) (ret := (some .int)) (by decide) rfl ?_
  intro p ev s m args below meth c s₁ B hml hv
  obtain ⟨rfl, hP, hK, hG⟩ := hv
  have hx := B.exec
  have hb := B.bytes
  have hr := B.returns
  have hts := atoms_spec (ws := wsX9_pass) B.pre
  have hown : s.vm.findClass RX9 = some m.cls := findClass_of_methodNamed B.named
  have hlocks := B.notSynchronized
  have hS : va_S (fun _ => False) s.heap s.heap [] := va_S.rf
  have hP : va_P D vwCl [(h0, .inr (10, [.ref (q 0), .int (nI 0), .ref (q 1), .ref (q 2), .int (nI 0), .int (nI 0), .int 0, .int 0, .ref (q 3), .ref (q 4), .ref (q 5), .int (nI 0), .int (nI 0), .int (nI 0), .ref (q 6), .ref (q 7), .ref (q 8), .ref (q 9), .ref (q 10), .ref (q 11), .int (nI 0), .ref (q 12), .ref (q 13), .ref (q 14), .int 0, .ref (q 15), .ref (q 16), .ref (q 17), .int 0, .ref (q 18), .ref (q 19), .int 0]))] s.heap := hP
  have iX9 : ∀ w ∈ wsX90, w ∈ wsX9_pass := fun w h => List.mem_cons_of_mem _ (List.mem_append_right _ h)
  have hl := lv_entry ([.ref h0, .int i, .int a, .int b, .int w]) (n := 5) (Nat.le_of_ble_eq_true rfl)
  rw [lg_entry_eq]
  generalize (lg_sl ([.ref h0, .int i, .int a, .int b, .int w]) ++ List.replicate (5 - (lg_sl ([.ref h0, .int i, .int a, .int b, .int w])).length) Slot.unset).toArray = ls at hl ⊢
  have hl : lv_has ls 5 [(0, .ref h0), (1, .int i), (2, .int a), (3, .int b), (4, .int w)] := hl
  refine lv_aload_n hx hb dX9_pass_0 rfl (lv_at hl 0 rfl) ?_
  refine lv_iload_n hx hb dX9_pass_1 rfl (lv_at hl 1 rfl) ?_
  refine pu_calli (va_runV (As := [.int i]) (rest := []) ⟨hx, hb, hml, hown, hts⟩ (c_M_isRow0 l D cy e h0 q i ) (cwV 1 hts gX9_pass_X9_isRow rfl rfl rfl (by decide +kernel) ⟨Nat.le_of_ble_eq_true rfl, Nat.le_of_ble_eq_true rfl⟩) (pu_preV hP hK hS hG [0] rfl (q := (RX9, TX9, 32)) (ci := 10) (q0 := 0) rfl rfl) rfl rfl hl.1 rfl (lv_room (Nat.le_of_ble_eq_true rfl)) dX9_pass_2 ⟨(Nat.le_of_ble_eq_true rfl), (Nat.le_of_ble_eq_true rfl)⟩) hP hS (fun H locs hP hS => ?_)
  have hP : va_P D vwCl [(h0, .inr (10, [.ref (q 0), .int (nI 0), .ref (q 1), .ref (q 2), .int (nI 0), .int (nI 0), .int 0, .int 0, .ref (q 3), .ref (q 4), .ref (q 5), .int (nI 0), .int (nI 0), .int (nI 0), .ref (q 6), .ref (q 7), .ref (q 8), .ref (q 9), .ref (q 10), .ref (q 11), .int (nI 0), .ref (q 12), .ref (q 13), .ref (q 14), .int 0, .ref (q 15), .ref (q 16), .ref (q 17), .int 0, .ref (q 18), .ref (q 19), .int 0]))] H := hP
  refine lv_if_ne (tgt := 10) hx hb dX9_pass_5 (by decide) (fun c5 => absurd rfl c5) (fun _ => ?_)
  refine lv_iconst (v := -1) hx hb dX9_pass_8 (by decide +kernel) ?_
  exact W.iret hx hb hr (fun t ht hW => ⟨⟨_, (), rfl, rfl, trivial⟩, hS.F ht⟩) hS.2.2 dX9_pass_9

set_option maxHeartbeats 4000000 in
set_option maxRecDepth 100000 in
theorem c_M_listed0 (l : Launch) (D : va_G) (cy : Nat → ClassId) (e : Nat → Nat) (h0 : Nat) (q : Nat → Nat) (i : Int32)  : Met l yX9_listed wsX9_listed ({ frames := 0, cells := 0, slots := 0, locals := 0 }) (va_Pc [.ref h0, .int i] (pu_B D cy e [(h0, .inr (10, [.ref (q 0), .int (nI 0), .ref (q 1), .ref (q 2), .int (nI 0), .int (nI 0), .int 0, .int 0, .ref (q 3), .ref (q 4), .ref (q 5), .int (nI 0), .int (nI 0), .int (nI 0), .ref (q 6), .ref (q 7), .ref (q 8), .ref (q 9), .ref (q 10), .ref (q 11), .int (nI 0), .ref (q 12), .ref (q 13), .ref (q 14), .int 0, .ref (q 15), .ref (q 16), .ref (q 17), .int 0, .ref (q 18), .ref (q 19), .int 0]))])) (va_Qi (fun (r : Int32) (_ : Unit) => r = -1) (fun _ _ => True) (fun _ => False)) 0 0 (fun _ => False) := by
  refine Met.ofW (cc := cX9_listed) (maxL := 4) (ret := (some .int)) (by decide) rfl ?_
  intro p ev s m args below meth c s₁ B hml hv
  obtain ⟨rfl, hP, hK, hG⟩ := hv
  have hx := B.exec
  have hb := B.bytes
  have hr := B.returns
  have hts := atoms_spec (ws := wsX9_listed) B.pre
  have hown : s.vm.findClass RX9 = some m.cls := findClass_of_methodNamed B.named
  have hlocks := B.notSynchronized
  have hS : va_S (fun _ => False) s.heap s.heap [] := va_S.rf
  have hP : va_P D vwCl [(h0, .inr (10, [.ref (q 0), .int (nI 0), .ref (q 1), .ref (q 2), .int (nI 0), .int (nI 0), .int 0, .int 0, .ref (q 3), .ref (q 4), .ref (q 5), .int (nI 0), .int (nI 0), .int (nI 0), .ref (q 6), .ref (q 7), .ref (q 8), .ref (q 9), .ref (q 10), .ref (q 11), .int (nI 0), .ref (q 12), .ref (q 13), .ref (q 14), .int 0, .ref (q 15), .ref (q 16), .ref (q 17), .int 0, .ref (q 18), .ref (q 19), .int 0]))] s.heap := hP
  have iX9 : ∀ w ∈ wsX90, w ∈ wsX9_listed := fun w h => List.mem_cons_of_mem _ (List.mem_append_right _ h)
  have hl := lv_entry ([.ref h0, .int i]) (n := 4) (Nat.le_of_ble_eq_true rfl)
  rw [lg_entry_eq]
  generalize (lg_sl ([.ref h0, .int i]) ++ List.replicate (4 - (lg_sl ([.ref h0, .int i])).length) Slot.unset).toArray = ls at hl ⊢
  have hl : lv_has ls 4 [(0, .ref h0), (1, .int i)] := hl
  refine lv_iload_n hx hb dX9_listed_0 rfl (lv_at hl 1 rfl) ?_
  refine lv_istore_n (lv' := [(2, .int i), (0, .ref h0), (1, .int i)]) hx hb dX9_listed_1 rfl hl (by decide) rfl (fun ls hl => ?_)
  refine lv_iconst (v := 0) hx hb dX9_listed_2 (by decide +kernel) ?_
  refine lv_istore_n (lv' := [(3, .int 0), (2, .int i), (0, .ref h0), (1, .int i)]) hx hb dX9_listed_3 rfl hl (by decide) rfl (fun ls hl => ?_)
  refine lv_iload_n hx hb dX9_listed_4 rfl (lv_at hl 0 rfl) ?_
  refine lv_aload_n hx hb dX9_listed_5 rfl (lv_at hl 2 rfl) ?_
  refine va_get (D := D) (ci := 10) (v := .int (nI 0)) (C := RX9) (T := TX9) (N := 32) hx hb hts iX9 hown hK hP 0 rfl rfl 20 (by decide) (hts (.fieldLink RX9 149 "InterlockTablesModel" "rows" "I") (by decide +kernel)) (fun _ h9 => h9) rfl dX9_listed_6 ?_
  refine lv_icmp_ge (tgt := 42) hx hb dX9_listed_9 (by decide) (fun _ => ?_) (fun c9 => absurd (by decide) c9)
  refine lv_iconst (v := -1) hx hb dX9_listed_42 (by decide +kernel) ?_
  exact W.iret hx hb hr (fun t ht hW => ⟨⟨_, (), rfl, rfl, trivial⟩, hS.F ht⟩) hS.2.2 dX9_listed_43

set_option maxHeartbeats 4000000 in
set_option maxRecDepth 100000 in
theorem c_M_reset0 (l : Launch) (D : va_G) (cy : Nat → ClassId) (e : Nat → Nat) (h0 : Nat) (q : Nat → Nat) (i : Int32)  : Met l yX9_reset wsX9_reset ({ frames := 1, cells := 0, slots := 0, locals := 21 }) (va_Pc [.ref h0, .int i] (pu_B D cy e [(h0, .inr (10, [.ref (q 0), .int (nI 0), .ref (q 1), .ref (q 2), .int (nI 0), .int (nI 0), .int 0, .int 0, .ref (q 3), .ref (q 4), .ref (q 5), .int (nI 0), .int (nI 0), .int (nI 0), .ref (q 6), .ref (q 7), .ref (q 8), .ref (q 9), .ref (q 10), .ref (q 11), .int (nI 0), .ref (q 12), .ref (q 13), .ref (q 14), .int 0, .ref (q 15), .ref (q 16), .ref (q 17), .int 0, .ref (q 18), .ref (q 19), .int 0]))])) (va_Qi (fun (r : Int32) (_ : Unit) => r = 0) (fun _ _ => True) (fun _ => False)) 0 0 (fun _ => False) := by
  refine Met.ofW (cc := cX9_reset) (maxL := 2) (ret := (some .boolean)) (by decide) rfl ?_
  intro p ev s m args below meth c s₁ B hml hv
  obtain ⟨rfl, hP, hK, hG⟩ := hv
  have hx := B.exec
  have hb := B.bytes
  have hr := B.returns
  have hts := atoms_spec (ws := wsX9_reset) B.pre
  have hown : s.vm.findClass RX9 = some m.cls := findClass_of_methodNamed B.named
  have hlocks := B.notSynchronized
  have hS : va_S (fun _ => False) s.heap s.heap [] := va_S.rf
  have hP : va_P D vwCl [(h0, .inr (10, [.ref (q 0), .int (nI 0), .ref (q 1), .ref (q 2), .int (nI 0), .int (nI 0), .int 0, .int 0, .ref (q 3), .ref (q 4), .ref (q 5), .int (nI 0), .int (nI 0), .int (nI 0), .ref (q 6), .ref (q 7), .ref (q 8), .ref (q 9), .ref (q 10), .ref (q 11), .int (nI 0), .ref (q 12), .ref (q 13), .ref (q 14), .int 0, .ref (q 15), .ref (q 16), .ref (q 17), .int 0, .ref (q 18), .ref (q 19), .int 0]))] s.heap := hP
  have iX9 : ∀ w ∈ wsX90, w ∈ wsX9_reset := fun w h => List.mem_cons_of_mem _ (List.mem_append_right _ h)
  have hl := lv_entry ([.ref h0, .int i]) (n := 2) (Nat.le_of_ble_eq_true rfl)
  rw [lg_entry_eq]
  generalize (lg_sl ([.ref h0, .int i]) ++ List.replicate (2 - (lg_sl ([.ref h0, .int i])).length) Slot.unset).toArray = ls at hl ⊢
  have hl : lv_has ls 2 [(0, .ref h0), (1, .int i)] := hl
  refine lv_aload_n hx hb dX9_reset_0 rfl (lv_at hl 0 rfl) ?_
  refine lv_iload_n hx hb dX9_reset_1 rfl (lv_at hl 1 rfl) ?_
  refine pu_calli (va_runV (As := [.int i]) (rest := []) ⟨hx, hb, hml, hown, hts⟩ (c_M_isRow0 l D cy e h0 q i ) (cwV 1 hts gX9_reset_X9_isRow rfl rfl rfl (by decide +kernel) ⟨Nat.le_of_ble_eq_true rfl, Nat.le_of_ble_eq_true rfl⟩) (pu_preV hP hK hS hG [0] rfl (q := (RX9, TX9, 32)) (ci := 10) (q0 := 0) rfl rfl) rfl rfl hl.1 rfl (lv_room (Nat.le_of_ble_eq_true rfl)) dX9_reset_2 ⟨(Nat.le_of_ble_eq_true rfl), (Nat.le_of_ble_eq_true rfl)⟩) hP hS (fun H locs hP hS => ?_)
  have hP : va_P D vwCl [(h0, .inr (10, [.ref (q 0), .int (nI 0), .ref (q 1), .ref (q 2), .int (nI 0), .int (nI 0), .int 0, .int 0, .ref (q 3), .ref (q 4), .ref (q 5), .int (nI 0), .int (nI 0), .int (nI 0), .ref (q 6), .ref (q 7), .ref (q 8), .ref (q 9), .ref (q 10), .ref (q 11), .int (nI 0), .ref (q 12), .ref (q 13), .ref (q 14), .int 0, .ref (q 15), .ref (q 16), .ref (q 17), .int 0, .ref (q 18), .ref (q 19), .int 0]))] H := hP
  refine lv_if_eq (tgt := 29) hx hb dX9_reset_5 (by decide) (fun _ => ?_) (fun c5 => absurd rfl c5)
  refine lv_iconst (v := 0) hx hb dX9_reset_29 (by decide +kernel) ?_
  exact W.zret hx hb hr rfl (fun t ht hW => ⟨⟨_, (), rfl, rfl, trivial⟩, hS.F ht⟩) hS.2.2 dX9_reset_30

set_option maxHeartbeats 4000000 in
set_option maxRecDepth 100000 in
theorem c_M_row0 (l : Launch) (D : va_G) (cy : Nat → ClassId) (e : Nat → Nat) (h0 : Nat) (q : Nat → Nat) (i : Int32) (w : Int32)  : Met l yX9_row wsX9_row ({ frames := 1, cells := 0, slots := 0, locals := 21 }) (va_Pc [.ref h0, .int i, .int w] (pu_B D cy e [(h0, .inr (10, [.ref (q 0), .int (nI 0), .ref (q 1), .ref (q 2), .int (nI 0), .int (nI 0), .int 0, .int 0, .ref (q 3), .ref (q 4), .ref (q 5), .int (nI 0), .int (nI 0), .int (nI 0), .ref (q 6), .ref (q 7), .ref (q 8), .ref (q 9), .ref (q 10), .ref (q 11), .int (nI 0), .ref (q 12), .ref (q 13), .ref (q 14), .int 0, .ref (q 15), .ref (q 16), .ref (q 17), .int 0, .ref (q 18), .ref (q 19), .int 0]))])) (va_Qi (fun (r : Int32) (_ : Unit) => r = -1) (fun _ _ => True) (fun _ => False)) 0 0 (fun _ => False) := by
  refine Met.ofW (cc := cX9_row) (maxL := 4) (ret := (some .int)) (by decide) rfl ?_
  intro p ev s m args below meth c s₁ B hml hv
  obtain ⟨rfl, hP, hK, hG⟩ := hv
  have hx := B.exec
  have hb := B.bytes
  have hr := B.returns
  have hts := atoms_spec (ws := wsX9_row) B.pre
  have hown : s.vm.findClass RX9 = some m.cls := findClass_of_methodNamed B.named
  have hlocks := B.notSynchronized
  have hS : va_S (fun _ => False) s.heap s.heap [] := va_S.rf
  have hP : va_P D vwCl [(h0, .inr (10, [.ref (q 0), .int (nI 0), .ref (q 1), .ref (q 2), .int (nI 0), .int (nI 0), .int 0, .int 0, .ref (q 3), .ref (q 4), .ref (q 5), .int (nI 0), .int (nI 0), .int (nI 0), .ref (q 6), .ref (q 7), .ref (q 8), .ref (q 9), .ref (q 10), .ref (q 11), .int (nI 0), .ref (q 12), .ref (q 13), .ref (q 14), .int 0, .ref (q 15), .ref (q 16), .ref (q 17), .int 0, .ref (q 18), .ref (q 19), .int 0]))] s.heap := hP
  have iX9 : ∀ w ∈ wsX90, w ∈ wsX9_row := fun w h => List.mem_cons_of_mem _ (List.mem_append_right _ h)
  have hl := lv_entry ([.ref h0, .int i, .int w]) (n := 4) (Nat.le_of_ble_eq_true rfl)
  rw [lg_entry_eq]
  generalize (lg_sl ([.ref h0, .int i, .int w]) ++ List.replicate (4 - (lg_sl ([.ref h0, .int i, .int w])).length) Slot.unset).toArray = ls at hl ⊢
  have hl : lv_has ls 4 [(0, .ref h0), (1, .int i), (2, .int w)] := hl
  refine lv_aload_n hx hb dX9_row_0 rfl (lv_at hl 0 rfl) ?_
  refine lv_iload_n hx hb dX9_row_1 rfl (lv_at hl 1 rfl) ?_
  refine pu_calli (va_runV (As := [.int i]) (rest := []) ⟨hx, hb, hml, hown, hts⟩ (c_M_isRow0 l D cy e h0 q i ) (cwV 1 hts gX9_row_X9_isRow rfl rfl rfl (by decide +kernel) ⟨Nat.le_of_ble_eq_true rfl, Nat.le_of_ble_eq_true rfl⟩) (pu_preV hP hK hS hG [0] rfl (q := (RX9, TX9, 32)) (ci := 10) (q0 := 0) rfl rfl) rfl rfl hl.1 rfl (lv_room (Nat.le_of_ble_eq_true rfl)) dX9_row_2 ⟨(Nat.le_of_ble_eq_true rfl), (Nat.le_of_ble_eq_true rfl)⟩) hP hS (fun H locs hP hS => ?_)
  have hP : va_P D vwCl [(h0, .inr (10, [.ref (q 0), .int (nI 0), .ref (q 1), .ref (q 2), .int (nI 0), .int (nI 0), .int 0, .int 0, .ref (q 3), .ref (q 4), .ref (q 5), .int (nI 0), .int (nI 0), .int (nI 0), .ref (q 6), .ref (q 7), .ref (q 8), .ref (q 9), .ref (q 10), .ref (q 11), .int (nI 0), .ref (q 12), .ref (q 13), .ref (q 14), .int 0, .ref (q 15), .ref (q 16), .ref (q 17), .int 0, .ref (q 18), .ref (q 19), .int 0]))] H := hP
  refine lv_if_ne (tgt := 10) hx hb dX9_row_5 (by decide) (fun c5 => absurd rfl c5) (fun _ => ?_)
  refine lv_iconst (v := -1) hx hb dX9_row_8 (by decide +kernel) ?_
  exact W.iret hx hb hr (fun t ht hW => ⟨⟨_, (), rfl, rfl, trivial⟩, hS.F ht⟩) hS.2.2 dX9_row_9

set_option maxHeartbeats 4000000 in
set_option maxRecDepth 100000 in
theorem c_M_testAll0 (l : Launch) (D : va_G) (cy : Nat → ClassId) (e : Nat → Nat) (h0 : Nat) (q : Nat → Nat) (sz : Nat)  : Met l yX9_testAll wsX9_testAll ({ frames := 0, cells := 0, slots := 0, locals := 0 }) (va_Pc [.ref h0] (mt_B D cy e [(h0, .inr (10, [.ref (q 0), .int (nI 0), .ref (q 1), .ref (q 2), .int (nI 0), .int (nI 0), .int 0, .int 0, .ref (q 3), .ref (q 4), .ref (q 5), .int (nI 0), .int (nI 0), .int (nI 0), .ref (q 6), .ref (q 7), .ref (q 8), .ref (q 9), .ref (q 10), .ref (q 11), .int (nI 0), .ref (q 12), .ref (q 13), .ref (q 14), .int 0, .ref (q 15), .ref (q 16), .ref (q 17), .int 0, .ref (q 18), .ref (q 19), .int 0]))] sz)) (va_Qv (fun (_ : Unit) => True) (mt_Q D (fun (_ : Unit) => [(h0, .inr (10, [.ref (q 0), .int (nI 0), .ref (q 1), .ref (q 2), .int (nI 0), .int (nI 0), .int 0, .int 0, .ref (q 3), .ref (q 4), .ref (q 5), .int (nI 0), .int (nI 0), .int (nI 0), .ref (q 6), .ref (q 7), .ref (q 8), .ref (q 9), .ref (q 10), .ref (q 11), .int (nI 0), .ref (q 12), .ref (q 13), .ref (q 14), .int 0, .ref (q 15), .ref (q 16), .ref (q 17), .int 1, .ref (q 18), .ref (q 19), .int 0]))]) (va_A [(h0, .inr (10, [.ref (q 0), .int (nI 0), .ref (q 1), .ref (q 2), .int (nI 0), .int (nI 0), .int 0, .int 0, .ref (q 3), .ref (q 4), .ref (q 5), .int (nI 0), .int (nI 0), .int (nI 0), .ref (q 6), .ref (q 7), .ref (q 8), .ref (q 9), .ref (q 10), .ref (q 11), .int (nI 0), .ref (q 12), .ref (q 13), .ref (q 14), .int 0, .ref (q 15), .ref (q 16), .ref (q 17), .int 0, .ref (q 18), .ref (q 19), .int 0]))] sz)) (va_A [(h0, .inr (10, [.ref (q 0), .int (nI 0), .ref (q 1), .ref (q 2), .int (nI 0), .int (nI 0), .int 0, .int 0, .ref (q 3), .ref (q 4), .ref (q 5), .int (nI 0), .int (nI 0), .int (nI 0), .ref (q 6), .ref (q 7), .ref (q 8), .ref (q 9), .ref (q 10), .ref (q 11), .int (nI 0), .ref (q 12), .ref (q 13), .ref (q 14), .int 0, .ref (q 15), .ref (q 16), .ref (q 17), .int 0, .ref (q 18), .ref (q 19), .int 0]))] sz)) (0) (0) (va_A [(h0, .inr (10, [.ref (q 0), .int (nI 0), .ref (q 1), .ref (q 2), .int (nI 0), .int (nI 0), .int 0, .int 0, .ref (q 3), .ref (q 4), .ref (q 5), .int (nI 0), .int (nI 0), .int (nI 0), .ref (q 6), .ref (q 7), .ref (q 8), .ref (q 9), .ref (q 10), .ref (q 11), .int (nI 0), .ref (q 12), .ref (q 13), .ref (q 14), .int 0, .ref (q 15), .ref (q 16), .ref (q 17), .int 0, .ref (q 18), .ref (q 19), .int 0]))] sz) := by
  refine Met.ofW (cc := cX9_testAll) (maxL := 7) (ret := none) (by decide) rfl ?_
  intro p ev s m args below meth c s₁ B hml hv
  obtain ⟨rfl, hsz, hP, hK, hD0, hG⟩ := hv
  have hx := B.exec
  have hb := B.bytes
  have hr := B.returns
  have hts := atoms_spec (ws := wsX9_testAll) B.pre
  have hown : s.vm.findClass RX9 = some m.cls := findClass_of_methodNamed B.named
  have hlocks := B.notSynchronized
  subst hsz
  have hD := hD0.self (sz := s.heap.size)
  generalize hAe : va_A [(h0, .inr (10, [.ref (q 0), .int (nI 0), .ref (q 1), .ref (q 2), .int (nI 0), .int (nI 0), .int 0, .int 0, .ref (q 3), .ref (q 4), .ref (q 5), .int (nI 0), .int (nI 0), .int (nI 0), .ref (q 6), .ref (q 7), .ref (q 8), .ref (q 9), .ref (q 10), .ref (q 11), .int (nI 0), .ref (q 12), .ref (q 13), .ref (q 14), .int 0, .ref (q 15), .ref (q 16), .ref (q 17), .int 0, .ref (q 18), .ref (q 19), .int 0]))] s.heap.size = A at hD hG ⊢
  have hA : ∀ q : Nat, s.heap.size ≤ q → A q := fun q h => by rw [← hAe]; exact Or.inr h
  have hS : va_S A s.heap s.heap [] := va_S.rf
  have hP : va_P D vwCl [(h0, .inr (10, [.ref (q 0), .int (nI 0), .ref (q 1), .ref (q 2), .int (nI 0), .int (nI 0), .int 0, .int 0, .ref (q 3), .ref (q 4), .ref (q 5), .int (nI 0), .int (nI 0), .int (nI 0), .ref (q 6), .ref (q 7), .ref (q 8), .ref (q 9), .ref (q 10), .ref (q 11), .int (nI 0), .ref (q 12), .ref (q 13), .ref (q 14), .int 0, .ref (q 15), .ref (q 16), .ref (q 17), .int 0, .ref (q 18), .ref (q 19), .int 0]))] s.heap := hP
  have iX9 : ∀ w ∈ wsX90, w ∈ wsX9_testAll := fun w h => List.mem_cons_of_mem _ (List.mem_append_right _ h)
  have hl := lv_entry ([.ref h0]) (n := 7) (Nat.le_of_ble_eq_true rfl)
  rw [lg_entry_eq]
  generalize (lg_sl ([.ref h0]) ++ List.replicate (7 - (lg_sl ([.ref h0])).length) Slot.unset).toArray = ls at hl ⊢
  have hl : lv_has ls 7 [(0, .ref h0)] := hl
  refine lv_iconst (v := 0) hx hb dX9_testAll_0 (by decide +kernel) ?_
  refine lv_istore_n (lv' := [(1, .int 0), (0, .ref h0)]) hx hb dX9_testAll_1 rfl hl (by decide) rfl (fun ls hl => ?_)
  refine lv_iload_n hx hb dX9_testAll_2 rfl (lv_at hl 0 rfl) ?_
  refine lv_aload_n hx hb dX9_testAll_3 rfl (lv_at hl 1 rfl) ?_
  refine va_get (D := D) (ci := 10) (v := .int (nI 0)) (C := RX9) (T := TX9) (N := 32) hx hb hts iX9 hown hK hP 0 rfl rfl 20 (by decide) (hts (.fieldLink RX9 149 "InterlockTablesModel" "rows" "I") (by decide +kernel)) (fun _ h9 => h9) rfl dX9_testAll_4 ?_
  refine lv_icmp_ge (tgt := 272) hx hb dX9_testAll_7 (by decide) (fun _ => ?_) (fun c7 => absurd (by decide) c7)
  refine lv_aload_n hx hb dX9_testAll_272 rfl (lv_at hl 1 rfl) ?_
  refine lv_iconst (v := 1) hx hb dX9_testAll_273 (by decide +kernel) ?_
  refine va_put (D := D) (ci := 10) (v := .int 1) (ty := .boolean) (C := RX9) (T := TX9) (N := 32) hx hb hts iX9 tyX9 tyX9_ok nmX9 hown hK hP hD hS 0 rfl rfl 28 (by decide) (hts (.fieldLink RX9 152 "InterlockTablesModel" "tested" "Z") (by decide +kernel)) (fun _ h9 => h9) rfl (by decide +kernel) rfl rfl (Nat.le_of_ble_eq_true rfl) dX9_testAll_274 (fun H locs hP hD hS => ?_)
  have hP : va_P D vwCl [(h0, .inr (10, [.ref (q 0), .int (nI 0), .ref (q 1), .ref (q 2), .int (nI 0), .int (nI 0), .int 0, .int 0, .ref (q 3), .ref (q 4), .ref (q 5), .int (nI 0), .int (nI 0), .int (nI 0), .ref (q 6), .ref (q 7), .ref (q 8), .ref (q 9), .ref (q 10), .ref (q 11), .int (nI 0), .ref (q 12), .ref (q 13), .ref (q 14), .int 0, .ref (q 15), .ref (q 16), .ref (q 17), .int 1, .ref (q 18), .ref (q 19), .int 0]))] H := hP
  have hD : va_D A [(h0, .inr (10, [.ref (q 0), .int (nI 0), .ref (q 1), .ref (q 2), .int (nI 0), .int (nI 0), .int 0, .int 0, .ref (q 3), .ref (q 4), .ref (q 5), .int (nI 0), .int (nI 0), .int (nI 0), .ref (q 6), .ref (q 7), .ref (q 8), .ref (q 9), .ref (q 10), .ref (q 11), .int (nI 0), .ref (q 12), .ref (q 13), .ref (q 14), .int 0, .ref (q 15), .ref (q 16), .ref (q 17), .int 1, .ref (q 18), .ref (q 19), .int 0]))] := hD
  have hP9 : va_P D vwCl [(h0, .inr (10, [.ref (q 0), .int (nI 0), .ref (q 1), .ref (q 2), .int (nI 0), .int (nI 0), .int 0, .int 0, .ref (q 3), .ref (q 4), .ref (q 5), .int (nI 0), .int (nI 0), .int (nI 0), .ref (q 6), .ref (q 7), .ref (q 8), .ref (q 9), .ref (q 10), .ref (q 11), .int (nI 0), .ref (q 12), .ref (q 13), .ref (q 14), .int 0, .ref (q 15), .ref (q 16), .ref (q 17), .int 1, .ref (q 18), .ref (q 19), .int 0]))] H := hP.sub [0] rfl
  have hD9 : va_D A [(h0, .inr (10, [.ref (q 0), .int (nI 0), .ref (q 1), .ref (q 2), .int (nI 0), .int (nI 0), .int 0, .int 0, .ref (q 3), .ref (q 4), .ref (q 5), .int (nI 0), .int (nI 0), .int (nI 0), .ref (q 6), .ref (q 7), .ref (q 8), .ref (q 9), .ref (q 10), .ref (q 11), .int (nI 0), .ref (q 12), .ref (q 13), .ref (q 14), .int 0, .ref (q 15), .ref (q 16), .ref (q 17), .int 1, .ref (q 18), .ref (q 19), .int 0]))] := hD.sub [0] (by decide) rfl
  refine W.widen (k := 0) (n := 0) (by omega) (by omega) ?_
  exact W.vret hx hb hr (fun t ht hW => ⟨⟨(), rfl, trivial, by rw [ht]; exact hP9, hD9⟩, hS.F ht⟩) hS.2.2 dX9_testAll_277

set_option maxHeartbeats 4000000 in
set_option maxRecDepth 100000 in
theorem c_M_test0 (l : Launch) (D : va_G) (cy : Nat → ClassId) (e : Nat → Nat) (h0 : Nat) (q : Nat → Nat) (i : Int32) (sz : Nat)  : Met l yX9_test wsX9_test ({ frames := 1, cells := 0, slots := 0, locals := 26 }) (va_Pc [.ref h0, .int i] (mt_B D cy e [(h0, .inr (10, [.ref (q 0), .int (nI 0), .ref (q 1), .ref (q 2), .int (nI 0), .int (nI 0), .int 0, .int 0, .ref (q 3), .ref (q 4), .ref (q 5), .int (nI 0), .int (nI 0), .int (nI 0), .ref (q 6), .ref (q 7), .ref (q 8), .ref (q 9), .ref (q 10), .ref (q 11), .int (nI 0), .ref (q 12), .ref (q 13), .ref (q 14), .int 0, .ref (q 15), .ref (q 16), .ref (q 17), .int 0, .ref (q 18), .ref (q 19), .int 0]))] sz)) (va_Qi (fun (r : Int32) (_ : Unit) => r = -1) (mt_Q D (fun (_ : Unit) => []) (va_A [(h0, .inr (10, [.ref (q 0), .int (nI 0), .ref (q 1), .ref (q 2), .int (nI 0), .int (nI 0), .int 0, .int 0, .ref (q 3), .ref (q 4), .ref (q 5), .int (nI 0), .int (nI 0), .int (nI 0), .ref (q 6), .ref (q 7), .ref (q 8), .ref (q 9), .ref (q 10), .ref (q 11), .int (nI 0), .ref (q 12), .ref (q 13), .ref (q 14), .int 0, .ref (q 15), .ref (q 16), .ref (q 17), .int 0, .ref (q 18), .ref (q 19), .int 0]))] sz)) (va_A [(h0, .inr (10, [.ref (q 0), .int (nI 0), .ref (q 1), .ref (q 2), .int (nI 0), .int (nI 0), .int 0, .int 0, .ref (q 3), .ref (q 4), .ref (q 5), .int (nI 0), .int (nI 0), .int (nI 0), .ref (q 6), .ref (q 7), .ref (q 8), .ref (q 9), .ref (q 10), .ref (q 11), .int (nI 0), .ref (q 12), .ref (q 13), .ref (q 14), .int 0, .ref (q 15), .ref (q 16), .ref (q 17), .int 0, .ref (q 18), .ref (q 19), .int 0]))] sz)) (0) (0) (va_A [(h0, .inr (10, [.ref (q 0), .int (nI 0), .ref (q 1), .ref (q 2), .int (nI 0), .int (nI 0), .int 0, .int 0, .ref (q 3), .ref (q 4), .ref (q 5), .int (nI 0), .int (nI 0), .int (nI 0), .ref (q 6), .ref (q 7), .ref (q 8), .ref (q 9), .ref (q 10), .ref (q 11), .int (nI 0), .ref (q 12), .ref (q 13), .ref (q 14), .int 0, .ref (q 15), .ref (q 16), .ref (q 17), .int 0, .ref (q 18), .ref (q 19), .int 0]))] sz) := by
  refine Met.ofW (cc := cX9_test) (maxL := 4) (ret := (some .int)) (by decide) rfl ?_
  intro p ev s m args below meth c s₁ B hml hv
  obtain ⟨rfl, hsz, hP, hK, hD0, hG⟩ := hv
  have hx := B.exec
  have hb := B.bytes
  have hr := B.returns
  have hts := atoms_spec (ws := wsX9_test) B.pre
  have hown : s.vm.findClass RX9 = some m.cls := findClass_of_methodNamed B.named
  have hlocks := B.notSynchronized
  subst hsz
  have hD := hD0.self (sz := s.heap.size)
  generalize hAe : va_A [(h0, .inr (10, [.ref (q 0), .int (nI 0), .ref (q 1), .ref (q 2), .int (nI 0), .int (nI 0), .int 0, .int 0, .ref (q 3), .ref (q 4), .ref (q 5), .int (nI 0), .int (nI 0), .int (nI 0), .ref (q 6), .ref (q 7), .ref (q 8), .ref (q 9), .ref (q 10), .ref (q 11), .int (nI 0), .ref (q 12), .ref (q 13), .ref (q 14), .int 0, .ref (q 15), .ref (q 16), .ref (q 17), .int 0, .ref (q 18), .ref (q 19), .int 0]))] s.heap.size = A at hD hG ⊢
  have hA : ∀ q : Nat, s.heap.size ≤ q → A q := fun q h => by rw [← hAe]; exact Or.inr h
  have hS : va_S A s.heap s.heap [] := va_S.rf
  have hP : va_P D vwCl [(h0, .inr (10, [.ref (q 0), .int (nI 0), .ref (q 1), .ref (q 2), .int (nI 0), .int (nI 0), .int 0, .int 0, .ref (q 3), .ref (q 4), .ref (q 5), .int (nI 0), .int (nI 0), .int (nI 0), .ref (q 6), .ref (q 7), .ref (q 8), .ref (q 9), .ref (q 10), .ref (q 11), .int (nI 0), .ref (q 12), .ref (q 13), .ref (q 14), .int 0, .ref (q 15), .ref (q 16), .ref (q 17), .int 0, .ref (q 18), .ref (q 19), .int 0]))] s.heap := hP
  have iX9 : ∀ w ∈ wsX90, w ∈ wsX9_test := fun w h => List.mem_cons_of_mem _ (List.mem_append_right _ h)
  have hl := lv_entry ([.ref h0, .int i]) (n := 4) (Nat.le_of_ble_eq_true rfl)
  rw [lg_entry_eq]
  generalize (lg_sl ([.ref h0, .int i]) ++ List.replicate (4 - (lg_sl ([.ref h0, .int i])).length) Slot.unset).toArray = ls at hl ⊢
  have hl : lv_has ls 4 [(0, .ref h0), (1, .int i)] := hl
  refine lv_aload_n hx hb dX9_test_0 rfl (lv_at hl 0 rfl) ?_
  refine va_get (D := D) (ci := 10) (v := .int 0) (C := RX9) (T := TX9) (N := 32) hx hb hts iX9 hown hK hP 0 rfl rfl 28 (by decide) (hts (.fieldLink RX9 152 "InterlockTablesModel" "tested" "Z") (by decide +kernel)) (fun _ h9 => h9) rfl dX9_test_1 ?_
  refine lv_if_ne (tgt := 11) hx hb dX9_test_4 (by decide) (fun c4 => absurd rfl c4) (fun _ => ?_)
  refine lv_aload_n hx hb dX9_test_7 rfl (lv_at hl 0 rfl) ?_
  refine mt_callv (wr := []) (va_runV (As := []) (rest := []) ⟨hx, hb, hml, hown, hts⟩ (c_M_testAll0 l D cy e h0 q s.heap.size ) (cwV 0 hts gX9_test_X9_testAll rfl rfl rfl (by decide +kernel) ⟨Nat.le_of_ble_eq_true rfl, Nat.le_of_ble_eq_true rfl⟩) (mt_preV hP hD hK hS hA hG [0] rfl (by decide) (q := (RX9, TX9, 32)) (ci := 10) (q0 := 0) rfl rfl) rfl rfl hl.1 rfl (lv_room (Nat.le_of_ble_eq_true rfl)) dX9_test_8 ⟨(Nat.le_of_ble_eq_true rfl), (Nat.le_of_ble_eq_true rfl)⟩) hP hD hS hA [0] [] rfl rfl (by decide) (by decide) (fun u H locs hw hP hD hS => ?_)
  have hP : va_P D vwCl [(h0, .inr (10, [.ref (q 0), .int (nI 0), .ref (q 1), .ref (q 2), .int (nI 0), .int (nI 0), .int 0, .int 0, .ref (q 3), .ref (q 4), .ref (q 5), .int (nI 0), .int (nI 0), .int (nI 0), .ref (q 6), .ref (q 7), .ref (q 8), .ref (q 9), .ref (q 10), .ref (q 11), .int (nI 0), .ref (q 12), .ref (q 13), .ref (q 14), .int 0, .ref (q 15), .ref (q 16), .ref (q 17), .int 1, .ref (q 18), .ref (q 19), .int 0]))] H := hP
  have hD : va_D A [(h0, .inr (10, [.ref (q 0), .int (nI 0), .ref (q 1), .ref (q 2), .int (nI 0), .int (nI 0), .int 0, .int 0, .ref (q 3), .ref (q 4), .ref (q 5), .int (nI 0), .int (nI 0), .int (nI 0), .ref (q 6), .ref (q 7), .ref (q 8), .ref (q 9), .ref (q 10), .ref (q 11), .int (nI 0), .ref (q 12), .ref (q 13), .ref (q 14), .int 0, .ref (q 15), .ref (q 16), .ref (q 17), .int 1, .ref (q 18), .ref (q 19), .int 0]))] := hD
  replace hw : True := hw
  refine W.widen (k := 0) (n := 0) (by omega) (by omega) ?_
  refine lv_iload_n hx hb dX9_test_11 rfl (lv_at hl 1 rfl) ?_
  refine lv_istore_n (lv' := [(2, .int i), (0, .ref h0), (1, .int i)]) hx hb dX9_test_12 rfl hl (by decide) rfl (fun ls hl => ?_)
  refine lv_iconst (v := 0) hx hb dX9_test_13 (by decide +kernel) ?_
  refine lv_istore_n (lv' := [(3, .int 0), (2, .int i), (0, .ref h0), (1, .int i)]) hx hb dX9_test_14 rfl hl (by decide) rfl (fun ls hl => ?_)
  refine lv_iload_n hx hb dX9_test_15 rfl (lv_at hl 0 rfl) ?_
  refine lv_aload_n hx hb dX9_test_16 rfl (lv_at hl 2 rfl) ?_
  refine va_get (D := D) (ci := 10) (v := .int (nI 0)) (C := RX9) (T := TX9) (N := 32) hx hb hts iX9 hown hK hP 0 rfl rfl 20 (by decide) (hts (.fieldLink RX9 149 "InterlockTablesModel" "rows" "I") (by decide +kernel)) (fun _ h9 => h9) rfl dX9_test_17 ?_
  refine lv_icmp_ge (tgt := 53) hx hb dX9_test_20 (by decide) (fun _ => ?_) (fun c20 => absurd (by decide) c20)
  refine lv_iconst (v := -1) hx hb dX9_test_53 (by decide +kernel) ?_
  have hP9 : va_P D vwCl [] H := hP.sub [] rfl
  have hD9 : va_D A [] := hD.sub [] (by decide) rfl
  refine W.widen (k := 0) (n := 0) (by omega) (by omega) ?_
  exact W.iret hx hb hr (fun t ht hW => ⟨⟨_, (), rfl, rfl, by rw [ht]; exact hP9, hD9⟩, hS.F ht⟩) hS.2.2 dX9_test_54

set_option maxHeartbeats 4000000 in
set_option maxRecDepth 100000 in
theorem c_M_write0 (l : Launch) (D : va_G) (cy : Nat → ClassId) (e : Nat → Nat) (h0 : Nat) (q : Nat → Nat) (i : Int32) (sz : Nat)  : Met l yX9_write wsX9_write ({ frames := 0, cells := 0, slots := 0, locals := 0 }) (va_Pc [.ref h0, .int i] (mt_B D cy e [(h0, .inr (10, [.ref (q 0), .int (nI 0), .ref (q 1), .ref (q 2), .int (nI 0), .int (nI 0), .int 0, .int 0, .ref (q 3), .ref (q 4), .ref (q 5), .int (nI 0), .int (nI 0), .int (nI 0), .ref (q 6), .ref (q 7), .ref (q 8), .ref (q 9), .ref (q 10), .ref (q 11), .int (nI 0), .ref (q 12), .ref (q 13), .ref (q 14), .int 0, .ref (q 15), .ref (q 16), .ref (q 17), .int 0, .ref (q 18), .ref (q 19), .int 0]))] sz)) (va_Qi (fun (r : Int32) (_ : Unit) => r = -1) (mt_Q D (fun (_ : Unit) => []) (va_A [(h0, .inr (10, [.ref (q 0), .int (nI 0), .ref (q 1), .ref (q 2), .int (nI 0), .int (nI 0), .int 0, .int 0, .ref (q 3), .ref (q 4), .ref (q 5), .int (nI 0), .int (nI 0), .int (nI 0), .ref (q 6), .ref (q 7), .ref (q 8), .ref (q 9), .ref (q 10), .ref (q 11), .int (nI 0), .ref (q 12), .ref (q 13), .ref (q 14), .int 0, .ref (q 15), .ref (q 16), .ref (q 17), .int 0, .ref (q 18), .ref (q 19), .int 0]))] sz)) (va_A [(h0, .inr (10, [.ref (q 0), .int (nI 0), .ref (q 1), .ref (q 2), .int (nI 0), .int (nI 0), .int 0, .int 0, .ref (q 3), .ref (q 4), .ref (q 5), .int (nI 0), .int (nI 0), .int (nI 0), .ref (q 6), .ref (q 7), .ref (q 8), .ref (q 9), .ref (q 10), .ref (q 11), .int (nI 0), .ref (q 12), .ref (q 13), .ref (q 14), .int 0, .ref (q 15), .ref (q 16), .ref (q 17), .int 0, .ref (q 18), .ref (q 19), .int 0]))] sz)) (0) (0) (va_A [(h0, .inr (10, [.ref (q 0), .int (nI 0), .ref (q 1), .ref (q 2), .int (nI 0), .int (nI 0), .int 0, .int 0, .ref (q 3), .ref (q 4), .ref (q 5), .int (nI 0), .int (nI 0), .int (nI 0), .ref (q 6), .ref (q 7), .ref (q 8), .ref (q 9), .ref (q 10), .ref (q 11), .int (nI 0), .ref (q 12), .ref (q 13), .ref (q 14), .int 0, .ref (q 15), .ref (q 16), .ref (q 17), .int 0, .ref (q 18), .ref (q 19), .int 0]))] sz) := by
  refine Met.ofW (cc := cX9_write) (maxL := 5) (ret := (some .int)) (by decide) rfl ?_
  intro p ev s m args below meth c s₁ B hml hv
  obtain ⟨rfl, hsz, hP, hK, hD0, hG⟩ := hv
  have hx := B.exec
  have hb := B.bytes
  have hr := B.returns
  have hts := atoms_spec (ws := wsX9_write) B.pre
  have hown : s.vm.findClass RX9 = some m.cls := findClass_of_methodNamed B.named
  have hlocks := B.notSynchronized
  subst hsz
  have hD := hD0.self (sz := s.heap.size)
  generalize hAe : va_A [(h0, .inr (10, [.ref (q 0), .int (nI 0), .ref (q 1), .ref (q 2), .int (nI 0), .int (nI 0), .int 0, .int 0, .ref (q 3), .ref (q 4), .ref (q 5), .int (nI 0), .int (nI 0), .int (nI 0), .ref (q 6), .ref (q 7), .ref (q 8), .ref (q 9), .ref (q 10), .ref (q 11), .int (nI 0), .ref (q 12), .ref (q 13), .ref (q 14), .int 0, .ref (q 15), .ref (q 16), .ref (q 17), .int 0, .ref (q 18), .ref (q 19), .int 0]))] s.heap.size = A at hD hG ⊢
  have hA : ∀ q : Nat, s.heap.size ≤ q → A q := fun q h => by rw [← hAe]; exact Or.inr h
  have hS : va_S A s.heap s.heap [] := va_S.rf
  have hP : va_P D vwCl [(h0, .inr (10, [.ref (q 0), .int (nI 0), .ref (q 1), .ref (q 2), .int (nI 0), .int (nI 0), .int 0, .int 0, .ref (q 3), .ref (q 4), .ref (q 5), .int (nI 0), .int (nI 0), .int (nI 0), .ref (q 6), .ref (q 7), .ref (q 8), .ref (q 9), .ref (q 10), .ref (q 11), .int (nI 0), .ref (q 12), .ref (q 13), .ref (q 14), .int 0, .ref (q 15), .ref (q 16), .ref (q 17), .int 0, .ref (q 18), .ref (q 19), .int 0]))] s.heap := hP
  have iX9 : ∀ w ∈ wsX90, w ∈ wsX9_write := fun w h => List.mem_cons_of_mem _ (List.mem_append_right _ h)
  have hl := lv_entry ([.ref h0, .int i]) (n := 5) (Nat.le_of_ble_eq_true rfl)
  rw [lg_entry_eq]
  generalize (lg_sl ([.ref h0, .int i]) ++ List.replicate (5 - (lg_sl ([.ref h0, .int i])).length) Slot.unset).toArray = ls at hl ⊢
  have hl : lv_has ls 5 [(0, .ref h0), (1, .int i)] := hl
  refine lv_aload_n hx hb dX9_write_0 rfl (lv_at hl 0 rfl) ?_
  refine lv_iconst (v := 0) hx hb dX9_write_1 (by decide +kernel) ?_
  refine va_put (D := D) (ci := 10) (v := .int 0) (ty := .int) (C := RX9) (T := TX9) (N := 32) hx hb hts iX9 tyX9 tyX9_ok nmX9 hown hK hP hD hS 0 rfl rfl 31 (by decide) (hts (.fieldLink RX9 205 "InterlockTablesModel" "length" "I") (by decide +kernel)) (fun _ h9 => h9) rfl (by decide +kernel) rfl rfl (Nat.le_of_ble_eq_true rfl) dX9_write_2 (fun H locs hP hD hS => ?_)
  have hP : va_P D vwCl [(h0, .inr (10, [.ref (q 0), .int (nI 0), .ref (q 1), .ref (q 2), .int (nI 0), .int (nI 0), .int 0, .int 0, .ref (q 3), .ref (q 4), .ref (q 5), .int (nI 0), .int (nI 0), .int (nI 0), .ref (q 6), .ref (q 7), .ref (q 8), .ref (q 9), .ref (q 10), .ref (q 11), .int (nI 0), .ref (q 12), .ref (q 13), .ref (q 14), .int 0, .ref (q 15), .ref (q 16), .ref (q 17), .int 0, .ref (q 18), .ref (q 19), .int 0]))] H := hP
  have hD : va_D A [(h0, .inr (10, [.ref (q 0), .int (nI 0), .ref (q 1), .ref (q 2), .int (nI 0), .int (nI 0), .int 0, .int 0, .ref (q 3), .ref (q 4), .ref (q 5), .int (nI 0), .int (nI 0), .int (nI 0), .ref (q 6), .ref (q 7), .ref (q 8), .ref (q 9), .ref (q 10), .ref (q 11), .int (nI 0), .ref (q 12), .ref (q 13), .ref (q 14), .int 0, .ref (q 15), .ref (q 16), .ref (q 17), .int 0, .ref (q 18), .ref (q 19), .int 0]))] := hD
  refine lv_iconst (v := 0) hx hb dX9_write_5 (by decide +kernel) ?_
  refine lv_istore_n (lv' := [(2, .int 0), (0, .ref h0), (1, .int i)]) hx hb dX9_write_6 rfl hl (by decide) rfl (fun ls hl => ?_)
  refine lv_iload_n hx hb dX9_write_7 rfl (lv_at hl 0 rfl) ?_
  refine lv_aload_n hx hb dX9_write_8 rfl (lv_at hl 1 rfl) ?_
  refine va_get (D := D) (ci := 10) (v := .int (nI 0)) (C := RX9) (T := TX9) (N := 32) hx hb hts iX9 hown hK hP 0 rfl rfl 20 (by decide) (hts (.fieldLink RX9 149 "InterlockTablesModel" "rows" "I") (by decide +kernel)) (fun _ h9 => h9) rfl dX9_write_9 ?_
  refine lv_icmp_ge (tgt := 159) hx hb dX9_write_12 (by decide) (fun _ => ?_) (fun c12 => absurd (by decide) c12)
  refine lv_iload_n hx hb dX9_write_159 rfl (lv_at hl 2 rfl) ?_
  refine lv_if_lt (tgt := 180) hx hb dX9_write_160 (by decide) (fun c160 => ?_) (fun c160 => ?_)
  · refine lv_iconst (v := -1) hx hb dX9_write_180 (by decide +kernel) ?_
    have hP9 : va_P D vwCl [] H := hP.sub [] rfl
    have hD9 : va_D A [] := hD.sub [] (by decide) rfl
    refine W.widen (k := 0) (n := 0) (by omega) (by omega) ?_
    exact W.iret hx hb hr (fun t ht hW => ⟨⟨_, (), rfl, rfl, by rw [ht]; exact hP9, hD9⟩, hS.F ht⟩) hS.2.2 dX9_write_181
  · refine lv_iload_n hx hb dX9_write_163 rfl (lv_at hl 2 rfl) ?_
    refine lv_aload_n hx hb dX9_write_164 rfl (lv_at hl 1 rfl) ?_
    refine va_get (D := D) (ci := 10) (v := .int 0) (C := RX9) (T := TX9) (N := 32) hx hb hts iX9 hown hK hP 0 rfl rfl 31 (by decide) (hts (.fieldLink RX9 205 "InterlockTablesModel" "length" "I") (by decide +kernel)) (fun _ h9 => h9) rfl dX9_write_165 ?_
    refine lv_icmp_ge (tgt := 180) hx hb dX9_write_168 (by decide) (fun _ => ?_) (fun c168 => absurd (pk_ge0 c160) c168)
    refine lv_iconst (v := -1) hx hb dX9_write_180 (by decide +kernel) ?_
    have hP9 : va_P D vwCl [] H := hP.sub [] rfl
    have hD9 : va_D A [] := hD.sub [] (by decide) rfl
    refine W.widen (k := 0) (n := 0) (by omega) (by omega) ?_
    exact W.iret hx hb hr (fun t ht hW => ⟨⟨_, (), rfl, rfl, by rw [ht]; exact hP9, hD9⟩, hS.F ht⟩) hS.2.2 dX9_write_181

set_option maxHeartbeats 4000000 in
set_option maxRecDepth 100000 in
theorem c_M_clear0 (l : Launch) (D : va_G) (cy : Nat → ClassId) (e : Nat → Nat) (h0 : Nat) (q : Nat → Nat) (sz : Nat)  : Met l yX9_clear wsX9_clear ({ frames := 0, cells := 0, slots := 0, locals := 0 }) (va_Pc [.ref h0] (mt_B D cy e [(h0, .inr (10, [.ref (q 0), .int (nI 0), .ref (q 1), .ref (q 2), .int (nI 0), .int (nI 0), .int 0, .int 0, .ref (q 3), .ref (q 4), .ref (q 5), .int (nI 0), .int (nI 0), .int (nI 0), .ref (q 6), .ref (q 7), .ref (q 8), .ref (q 9), .ref (q 10), .ref (q 11), .int (nI 0), .ref (q 12), .ref (q 13), .ref (q 14), .int 0, .ref (q 15), .ref (q 16), .ref (q 17), .int 0, .ref (q 18), .ref (q 19), .int 0]))] sz)) (va_Qv (fun (_ : Unit) => True) (mt_Q D (fun (_ : Unit) => []) (va_A [(h0, .inr (10, [.ref (q 0), .int (nI 0), .ref (q 1), .ref (q 2), .int (nI 0), .int (nI 0), .int 0, .int 0, .ref (q 3), .ref (q 4), .ref (q 5), .int (nI 0), .int (nI 0), .int (nI 0), .ref (q 6), .ref (q 7), .ref (q 8), .ref (q 9), .ref (q 10), .ref (q 11), .int (nI 0), .ref (q 12), .ref (q 13), .ref (q 14), .int 0, .ref (q 15), .ref (q 16), .ref (q 17), .int 0, .ref (q 18), .ref (q 19), .int 0]))] sz)) (va_A [(h0, .inr (10, [.ref (q 0), .int (nI 0), .ref (q 1), .ref (q 2), .int (nI 0), .int (nI 0), .int 0, .int 0, .ref (q 3), .ref (q 4), .ref (q 5), .int (nI 0), .int (nI 0), .int (nI 0), .ref (q 6), .ref (q 7), .ref (q 8), .ref (q 9), .ref (q 10), .ref (q 11), .int (nI 0), .ref (q 12), .ref (q 13), .ref (q 14), .int 0, .ref (q 15), .ref (q 16), .ref (q 17), .int 0, .ref (q 18), .ref (q 19), .int 0]))] sz)) (0) (0) (va_A [(h0, .inr (10, [.ref (q 0), .int (nI 0), .ref (q 1), .ref (q 2), .int (nI 0), .int (nI 0), .int 0, .int 0, .ref (q 3), .ref (q 4), .ref (q 5), .int (nI 0), .int (nI 0), .int (nI 0), .ref (q 6), .ref (q 7), .ref (q 8), .ref (q 9), .ref (q 10), .ref (q 11), .int (nI 0), .ref (q 12), .ref (q 13), .ref (q 14), .int 0, .ref (q 15), .ref (q 16), .ref (q 17), .int 0, .ref (q 18), .ref (q 19), .int 0]))] sz) := by
  refine Met.ofW (cc := cX9_clear) (maxL := 1) (ret := none) (by decide) rfl ?_
  intro p ev s m args below meth c s₁ B hml hv
  obtain ⟨rfl, hsz, hP, hK, hD0, hG⟩ := hv
  have hx := B.exec
  have hb := B.bytes
  have hr := B.returns
  have hts := atoms_spec (ws := wsX9_clear) B.pre
  have hown : s.vm.findClass RX9 = some m.cls := findClass_of_methodNamed B.named
  have hlocks := B.notSynchronized
  subst hsz
  have hD := hD0.self (sz := s.heap.size)
  generalize hAe : va_A [(h0, .inr (10, [.ref (q 0), .int (nI 0), .ref (q 1), .ref (q 2), .int (nI 0), .int (nI 0), .int 0, .int 0, .ref (q 3), .ref (q 4), .ref (q 5), .int (nI 0), .int (nI 0), .int (nI 0), .ref (q 6), .ref (q 7), .ref (q 8), .ref (q 9), .ref (q 10), .ref (q 11), .int (nI 0), .ref (q 12), .ref (q 13), .ref (q 14), .int 0, .ref (q 15), .ref (q 16), .ref (q 17), .int 0, .ref (q 18), .ref (q 19), .int 0]))] s.heap.size = A at hD hG ⊢
  have hA : ∀ q : Nat, s.heap.size ≤ q → A q := fun q h => by rw [← hAe]; exact Or.inr h
  have hS : va_S A s.heap s.heap [] := va_S.rf
  have hP : va_P D vwCl [(h0, .inr (10, [.ref (q 0), .int (nI 0), .ref (q 1), .ref (q 2), .int (nI 0), .int (nI 0), .int 0, .int 0, .ref (q 3), .ref (q 4), .ref (q 5), .int (nI 0), .int (nI 0), .int (nI 0), .ref (q 6), .ref (q 7), .ref (q 8), .ref (q 9), .ref (q 10), .ref (q 11), .int (nI 0), .ref (q 12), .ref (q 13), .ref (q 14), .int 0, .ref (q 15), .ref (q 16), .ref (q 17), .int 0, .ref (q 18), .ref (q 19), .int 0]))] s.heap := hP
  have iX9 : ∀ w ∈ wsX90, w ∈ wsX9_clear := fun w h => List.mem_cons_of_mem _ (List.mem_append_right _ h)
  have hl := lv_entry ([.ref h0]) (n := 1) (Nat.le_of_ble_eq_true rfl)
  rw [lg_entry_eq]
  generalize (lg_sl ([.ref h0]) ++ List.replicate (1 - (lg_sl ([.ref h0])).length) Slot.unset).toArray = ls at hl ⊢
  have hl : lv_has ls 1 [(0, .ref h0)] := hl
  refine lv_aload_n hx hb dX9_clear_0 rfl (lv_at hl 0 rfl) ?_
  refine lv_iconst (v := 0) hx hb dX9_clear_1 (by decide +kernel) ?_
  refine va_put (D := D) (ci := 10) (v := .int 0) (ty := .int) (C := RX9) (T := TX9) (N := 32) hx hb hts iX9 tyX9 tyX9_ok nmX9 hown hK hP hD hS 0 rfl rfl 20 (by decide) (hts (.fieldLink RX9 149 "InterlockTablesModel" "rows" "I") (by decide +kernel)) (fun _ h9 => h9) rfl (by decide +kernel) rfl rfl (Nat.le_of_ble_eq_true rfl) dX9_clear_2 (fun H locs hP hD hS => ?_)
  have hP : va_P D vwCl [(h0, .inr (10, [.ref (q 0), .int (nI 0), .ref (q 1), .ref (q 2), .int (nI 0), .int (nI 0), .int 0, .int 0, .ref (q 3), .ref (q 4), .ref (q 5), .int (nI 0), .int (nI 0), .int (nI 0), .ref (q 6), .ref (q 7), .ref (q 8), .ref (q 9), .ref (q 10), .ref (q 11), .int 0, .ref (q 12), .ref (q 13), .ref (q 14), .int 0, .ref (q 15), .ref (q 16), .ref (q 17), .int 0, .ref (q 18), .ref (q 19), .int 0]))] H := hP
  have hD : va_D A [(h0, .inr (10, [.ref (q 0), .int (nI 0), .ref (q 1), .ref (q 2), .int (nI 0), .int (nI 0), .int 0, .int 0, .ref (q 3), .ref (q 4), .ref (q 5), .int (nI 0), .int (nI 0), .int (nI 0), .ref (q 6), .ref (q 7), .ref (q 8), .ref (q 9), .ref (q 10), .ref (q 11), .int 0, .ref (q 12), .ref (q 13), .ref (q 14), .int 0, .ref (q 15), .ref (q 16), .ref (q 17), .int 0, .ref (q 18), .ref (q 19), .int 0]))] := hD
  refine lv_aload_n hx hb dX9_clear_5 rfl (lv_at hl 0 rfl) ?_
  refine lv_iconst (v := 0) hx hb dX9_clear_6 (by decide +kernel) ?_
  refine va_put (D := D) (ci := 10) (v := .int 0) (ty := .int) (C := RX9) (T := TX9) (N := 32) hx hb hts iX9 tyX9 tyX9_ok nmX9 hown hK hP hD hS 0 rfl rfl 1 (by decide) (hts (.fieldLink RX9 75 "InterlockTablesModel" "size" "I") (by decide +kernel)) (fun _ h9 => h9) rfl (by decide +kernel) rfl rfl (Nat.le_of_ble_eq_true rfl) dX9_clear_7 (fun H locs hP hD hS => ?_)
  have hP : va_P D vwCl [(h0, .inr (10, [.ref (q 0), .int 0, .ref (q 1), .ref (q 2), .int (nI 0), .int (nI 0), .int 0, .int 0, .ref (q 3), .ref (q 4), .ref (q 5), .int (nI 0), .int (nI 0), .int (nI 0), .ref (q 6), .ref (q 7), .ref (q 8), .ref (q 9), .ref (q 10), .ref (q 11), .int 0, .ref (q 12), .ref (q 13), .ref (q 14), .int 0, .ref (q 15), .ref (q 16), .ref (q 17), .int 0, .ref (q 18), .ref (q 19), .int 0]))] H := hP
  have hD : va_D A [(h0, .inr (10, [.ref (q 0), .int 0, .ref (q 1), .ref (q 2), .int (nI 0), .int (nI 0), .int 0, .int 0, .ref (q 3), .ref (q 4), .ref (q 5), .int (nI 0), .int (nI 0), .int (nI 0), .ref (q 6), .ref (q 7), .ref (q 8), .ref (q 9), .ref (q 10), .ref (q 11), .int 0, .ref (q 12), .ref (q 13), .ref (q 14), .int 0, .ref (q 15), .ref (q 16), .ref (q 17), .int 0, .ref (q 18), .ref (q 19), .int 0]))] := hD
  refine lv_aload_n hx hb dX9_clear_10 rfl (lv_at hl 0 rfl) ?_
  refine lv_iconst (v := 0) hx hb dX9_clear_11 (by decide +kernel) ?_
  refine va_put (D := D) (ci := 10) (v := .int 0) (ty := .boolean) (C := RX9) (T := TX9) (N := 32) hx hb hts iX9 tyX9 tyX9_ok nmX9 hown hK hP hD hS 0 rfl rfl 28 (by decide) (hts (.fieldLink RX9 152 "InterlockTablesModel" "tested" "Z") (by decide +kernel)) (fun _ h9 => h9) rfl (by decide +kernel) rfl rfl (Nat.le_of_ble_eq_true rfl) dX9_clear_12 (fun H locs hP hD hS => ?_)
  have hP : va_P D vwCl [(h0, .inr (10, [.ref (q 0), .int 0, .ref (q 1), .ref (q 2), .int (nI 0), .int (nI 0), .int 0, .int 0, .ref (q 3), .ref (q 4), .ref (q 5), .int (nI 0), .int (nI 0), .int (nI 0), .ref (q 6), .ref (q 7), .ref (q 8), .ref (q 9), .ref (q 10), .ref (q 11), .int 0, .ref (q 12), .ref (q 13), .ref (q 14), .int 0, .ref (q 15), .ref (q 16), .ref (q 17), .int 0, .ref (q 18), .ref (q 19), .int 0]))] H := hP
  have hD : va_D A [(h0, .inr (10, [.ref (q 0), .int 0, .ref (q 1), .ref (q 2), .int (nI 0), .int (nI 0), .int 0, .int 0, .ref (q 3), .ref (q 4), .ref (q 5), .int (nI 0), .int (nI 0), .int (nI 0), .ref (q 6), .ref (q 7), .ref (q 8), .ref (q 9), .ref (q 10), .ref (q 11), .int 0, .ref (q 12), .ref (q 13), .ref (q 14), .int 0, .ref (q 15), .ref (q 16), .ref (q 17), .int 0, .ref (q 18), .ref (q 19), .int 0]))] := hD
  have hP9 : va_P D vwCl [] H := hP.sub [] rfl
  have hD9 : va_D A [] := hD.sub [] (by decide) rfl
  refine W.widen (k := 0) (n := 0) (by omega) (by omega) ?_
  exact W.vret hx hb hr (fun t ht hW => ⟨⟨(), rfl, trivial, by rw [ht]; exact hP9, hD9⟩, hS.F ht⟩) hS.2.2 dX9_clear_15
