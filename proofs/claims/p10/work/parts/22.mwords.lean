set_option maxHeartbeats 4000000 in
set_option maxRecDepth 100000 in
/-- isSign -/
theorem c_M_isSign (l : Launch) (D : va_G) (cy : Nat → ClassId) (e : Nat → Nat)  (b : Int32)  : Met l yX9_isSign wsX9_isSign ({ frames := 0, cells := 0, slots := 0, locals := 0 }) (va_Pc [.int b] (pu_B D cy e [])) (va_Qi (fun (r : Int32) (_ : Unit) => r = if b = 40 ∨ b = 41 ∨ b = 59 then 1 else 0) (fun _ _ => True) (fun _ => False)) 0 0 (fun _ => False) := by
  refine Met.ofW (cc := cX9_isSign) (maxL := 1) (ret := (some .boolean)) (by decide) rfl ?_
  intro p ev s m args below meth c s₁ B hml hv
  obtain ⟨rfl, hP, hK, hG⟩ := hv
  have hx := B.exec
  have hb := B.bytes
  have hr := B.returns
  have hts := atoms_spec (ws := wsX9_isSign) B.pre
  have hown : s.vm.findClass RX9 = some m.cls := findClass_of_methodNamed B.named
  have hlocks := B.notSynchronized
  have hS : va_S (fun _ => False) s.heap s.heap [] := va_S.rf
  have hP : va_P D vwCl [] s.heap := hP
  have hl := lv_entry ([.int b]) (n := 1) (Nat.le_of_ble_eq_true rfl)
  rw [lg_entry_eq]
  generalize (lg_sl ([.int b]) ++ List.replicate (1 - (lg_sl ([.int b])).length) Slot.unset).toArray = ls at hl ⊢
  have hl : lv_has ls 1 [(0, .int b)] := hl
  refine lv_iload_n hx hb dX9_isSign_0 rfl (lv_at hl 0 rfl) ?_
  refine lv_bipush (v := 40) hx hb dX9_isSign_1 (by decide +kernel) ?_
  refine lv_icmp_eq (tgt := 18) hx hb dX9_isSign_3 (by decide) (fun c3 => ?_) (fun c3 => ?_)
  · refine lv_iconst (v := 1) hx hb dX9_isSign_18 (by decide +kernel) ?_
    refine lv_goto (tgt := 23) hx hb dX9_isSign_19 (by decide) ?_
    exact W.zret hx hb hr rfl (fun t ht hW => ⟨⟨_, (), rfl, by simp [c3], trivial⟩, hS.F ht⟩) hS.2.2 dX9_isSign_23
  · refine lv_iload_n hx hb dX9_isSign_6 rfl (lv_at hl 0 rfl) ?_
    refine lv_bipush (v := 41) hx hb dX9_isSign_7 (by decide +kernel) ?_
    refine lv_icmp_eq (tgt := 18) hx hb dX9_isSign_9 (by decide) (fun c9 => ?_) (fun c9 => ?_)
    · refine lv_iconst (v := 1) hx hb dX9_isSign_18 (by decide +kernel) ?_
      refine lv_goto (tgt := 23) hx hb dX9_isSign_19 (by decide) ?_
      exact W.zret hx hb hr rfl (fun t ht hW => ⟨⟨_, (), rfl, by simp [c3, c9], trivial⟩, hS.F ht⟩) hS.2.2 dX9_isSign_23
    · refine lv_iload_n hx hb dX9_isSign_12 rfl (lv_at hl 0 rfl) ?_
      refine lv_bipush (v := 59) hx hb dX9_isSign_13 (by decide +kernel) ?_
      refine lv_icmp_ne (tgt := 22) hx hb dX9_isSign_15 (by decide) (fun c15 => ?_) (fun c15 => ?_)
      · refine lv_iconst (v := 0) hx hb dX9_isSign_22 (by decide +kernel) ?_
        exact W.zret hx hb hr rfl (fun t ht hW => ⟨⟨_, (), rfl, by simp [c3, c9, c15], trivial⟩, hS.F ht⟩) hS.2.2 dX9_isSign_23
      · refine lv_iconst (v := 1) hx hb dX9_isSign_18 (by decide +kernel) ?_
        refine lv_goto (tgt := 23) hx hb dX9_isSign_19 (by decide) ?_
        exact W.zret hx hb hr rfl (fun t ht hW => ⟨⟨_, (), rfl, by simp [c3, c9, c15], trivial⟩, hS.F ht⟩) hS.2.2 dX9_isSign_23

set_option maxHeartbeats 4000000 in
set_option maxRecDepth 100000 in
/-- at(i): byte i of the word at next, 0 behind its end -/
theorem c_M_at (l : Launch) (D : va_G) (cy : Nat → ClassId) (e : Nat → Nat)  (h0 : Nat) (q : Nat → Nat) (wa : Nat) (i_size : Int32) (i_open : Int32) (i_stood : Int32) (i_nodes : Int32) (i_half : Int32) (i_made : Int32) (i_rows : Int32) (i_state : Int32) (i_tested : Int32) (i_length : Int32) (nx : Nat) (wd : Nat) (T : Nat → Int32) (Bf : Nat → Int32) (Ef : Nat → Int32) (Bn : Nat → Nat) (En : Nat → Nat) (i : Nat) (hwd : wd ≤ 3000) (hnx : nx ≤ wd) (hw : wo Bf Ef Bn En wd) (hi : i < 10000) : Met l yX9_at wsX9_at ({ frames := 0, cells := 0, slots := 0, locals := 0 }) (va_Pc [.ref h0, .int (nI i)] (pu_B D cy e [(h0, .inr (10, [.ref (q 0), .int i_size, .ref (q 1), .ref (q 2), .int (nI wd), .int (nI nx), .int i_open, .int i_stood, .ref (q 3), .ref (q 4), .ref (q 5), .int i_nodes, .int i_half, .int i_made, .ref (q 6), .ref (q 7), .ref (q 8), .ref (q 9), .ref (q 10), .ref (q 11), .int i_rows, .ref (q 12), .ref (q 13), .ref (q 14), .int i_state, .ref (q 15), .ref (q 16), .ref (q 17), .int i_tested, .ref (q 18), .ref wa, .int i_length])), (q 0, .inl (cy 0, 3000, .inl T)), (q 1, .inl (cy 1, 3001, .inl Bf)), (q 2, .inl (cy 1, 3001, .inl Ef))])) (va_Qi (fun (r : Int32) (_ : Unit) => r = ww T Bn En wd nx i) (fun _ _ => True) (fun _ => False)) 0 0 (fun _ => False) := by
  refine Met.ofW (cc := cX9_at) (maxL := 3) (ret := (some .int)) (by decide) rfl ?_
  intro p ev s m args below meth c s₁ B hml hv
  obtain ⟨rfl, hP, hK, hG⟩ := hv
  have hx := B.exec
  have hb := B.bytes
  have hr := B.returns
  have hts := atoms_spec (ws := wsX9_at) B.pre
  have hown : s.vm.findClass RX9 = some m.cls := findClass_of_methodNamed B.named
  have hlocks := B.notSynchronized
  have hS : va_S (fun _ => False) s.heap s.heap [] := va_S.rf
  have hP : va_P D vwCl [(h0, .inr (10, [.ref (q 0), .int i_size, .ref (q 1), .ref (q 2), .int (nI wd), .int (nI nx), .int i_open, .int i_stood, .ref (q 3), .ref (q 4), .ref (q 5), .int i_nodes, .int i_half, .int i_made, .ref (q 6), .ref (q 7), .ref (q 8), .ref (q 9), .ref (q 10), .ref (q 11), .int i_rows, .ref (q 12), .ref (q 13), .ref (q 14), .int i_state, .ref (q 15), .ref (q 16), .ref (q 17), .int i_tested, .ref (q 18), .ref wa, .int i_length])), (q 0, .inl (cy 0, 3000, .inl T)), (q 1, .inl (cy 1, 3001, .inl Bf)), (q 2, .inl (cy 1, 3001, .inl Ef))] s.heap := hP
  have iX9 : ∀ w ∈ wsX90, w ∈ wsX9_at := fun w h => List.mem_cons_of_mem _ (List.mem_append_right _ h)
  have hl := lv_entry ([.ref h0, .int (nI i)]) (n := 3) (Nat.le_of_ble_eq_true rfl)
  rw [lg_entry_eq]
  generalize (lg_sl ([.ref h0, .int (nI i)]) ++ List.replicate (3 - (lg_sl ([.ref h0, .int (nI i)])).length) Slot.unset).toArray = ls at hl ⊢
  have hl : lv_has ls 3 [(0, .ref h0), (1, .int (nI i))] := hl
  refine lv_aload_n hx hb dX9_at_0 rfl (lv_at hl 0 rfl) ?_
  refine va_get (D := D) (ci := 10) (v := .int (nI nx)) (C := RX9) (T := TX9) (N := 32) hx hb hts iX9 hown hK hP 0 rfl rfl 5 (by decide) (hts (.fieldLink RX9 86 "InterlockTablesModel" "next" "I") (by decide +kernel)) (fun _ h9 => h9) rfl dX9_at_1 ?_
  refine lv_aload_n hx hb dX9_at_4 rfl (lv_at hl 0 rfl) ?_
  refine va_get (D := D) (ci := 10) (v := .int (nI wd)) (C := RX9) (T := TX9) (N := 32) hx hb hts iX9 hown hK hP 0 rfl rfl 4 (by decide) (hts (.fieldLink RX9 79 "InterlockTablesModel" "words" "I") (by decide +kernel)) (fun _ h9 => h9) rfl dX9_at_5 ?_
  refine lv_icmp_ge (tgt := 25) hx hb dX9_at_8 (by decide) (fun c8 => ?_) (fun c8 => ?_)
  · refine lv_sipush (v := 3000) hx hb dX9_at_25 (by decide +kernel) ?_
    refine lv_istore_n (lv' := [(2, .int 3000), (0, .ref h0), (1, .int (nI i))]) hx hb dX9_at_28 rfl hl (by decide) rfl (fun ls hl => ?_)
    refine lv_aload_n hx hb dX9_at_29 rfl (lv_at hl 1 rfl) ?_
    refine va_get (D := D) (ci := 10) (v := .int (nI nx)) (C := RX9) (T := TX9) (N := 32) hx hb hts iX9 hown hK hP 0 rfl rfl 5 (by decide) (hts (.fieldLink RX9 86 "InterlockTablesModel" "next" "I") (by decide +kernel)) (fun _ h9 => h9) rfl dX9_at_30 ?_
    refine lv_aload_n hx hb dX9_at_33 rfl (lv_at hl 1 rfl) ?_
    refine va_get (D := D) (ci := 10) (v := .int (nI wd)) (C := RX9) (T := TX9) (N := 32) hx hb hts iX9 hown hK hP 0 rfl rfl 4 (by decide) (hts (.fieldLink RX9 79 "InterlockTablesModel" "words" "I") (by decide +kernel)) (fun _ h9 => h9) rfl dX9_at_34 ?_
    refine lv_icmp_ge (tgt := 62) hx hb dX9_at_37 (by decide) (fun _ => ?_) (fun c37 => absurd c8 c37)
    refine lv_iconst (v := 0) hx hb dX9_at_62 (by decide +kernel) ?_
    exact W.iret hx hb hr (fun t ht hW => ⟨⟨_, (), rfl, (ww_ge ((nI_leI (by omega) (by omega)).mp c8)).symm, trivial⟩, hS.F ht⟩) hS.2.2 dX9_at_63
  · refine lv_aload_n hx hb dX9_at_11 rfl (lv_at hl 0 rfl) ?_
    refine va_get (D := D) (ci := 10) (v := .ref (q 1)) (C := RX9) (T := TX9) (N := 32) hx hb hts iX9 hown hK hP 0 rfl rfl 2 (by decide) (hts (.fieldLink RX9 13 "InterlockTablesModel" "begins" "[I") (by decide +kernel)) (fun _ h9 => h9) rfl dX9_at_12 ?_
    refine lv_aload_n hx hb dX9_at_15 rfl (lv_at hl 0 rfl) ?_
    refine va_get (D := D) (ci := 10) (v := .int (nI nx)) (C := RX9) (T := TX9) (N := 32) hx hb hts iX9 hown hK hP 0 rfl rfl 5 (by decide) (hts (.fieldLink RX9 86 "InterlockTablesModel" "next" "I") (by decide +kernel)) (fun _ h9 => h9) rfl dX9_at_16 ?_
    refine va_iald hx hb hK hP 2 1 rfl rfl (vp_in_nI (by omega) (by omega)) dX9_at_19 ?_
    refine lv_topi (fun x_1 ex_1 => ?_)
    obtain rfl : x_1 = nI (Bn nx) := by rw [ex_1]; rw [nI_clamp (by omega)]; exact (hw nx (pk_nle (by omega) c8)).1
    refine lv_iload_n hx hb dX9_at_20 rfl (lv_at hl 1 rfl) ?_
    refine lv_iadd hx hb dX9_at_21 ?_
    refine lv_goto (tgt := 28) hx hb dX9_at_22 (by decide) ?_
    refine lv_topi (fun x_2 ex_2 => ?_)
    obtain rfl : x_2 = nI (Bn nx + i) := by rw [ex_2]; exact nI_add _ _
    refine lv_istore_n (lv' := [(2, .int (nI (Bn nx + i))), (0, .ref h0), (1, .int (nI i))]) hx hb dX9_at_28 rfl hl (by decide) rfl (fun ls hl => ?_)
    refine lv_aload_n hx hb dX9_at_29 rfl (lv_at hl 1 rfl) ?_
    refine va_get (D := D) (ci := 10) (v := .int (nI nx)) (C := RX9) (T := TX9) (N := 32) hx hb hts iX9 hown hK hP 0 rfl rfl 5 (by decide) (hts (.fieldLink RX9 86 "InterlockTablesModel" "next" "I") (by decide +kernel)) (fun _ h9 => h9) rfl dX9_at_30 ?_
    refine lv_aload_n hx hb dX9_at_33 rfl (lv_at hl 1 rfl) ?_
    refine va_get (D := D) (ci := 10) (v := .int (nI wd)) (C := RX9) (T := TX9) (N := 32) hx hb hts iX9 hown hK hP 0 rfl rfl 4 (by decide) (hts (.fieldLink RX9 79 "InterlockTablesModel" "words" "I") (by decide +kernel)) (fun _ h9 => h9) rfl dX9_at_34 ?_
    refine lv_icmp_ge (tgt := 62) hx hb dX9_at_37 (by decide) (fun c37 => absurd c37 c8) (fun _ => ?_)
    refine lv_iload_n hx hb dX9_at_40 rfl (lv_at hl 0 rfl) ?_
    refine lv_aload_n hx hb dX9_at_41 rfl (lv_at hl 1 rfl) ?_
    refine va_get (D := D) (ci := 10) (v := .ref (q 2)) (C := RX9) (T := TX9) (N := 32) hx hb hts iX9 hown hK hP 0 rfl rfl 3 (by decide) (hts (.fieldLink RX9 17 "InterlockTablesModel" "ends" "[I") (by decide +kernel)) (fun _ h9 => h9) rfl dX9_at_42 ?_
    refine lv_aload_n hx hb dX9_at_45 rfl (lv_at hl 1 rfl) ?_
    refine va_get (D := D) (ci := 10) (v := .int (nI nx)) (C := RX9) (T := TX9) (N := 32) hx hb hts iX9 hown hK hP 0 rfl rfl 5 (by decide) (hts (.fieldLink RX9 86 "InterlockTablesModel" "next" "I") (by decide +kernel)) (fun _ h9 => h9) rfl dX9_at_46 ?_
    refine va_iald hx hb hK hP 3 1 rfl rfl (vp_in_nI (by omega) (by omega)) dX9_at_49 ?_
    refine lv_topi (fun x_3 ex_3 => ?_)
    obtain rfl : x_3 = nI (En nx) := by rw [ex_3]; rw [nI_clamp (by omega)]; exact (hw nx (pk_nle (by omega) c8)).2.1
    refine lv_icmp_ge (tgt := 62) hx hb dX9_at_50 (by decide) (fun c50 => ?_) (fun c50 => ?_)
    · refine lv_iconst (v := 0) hx hb dX9_at_62 (by decide +kernel) ?_
      exact W.iret hx hb hr (fun t ht hW => ⟨⟨_, (), rfl, (ww_out ((nI_leI (by have := (hw nx (pk_nle (by omega) c8)).2.2; omega) (by have := (hw nx (pk_nle (by omega) c8)).2.2; omega)).mp c50)).symm, trivial⟩, hS.F ht⟩) hS.2.2 dX9_at_63
    · refine lv_aload_n hx hb dX9_at_53 rfl (lv_at hl 1 rfl) ?_
      refine va_get (D := D) (ci := 10) (v := .ref (q 0)) (C := RX9) (T := TX9) (N := 32) hx hb hts iX9 hown hK hP 0 rfl rfl 0 (by decide) (hts (.fieldLink RX9 9 "InterlockTablesModel" "text" "[B") (by decide +kernel)) (fun _ h9 => h9) rfl dX9_at_54 ?_
      refine lv_iload_n hx hb dX9_at_57 rfl (lv_at hl 0 rfl) ?_
      refine va_bald hx hb hK hP 1 0 rfl rfl (vp_in_nI (by have := (hw nx (pk_nle (by omega) c8)).2.2.2; have := pk_nle (by have := (hw nx (pk_nle (by omega) c8)).2.2; omega) c50; omega) (by omega)) dX9_at_58 ?_
      refine lv_topi (fun x_4 ex_4 => ?_)
      obtain rfl : x_4 = T (Bn nx + i) := by rw [ex_4]; rw [nI_clamp (by have := (hw nx (pk_nle (by omega) c8)).2.2; omega)]
      refine lv_goto (tgt := 63) hx hb dX9_at_59 (by decide) ?_
      exact W.iret hx hb hr (fun t ht hW => ⟨⟨_, (), rfl, (ww_in (pk_nle (by omega) c8) (pk_nle (by have := (hw nx (pk_nle (by omega) c8)).2.2; omega) c50)).symm, trivial⟩, hS.F ht⟩) hS.2.2 dX9_at_63

set_option maxHeartbeats 4000000 in
set_option maxRecDepth 100000 in
/-- wide -/
theorem c_M_wide (l : Launch) (D : va_G) (cy : Nat → ClassId) (e : Nat → Nat)  (h0 : Nat) (q : Nat → Nat) (wa : Nat) (i_size : Int32) (i_open : Int32) (i_stood : Int32) (i_nodes : Int32) (i_half : Int32) (i_made : Int32) (i_rows : Int32) (i_state : Int32) (i_tested : Int32) (i_length : Int32) (nx : Nat) (wd : Nat) (Bf : Nat → Int32) (Ef : Nat → Int32) (Bn : Nat → Nat) (En : Nat → Nat) (hwd : wd ≤ 3000) (hnx : nx ≤ wd) (hw : wo Bf Ef Bn En wd) : Met l yX9_wide wsX9_wide ({ frames := 0, cells := 0, slots := 0, locals := 0 }) (va_Pc [.ref h0] (pu_B D cy e [(h0, .inr (10, [.ref (q 0), .int i_size, .ref (q 1), .ref (q 2), .int (nI wd), .int (nI nx), .int i_open, .int i_stood, .ref (q 3), .ref (q 4), .ref (q 5), .int i_nodes, .int i_half, .int i_made, .ref (q 6), .ref (q 7), .ref (q 8), .ref (q 9), .ref (q 10), .ref (q 11), .int i_rows, .ref (q 12), .ref (q 13), .ref (q 14), .int i_state, .ref (q 15), .ref (q 16), .ref (q 17), .int i_tested, .ref (q 18), .ref wa, .int i_length])), (q 1, .inl (cy 1, 3001, .inl Bf)), (q 2, .inl (cy 1, 3001, .inl Ef))])) (va_Qi (fun (r : Int32) (_ : Unit) => r = nI (wl Bn En wd nx)) (fun _ _ => True) (fun _ => False)) 0 0 (fun _ => False) := by
  refine Met.ofW (cc := cX9_wide) (maxL := 1) (ret := (some .int)) (by decide) rfl ?_
  intro p ev s m args below meth c s₁ B hml hv
  obtain ⟨rfl, hP, hK, hG⟩ := hv
  have hx := B.exec
  have hb := B.bytes
  have hr := B.returns
  have hts := atoms_spec (ws := wsX9_wide) B.pre
  have hown : s.vm.findClass RX9 = some m.cls := findClass_of_methodNamed B.named
  have hlocks := B.notSynchronized
  have hS : va_S (fun _ => False) s.heap s.heap [] := va_S.rf
  have hP : va_P D vwCl [(h0, .inr (10, [.ref (q 0), .int i_size, .ref (q 1), .ref (q 2), .int (nI wd), .int (nI nx), .int i_open, .int i_stood, .ref (q 3), .ref (q 4), .ref (q 5), .int i_nodes, .int i_half, .int i_made, .ref (q 6), .ref (q 7), .ref (q 8), .ref (q 9), .ref (q 10), .ref (q 11), .int i_rows, .ref (q 12), .ref (q 13), .ref (q 14), .int i_state, .ref (q 15), .ref (q 16), .ref (q 17), .int i_tested, .ref (q 18), .ref wa, .int i_length])), (q 1, .inl (cy 1, 3001, .inl Bf)), (q 2, .inl (cy 1, 3001, .inl Ef))] s.heap := hP
  have iX9 : ∀ w ∈ wsX90, w ∈ wsX9_wide := fun w h => List.mem_cons_of_mem _ (List.mem_append_right _ h)
  have hl := lv_entry ([.ref h0]) (n := 1) (Nat.le_of_ble_eq_true rfl)
  rw [lg_entry_eq]
  generalize (lg_sl ([.ref h0]) ++ List.replicate (1 - (lg_sl ([.ref h0])).length) Slot.unset).toArray = ls at hl ⊢
  have hl : lv_has ls 1 [(0, .ref h0)] := hl
  refine lv_aload_n hx hb dX9_wide_0 rfl (lv_at hl 0 rfl) ?_
  refine va_get (D := D) (ci := 10) (v := .int (nI nx)) (C := RX9) (T := TX9) (N := 32) hx hb hts iX9 hown hK hP 0 rfl rfl 5 (by decide) (hts (.fieldLink RX9 86 "InterlockTablesModel" "next" "I") (by decide +kernel)) (fun _ h9 => h9) rfl dX9_wide_1 ?_
  refine lv_aload_n hx hb dX9_wide_4 rfl (lv_at hl 0 rfl) ?_
  refine va_get (D := D) (ci := 10) (v := .int (nI wd)) (C := RX9) (T := TX9) (N := 32) hx hb hts iX9 hown hK hP 0 rfl rfl 4 (by decide) (hts (.fieldLink RX9 79 "InterlockTablesModel" "words" "I") (by decide +kernel)) (fun _ h9 => h9) rfl dX9_wide_5 ?_
  refine lv_icmp_ge (tgt := 33) hx hb dX9_wide_8 (by decide) (fun c8 => ?_) (fun c8 => ?_)
  · refine lv_iconst (v := 0) hx hb dX9_wide_33 (by decide +kernel) ?_
    exact W.iret hx hb hr (fun t ht hW => ⟨⟨_, (), rfl, by rw [wl_ge ((nI_leI (by omega) (by omega)).mp c8)]; rfl, trivial⟩, hS.F ht⟩) hS.2.2 dX9_wide_34
  · refine lv_aload_n hx hb dX9_wide_11 rfl (lv_at hl 0 rfl) ?_
    refine va_get (D := D) (ci := 10) (v := .ref (q 2)) (C := RX9) (T := TX9) (N := 32) hx hb hts iX9 hown hK hP 0 rfl rfl 3 (by decide) (hts (.fieldLink RX9 17 "InterlockTablesModel" "ends" "[I") (by decide +kernel)) (fun _ h9 => h9) rfl dX9_wide_12 ?_
    refine lv_aload_n hx hb dX9_wide_15 rfl (lv_at hl 0 rfl) ?_
    refine va_get (D := D) (ci := 10) (v := .int (nI nx)) (C := RX9) (T := TX9) (N := 32) hx hb hts iX9 hown hK hP 0 rfl rfl 5 (by decide) (hts (.fieldLink RX9 86 "InterlockTablesModel" "next" "I") (by decide +kernel)) (fun _ h9 => h9) rfl dX9_wide_16 ?_
    refine va_iald hx hb hK hP 2 1 rfl rfl (vp_in_nI (by omega) (by omega)) dX9_wide_19 ?_
    refine lv_topi (fun x_1 ex_1 => ?_)
    obtain rfl : x_1 = nI (En nx) := by rw [ex_1]; rw [nI_clamp (by omega)]; exact (hw nx (pk_nle (by omega) c8)).2.1
    refine lv_aload_n hx hb dX9_wide_20 rfl (lv_at hl 0 rfl) ?_
    refine va_get (D := D) (ci := 10) (v := .ref (q 1)) (C := RX9) (T := TX9) (N := 32) hx hb hts iX9 hown hK hP 0 rfl rfl 2 (by decide) (hts (.fieldLink RX9 13 "InterlockTablesModel" "begins" "[I") (by decide +kernel)) (fun _ h9 => h9) rfl dX9_wide_21 ?_
    refine lv_aload_n hx hb dX9_wide_24 rfl (lv_at hl 0 rfl) ?_
    refine va_get (D := D) (ci := 10) (v := .int (nI nx)) (C := RX9) (T := TX9) (N := 32) hx hb hts iX9 hown hK hP 0 rfl rfl 5 (by decide) (hts (.fieldLink RX9 86 "InterlockTablesModel" "next" "I") (by decide +kernel)) (fun _ h9 => h9) rfl dX9_wide_25 ?_
    refine va_iald hx hb hK hP 1 1 rfl rfl (vp_in_nI (by omega) (by omega)) dX9_wide_28 ?_
    refine lv_topi (fun x_2 ex_2 => ?_)
    obtain rfl : x_2 = nI (Bn nx) := by rw [ex_2]; rw [nI_clamp (by omega)]; exact (hw nx (pk_nle (by omega) c8)).1
    refine lv_isub hx hb dX9_wide_29 ?_
    refine lv_topi (fun x_3 ex_3 => ?_)
    obtain rfl : x_3 = nI (En nx - Bn nx) := by rw [ex_3]; exact pk_sub (by have := (hw nx (pk_nle (by omega) c8)).2.2; omega)
    refine lv_goto (tgt := 34) hx hb dX9_wide_30 (by decide) ?_
    exact W.iret hx hb hr (fun t ht hW => ⟨⟨_, (), rfl, by rw [wl_in (pk_nle (by omega) c8)], trivial⟩, hS.F ht⟩) hS.2.2 dX9_wide_34

set_option maxHeartbeats 4000000 in
set_option maxRecDepth 100000 in
/-- is, for words of 2 bytes -/
theorem c_M_is2 (l : Launch) (D : va_G) (cy : Nat → ClassId) (e : Nat → Nat)  (h0 : Nat) (q : Nat → Nat) (wa : Nat) (i_size : Int32) (i_open : Int32) (i_stood : Int32) (i_nodes : Int32) (i_half : Int32) (i_made : Int32) (i_rows : Int32) (i_state : Int32) (i_tested : Int32) (i_length : Int32) (nx : Nat) (wd : Nat) (T : Nat → Int32) (Bf : Nat → Int32) (Ef : Nat → Int32) (Bn : Nat → Nat) (En : Nat → Nat) (a : Int32) (b : Int32) (c1 : Int32) (d : Int32) (e5 : Int32) (f : Int32) (g7 : Int32) (hwd : wd ≤ 3000) (hnx : nx ≤ wd) (hw : wo Bf Ef Bn En wd) : Met l yX9_is wsX9_is ({ frames := 1, cells := 0, slots := 0, locals := 22 }) (va_Pc [.ref h0, .int a, .int b, .int c1, .int d, .int e5, .int f, .int g7, .int 2] (pu_B D cy e [(h0, .inr (10, [.ref (q 0), .int i_size, .ref (q 1), .ref (q 2), .int (nI wd), .int (nI nx), .int i_open, .int i_stood, .ref (q 3), .ref (q 4), .ref (q 5), .int i_nodes, .int i_half, .int i_made, .ref (q 6), .ref (q 7), .ref (q 8), .ref (q 9), .ref (q 10), .ref (q 11), .int i_rows, .ref (q 12), .ref (q 13), .ref (q 14), .int i_state, .ref (q 15), .ref (q 16), .ref (q 17), .int i_tested, .ref (q 18), .ref wa, .int i_length])), (q 0, .inl (cy 0, 3000, .inl T)), (q 1, .inl (cy 1, 3001, .inl Bf)), (q 2, .inl (cy 1, 3001, .inl Ef))])) (va_Qi (fun (r : Int32) (_ : Unit) => r = isv2 (ww T Bn En wd nx) (wl Bn En wd nx) a b) (fun _ _ => True) (fun _ => False)) 0 0 (fun _ => False) := by
  refine Met.ofW (cc := cX9_is) (maxL := 9) (ret := (some .boolean)) (by decide) rfl ?_
  intro p ev s m args below meth c s₁ B hml hv
  obtain ⟨rfl, hP, hK, hG⟩ := hv
  have hx := B.exec
  have hb := B.bytes
  have hr := B.returns
  have hts := atoms_spec (ws := wsX9_is) B.pre
  have hown : s.vm.findClass RX9 = some m.cls := findClass_of_methodNamed B.named
  have hlocks := B.notSynchronized
  have hS : va_S (fun _ => False) s.heap s.heap [] := va_S.rf
  have hP : va_P D vwCl [(h0, .inr (10, [.ref (q 0), .int i_size, .ref (q 1), .ref (q 2), .int (nI wd), .int (nI nx), .int i_open, .int i_stood, .ref (q 3), .ref (q 4), .ref (q 5), .int i_nodes, .int i_half, .int i_made, .ref (q 6), .ref (q 7), .ref (q 8), .ref (q 9), .ref (q 10), .ref (q 11), .int i_rows, .ref (q 12), .ref (q 13), .ref (q 14), .int i_state, .ref (q 15), .ref (q 16), .ref (q 17), .int i_tested, .ref (q 18), .ref wa, .int i_length])), (q 0, .inl (cy 0, 3000, .inl T)), (q 1, .inl (cy 1, 3001, .inl Bf)), (q 2, .inl (cy 1, 3001, .inl Ef))] s.heap := hP
  have iX9 : ∀ w ∈ wsX90, w ∈ wsX9_is := fun w h => List.mem_cons_of_mem _ (List.mem_append_right _ h)
  have hl := lv_entry ([.ref h0, .int a, .int b, .int c1, .int d, .int e5, .int f, .int g7, .int 2]) (n := 9) (Nat.le_of_ble_eq_true rfl)
  rw [lg_entry_eq]
  generalize (lg_sl ([.ref h0, .int a, .int b, .int c1, .int d, .int e5, .int f, .int g7, .int 2]) ++ List.replicate (9 - (lg_sl ([.ref h0, .int a, .int b, .int c1, .int d, .int e5, .int f, .int g7, .int 2])).length) Slot.unset).toArray = ls at hl ⊢
  have hl : lv_has ls 9 [(0, .ref h0), (1, .int a), (2, .int b), (3, .int c1), (4, .int d), (5, .int e5), (6, .int f), (7, .int g7), (8, .int 2)] := hl
  refine lv_aload_n hx hb dX9_is_0 rfl (lv_at hl 0 rfl) ?_
  refine pu_calli (va_runV (As := []) (rest := []) ⟨hx, hb, hml, hown, hts⟩ (c_M_wide l D cy e h0 q wa i_size i_open i_stood i_nodes i_half i_made i_rows i_state i_tested i_length nx wd Bf Ef Bn En (by first | assumption | omega | decide +kernel) (by first | assumption | omega | decide +kernel) (by first | assumption | omega | decide +kernel)) (cwV 0 hts gX9_is_X9_wide rfl rfl rfl (by decide +kernel) ⟨Nat.le_of_ble_eq_true rfl, Nat.le_of_ble_eq_true rfl⟩) (pu_preV hP hK hS hG [0, 2, 3] rfl (q := (RX9, TX9, 32)) (ci := 10) (q0 := 0) rfl rfl) rfl rfl hl.1 rfl (lv_room (Nat.le_of_ble_eq_true rfl)) dX9_is_1 ⟨(Nat.le_of_ble_eq_true rfl), (Nat.le_of_ble_eq_true rfl)⟩) hP hS (fun H locs hP hS => ?_)
  have hP : va_P D vwCl [(h0, .inr (10, [.ref (q 0), .int i_size, .ref (q 1), .ref (q 2), .int (nI wd), .int (nI nx), .int i_open, .int i_stood, .ref (q 3), .ref (q 4), .ref (q 5), .int i_nodes, .int i_half, .int i_made, .ref (q 6), .ref (q 7), .ref (q 8), .ref (q 9), .ref (q 10), .ref (q 11), .int i_rows, .ref (q 12), .ref (q 13), .ref (q 14), .int i_state, .ref (q 15), .ref (q 16), .ref (q 17), .int i_tested, .ref (q 18), .ref wa, .int i_length])), (q 0, .inl (cy 0, 3000, .inl T)), (q 1, .inl (cy 1, 3001, .inl Bf)), (q 2, .inl (cy 1, 3001, .inl Ef))] H := hP
  refine lv_iload hx hb dX9_is_4 (lv_at hl 8 rfl) ?_
  refine lv_icmp_ne (tgt := 113) hx hb dX9_is_6 (by decide) (fun c6 => ?_) (fun c6 => ?_)
  · refine lv_iconst (v := 0) hx hb dX9_is_113 (by decide +kernel) ?_
    exact W.zret hx hb hr rfl (fun t ht hW => ⟨⟨_, (), rfl, by simp [isv2, c6], trivial⟩, hS.F ht⟩) hS.2.2 dX9_is_114
  · refine lv_aload_n hx hb dX9_is_9 rfl (lv_at hl 0 rfl) ?_
    refine lv_iconst (v := 0) hx hb dX9_is_10 (by decide +kernel) ?_
    refine lv_topi (fun x_1 ex_1 => ?_)
    obtain rfl : x_1 = nI 0 := by rw [ex_1]; exact nI_0.symm
    refine pu_calli (va_runV (As := [.int (nI 0)]) (rest := []) ⟨hx, hb, hml, hown, hts⟩ (c_M_at l D cy e h0 q wa i_size i_open i_stood i_nodes i_half i_made i_rows i_state i_tested i_length nx wd T Bf Ef Bn En 0 (by first | assumption | omega | decide +kernel) (by first | assumption | omega | decide +kernel) (by first | assumption | omega | decide +kernel) (by first | assumption | omega | decide +kernel)) (cwV 1 hts gX9_is_X9_at rfl rfl rfl (by decide +kernel) ⟨Nat.le_of_ble_eq_true rfl, Nat.le_of_ble_eq_true rfl⟩) (pu_preV hP hK hS hG [0, 1, 2, 3] rfl (q := (RX9, TX9, 32)) (ci := 10) (q0 := 0) rfl rfl) rfl rfl hl.1 rfl (lv_room (Nat.le_of_ble_eq_true rfl)) dX9_is_11 ⟨(Nat.le_of_ble_eq_true rfl), (Nat.le_of_ble_eq_true rfl)⟩) hP hS (fun H locs hP hS => ?_)
    have hP : va_P D vwCl [(h0, .inr (10, [.ref (q 0), .int i_size, .ref (q 1), .ref (q 2), .int (nI wd), .int (nI nx), .int i_open, .int i_stood, .ref (q 3), .ref (q 4), .ref (q 5), .int i_nodes, .int i_half, .int i_made, .ref (q 6), .ref (q 7), .ref (q 8), .ref (q 9), .ref (q 10), .ref (q 11), .int i_rows, .ref (q 12), .ref (q 13), .ref (q 14), .int i_state, .ref (q 15), .ref (q 16), .ref (q 17), .int i_tested, .ref (q 18), .ref wa, .int i_length])), (q 0, .inl (cy 0, 3000, .inl T)), (q 1, .inl (cy 1, 3001, .inl Bf)), (q 2, .inl (cy 1, 3001, .inl Ef))] H := hP
    refine lv_iload_n hx hb dX9_is_14 rfl (lv_at hl 1 rfl) ?_
    refine lv_icmp_ne (tgt := 113) hx hb dX9_is_15 (by decide) (fun c15 => ?_) (fun c15 => ?_)
    · refine lv_iconst (v := 0) hx hb dX9_is_113 (by decide +kernel) ?_
      exact W.zret hx hb hr rfl (fun t ht hW => ⟨⟨_, (), rfl, by simp [isv2, c6, c15], trivial⟩, hS.F ht⟩) hS.2.2 dX9_is_114
    · refine lv_aload_n hx hb dX9_is_18 rfl (lv_at hl 0 rfl) ?_
      refine lv_iconst (v := 1) hx hb dX9_is_19 (by decide +kernel) ?_
      refine lv_topi (fun x_2 ex_2 => ?_)
      obtain rfl : x_2 = nI 1 := ex_2
      refine pu_calli (va_runV (As := [.int (nI 1)]) (rest := []) ⟨hx, hb, hml, hown, hts⟩ (c_M_at l D cy e h0 q wa i_size i_open i_stood i_nodes i_half i_made i_rows i_state i_tested i_length nx wd T Bf Ef Bn En 1 (by first | assumption | omega | decide +kernel) (by first | assumption | omega | decide +kernel) (by first | assumption | omega | decide +kernel) (by first | assumption | omega | decide +kernel)) (cwV 1 hts gX9_is_X9_at rfl rfl rfl (by decide +kernel) ⟨Nat.le_of_ble_eq_true rfl, Nat.le_of_ble_eq_true rfl⟩) (pu_preV hP hK hS hG [0, 1, 2, 3] rfl (q := (RX9, TX9, 32)) (ci := 10) (q0 := 0) rfl rfl) rfl rfl hl.1 rfl (lv_room (Nat.le_of_ble_eq_true rfl)) dX9_is_20 ⟨(Nat.le_of_ble_eq_true rfl), (Nat.le_of_ble_eq_true rfl)⟩) hP hS (fun H locs hP hS => ?_)
      have hP : va_P D vwCl [(h0, .inr (10, [.ref (q 0), .int i_size, .ref (q 1), .ref (q 2), .int (nI wd), .int (nI nx), .int i_open, .int i_stood, .ref (q 3), .ref (q 4), .ref (q 5), .int i_nodes, .int i_half, .int i_made, .ref (q 6), .ref (q 7), .ref (q 8), .ref (q 9), .ref (q 10), .ref (q 11), .int i_rows, .ref (q 12), .ref (q 13), .ref (q 14), .int i_state, .ref (q 15), .ref (q 16), .ref (q 17), .int i_tested, .ref (q 18), .ref wa, .int i_length])), (q 0, .inl (cy 0, 3000, .inl T)), (q 1, .inl (cy 1, 3001, .inl Bf)), (q 2, .inl (cy 1, 3001, .inl Ef))] H := hP
      refine lv_iload_n hx hb dX9_is_23 rfl (lv_at hl 2 rfl) ?_
      refine lv_icmp_ne (tgt := 113) hx hb dX9_is_24 (by decide) (fun c24 => ?_) (fun c24 => ?_)
      · refine lv_iconst (v := 0) hx hb dX9_is_113 (by decide +kernel) ?_
        exact W.zret hx hb hr rfl (fun t ht hW => ⟨⟨_, (), rfl, by simp [isv2, c6, c15, c24], trivial⟩, hS.F ht⟩) hS.2.2 dX9_is_114
      · refine lv_iload hx hb dX9_is_27 (lv_at hl 8 rfl) ?_
        refine lv_iconst (v := 3) hx hb dX9_is_29 (by decide +kernel) ?_
        refine lv_icmp_lt (tgt := 42) hx hb dX9_is_30 (by decide) (fun _ => ?_) (fun c30 => absurd (by decide) c30)
        refine lv_iload hx hb dX9_is_42 (lv_at hl 8 rfl) ?_
        refine lv_iconst (v := 4) hx hb dX9_is_44 (by decide +kernel) ?_
        refine lv_icmp_lt (tgt := 58) hx hb dX9_is_45 (by decide) (fun _ => ?_) (fun c45 => absurd (by decide) c45)
        refine lv_iload hx hb dX9_is_58 (lv_at hl 8 rfl) ?_
        refine lv_iconst (v := 5) hx hb dX9_is_60 (by decide +kernel) ?_
        refine lv_icmp_lt (tgt := 74) hx hb dX9_is_61 (by decide) (fun _ => ?_) (fun c61 => absurd (by decide) c61)
        refine lv_iload hx hb dX9_is_74 (lv_at hl 8 rfl) ?_
        refine lv_bipush (v := 6) hx hb dX9_is_76 (by decide +kernel) ?_
        refine lv_icmp_lt (tgt := 91) hx hb dX9_is_78 (by decide) (fun _ => ?_) (fun c78 => absurd (by decide) c78)
        refine lv_iload hx hb dX9_is_91 (lv_at hl 8 rfl) ?_
        refine lv_bipush (v := 7) hx hb dX9_is_93 (by decide +kernel) ?_
        refine lv_icmp_lt (tgt := 109) hx hb dX9_is_95 (by decide) (fun _ => ?_) (fun c95 => absurd (by decide) c95)
        refine lv_iconst (v := 1) hx hb dX9_is_109 (by decide +kernel) ?_
        refine lv_goto (tgt := 114) hx hb dX9_is_110 (by decide) ?_
        exact W.zret hx hb hr rfl (fun t ht hW => ⟨⟨_, (), rfl, by simp [isv2, c6, c15, c24], trivial⟩, hS.F ht⟩) hS.2.2 dX9_is_114

set_option maxHeartbeats 4000000 in
set_option maxRecDepth 100000 in
/-- is, for words of 3 bytes -/
theorem c_M_is3 (l : Launch) (D : va_G) (cy : Nat → ClassId) (e : Nat → Nat)  (h0 : Nat) (q : Nat → Nat) (wa : Nat) (i_size : Int32) (i_open : Int32) (i_stood : Int32) (i_nodes : Int32) (i_half : Int32) (i_made : Int32) (i_rows : Int32) (i_state : Int32) (i_tested : Int32) (i_length : Int32) (nx : Nat) (wd : Nat) (T : Nat → Int32) (Bf : Nat → Int32) (Ef : Nat → Int32) (Bn : Nat → Nat) (En : Nat → Nat) (a : Int32) (b : Int32) (c1 : Int32) (d : Int32) (e5 : Int32) (f : Int32) (g7 : Int32) (hwd : wd ≤ 3000) (hnx : nx ≤ wd) (hw : wo Bf Ef Bn En wd) : Met l yX9_is wsX9_is ({ frames := 1, cells := 0, slots := 0, locals := 22 }) (va_Pc [.ref h0, .int a, .int b, .int c1, .int d, .int e5, .int f, .int g7, .int 3] (pu_B D cy e [(h0, .inr (10, [.ref (q 0), .int i_size, .ref (q 1), .ref (q 2), .int (nI wd), .int (nI nx), .int i_open, .int i_stood, .ref (q 3), .ref (q 4), .ref (q 5), .int i_nodes, .int i_half, .int i_made, .ref (q 6), .ref (q 7), .ref (q 8), .ref (q 9), .ref (q 10), .ref (q 11), .int i_rows, .ref (q 12), .ref (q 13), .ref (q 14), .int i_state, .ref (q 15), .ref (q 16), .ref (q 17), .int i_tested, .ref (q 18), .ref wa, .int i_length])), (q 0, .inl (cy 0, 3000, .inl T)), (q 1, .inl (cy 1, 3001, .inl Bf)), (q 2, .inl (cy 1, 3001, .inl Ef))])) (va_Qi (fun (r : Int32) (_ : Unit) => r = isv3 (ww T Bn En wd nx) (wl Bn En wd nx) a b c1) (fun _ _ => True) (fun _ => False)) 0 0 (fun _ => False) := by
  refine Met.ofW (cc := cX9_is) (maxL := 9) (ret := (some .boolean)) (by decide) rfl ?_
  intro p ev s m args below meth c s₁ B hml hv
  obtain ⟨rfl, hP, hK, hG⟩ := hv
  have hx := B.exec
  have hb := B.bytes
  have hr := B.returns
  have hts := atoms_spec (ws := wsX9_is) B.pre
  have hown : s.vm.findClass RX9 = some m.cls := findClass_of_methodNamed B.named
  have hlocks := B.notSynchronized
  have hS : va_S (fun _ => False) s.heap s.heap [] := va_S.rf
  have hP : va_P D vwCl [(h0, .inr (10, [.ref (q 0), .int i_size, .ref (q 1), .ref (q 2), .int (nI wd), .int (nI nx), .int i_open, .int i_stood, .ref (q 3), .ref (q 4), .ref (q 5), .int i_nodes, .int i_half, .int i_made, .ref (q 6), .ref (q 7), .ref (q 8), .ref (q 9), .ref (q 10), .ref (q 11), .int i_rows, .ref (q 12), .ref (q 13), .ref (q 14), .int i_state, .ref (q 15), .ref (q 16), .ref (q 17), .int i_tested, .ref (q 18), .ref wa, .int i_length])), (q 0, .inl (cy 0, 3000, .inl T)), (q 1, .inl (cy 1, 3001, .inl Bf)), (q 2, .inl (cy 1, 3001, .inl Ef))] s.heap := hP
  have iX9 : ∀ w ∈ wsX90, w ∈ wsX9_is := fun w h => List.mem_cons_of_mem _ (List.mem_append_right _ h)
  have hl := lv_entry ([.ref h0, .int a, .int b, .int c1, .int d, .int e5, .int f, .int g7, .int 3]) (n := 9) (Nat.le_of_ble_eq_true rfl)
  rw [lg_entry_eq]
  generalize (lg_sl ([.ref h0, .int a, .int b, .int c1, .int d, .int e5, .int f, .int g7, .int 3]) ++ List.replicate (9 - (lg_sl ([.ref h0, .int a, .int b, .int c1, .int d, .int e5, .int f, .int g7, .int 3])).length) Slot.unset).toArray = ls at hl ⊢
  have hl : lv_has ls 9 [(0, .ref h0), (1, .int a), (2, .int b), (3, .int c1), (4, .int d), (5, .int e5), (6, .int f), (7, .int g7), (8, .int 3)] := hl
  refine lv_aload_n hx hb dX9_is_0 rfl (lv_at hl 0 rfl) ?_
  refine pu_calli (va_runV (As := []) (rest := []) ⟨hx, hb, hml, hown, hts⟩ (c_M_wide l D cy e h0 q wa i_size i_open i_stood i_nodes i_half i_made i_rows i_state i_tested i_length nx wd Bf Ef Bn En (by first | assumption | omega | decide +kernel) (by first | assumption | omega | decide +kernel) (by first | assumption | omega | decide +kernel)) (cwV 0 hts gX9_is_X9_wide rfl rfl rfl (by decide +kernel) ⟨Nat.le_of_ble_eq_true rfl, Nat.le_of_ble_eq_true rfl⟩) (pu_preV hP hK hS hG [0, 2, 3] rfl (q := (RX9, TX9, 32)) (ci := 10) (q0 := 0) rfl rfl) rfl rfl hl.1 rfl (lv_room (Nat.le_of_ble_eq_true rfl)) dX9_is_1 ⟨(Nat.le_of_ble_eq_true rfl), (Nat.le_of_ble_eq_true rfl)⟩) hP hS (fun H locs hP hS => ?_)
  have hP : va_P D vwCl [(h0, .inr (10, [.ref (q 0), .int i_size, .ref (q 1), .ref (q 2), .int (nI wd), .int (nI nx), .int i_open, .int i_stood, .ref (q 3), .ref (q 4), .ref (q 5), .int i_nodes, .int i_half, .int i_made, .ref (q 6), .ref (q 7), .ref (q 8), .ref (q 9), .ref (q 10), .ref (q 11), .int i_rows, .ref (q 12), .ref (q 13), .ref (q 14), .int i_state, .ref (q 15), .ref (q 16), .ref (q 17), .int i_tested, .ref (q 18), .ref wa, .int i_length])), (q 0, .inl (cy 0, 3000, .inl T)), (q 1, .inl (cy 1, 3001, .inl Bf)), (q 2, .inl (cy 1, 3001, .inl Ef))] H := hP
  refine lv_iload hx hb dX9_is_4 (lv_at hl 8 rfl) ?_
  refine lv_icmp_ne (tgt := 113) hx hb dX9_is_6 (by decide) (fun c6 => ?_) (fun c6 => ?_)
  · refine lv_iconst (v := 0) hx hb dX9_is_113 (by decide +kernel) ?_
    exact W.zret hx hb hr rfl (fun t ht hW => ⟨⟨_, (), rfl, by simp [isv3, c6], trivial⟩, hS.F ht⟩) hS.2.2 dX9_is_114
  · refine lv_aload_n hx hb dX9_is_9 rfl (lv_at hl 0 rfl) ?_
    refine lv_iconst (v := 0) hx hb dX9_is_10 (by decide +kernel) ?_
    refine lv_topi (fun x_1 ex_1 => ?_)
    obtain rfl : x_1 = nI 0 := by rw [ex_1]; exact nI_0.symm
    refine pu_calli (va_runV (As := [.int (nI 0)]) (rest := []) ⟨hx, hb, hml, hown, hts⟩ (c_M_at l D cy e h0 q wa i_size i_open i_stood i_nodes i_half i_made i_rows i_state i_tested i_length nx wd T Bf Ef Bn En 0 (by first | assumption | omega | decide +kernel) (by first | assumption | omega | decide +kernel) (by first | assumption | omega | decide +kernel) (by first | assumption | omega | decide +kernel)) (cwV 1 hts gX9_is_X9_at rfl rfl rfl (by decide +kernel) ⟨Nat.le_of_ble_eq_true rfl, Nat.le_of_ble_eq_true rfl⟩) (pu_preV hP hK hS hG [0, 1, 2, 3] rfl (q := (RX9, TX9, 32)) (ci := 10) (q0 := 0) rfl rfl) rfl rfl hl.1 rfl (lv_room (Nat.le_of_ble_eq_true rfl)) dX9_is_11 ⟨(Nat.le_of_ble_eq_true rfl), (Nat.le_of_ble_eq_true rfl)⟩) hP hS (fun H locs hP hS => ?_)
    have hP : va_P D vwCl [(h0, .inr (10, [.ref (q 0), .int i_size, .ref (q 1), .ref (q 2), .int (nI wd), .int (nI nx), .int i_open, .int i_stood, .ref (q 3), .ref (q 4), .ref (q 5), .int i_nodes, .int i_half, .int i_made, .ref (q 6), .ref (q 7), .ref (q 8), .ref (q 9), .ref (q 10), .ref (q 11), .int i_rows, .ref (q 12), .ref (q 13), .ref (q 14), .int i_state, .ref (q 15), .ref (q 16), .ref (q 17), .int i_tested, .ref (q 18), .ref wa, .int i_length])), (q 0, .inl (cy 0, 3000, .inl T)), (q 1, .inl (cy 1, 3001, .inl Bf)), (q 2, .inl (cy 1, 3001, .inl Ef))] H := hP
    refine lv_iload_n hx hb dX9_is_14 rfl (lv_at hl 1 rfl) ?_
    refine lv_icmp_ne (tgt := 113) hx hb dX9_is_15 (by decide) (fun c15 => ?_) (fun c15 => ?_)
    · refine lv_iconst (v := 0) hx hb dX9_is_113 (by decide +kernel) ?_
      exact W.zret hx hb hr rfl (fun t ht hW => ⟨⟨_, (), rfl, by simp [isv3, c6, c15], trivial⟩, hS.F ht⟩) hS.2.2 dX9_is_114
    · refine lv_aload_n hx hb dX9_is_18 rfl (lv_at hl 0 rfl) ?_
      refine lv_iconst (v := 1) hx hb dX9_is_19 (by decide +kernel) ?_
      refine lv_topi (fun x_2 ex_2 => ?_)
      obtain rfl : x_2 = nI 1 := ex_2
      refine pu_calli (va_runV (As := [.int (nI 1)]) (rest := []) ⟨hx, hb, hml, hown, hts⟩ (c_M_at l D cy e h0 q wa i_size i_open i_stood i_nodes i_half i_made i_rows i_state i_tested i_length nx wd T Bf Ef Bn En 1 (by first | assumption | omega | decide +kernel) (by first | assumption | omega | decide +kernel) (by first | assumption | omega | decide +kernel) (by first | assumption | omega | decide +kernel)) (cwV 1 hts gX9_is_X9_at rfl rfl rfl (by decide +kernel) ⟨Nat.le_of_ble_eq_true rfl, Nat.le_of_ble_eq_true rfl⟩) (pu_preV hP hK hS hG [0, 1, 2, 3] rfl (q := (RX9, TX9, 32)) (ci := 10) (q0 := 0) rfl rfl) rfl rfl hl.1 rfl (lv_room (Nat.le_of_ble_eq_true rfl)) dX9_is_20 ⟨(Nat.le_of_ble_eq_true rfl), (Nat.le_of_ble_eq_true rfl)⟩) hP hS (fun H locs hP hS => ?_)
      have hP : va_P D vwCl [(h0, .inr (10, [.ref (q 0), .int i_size, .ref (q 1), .ref (q 2), .int (nI wd), .int (nI nx), .int i_open, .int i_stood, .ref (q 3), .ref (q 4), .ref (q 5), .int i_nodes, .int i_half, .int i_made, .ref (q 6), .ref (q 7), .ref (q 8), .ref (q 9), .ref (q 10), .ref (q 11), .int i_rows, .ref (q 12), .ref (q 13), .ref (q 14), .int i_state, .ref (q 15), .ref (q 16), .ref (q 17), .int i_tested, .ref (q 18), .ref wa, .int i_length])), (q 0, .inl (cy 0, 3000, .inl T)), (q 1, .inl (cy 1, 3001, .inl Bf)), (q 2, .inl (cy 1, 3001, .inl Ef))] H := hP
      refine lv_iload_n hx hb dX9_is_23 rfl (lv_at hl 2 rfl) ?_
      refine lv_icmp_ne (tgt := 113) hx hb dX9_is_24 (by decide) (fun c24 => ?_) (fun c24 => ?_)
      · refine lv_iconst (v := 0) hx hb dX9_is_113 (by decide +kernel) ?_
        exact W.zret hx hb hr rfl (fun t ht hW => ⟨⟨_, (), rfl, by simp [isv3, c6, c15, c24], trivial⟩, hS.F ht⟩) hS.2.2 dX9_is_114
      · refine lv_iload hx hb dX9_is_27 (lv_at hl 8 rfl) ?_
        refine lv_iconst (v := 3) hx hb dX9_is_29 (by decide +kernel) ?_
        refine lv_icmp_lt (tgt := 42) hx hb dX9_is_30 (by decide) (fun c30 => absurd c30 (by decide)) (fun _ => ?_)
        refine lv_aload_n hx hb dX9_is_33 rfl (lv_at hl 0 rfl) ?_
        refine lv_iconst (v := 2) hx hb dX9_is_34 (by decide +kernel) ?_
        refine lv_topi (fun x_3 ex_3 => ?_)
        obtain rfl : x_3 = nI 2 := ex_3
        refine pu_calli (va_runV (As := [.int (nI 2)]) (rest := []) ⟨hx, hb, hml, hown, hts⟩ (c_M_at l D cy e h0 q wa i_size i_open i_stood i_nodes i_half i_made i_rows i_state i_tested i_length nx wd T Bf Ef Bn En 2 (by first | assumption | omega | decide +kernel) (by first | assumption | omega | decide +kernel) (by first | assumption | omega | decide +kernel) (by first | assumption | omega | decide +kernel)) (cwV 1 hts gX9_is_X9_at rfl rfl rfl (by decide +kernel) ⟨Nat.le_of_ble_eq_true rfl, Nat.le_of_ble_eq_true rfl⟩) (pu_preV hP hK hS hG [0, 1, 2, 3] rfl (q := (RX9, TX9, 32)) (ci := 10) (q0 := 0) rfl rfl) rfl rfl hl.1 rfl (lv_room (Nat.le_of_ble_eq_true rfl)) dX9_is_35 ⟨(Nat.le_of_ble_eq_true rfl), (Nat.le_of_ble_eq_true rfl)⟩) hP hS (fun H locs hP hS => ?_)
        have hP : va_P D vwCl [(h0, .inr (10, [.ref (q 0), .int i_size, .ref (q 1), .ref (q 2), .int (nI wd), .int (nI nx), .int i_open, .int i_stood, .ref (q 3), .ref (q 4), .ref (q 5), .int i_nodes, .int i_half, .int i_made, .ref (q 6), .ref (q 7), .ref (q 8), .ref (q 9), .ref (q 10), .ref (q 11), .int i_rows, .ref (q 12), .ref (q 13), .ref (q 14), .int i_state, .ref (q 15), .ref (q 16), .ref (q 17), .int i_tested, .ref (q 18), .ref wa, .int i_length])), (q 0, .inl (cy 0, 3000, .inl T)), (q 1, .inl (cy 1, 3001, .inl Bf)), (q 2, .inl (cy 1, 3001, .inl Ef))] H := hP
        refine lv_iload_n hx hb dX9_is_38 rfl (lv_at hl 3 rfl) ?_
        refine lv_icmp_ne (tgt := 113) hx hb dX9_is_39 (by decide) (fun c39 => ?_) (fun c39 => ?_)
        · refine lv_iconst (v := 0) hx hb dX9_is_113 (by decide +kernel) ?_
          exact W.zret hx hb hr rfl (fun t ht hW => ⟨⟨_, (), rfl, by simp [isv3, c6, c15, c24, c39], trivial⟩, hS.F ht⟩) hS.2.2 dX9_is_114
        · refine lv_iload hx hb dX9_is_42 (lv_at hl 8 rfl) ?_
          refine lv_iconst (v := 4) hx hb dX9_is_44 (by decide +kernel) ?_
          refine lv_icmp_lt (tgt := 58) hx hb dX9_is_45 (by decide) (fun _ => ?_) (fun c45 => absurd (by decide) c45)
          refine lv_iload hx hb dX9_is_58 (lv_at hl 8 rfl) ?_
          refine lv_iconst (v := 5) hx hb dX9_is_60 (by decide +kernel) ?_
          refine lv_icmp_lt (tgt := 74) hx hb dX9_is_61 (by decide) (fun _ => ?_) (fun c61 => absurd (by decide) c61)
          refine lv_iload hx hb dX9_is_74 (lv_at hl 8 rfl) ?_
          refine lv_bipush (v := 6) hx hb dX9_is_76 (by decide +kernel) ?_
          refine lv_icmp_lt (tgt := 91) hx hb dX9_is_78 (by decide) (fun _ => ?_) (fun c78 => absurd (by decide) c78)
          refine lv_iload hx hb dX9_is_91 (lv_at hl 8 rfl) ?_
          refine lv_bipush (v := 7) hx hb dX9_is_93 (by decide +kernel) ?_
          refine lv_icmp_lt (tgt := 109) hx hb dX9_is_95 (by decide) (fun _ => ?_) (fun c95 => absurd (by decide) c95)
          refine lv_iconst (v := 1) hx hb dX9_is_109 (by decide +kernel) ?_
          refine lv_goto (tgt := 114) hx hb dX9_is_110 (by decide) ?_
          exact W.zret hx hb hr rfl (fun t ht hW => ⟨⟨_, (), rfl, by simp [isv3, c6, c15, c24, c39], trivial⟩, hS.F ht⟩) hS.2.2 dX9_is_114

set_option maxHeartbeats 4000000 in
set_option maxRecDepth 100000 in
/-- is, for words of 4 bytes -/
theorem c_M_is4 (l : Launch) (D : va_G) (cy : Nat → ClassId) (e : Nat → Nat)  (h0 : Nat) (q : Nat → Nat) (wa : Nat) (i_size : Int32) (i_open : Int32) (i_stood : Int32) (i_nodes : Int32) (i_half : Int32) (i_made : Int32) (i_rows : Int32) (i_state : Int32) (i_tested : Int32) (i_length : Int32) (nx : Nat) (wd : Nat) (T : Nat → Int32) (Bf : Nat → Int32) (Ef : Nat → Int32) (Bn : Nat → Nat) (En : Nat → Nat) (a : Int32) (b : Int32) (c1 : Int32) (d : Int32) (e5 : Int32) (f : Int32) (g7 : Int32) (hwd : wd ≤ 3000) (hnx : nx ≤ wd) (hw : wo Bf Ef Bn En wd) : Met l yX9_is wsX9_is ({ frames := 1, cells := 0, slots := 0, locals := 22 }) (va_Pc [.ref h0, .int a, .int b, .int c1, .int d, .int e5, .int f, .int g7, .int 4] (pu_B D cy e [(h0, .inr (10, [.ref (q 0), .int i_size, .ref (q 1), .ref (q 2), .int (nI wd), .int (nI nx), .int i_open, .int i_stood, .ref (q 3), .ref (q 4), .ref (q 5), .int i_nodes, .int i_half, .int i_made, .ref (q 6), .ref (q 7), .ref (q 8), .ref (q 9), .ref (q 10), .ref (q 11), .int i_rows, .ref (q 12), .ref (q 13), .ref (q 14), .int i_state, .ref (q 15), .ref (q 16), .ref (q 17), .int i_tested, .ref (q 18), .ref wa, .int i_length])), (q 0, .inl (cy 0, 3000, .inl T)), (q 1, .inl (cy 1, 3001, .inl Bf)), (q 2, .inl (cy 1, 3001, .inl Ef))])) (va_Qi (fun (r : Int32) (_ : Unit) => r = isv4 (ww T Bn En wd nx) (wl Bn En wd nx) a b c1 d) (fun _ _ => True) (fun _ => False)) 0 0 (fun _ => False) := by
  refine Met.ofW (cc := cX9_is) (maxL := 9) (ret := (some .boolean)) (by decide) rfl ?_
  intro p ev s m args below meth c s₁ B hml hv
  obtain ⟨rfl, hP, hK, hG⟩ := hv
  have hx := B.exec
  have hb := B.bytes
  have hr := B.returns
  have hts := atoms_spec (ws := wsX9_is) B.pre
  have hown : s.vm.findClass RX9 = some m.cls := findClass_of_methodNamed B.named
  have hlocks := B.notSynchronized
  have hS : va_S (fun _ => False) s.heap s.heap [] := va_S.rf
  have hP : va_P D vwCl [(h0, .inr (10, [.ref (q 0), .int i_size, .ref (q 1), .ref (q 2), .int (nI wd), .int (nI nx), .int i_open, .int i_stood, .ref (q 3), .ref (q 4), .ref (q 5), .int i_nodes, .int i_half, .int i_made, .ref (q 6), .ref (q 7), .ref (q 8), .ref (q 9), .ref (q 10), .ref (q 11), .int i_rows, .ref (q 12), .ref (q 13), .ref (q 14), .int i_state, .ref (q 15), .ref (q 16), .ref (q 17), .int i_tested, .ref (q 18), .ref wa, .int i_length])), (q 0, .inl (cy 0, 3000, .inl T)), (q 1, .inl (cy 1, 3001, .inl Bf)), (q 2, .inl (cy 1, 3001, .inl Ef))] s.heap := hP
  have iX9 : ∀ w ∈ wsX90, w ∈ wsX9_is := fun w h => List.mem_cons_of_mem _ (List.mem_append_right _ h)
  have hl := lv_entry ([.ref h0, .int a, .int b, .int c1, .int d, .int e5, .int f, .int g7, .int 4]) (n := 9) (Nat.le_of_ble_eq_true rfl)
  rw [lg_entry_eq]
  generalize (lg_sl ([.ref h0, .int a, .int b, .int c1, .int d, .int e5, .int f, .int g7, .int 4]) ++ List.replicate (9 - (lg_sl ([.ref h0, .int a, .int b, .int c1, .int d, .int e5, .int f, .int g7, .int 4])).length) Slot.unset).toArray = ls at hl ⊢
  have hl : lv_has ls 9 [(0, .ref h0), (1, .int a), (2, .int b), (3, .int c1), (4, .int d), (5, .int e5), (6, .int f), (7, .int g7), (8, .int 4)] := hl
  refine lv_aload_n hx hb dX9_is_0 rfl (lv_at hl 0 rfl) ?_
  refine pu_calli (va_runV (As := []) (rest := []) ⟨hx, hb, hml, hown, hts⟩ (c_M_wide l D cy e h0 q wa i_size i_open i_stood i_nodes i_half i_made i_rows i_state i_tested i_length nx wd Bf Ef Bn En (by first | assumption | omega | decide +kernel) (by first | assumption | omega | decide +kernel) (by first | assumption | omega | decide +kernel)) (cwV 0 hts gX9_is_X9_wide rfl rfl rfl (by decide +kernel) ⟨Nat.le_of_ble_eq_true rfl, Nat.le_of_ble_eq_true rfl⟩) (pu_preV hP hK hS hG [0, 2, 3] rfl (q := (RX9, TX9, 32)) (ci := 10) (q0 := 0) rfl rfl) rfl rfl hl.1 rfl (lv_room (Nat.le_of_ble_eq_true rfl)) dX9_is_1 ⟨(Nat.le_of_ble_eq_true rfl), (Nat.le_of_ble_eq_true rfl)⟩) hP hS (fun H locs hP hS => ?_)
  have hP : va_P D vwCl [(h0, .inr (10, [.ref (q 0), .int i_size, .ref (q 1), .ref (q 2), .int (nI wd), .int (nI nx), .int i_open, .int i_stood, .ref (q 3), .ref (q 4), .ref (q 5), .int i_nodes, .int i_half, .int i_made, .ref (q 6), .ref (q 7), .ref (q 8), .ref (q 9), .ref (q 10), .ref (q 11), .int i_rows, .ref (q 12), .ref (q 13), .ref (q 14), .int i_state, .ref (q 15), .ref (q 16), .ref (q 17), .int i_tested, .ref (q 18), .ref wa, .int i_length])), (q 0, .inl (cy 0, 3000, .inl T)), (q 1, .inl (cy 1, 3001, .inl Bf)), (q 2, .inl (cy 1, 3001, .inl Ef))] H := hP
  refine lv_iload hx hb dX9_is_4 (lv_at hl 8 rfl) ?_
  refine lv_icmp_ne (tgt := 113) hx hb dX9_is_6 (by decide) (fun c6 => ?_) (fun c6 => ?_)
  · refine lv_iconst (v := 0) hx hb dX9_is_113 (by decide +kernel) ?_
    exact W.zret hx hb hr rfl (fun t ht hW => ⟨⟨_, (), rfl, by simp [isv4, c6], trivial⟩, hS.F ht⟩) hS.2.2 dX9_is_114
  · refine lv_aload_n hx hb dX9_is_9 rfl (lv_at hl 0 rfl) ?_
    refine lv_iconst (v := 0) hx hb dX9_is_10 (by decide +kernel) ?_
    refine lv_topi (fun x_1 ex_1 => ?_)
    obtain rfl : x_1 = nI 0 := by rw [ex_1]; exact nI_0.symm
    refine pu_calli (va_runV (As := [.int (nI 0)]) (rest := []) ⟨hx, hb, hml, hown, hts⟩ (c_M_at l D cy e h0 q wa i_size i_open i_stood i_nodes i_half i_made i_rows i_state i_tested i_length nx wd T Bf Ef Bn En 0 (by first | assumption | omega | decide +kernel) (by first | assumption | omega | decide +kernel) (by first | assumption | omega | decide +kernel) (by first | assumption | omega | decide +kernel)) (cwV 1 hts gX9_is_X9_at rfl rfl rfl (by decide +kernel) ⟨Nat.le_of_ble_eq_true rfl, Nat.le_of_ble_eq_true rfl⟩) (pu_preV hP hK hS hG [0, 1, 2, 3] rfl (q := (RX9, TX9, 32)) (ci := 10) (q0 := 0) rfl rfl) rfl rfl hl.1 rfl (lv_room (Nat.le_of_ble_eq_true rfl)) dX9_is_11 ⟨(Nat.le_of_ble_eq_true rfl), (Nat.le_of_ble_eq_true rfl)⟩) hP hS (fun H locs hP hS => ?_)
    have hP : va_P D vwCl [(h0, .inr (10, [.ref (q 0), .int i_size, .ref (q 1), .ref (q 2), .int (nI wd), .int (nI nx), .int i_open, .int i_stood, .ref (q 3), .ref (q 4), .ref (q 5), .int i_nodes, .int i_half, .int i_made, .ref (q 6), .ref (q 7), .ref (q 8), .ref (q 9), .ref (q 10), .ref (q 11), .int i_rows, .ref (q 12), .ref (q 13), .ref (q 14), .int i_state, .ref (q 15), .ref (q 16), .ref (q 17), .int i_tested, .ref (q 18), .ref wa, .int i_length])), (q 0, .inl (cy 0, 3000, .inl T)), (q 1, .inl (cy 1, 3001, .inl Bf)), (q 2, .inl (cy 1, 3001, .inl Ef))] H := hP
    refine lv_iload_n hx hb dX9_is_14 rfl (lv_at hl 1 rfl) ?_
    refine lv_icmp_ne (tgt := 113) hx hb dX9_is_15 (by decide) (fun c15 => ?_) (fun c15 => ?_)
    · refine lv_iconst (v := 0) hx hb dX9_is_113 (by decide +kernel) ?_
      exact W.zret hx hb hr rfl (fun t ht hW => ⟨⟨_, (), rfl, by simp [isv4, c6, c15], trivial⟩, hS.F ht⟩) hS.2.2 dX9_is_114
    · refine lv_aload_n hx hb dX9_is_18 rfl (lv_at hl 0 rfl) ?_
      refine lv_iconst (v := 1) hx hb dX9_is_19 (by decide +kernel) ?_
      refine lv_topi (fun x_2 ex_2 => ?_)
      obtain rfl : x_2 = nI 1 := ex_2
      refine pu_calli (va_runV (As := [.int (nI 1)]) (rest := []) ⟨hx, hb, hml, hown, hts⟩ (c_M_at l D cy e h0 q wa i_size i_open i_stood i_nodes i_half i_made i_rows i_state i_tested i_length nx wd T Bf Ef Bn En 1 (by first | assumption | omega | decide +kernel) (by first | assumption | omega | decide +kernel) (by first | assumption | omega | decide +kernel) (by first | assumption | omega | decide +kernel)) (cwV 1 hts gX9_is_X9_at rfl rfl rfl (by decide +kernel) ⟨Nat.le_of_ble_eq_true rfl, Nat.le_of_ble_eq_true rfl⟩) (pu_preV hP hK hS hG [0, 1, 2, 3] rfl (q := (RX9, TX9, 32)) (ci := 10) (q0 := 0) rfl rfl) rfl rfl hl.1 rfl (lv_room (Nat.le_of_ble_eq_true rfl)) dX9_is_20 ⟨(Nat.le_of_ble_eq_true rfl), (Nat.le_of_ble_eq_true rfl)⟩) hP hS (fun H locs hP hS => ?_)
      have hP : va_P D vwCl [(h0, .inr (10, [.ref (q 0), .int i_size, .ref (q 1), .ref (q 2), .int (nI wd), .int (nI nx), .int i_open, .int i_stood, .ref (q 3), .ref (q 4), .ref (q 5), .int i_nodes, .int i_half, .int i_made, .ref (q 6), .ref (q 7), .ref (q 8), .ref (q 9), .ref (q 10), .ref (q 11), .int i_rows, .ref (q 12), .ref (q 13), .ref (q 14), .int i_state, .ref (q 15), .ref (q 16), .ref (q 17), .int i_tested, .ref (q 18), .ref wa, .int i_length])), (q 0, .inl (cy 0, 3000, .inl T)), (q 1, .inl (cy 1, 3001, .inl Bf)), (q 2, .inl (cy 1, 3001, .inl Ef))] H := hP
      refine lv_iload_n hx hb dX9_is_23 rfl (lv_at hl 2 rfl) ?_
      refine lv_icmp_ne (tgt := 113) hx hb dX9_is_24 (by decide) (fun c24 => ?_) (fun c24 => ?_)
      · refine lv_iconst (v := 0) hx hb dX9_is_113 (by decide +kernel) ?_
        exact W.zret hx hb hr rfl (fun t ht hW => ⟨⟨_, (), rfl, by simp [isv4, c6, c15, c24], trivial⟩, hS.F ht⟩) hS.2.2 dX9_is_114
      · refine lv_iload hx hb dX9_is_27 (lv_at hl 8 rfl) ?_
        refine lv_iconst (v := 3) hx hb dX9_is_29 (by decide +kernel) ?_
        refine lv_icmp_lt (tgt := 42) hx hb dX9_is_30 (by decide) (fun c30 => absurd c30 (by decide)) (fun _ => ?_)
        refine lv_aload_n hx hb dX9_is_33 rfl (lv_at hl 0 rfl) ?_
        refine lv_iconst (v := 2) hx hb dX9_is_34 (by decide +kernel) ?_
        refine lv_topi (fun x_3 ex_3 => ?_)
        obtain rfl : x_3 = nI 2 := ex_3
        refine pu_calli (va_runV (As := [.int (nI 2)]) (rest := []) ⟨hx, hb, hml, hown, hts⟩ (c_M_at l D cy e h0 q wa i_size i_open i_stood i_nodes i_half i_made i_rows i_state i_tested i_length nx wd T Bf Ef Bn En 2 (by first | assumption | omega | decide +kernel) (by first | assumption | omega | decide +kernel) (by first | assumption | omega | decide +kernel) (by first | assumption | omega | decide +kernel)) (cwV 1 hts gX9_is_X9_at rfl rfl rfl (by decide +kernel) ⟨Nat.le_of_ble_eq_true rfl, Nat.le_of_ble_eq_true rfl⟩) (pu_preV hP hK hS hG [0, 1, 2, 3] rfl (q := (RX9, TX9, 32)) (ci := 10) (q0 := 0) rfl rfl) rfl rfl hl.1 rfl (lv_room (Nat.le_of_ble_eq_true rfl)) dX9_is_35 ⟨(Nat.le_of_ble_eq_true rfl), (Nat.le_of_ble_eq_true rfl)⟩) hP hS (fun H locs hP hS => ?_)
        have hP : va_P D vwCl [(h0, .inr (10, [.ref (q 0), .int i_size, .ref (q 1), .ref (q 2), .int (nI wd), .int (nI nx), .int i_open, .int i_stood, .ref (q 3), .ref (q 4), .ref (q 5), .int i_nodes, .int i_half, .int i_made, .ref (q 6), .ref (q 7), .ref (q 8), .ref (q 9), .ref (q 10), .ref (q 11), .int i_rows, .ref (q 12), .ref (q 13), .ref (q 14), .int i_state, .ref (q 15), .ref (q 16), .ref (q 17), .int i_tested, .ref (q 18), .ref wa, .int i_length])), (q 0, .inl (cy 0, 3000, .inl T)), (q 1, .inl (cy 1, 3001, .inl Bf)), (q 2, .inl (cy 1, 3001, .inl Ef))] H := hP
        refine lv_iload_n hx hb dX9_is_38 rfl (lv_at hl 3 rfl) ?_
        refine lv_icmp_ne (tgt := 113) hx hb dX9_is_39 (by decide) (fun c39 => ?_) (fun c39 => ?_)
        · refine lv_iconst (v := 0) hx hb dX9_is_113 (by decide +kernel) ?_
          exact W.zret hx hb hr rfl (fun t ht hW => ⟨⟨_, (), rfl, by simp [isv4, c6, c15, c24, c39], trivial⟩, hS.F ht⟩) hS.2.2 dX9_is_114
        · refine lv_iload hx hb dX9_is_42 (lv_at hl 8 rfl) ?_
          refine lv_iconst (v := 4) hx hb dX9_is_44 (by decide +kernel) ?_
          refine lv_icmp_lt (tgt := 58) hx hb dX9_is_45 (by decide) (fun c45 => absurd c45 (by decide)) (fun _ => ?_)
          refine lv_aload_n hx hb dX9_is_48 rfl (lv_at hl 0 rfl) ?_
          refine lv_iconst (v := 3) hx hb dX9_is_49 (by decide +kernel) ?_
          refine lv_topi (fun x_4 ex_4 => ?_)
          obtain rfl : x_4 = nI 3 := ex_4
          refine pu_calli (va_runV (As := [.int (nI 3)]) (rest := []) ⟨hx, hb, hml, hown, hts⟩ (c_M_at l D cy e h0 q wa i_size i_open i_stood i_nodes i_half i_made i_rows i_state i_tested i_length nx wd T Bf Ef Bn En 3 (by first | assumption | omega | decide +kernel) (by first | assumption | omega | decide +kernel) (by first | assumption | omega | decide +kernel) (by first | assumption | omega | decide +kernel)) (cwV 1 hts gX9_is_X9_at rfl rfl rfl (by decide +kernel) ⟨Nat.le_of_ble_eq_true rfl, Nat.le_of_ble_eq_true rfl⟩) (pu_preV hP hK hS hG [0, 1, 2, 3] rfl (q := (RX9, TX9, 32)) (ci := 10) (q0 := 0) rfl rfl) rfl rfl hl.1 rfl (lv_room (Nat.le_of_ble_eq_true rfl)) dX9_is_50 ⟨(Nat.le_of_ble_eq_true rfl), (Nat.le_of_ble_eq_true rfl)⟩) hP hS (fun H locs hP hS => ?_)
          have hP : va_P D vwCl [(h0, .inr (10, [.ref (q 0), .int i_size, .ref (q 1), .ref (q 2), .int (nI wd), .int (nI nx), .int i_open, .int i_stood, .ref (q 3), .ref (q 4), .ref (q 5), .int i_nodes, .int i_half, .int i_made, .ref (q 6), .ref (q 7), .ref (q 8), .ref (q 9), .ref (q 10), .ref (q 11), .int i_rows, .ref (q 12), .ref (q 13), .ref (q 14), .int i_state, .ref (q 15), .ref (q 16), .ref (q 17), .int i_tested, .ref (q 18), .ref wa, .int i_length])), (q 0, .inl (cy 0, 3000, .inl T)), (q 1, .inl (cy 1, 3001, .inl Bf)), (q 2, .inl (cy 1, 3001, .inl Ef))] H := hP
          refine lv_iload hx hb dX9_is_53 (lv_at hl 4 rfl) ?_
          refine lv_icmp_ne (tgt := 113) hx hb dX9_is_55 (by decide) (fun c55 => ?_) (fun c55 => ?_)
          · refine lv_iconst (v := 0) hx hb dX9_is_113 (by decide +kernel) ?_
            exact W.zret hx hb hr rfl (fun t ht hW => ⟨⟨_, (), rfl, by simp [isv4, c6, c15, c24, c39, c55], trivial⟩, hS.F ht⟩) hS.2.2 dX9_is_114
          · refine lv_iload hx hb dX9_is_58 (lv_at hl 8 rfl) ?_
            refine lv_iconst (v := 5) hx hb dX9_is_60 (by decide +kernel) ?_
            refine lv_icmp_lt (tgt := 74) hx hb dX9_is_61 (by decide) (fun _ => ?_) (fun c61 => absurd (by decide) c61)
            refine lv_iload hx hb dX9_is_74 (lv_at hl 8 rfl) ?_
            refine lv_bipush (v := 6) hx hb dX9_is_76 (by decide +kernel) ?_
            refine lv_icmp_lt (tgt := 91) hx hb dX9_is_78 (by decide) (fun _ => ?_) (fun c78 => absurd (by decide) c78)
            refine lv_iload hx hb dX9_is_91 (lv_at hl 8 rfl) ?_
            refine lv_bipush (v := 7) hx hb dX9_is_93 (by decide +kernel) ?_
            refine lv_icmp_lt (tgt := 109) hx hb dX9_is_95 (by decide) (fun _ => ?_) (fun c95 => absurd (by decide) c95)
            refine lv_iconst (v := 1) hx hb dX9_is_109 (by decide +kernel) ?_
            refine lv_goto (tgt := 114) hx hb dX9_is_110 (by decide) ?_
            exact W.zret hx hb hr rfl (fun t ht hW => ⟨⟨_, (), rfl, by simp [isv4, c6, c15, c24, c39, c55], trivial⟩, hS.F ht⟩) hS.2.2 dX9_is_114

set_option maxHeartbeats 4000000 in
set_option maxRecDepth 100000 in
/-- is, for words of 7 bytes -/
theorem c_M_is7 (l : Launch) (D : va_G) (cy : Nat → ClassId) (e : Nat → Nat)  (h0 : Nat) (q : Nat → Nat) (wa : Nat) (i_size : Int32) (i_open : Int32) (i_stood : Int32) (i_nodes : Int32) (i_half : Int32) (i_made : Int32) (i_rows : Int32) (i_state : Int32) (i_tested : Int32) (i_length : Int32) (nx : Nat) (wd : Nat) (T : Nat → Int32) (Bf : Nat → Int32) (Ef : Nat → Int32) (Bn : Nat → Nat) (En : Nat → Nat) (a : Int32) (b : Int32) (c1 : Int32) (d : Int32) (e5 : Int32) (f : Int32) (g7 : Int32) (hwd : wd ≤ 3000) (hnx : nx ≤ wd) (hw : wo Bf Ef Bn En wd) : Met l yX9_is wsX9_is ({ frames := 1, cells := 0, slots := 0, locals := 22 }) (va_Pc [.ref h0, .int a, .int b, .int c1, .int d, .int e5, .int f, .int g7, .int 7] (pu_B D cy e [(h0, .inr (10, [.ref (q 0), .int i_size, .ref (q 1), .ref (q 2), .int (nI wd), .int (nI nx), .int i_open, .int i_stood, .ref (q 3), .ref (q 4), .ref (q 5), .int i_nodes, .int i_half, .int i_made, .ref (q 6), .ref (q 7), .ref (q 8), .ref (q 9), .ref (q 10), .ref (q 11), .int i_rows, .ref (q 12), .ref (q 13), .ref (q 14), .int i_state, .ref (q 15), .ref (q 16), .ref (q 17), .int i_tested, .ref (q 18), .ref wa, .int i_length])), (q 0, .inl (cy 0, 3000, .inl T)), (q 1, .inl (cy 1, 3001, .inl Bf)), (q 2, .inl (cy 1, 3001, .inl Ef))])) (va_Qi (fun (r : Int32) (_ : Unit) => r = isv7 (ww T Bn En wd nx) (wl Bn En wd nx) a b c1 d e5 f g7) (fun _ _ => True) (fun _ => False)) 0 0 (fun _ => False) := by
  refine Met.ofW (cc := cX9_is) (maxL := 9) (ret := (some .boolean)) (by decide) rfl ?_
  intro p ev s m args below meth c s₁ B hml hv
  obtain ⟨rfl, hP, hK, hG⟩ := hv
  have hx := B.exec
  have hb := B.bytes
  have hr := B.returns
  have hts := atoms_spec (ws := wsX9_is) B.pre
  have hown : s.vm.findClass RX9 = some m.cls := findClass_of_methodNamed B.named
  have hlocks := B.notSynchronized
  have hS : va_S (fun _ => False) s.heap s.heap [] := va_S.rf
  have hP : va_P D vwCl [(h0, .inr (10, [.ref (q 0), .int i_size, .ref (q 1), .ref (q 2), .int (nI wd), .int (nI nx), .int i_open, .int i_stood, .ref (q 3), .ref (q 4), .ref (q 5), .int i_nodes, .int i_half, .int i_made, .ref (q 6), .ref (q 7), .ref (q 8), .ref (q 9), .ref (q 10), .ref (q 11), .int i_rows, .ref (q 12), .ref (q 13), .ref (q 14), .int i_state, .ref (q 15), .ref (q 16), .ref (q 17), .int i_tested, .ref (q 18), .ref wa, .int i_length])), (q 0, .inl (cy 0, 3000, .inl T)), (q 1, .inl (cy 1, 3001, .inl Bf)), (q 2, .inl (cy 1, 3001, .inl Ef))] s.heap := hP
  have iX9 : ∀ w ∈ wsX90, w ∈ wsX9_is := fun w h => List.mem_cons_of_mem _ (List.mem_append_right _ h)
  have hl := lv_entry ([.ref h0, .int a, .int b, .int c1, .int d, .int e5, .int f, .int g7, .int 7]) (n := 9) (Nat.le_of_ble_eq_true rfl)
  rw [lg_entry_eq]
  generalize (lg_sl ([.ref h0, .int a, .int b, .int c1, .int d, .int e5, .int f, .int g7, .int 7]) ++ List.replicate (9 - (lg_sl ([.ref h0, .int a, .int b, .int c1, .int d, .int e5, .int f, .int g7, .int 7])).length) Slot.unset).toArray = ls at hl ⊢
  have hl : lv_has ls 9 [(0, .ref h0), (1, .int a), (2, .int b), (3, .int c1), (4, .int d), (5, .int e5), (6, .int f), (7, .int g7), (8, .int 7)] := hl
  refine lv_aload_n hx hb dX9_is_0 rfl (lv_at hl 0 rfl) ?_
  refine pu_calli (va_runV (As := []) (rest := []) ⟨hx, hb, hml, hown, hts⟩ (c_M_wide l D cy e h0 q wa i_size i_open i_stood i_nodes i_half i_made i_rows i_state i_tested i_length nx wd Bf Ef Bn En (by first | assumption | omega | decide +kernel) (by first | assumption | omega | decide +kernel) (by first | assumption | omega | decide +kernel)) (cwV 0 hts gX9_is_X9_wide rfl rfl rfl (by decide +kernel) ⟨Nat.le_of_ble_eq_true rfl, Nat.le_of_ble_eq_true rfl⟩) (pu_preV hP hK hS hG [0, 2, 3] rfl (q := (RX9, TX9, 32)) (ci := 10) (q0 := 0) rfl rfl) rfl rfl hl.1 rfl (lv_room (Nat.le_of_ble_eq_true rfl)) dX9_is_1 ⟨(Nat.le_of_ble_eq_true rfl), (Nat.le_of_ble_eq_true rfl)⟩) hP hS (fun H locs hP hS => ?_)
  have hP : va_P D vwCl [(h0, .inr (10, [.ref (q 0), .int i_size, .ref (q 1), .ref (q 2), .int (nI wd), .int (nI nx), .int i_open, .int i_stood, .ref (q 3), .ref (q 4), .ref (q 5), .int i_nodes, .int i_half, .int i_made, .ref (q 6), .ref (q 7), .ref (q 8), .ref (q 9), .ref (q 10), .ref (q 11), .int i_rows, .ref (q 12), .ref (q 13), .ref (q 14), .int i_state, .ref (q 15), .ref (q 16), .ref (q 17), .int i_tested, .ref (q 18), .ref wa, .int i_length])), (q 0, .inl (cy 0, 3000, .inl T)), (q 1, .inl (cy 1, 3001, .inl Bf)), (q 2, .inl (cy 1, 3001, .inl Ef))] H := hP
  refine lv_iload hx hb dX9_is_4 (lv_at hl 8 rfl) ?_
  refine lv_icmp_ne (tgt := 113) hx hb dX9_is_6 (by decide) (fun c6 => ?_) (fun c6 => ?_)
  · refine lv_iconst (v := 0) hx hb dX9_is_113 (by decide +kernel) ?_
    exact W.zret hx hb hr rfl (fun t ht hW => ⟨⟨_, (), rfl, by simp [isv7, c6], trivial⟩, hS.F ht⟩) hS.2.2 dX9_is_114
  · refine lv_aload_n hx hb dX9_is_9 rfl (lv_at hl 0 rfl) ?_
    refine lv_iconst (v := 0) hx hb dX9_is_10 (by decide +kernel) ?_
    refine lv_topi (fun x_1 ex_1 => ?_)
    obtain rfl : x_1 = nI 0 := by rw [ex_1]; exact nI_0.symm
    refine pu_calli (va_runV (As := [.int (nI 0)]) (rest := []) ⟨hx, hb, hml, hown, hts⟩ (c_M_at l D cy e h0 q wa i_size i_open i_stood i_nodes i_half i_made i_rows i_state i_tested i_length nx wd T Bf Ef Bn En 0 (by first | assumption | omega | decide +kernel) (by first | assumption | omega | decide +kernel) (by first | assumption | omega | decide +kernel) (by first | assumption | omega | decide +kernel)) (cwV 1 hts gX9_is_X9_at rfl rfl rfl (by decide +kernel) ⟨Nat.le_of_ble_eq_true rfl, Nat.le_of_ble_eq_true rfl⟩) (pu_preV hP hK hS hG [0, 1, 2, 3] rfl (q := (RX9, TX9, 32)) (ci := 10) (q0 := 0) rfl rfl) rfl rfl hl.1 rfl (lv_room (Nat.le_of_ble_eq_true rfl)) dX9_is_11 ⟨(Nat.le_of_ble_eq_true rfl), (Nat.le_of_ble_eq_true rfl)⟩) hP hS (fun H locs hP hS => ?_)
    have hP : va_P D vwCl [(h0, .inr (10, [.ref (q 0), .int i_size, .ref (q 1), .ref (q 2), .int (nI wd), .int (nI nx), .int i_open, .int i_stood, .ref (q 3), .ref (q 4), .ref (q 5), .int i_nodes, .int i_half, .int i_made, .ref (q 6), .ref (q 7), .ref (q 8), .ref (q 9), .ref (q 10), .ref (q 11), .int i_rows, .ref (q 12), .ref (q 13), .ref (q 14), .int i_state, .ref (q 15), .ref (q 16), .ref (q 17), .int i_tested, .ref (q 18), .ref wa, .int i_length])), (q 0, .inl (cy 0, 3000, .inl T)), (q 1, .inl (cy 1, 3001, .inl Bf)), (q 2, .inl (cy 1, 3001, .inl Ef))] H := hP
    refine lv_iload_n hx hb dX9_is_14 rfl (lv_at hl 1 rfl) ?_
    refine lv_icmp_ne (tgt := 113) hx hb dX9_is_15 (by decide) (fun c15 => ?_) (fun c15 => ?_)
    · refine lv_iconst (v := 0) hx hb dX9_is_113 (by decide +kernel) ?_
      exact W.zret hx hb hr rfl (fun t ht hW => ⟨⟨_, (), rfl, by simp [isv7, c6, c15], trivial⟩, hS.F ht⟩) hS.2.2 dX9_is_114
    · refine lv_aload_n hx hb dX9_is_18 rfl (lv_at hl 0 rfl) ?_
      refine lv_iconst (v := 1) hx hb dX9_is_19 (by decide +kernel) ?_
      refine lv_topi (fun x_2 ex_2 => ?_)
      obtain rfl : x_2 = nI 1 := ex_2
      refine pu_calli (va_runV (As := [.int (nI 1)]) (rest := []) ⟨hx, hb, hml, hown, hts⟩ (c_M_at l D cy e h0 q wa i_size i_open i_stood i_nodes i_half i_made i_rows i_state i_tested i_length nx wd T Bf Ef Bn En 1 (by first | assumption | omega | decide +kernel) (by first | assumption | omega | decide +kernel) (by first | assumption | omega | decide +kernel) (by first | assumption | omega | decide +kernel)) (cwV 1 hts gX9_is_X9_at rfl rfl rfl (by decide +kernel) ⟨Nat.le_of_ble_eq_true rfl, Nat.le_of_ble_eq_true rfl⟩) (pu_preV hP hK hS hG [0, 1, 2, 3] rfl (q := (RX9, TX9, 32)) (ci := 10) (q0 := 0) rfl rfl) rfl rfl hl.1 rfl (lv_room (Nat.le_of_ble_eq_true rfl)) dX9_is_20 ⟨(Nat.le_of_ble_eq_true rfl), (Nat.le_of_ble_eq_true rfl)⟩) hP hS (fun H locs hP hS => ?_)
      have hP : va_P D vwCl [(h0, .inr (10, [.ref (q 0), .int i_size, .ref (q 1), .ref (q 2), .int (nI wd), .int (nI nx), .int i_open, .int i_stood, .ref (q 3), .ref (q 4), .ref (q 5), .int i_nodes, .int i_half, .int i_made, .ref (q 6), .ref (q 7), .ref (q 8), .ref (q 9), .ref (q 10), .ref (q 11), .int i_rows, .ref (q 12), .ref (q 13), .ref (q 14), .int i_state, .ref (q 15), .ref (q 16), .ref (q 17), .int i_tested, .ref (q 18), .ref wa, .int i_length])), (q 0, .inl (cy 0, 3000, .inl T)), (q 1, .inl (cy 1, 3001, .inl Bf)), (q 2, .inl (cy 1, 3001, .inl Ef))] H := hP
      refine lv_iload_n hx hb dX9_is_23 rfl (lv_at hl 2 rfl) ?_
      refine lv_icmp_ne (tgt := 113) hx hb dX9_is_24 (by decide) (fun c24 => ?_) (fun c24 => ?_)
      · refine lv_iconst (v := 0) hx hb dX9_is_113 (by decide +kernel) ?_
        exact W.zret hx hb hr rfl (fun t ht hW => ⟨⟨_, (), rfl, by simp [isv7, c6, c15, c24], trivial⟩, hS.F ht⟩) hS.2.2 dX9_is_114
      · refine lv_iload hx hb dX9_is_27 (lv_at hl 8 rfl) ?_
        refine lv_iconst (v := 3) hx hb dX9_is_29 (by decide +kernel) ?_
        refine lv_icmp_lt (tgt := 42) hx hb dX9_is_30 (by decide) (fun c30 => absurd c30 (by decide)) (fun _ => ?_)
        refine lv_aload_n hx hb dX9_is_33 rfl (lv_at hl 0 rfl) ?_
        refine lv_iconst (v := 2) hx hb dX9_is_34 (by decide +kernel) ?_
        refine lv_topi (fun x_3 ex_3 => ?_)
        obtain rfl : x_3 = nI 2 := ex_3
        refine pu_calli (va_runV (As := [.int (nI 2)]) (rest := []) ⟨hx, hb, hml, hown, hts⟩ (c_M_at l D cy e h0 q wa i_size i_open i_stood i_nodes i_half i_made i_rows i_state i_tested i_length nx wd T Bf Ef Bn En 2 (by first | assumption | omega | decide +kernel) (by first | assumption | omega | decide +kernel) (by first | assumption | omega | decide +kernel) (by first | assumption | omega | decide +kernel)) (cwV 1 hts gX9_is_X9_at rfl rfl rfl (by decide +kernel) ⟨Nat.le_of_ble_eq_true rfl, Nat.le_of_ble_eq_true rfl⟩) (pu_preV hP hK hS hG [0, 1, 2, 3] rfl (q := (RX9, TX9, 32)) (ci := 10) (q0 := 0) rfl rfl) rfl rfl hl.1 rfl (lv_room (Nat.le_of_ble_eq_true rfl)) dX9_is_35 ⟨(Nat.le_of_ble_eq_true rfl), (Nat.le_of_ble_eq_true rfl)⟩) hP hS (fun H locs hP hS => ?_)
        have hP : va_P D vwCl [(h0, .inr (10, [.ref (q 0), .int i_size, .ref (q 1), .ref (q 2), .int (nI wd), .int (nI nx), .int i_open, .int i_stood, .ref (q 3), .ref (q 4), .ref (q 5), .int i_nodes, .int i_half, .int i_made, .ref (q 6), .ref (q 7), .ref (q 8), .ref (q 9), .ref (q 10), .ref (q 11), .int i_rows, .ref (q 12), .ref (q 13), .ref (q 14), .int i_state, .ref (q 15), .ref (q 16), .ref (q 17), .int i_tested, .ref (q 18), .ref wa, .int i_length])), (q 0, .inl (cy 0, 3000, .inl T)), (q 1, .inl (cy 1, 3001, .inl Bf)), (q 2, .inl (cy 1, 3001, .inl Ef))] H := hP
        refine lv_iload_n hx hb dX9_is_38 rfl (lv_at hl 3 rfl) ?_
        refine lv_icmp_ne (tgt := 113) hx hb dX9_is_39 (by decide) (fun c39 => ?_) (fun c39 => ?_)
        · refine lv_iconst (v := 0) hx hb dX9_is_113 (by decide +kernel) ?_
          exact W.zret hx hb hr rfl (fun t ht hW => ⟨⟨_, (), rfl, by simp [isv7, c6, c15, c24, c39], trivial⟩, hS.F ht⟩) hS.2.2 dX9_is_114
        · refine lv_iload hx hb dX9_is_42 (lv_at hl 8 rfl) ?_
          refine lv_iconst (v := 4) hx hb dX9_is_44 (by decide +kernel) ?_
          refine lv_icmp_lt (tgt := 58) hx hb dX9_is_45 (by decide) (fun c45 => absurd c45 (by decide)) (fun _ => ?_)
          refine lv_aload_n hx hb dX9_is_48 rfl (lv_at hl 0 rfl) ?_
          refine lv_iconst (v := 3) hx hb dX9_is_49 (by decide +kernel) ?_
          refine lv_topi (fun x_4 ex_4 => ?_)
          obtain rfl : x_4 = nI 3 := ex_4
          refine pu_calli (va_runV (As := [.int (nI 3)]) (rest := []) ⟨hx, hb, hml, hown, hts⟩ (c_M_at l D cy e h0 q wa i_size i_open i_stood i_nodes i_half i_made i_rows i_state i_tested i_length nx wd T Bf Ef Bn En 3 (by first | assumption | omega | decide +kernel) (by first | assumption | omega | decide +kernel) (by first | assumption | omega | decide +kernel) (by first | assumption | omega | decide +kernel)) (cwV 1 hts gX9_is_X9_at rfl rfl rfl (by decide +kernel) ⟨Nat.le_of_ble_eq_true rfl, Nat.le_of_ble_eq_true rfl⟩) (pu_preV hP hK hS hG [0, 1, 2, 3] rfl (q := (RX9, TX9, 32)) (ci := 10) (q0 := 0) rfl rfl) rfl rfl hl.1 rfl (lv_room (Nat.le_of_ble_eq_true rfl)) dX9_is_50 ⟨(Nat.le_of_ble_eq_true rfl), (Nat.le_of_ble_eq_true rfl)⟩) hP hS (fun H locs hP hS => ?_)
          have hP : va_P D vwCl [(h0, .inr (10, [.ref (q 0), .int i_size, .ref (q 1), .ref (q 2), .int (nI wd), .int (nI nx), .int i_open, .int i_stood, .ref (q 3), .ref (q 4), .ref (q 5), .int i_nodes, .int i_half, .int i_made, .ref (q 6), .ref (q 7), .ref (q 8), .ref (q 9), .ref (q 10), .ref (q 11), .int i_rows, .ref (q 12), .ref (q 13), .ref (q 14), .int i_state, .ref (q 15), .ref (q 16), .ref (q 17), .int i_tested, .ref (q 18), .ref wa, .int i_length])), (q 0, .inl (cy 0, 3000, .inl T)), (q 1, .inl (cy 1, 3001, .inl Bf)), (q 2, .inl (cy 1, 3001, .inl Ef))] H := hP
          refine lv_iload hx hb dX9_is_53 (lv_at hl 4 rfl) ?_
          refine lv_icmp_ne (tgt := 113) hx hb dX9_is_55 (by decide) (fun c55 => ?_) (fun c55 => ?_)
          · refine lv_iconst (v := 0) hx hb dX9_is_113 (by decide +kernel) ?_
            exact W.zret hx hb hr rfl (fun t ht hW => ⟨⟨_, (), rfl, by simp [isv7, c6, c15, c24, c39, c55], trivial⟩, hS.F ht⟩) hS.2.2 dX9_is_114
          · refine lv_iload hx hb dX9_is_58 (lv_at hl 8 rfl) ?_
            refine lv_iconst (v := 5) hx hb dX9_is_60 (by decide +kernel) ?_
            refine lv_icmp_lt (tgt := 74) hx hb dX9_is_61 (by decide) (fun c61 => absurd c61 (by decide)) (fun _ => ?_)
            refine lv_aload_n hx hb dX9_is_64 rfl (lv_at hl 0 rfl) ?_
            refine lv_iconst (v := 4) hx hb dX9_is_65 (by decide +kernel) ?_
            refine lv_topi (fun x_5 ex_5 => ?_)
            obtain rfl : x_5 = nI 4 := ex_5
            refine pu_calli (va_runV (As := [.int (nI 4)]) (rest := []) ⟨hx, hb, hml, hown, hts⟩ (c_M_at l D cy e h0 q wa i_size i_open i_stood i_nodes i_half i_made i_rows i_state i_tested i_length nx wd T Bf Ef Bn En 4 (by first | assumption | omega | decide +kernel) (by first | assumption | omega | decide +kernel) (by first | assumption | omega | decide +kernel) (by first | assumption | omega | decide +kernel)) (cwV 1 hts gX9_is_X9_at rfl rfl rfl (by decide +kernel) ⟨Nat.le_of_ble_eq_true rfl, Nat.le_of_ble_eq_true rfl⟩) (pu_preV hP hK hS hG [0, 1, 2, 3] rfl (q := (RX9, TX9, 32)) (ci := 10) (q0 := 0) rfl rfl) rfl rfl hl.1 rfl (lv_room (Nat.le_of_ble_eq_true rfl)) dX9_is_66 ⟨(Nat.le_of_ble_eq_true rfl), (Nat.le_of_ble_eq_true rfl)⟩) hP hS (fun H locs hP hS => ?_)
            have hP : va_P D vwCl [(h0, .inr (10, [.ref (q 0), .int i_size, .ref (q 1), .ref (q 2), .int (nI wd), .int (nI nx), .int i_open, .int i_stood, .ref (q 3), .ref (q 4), .ref (q 5), .int i_nodes, .int i_half, .int i_made, .ref (q 6), .ref (q 7), .ref (q 8), .ref (q 9), .ref (q 10), .ref (q 11), .int i_rows, .ref (q 12), .ref (q 13), .ref (q 14), .int i_state, .ref (q 15), .ref (q 16), .ref (q 17), .int i_tested, .ref (q 18), .ref wa, .int i_length])), (q 0, .inl (cy 0, 3000, .inl T)), (q 1, .inl (cy 1, 3001, .inl Bf)), (q 2, .inl (cy 1, 3001, .inl Ef))] H := hP
            refine lv_iload hx hb dX9_is_69 (lv_at hl 5 rfl) ?_
            refine lv_icmp_ne (tgt := 113) hx hb dX9_is_71 (by decide) (fun c71 => ?_) (fun c71 => ?_)
            · refine lv_iconst (v := 0) hx hb dX9_is_113 (by decide +kernel) ?_
              exact W.zret hx hb hr rfl (fun t ht hW => ⟨⟨_, (), rfl, by simp [isv7, c6, c15, c24, c39, c55, c71], trivial⟩, hS.F ht⟩) hS.2.2 dX9_is_114
            · refine lv_iload hx hb dX9_is_74 (lv_at hl 8 rfl) ?_
              refine lv_bipush (v := 6) hx hb dX9_is_76 (by decide +kernel) ?_
              refine lv_icmp_lt (tgt := 91) hx hb dX9_is_78 (by decide) (fun c78 => absurd c78 (by decide)) (fun _ => ?_)
              refine lv_aload_n hx hb dX9_is_81 rfl (lv_at hl 0 rfl) ?_
              refine lv_iconst (v := 5) hx hb dX9_is_82 (by decide +kernel) ?_
              refine lv_topi (fun x_6 ex_6 => ?_)
              obtain rfl : x_6 = nI 5 := ex_6
              refine pu_calli (va_runV (As := [.int (nI 5)]) (rest := []) ⟨hx, hb, hml, hown, hts⟩ (c_M_at l D cy e h0 q wa i_size i_open i_stood i_nodes i_half i_made i_rows i_state i_tested i_length nx wd T Bf Ef Bn En 5 (by first | assumption | omega | decide +kernel) (by first | assumption | omega | decide +kernel) (by first | assumption | omega | decide +kernel) (by first | assumption | omega | decide +kernel)) (cwV 1 hts gX9_is_X9_at rfl rfl rfl (by decide +kernel) ⟨Nat.le_of_ble_eq_true rfl, Nat.le_of_ble_eq_true rfl⟩) (pu_preV hP hK hS hG [0, 1, 2, 3] rfl (q := (RX9, TX9, 32)) (ci := 10) (q0 := 0) rfl rfl) rfl rfl hl.1 rfl (lv_room (Nat.le_of_ble_eq_true rfl)) dX9_is_83 ⟨(Nat.le_of_ble_eq_true rfl), (Nat.le_of_ble_eq_true rfl)⟩) hP hS (fun H locs hP hS => ?_)
              have hP : va_P D vwCl [(h0, .inr (10, [.ref (q 0), .int i_size, .ref (q 1), .ref (q 2), .int (nI wd), .int (nI nx), .int i_open, .int i_stood, .ref (q 3), .ref (q 4), .ref (q 5), .int i_nodes, .int i_half, .int i_made, .ref (q 6), .ref (q 7), .ref (q 8), .ref (q 9), .ref (q 10), .ref (q 11), .int i_rows, .ref (q 12), .ref (q 13), .ref (q 14), .int i_state, .ref (q 15), .ref (q 16), .ref (q 17), .int i_tested, .ref (q 18), .ref wa, .int i_length])), (q 0, .inl (cy 0, 3000, .inl T)), (q 1, .inl (cy 1, 3001, .inl Bf)), (q 2, .inl (cy 1, 3001, .inl Ef))] H := hP
              refine lv_iload hx hb dX9_is_86 (lv_at hl 6 rfl) ?_
              refine lv_icmp_ne (tgt := 113) hx hb dX9_is_88 (by decide) (fun c88 => ?_) (fun c88 => ?_)
              · refine lv_iconst (v := 0) hx hb dX9_is_113 (by decide +kernel) ?_
                exact W.zret hx hb hr rfl (fun t ht hW => ⟨⟨_, (), rfl, by simp [isv7, c6, c15, c24, c39, c55, c71, c88], trivial⟩, hS.F ht⟩) hS.2.2 dX9_is_114
              · refine lv_iload hx hb dX9_is_91 (lv_at hl 8 rfl) ?_
                refine lv_bipush (v := 7) hx hb dX9_is_93 (by decide +kernel) ?_
                refine lv_icmp_lt (tgt := 109) hx hb dX9_is_95 (by decide) (fun c95 => absurd c95 (by decide)) (fun _ => ?_)
                refine lv_aload_n hx hb dX9_is_98 rfl (lv_at hl 0 rfl) ?_
                refine lv_bipush (v := 6) hx hb dX9_is_99 (by decide +kernel) ?_
                refine lv_topi (fun x_7 ex_7 => ?_)
                obtain rfl : x_7 = nI 6 := ex_7
                refine pu_calli (va_runV (As := [.int (nI 6)]) (rest := []) ⟨hx, hb, hml, hown, hts⟩ (c_M_at l D cy e h0 q wa i_size i_open i_stood i_nodes i_half i_made i_rows i_state i_tested i_length nx wd T Bf Ef Bn En 6 (by first | assumption | omega | decide +kernel) (by first | assumption | omega | decide +kernel) (by first | assumption | omega | decide +kernel) (by first | assumption | omega | decide +kernel)) (cwV 1 hts gX9_is_X9_at rfl rfl rfl (by decide +kernel) ⟨Nat.le_of_ble_eq_true rfl, Nat.le_of_ble_eq_true rfl⟩) (pu_preV hP hK hS hG [0, 1, 2, 3] rfl (q := (RX9, TX9, 32)) (ci := 10) (q0 := 0) rfl rfl) rfl rfl hl.1 rfl (lv_room (Nat.le_of_ble_eq_true rfl)) dX9_is_101 ⟨(Nat.le_of_ble_eq_true rfl), (Nat.le_of_ble_eq_true rfl)⟩) hP hS (fun H locs hP hS => ?_)
                have hP : va_P D vwCl [(h0, .inr (10, [.ref (q 0), .int i_size, .ref (q 1), .ref (q 2), .int (nI wd), .int (nI nx), .int i_open, .int i_stood, .ref (q 3), .ref (q 4), .ref (q 5), .int i_nodes, .int i_half, .int i_made, .ref (q 6), .ref (q 7), .ref (q 8), .ref (q 9), .ref (q 10), .ref (q 11), .int i_rows, .ref (q 12), .ref (q 13), .ref (q 14), .int i_state, .ref (q 15), .ref (q 16), .ref (q 17), .int i_tested, .ref (q 18), .ref wa, .int i_length])), (q 0, .inl (cy 0, 3000, .inl T)), (q 1, .inl (cy 1, 3001, .inl Bf)), (q 2, .inl (cy 1, 3001, .inl Ef))] H := hP
                refine lv_iload hx hb dX9_is_104 (lv_at hl 7 rfl) ?_
                refine lv_icmp_ne (tgt := 113) hx hb dX9_is_106 (by decide) (fun c106 => ?_) (fun c106 => ?_)
                · refine lv_iconst (v := 0) hx hb dX9_is_113 (by decide +kernel) ?_
                  exact W.zret hx hb hr rfl (fun t ht hW => ⟨⟨_, (), rfl, by simp [isv7, c6, c15, c24, c39, c55, c71, c88, c106], trivial⟩, hS.F ht⟩) hS.2.2 dX9_is_114
                · refine lv_iconst (v := 1) hx hb dX9_is_109 (by decide +kernel) ?_
                  refine lv_goto (tgt := 114) hx hb dX9_is_110 (by decide) ?_
                  exact W.zret hx hb hr rfl (fun t ht hW => ⟨⟨_, (), rfl, by simp [isv7, c6, c15, c24, c39, c55, c71, c88, c106], trivial⟩, hS.F ht⟩) hS.2.2 dX9_is_114

set_option maxHeartbeats 4000000 in
set_option maxRecDepth 100000 in
/-- isOne -/
theorem c_M_isOne (l : Launch) (D : va_G) (cy : Nat → ClassId) (e : Nat → Nat)  (h0 : Nat) (q : Nat → Nat) (wa : Nat) (i_size : Int32) (i_open : Int32) (i_stood : Int32) (i_nodes : Int32) (i_half : Int32) (i_made : Int32) (i_rows : Int32) (i_state : Int32) (i_tested : Int32) (i_length : Int32) (nx : Nat) (wd : Nat) (T : Nat → Int32) (Bf : Nat → Int32) (Ef : Nat → Int32) (Bn : Nat → Nat) (En : Nat → Nat) (a : Int32) (hwd : wd ≤ 3000) (hnx : nx ≤ wd) (hw : wo Bf Ef Bn En wd) : Met l yX9_isOne wsX9_isOne ({ frames := 1, cells := 0, slots := 0, locals := 22 }) (va_Pc [.ref h0, .int a] (pu_B D cy e [(h0, .inr (10, [.ref (q 0), .int i_size, .ref (q 1), .ref (q 2), .int (nI wd), .int (nI nx), .int i_open, .int i_stood, .ref (q 3), .ref (q 4), .ref (q 5), .int i_nodes, .int i_half, .int i_made, .ref (q 6), .ref (q 7), .ref (q 8), .ref (q 9), .ref (q 10), .ref (q 11), .int i_rows, .ref (q 12), .ref (q 13), .ref (q 14), .int i_state, .ref (q 15), .ref (q 16), .ref (q 17), .int i_tested, .ref (q 18), .ref wa, .int i_length])), (q 0, .inl (cy 0, 3000, .inl T)), (q 1, .inl (cy 1, 3001, .inl Bf)), (q 2, .inl (cy 1, 3001, .inl Ef))])) (va_Qi (fun (r : Int32) (_ : Unit) => r = isv1 (ww T Bn En wd nx) (wl Bn En wd nx) a) (fun _ _ => True) (fun _ => False)) 0 0 (fun _ => False) := by
  refine Met.ofW (cc := cX9_isOne) (maxL := 2) (ret := (some .boolean)) (by decide) rfl ?_
  intro p ev s m args below meth c s₁ B hml hv
  obtain ⟨rfl, hP, hK, hG⟩ := hv
  have hx := B.exec
  have hb := B.bytes
  have hr := B.returns
  have hts := atoms_spec (ws := wsX9_isOne) B.pre
  have hown : s.vm.findClass RX9 = some m.cls := findClass_of_methodNamed B.named
  have hlocks := B.notSynchronized
  have hS : va_S (fun _ => False) s.heap s.heap [] := va_S.rf
  have hP : va_P D vwCl [(h0, .inr (10, [.ref (q 0), .int i_size, .ref (q 1), .ref (q 2), .int (nI wd), .int (nI nx), .int i_open, .int i_stood, .ref (q 3), .ref (q 4), .ref (q 5), .int i_nodes, .int i_half, .int i_made, .ref (q 6), .ref (q 7), .ref (q 8), .ref (q 9), .ref (q 10), .ref (q 11), .int i_rows, .ref (q 12), .ref (q 13), .ref (q 14), .int i_state, .ref (q 15), .ref (q 16), .ref (q 17), .int i_tested, .ref (q 18), .ref wa, .int i_length])), (q 0, .inl (cy 0, 3000, .inl T)), (q 1, .inl (cy 1, 3001, .inl Bf)), (q 2, .inl (cy 1, 3001, .inl Ef))] s.heap := hP
  have iX9 : ∀ w ∈ wsX90, w ∈ wsX9_isOne := fun w h => List.mem_cons_of_mem _ (List.mem_append_right _ h)
  have hl := lv_entry ([.ref h0, .int a]) (n := 2) (Nat.le_of_ble_eq_true rfl)
  rw [lg_entry_eq]
  generalize (lg_sl ([.ref h0, .int a]) ++ List.replicate (2 - (lg_sl ([.ref h0, .int a])).length) Slot.unset).toArray = ls at hl ⊢
  have hl : lv_has ls 2 [(0, .ref h0), (1, .int a)] := hl
  refine lv_aload_n hx hb dX9_isOne_0 rfl (lv_at hl 0 rfl) ?_
  refine pu_calli (va_runV (As := []) (rest := []) ⟨hx, hb, hml, hown, hts⟩ (c_M_wide l D cy e h0 q wa i_size i_open i_stood i_nodes i_half i_made i_rows i_state i_tested i_length nx wd Bf Ef Bn En (by first | assumption | omega | decide +kernel) (by first | assumption | omega | decide +kernel) (by first | assumption | omega | decide +kernel)) (cwV 0 hts gX9_isOne_X9_wide rfl rfl rfl (by decide +kernel) ⟨Nat.le_of_ble_eq_true rfl, Nat.le_of_ble_eq_true rfl⟩) (pu_preV hP hK hS hG [0, 2, 3] rfl (q := (RX9, TX9, 32)) (ci := 10) (q0 := 0) rfl rfl) rfl rfl hl.1 rfl (lv_room (Nat.le_of_ble_eq_true rfl)) dX9_isOne_1 ⟨(Nat.le_of_ble_eq_true rfl), (Nat.le_of_ble_eq_true rfl)⟩) hP hS (fun H locs hP hS => ?_)
  have hP : va_P D vwCl [(h0, .inr (10, [.ref (q 0), .int i_size, .ref (q 1), .ref (q 2), .int (nI wd), .int (nI nx), .int i_open, .int i_stood, .ref (q 3), .ref (q 4), .ref (q 5), .int i_nodes, .int i_half, .int i_made, .ref (q 6), .ref (q 7), .ref (q 8), .ref (q 9), .ref (q 10), .ref (q 11), .int i_rows, .ref (q 12), .ref (q 13), .ref (q 14), .int i_state, .ref (q 15), .ref (q 16), .ref (q 17), .int i_tested, .ref (q 18), .ref wa, .int i_length])), (q 0, .inl (cy 0, 3000, .inl T)), (q 1, .inl (cy 1, 3001, .inl Bf)), (q 2, .inl (cy 1, 3001, .inl Ef))] H := hP
  refine lv_iconst (v := 1) hx hb dX9_isOne_4 (by decide +kernel) ?_
  refine lv_icmp_ne (tgt := 21) hx hb dX9_isOne_5 (by decide) (fun c5 => ?_) (fun c5 => ?_)
  · refine lv_iconst (v := 0) hx hb dX9_isOne_21 (by decide +kernel) ?_
    exact W.zret hx hb hr rfl (fun t ht hW => ⟨⟨_, (), rfl, by simp [isv1, c5], trivial⟩, hS.F ht⟩) hS.2.2 dX9_isOne_22
  · refine lv_aload_n hx hb dX9_isOne_8 rfl (lv_at hl 0 rfl) ?_
    refine lv_iconst (v := 0) hx hb dX9_isOne_9 (by decide +kernel) ?_
    refine lv_topi (fun x_1 ex_1 => ?_)
    obtain rfl : x_1 = nI 0 := by rw [ex_1]; exact nI_0.symm
    refine pu_calli (va_runV (As := [.int (nI 0)]) (rest := []) ⟨hx, hb, hml, hown, hts⟩ (c_M_at l D cy e h0 q wa i_size i_open i_stood i_nodes i_half i_made i_rows i_state i_tested i_length nx wd T Bf Ef Bn En 0 (by first | assumption | omega | decide +kernel) (by first | assumption | omega | decide +kernel) (by first | assumption | omega | decide +kernel) (by first | assumption | omega | decide +kernel)) (cwV 1 hts gX9_isOne_X9_at rfl rfl rfl (by decide +kernel) ⟨Nat.le_of_ble_eq_true rfl, Nat.le_of_ble_eq_true rfl⟩) (pu_preV hP hK hS hG [0, 1, 2, 3] rfl (q := (RX9, TX9, 32)) (ci := 10) (q0 := 0) rfl rfl) rfl rfl hl.1 rfl (lv_room (Nat.le_of_ble_eq_true rfl)) dX9_isOne_10 ⟨(Nat.le_of_ble_eq_true rfl), (Nat.le_of_ble_eq_true rfl)⟩) hP hS (fun H locs hP hS => ?_)
    have hP : va_P D vwCl [(h0, .inr (10, [.ref (q 0), .int i_size, .ref (q 1), .ref (q 2), .int (nI wd), .int (nI nx), .int i_open, .int i_stood, .ref (q 3), .ref (q 4), .ref (q 5), .int i_nodes, .int i_half, .int i_made, .ref (q 6), .ref (q 7), .ref (q 8), .ref (q 9), .ref (q 10), .ref (q 11), .int i_rows, .ref (q 12), .ref (q 13), .ref (q 14), .int i_state, .ref (q 15), .ref (q 16), .ref (q 17), .int i_tested, .ref (q 18), .ref wa, .int i_length])), (q 0, .inl (cy 0, 3000, .inl T)), (q 1, .inl (cy 1, 3001, .inl Bf)), (q 2, .inl (cy 1, 3001, .inl Ef))] H := hP
    refine lv_iload_n hx hb dX9_isOne_13 rfl (lv_at hl 1 rfl) ?_
    refine lv_icmp_ne (tgt := 21) hx hb dX9_isOne_14 (by decide) (fun c14 => ?_) (fun c14 => ?_)
    · refine lv_iconst (v := 0) hx hb dX9_isOne_21 (by decide +kernel) ?_
      exact W.zret hx hb hr rfl (fun t ht hW => ⟨⟨_, (), rfl, by simp [isv1, c5, c14], trivial⟩, hS.F ht⟩) hS.2.2 dX9_isOne_22
    · refine lv_iconst (v := 1) hx hb dX9_isOne_17 (by decide +kernel) ?_
      refine lv_goto (tgt := 22) hx hb dX9_isOne_18 (by decide) ?_
      exact W.zret hx hb hr rfl (fun t ht hW => ⟨⟨_, (), rfl, by simp [isv1, c5, c14], trivial⟩, hS.F ht⟩) hS.2.2 dX9_isOne_22

set_option maxHeartbeats 4000000 in
set_option maxRecDepth 100000 in
/-- number(from, most): none, or 0 .. most -/
theorem c_M_number (l : Launch) (D : va_G) (cy : Nat → ClassId) (e : Nat → Nat)  (h0 : Nat) (q : Nat → Nat) (wa : Nat) (i_size : Int32) (i_open : Int32) (i_stood : Int32) (i_nodes : Int32) (i_half : Int32) (i_made : Int32) (i_rows : Int32) (i_state : Int32) (i_tested : Int32) (i_length : Int32) (nx : Nat) (wd : Nat) (T : Nat → Int32) (Bf : Nat → Int32) (Ef : Nat → Int32) (Bn : Nat → Nat) (En : Nat → Nat) (k : Nat) (mo : Nat) (hwd : wd ≤ 3000) (hnx : nx ≤ wd) (hw : wo Bf Ef Bn En wd) (hk : k ≤ 1) (hmo : mo ≤ 3600) : Met l yX9_number wsX9_number ({ frames := 1, cells := 0, slots := 0, locals := 22 }) (va_Pc [.ref h0, .int (nI k), .int (nI mo)] (pu_B D cy e [(h0, .inr (10, [.ref (q 0), .int i_size, .ref (q 1), .ref (q 2), .int (nI wd), .int (nI nx), .int i_open, .int i_stood, .ref (q 3), .ref (q 4), .ref (q 5), .int i_nodes, .int i_half, .int i_made, .ref (q 6), .ref (q 7), .ref (q 8), .ref (q 9), .ref (q 10), .ref (q 11), .int i_rows, .ref (q 12), .ref (q 13), .ref (q 14), .int i_state, .ref (q 15), .ref (q 16), .ref (q 17), .int i_tested, .ref (q 18), .ref wa, .int i_length])), (q 0, .inl (cy 0, 3000, .inl T)), (q 1, .inl (cy 1, 3001, .inl Bf)), (q 2, .inl (cy 1, 3001, .inl Ef))])) (va_Qi (fun (r : Int32) (_ : Unit) => (r = -1 ∨ nx < wd ∧ ∃ x, r = nI x ∧ x ≤ mo) ∧ r = fp_nu (ww T Bn En wd nx) (wl Bn En wd nx) k mo) (fun _ _ => True) (fun _ => False)) 0 0 (fun _ => False) := by
  refine Met.ofW (cc := cX9_number) (maxL := 7) (ret := (some .int)) (by decide) rfl ?_
  intro p ev s m args below meth c s₁ B hml hv
  obtain ⟨rfl, hP, hK, hG⟩ := hv
  have hx := B.exec
  have hb := B.bytes
  have hr := B.returns
  have hts := atoms_spec (ws := wsX9_number) B.pre
  have hown : s.vm.findClass RX9 = some m.cls := findClass_of_methodNamed B.named
  have hlocks := B.notSynchronized
  have hS : va_S (fun _ => False) s.heap s.heap [] := va_S.rf
  have hP : va_P D vwCl [(h0, .inr (10, [.ref (q 0), .int i_size, .ref (q 1), .ref (q 2), .int (nI wd), .int (nI nx), .int i_open, .int i_stood, .ref (q 3), .ref (q 4), .ref (q 5), .int i_nodes, .int i_half, .int i_made, .ref (q 6), .ref (q 7), .ref (q 8), .ref (q 9), .ref (q 10), .ref (q 11), .int i_rows, .ref (q 12), .ref (q 13), .ref (q 14), .int i_state, .ref (q 15), .ref (q 16), .ref (q 17), .int i_tested, .ref (q 18), .ref wa, .int i_length])), (q 0, .inl (cy 0, 3000, .inl T)), (q 1, .inl (cy 1, 3001, .inl Bf)), (q 2, .inl (cy 1, 3001, .inl Ef))] s.heap := hP
  have iX9 : ∀ w ∈ wsX90, w ∈ wsX9_number := fun w h => List.mem_cons_of_mem _ (List.mem_append_right _ h)
  have hl := lv_entry ([.ref h0, .int (nI k), .int (nI mo)]) (n := 7) (Nat.le_of_ble_eq_true rfl)
  rw [lg_entry_eq]
  generalize (lg_sl ([.ref h0, .int (nI k), .int (nI mo)]) ++ List.replicate (7 - (lg_sl ([.ref h0, .int (nI k), .int (nI mo)])).length) Slot.unset).toArray = ls at hl ⊢
  have hl : lv_has ls 7 [(0, .ref h0), (1, .int (nI k)), (2, .int (nI mo))] := hl
  refine lv_aload_n hx hb dX9_number_0 rfl (lv_at hl 0 rfl) ?_
  have hwl := wl_le hw hnx
  refine pu_calli (va_runV (As := []) (rest := []) ⟨hx, hb, hml, hown, hts⟩ (c_M_wide l D cy e h0 q wa i_size i_open i_stood i_nodes i_half i_made i_rows i_state i_tested i_length nx wd Bf Ef Bn En (by first | assumption | omega | decide +kernel) (by first | assumption | omega | decide +kernel) (by first | assumption | omega | decide +kernel)) (cwV 0 hts gX9_number_X9_wide rfl rfl rfl (by decide +kernel) ⟨Nat.le_of_ble_eq_true rfl, Nat.le_of_ble_eq_true rfl⟩) (pu_preV hP hK hS hG [0, 2, 3] rfl (q := (RX9, TX9, 32)) (ci := 10) (q0 := 0) rfl rfl) rfl rfl hl.1 rfl (lv_room (Nat.le_of_ble_eq_true rfl)) dX9_number_1 ⟨(Nat.le_of_ble_eq_true rfl), (Nat.le_of_ble_eq_true rfl)⟩) hP hS (fun H locs hP hS => ?_)
  have hP : va_P D vwCl [(h0, .inr (10, [.ref (q 0), .int i_size, .ref (q 1), .ref (q 2), .int (nI wd), .int (nI nx), .int i_open, .int i_stood, .ref (q 3), .ref (q 4), .ref (q 5), .int i_nodes, .int i_half, .int i_made, .ref (q 6), .ref (q 7), .ref (q 8), .ref (q 9), .ref (q 10), .ref (q 11), .int i_rows, .ref (q 12), .ref (q 13), .ref (q 14), .int i_state, .ref (q 15), .ref (q 16), .ref (q 17), .int i_tested, .ref (q 18), .ref wa, .int i_length])), (q 0, .inl (cy 0, 3000, .inl T)), (q 1, .inl (cy 1, 3001, .inl Bf)), (q 2, .inl (cy 1, 3001, .inl Ef))] H := hP
  refine lv_istore_n (lv' := [(3, .int (nI (wl Bn En wd nx))), (0, .ref h0), (1, .int (nI k)), (2, .int (nI mo))]) hx hb dX9_number_4 rfl hl (by decide) rfl (fun ls hl => ?_)
  refine lv_iload_n hx hb dX9_number_5 rfl (lv_at hl 0 rfl) ?_
  refine lv_iload_n hx hb dX9_number_6 rfl (lv_at hl 2 rfl) ?_
  refine lv_icmp_le (tgt := 34) hx hb dX9_number_7 (by decide) (fun c7 => ?_) (fun c7 => ?_)
  · refine lv_iconst (v := -1) hx hb dX9_number_34 (by decide +kernel) ?_
    exact W.iret hx hb hr (fun t ht hW => ⟨⟨_, (), rfl, ⟨Or.inl rfl, (fp_nu_0 ((nI_leI (by omega) (by omega)).mp c7)).symm⟩, trivial⟩, hS.F ht⟩) hS.2.2 dX9_number_35
  · refine lv_aload_n hx hb dX9_number_10 rfl (lv_at hl 1 rfl) ?_
    refine lv_iload_n hx hb dX9_number_11 rfl (lv_at hl 2 rfl) ?_
    refine pu_calli (va_runV (As := [.int (nI k)]) (rest := []) ⟨hx, hb, hml, hown, hts⟩ (c_M_at l D cy e h0 q wa i_size i_open i_stood i_nodes i_half i_made i_rows i_state i_tested i_length nx wd T Bf Ef Bn En k (by first | assumption | omega | decide +kernel) (by first | assumption | omega | decide +kernel) (by first | assumption | omega | decide +kernel) (by first | assumption | omega | decide +kernel)) (cwV 1 hts gX9_number_X9_at rfl rfl rfl (by decide +kernel) ⟨Nat.le_of_ble_eq_true rfl, Nat.le_of_ble_eq_true rfl⟩) (pu_preV hP hK hS hG [0, 1, 2, 3] rfl (q := (RX9, TX9, 32)) (ci := 10) (q0 := 0) rfl rfl) rfl rfl hl.1 rfl (lv_room (Nat.le_of_ble_eq_true rfl)) dX9_number_12 ⟨(Nat.le_of_ble_eq_true rfl), (Nat.le_of_ble_eq_true rfl)⟩) hP hS (fun H locs hP hS => ?_)
    have hP : va_P D vwCl [(h0, .inr (10, [.ref (q 0), .int i_size, .ref (q 1), .ref (q 2), .int (nI wd), .int (nI nx), .int i_open, .int i_stood, .ref (q 3), .ref (q 4), .ref (q 5), .int i_nodes, .int i_half, .int i_made, .ref (q 6), .ref (q 7), .ref (q 8), .ref (q 9), .ref (q 10), .ref (q 11), .int i_rows, .ref (q 12), .ref (q 13), .ref (q 14), .int i_state, .ref (q 15), .ref (q 16), .ref (q 17), .int i_tested, .ref (q 18), .ref wa, .int i_length])), (q 0, .inl (cy 0, 3000, .inl T)), (q 1, .inl (cy 1, 3001, .inl Bf)), (q 2, .inl (cy 1, 3001, .inl Ef))] H := hP
    refine lv_bipush (v := 48) hx hb dX9_number_15 (by decide +kernel) ?_
    refine lv_icmp_ne (tgt := 27) hx hb dX9_number_17 (by decide) (fun c17 => ?_) (fun c17 => ?_)
    · refine lv_iload_n hx hb dX9_number_27 rfl (lv_at hl 0 rfl) ?_
      refine lv_iload_n hx hb dX9_number_28 rfl (lv_at hl 2 rfl) ?_
      refine lv_iconst (v := 4) hx hb dX9_number_29 (by decide +kernel) ?_
      refine lv_iadd hx hb dX9_number_30 ?_
      refine lv_icmp_le (tgt := 36) hx hb dX9_number_31 (by decide) (fun c31 => ?_) (fun c31 => ?_)
      · refine lv_iconst (v := 0) hx hb dX9_number_36 (by decide +kernel) ?_
        refine lv_istore (lv' := [(4, .int 0), (3, .int (nI (wl Bn En wd nx))), (0, .ref h0), (1, .int (nI k)), (2, .int (nI mo))]) hx hb dX9_number_37 hl (by decide) rfl (fun ls hl => ?_)
        refine lv_iload_n hx hb dX9_number_39 rfl (lv_at hl 3 rfl) ?_
        refine lv_istore (lv' := [(5, .int (nI k)), (4, .int 0), (3, .int (nI (wl Bn En wd nx))), (0, .ref h0), (1, .int (nI k)), (2, .int (nI mo))]) hx hb dX9_number_40 hl (by decide) rfl (fun ls hl => ?_)
        have hk0 : k < wl Bn En wd nx := pk_nle (by omega) c7
        have hnu0 : fp_nu (ww T Bn En wd nx) (wl Bn En wd nx) k mo = fp_num (ww T Bn En wd nx) mo ((wl Bn En wd nx) - k) k 0 := fp_nu_s (by omega) (fun q => c17 q.1)
        have hk4 : wl Bn En wd nx ≤ k + 4 := (nI_leI (by omega) (by omega)).mp (by rw [← nI_add k 4]; exact c31)
        refine lp_W (σ := Nat × Nat) (Wf := fun H locs ls => W p l ev _ s m _ below meth c H locs (0) (0) _ (F0 m 42 ls [])) (fun zz9 H locs ls => match zz9 with | (i, x) => va_P D vwCl [(h0, .inr (10, [.ref (q 0), .int i_size, .ref (q 1), .ref (q 2), .int (nI wd), .int (nI nx), .int i_open, .int i_stood, .ref (q 3), .ref (q 4), .ref (q 5), .int i_nodes, .int i_half, .int i_made, .ref (q 6), .ref (q 7), .ref (q 8), .ref (q 9), .ref (q 10), .ref (q 11), .int i_rows, .ref (q 12), .ref (q 13), .ref (q 14), .int i_state, .ref (q 15), .ref (q 16), .ref (q 17), .int i_tested, .ref (q 18), .ref wa, .int i_length])), (q 0, .inl (cy 0, 3000, .inl T)), (q 1, .inl (cy 1, 3001, .inl Bf)), (q 2, .inl (cy 1, 3001, .inl Ef))] H ∧ va_S (fun _ => False) s.heap H locs ∧ lv_has ls 7 [(5, .int (nI i)), (4, .int (nI x)), (3, .int (nI (wl Bn En wd nx))), (0, .ref h0), (1, .int (nI k)), (2, .int (nI mo))] ∧ (i ≤ wl Bn En wd nx ∧ (i = k ∧ x < 1 ∨ i = k + 1 ∧ x < 10 ∨ i = k + 2 ∧ x < 100 ∨ i = k + 3 ∧ x < 1000 ∨ i = k + 4 ∧ x < 10000) ∧ fp_nu (ww T Bn En wd nx) (wl Bn En wd nx) k mo = fp_num (ww T Bn En wd nx) mo ((wl Bn En wd nx) - i) i x)) (fun zz9 => match zz9 with | (i, x) => wl Bn En wd nx - i) ?_ (k, 0) _ _ ls ⟨hP, hS, lv_sub hl [0, 1, 2, 3, 4, 5] rfl, ⟨by omega, by omega, hnu0⟩⟩
        intro zz9 H locs ls hI ih
        obtain ⟨i, x⟩ := zz9
        obtain ⟨hP, hS, hl, hI⟩ := hI
        have ih42 := ih
        have hI42 := hI
        have hP : va_P D vwCl [(h0, .inr (10, [.ref (q 0), .int i_size, .ref (q 1), .ref (q 2), .int (nI wd), .int (nI nx), .int i_open, .int i_stood, .ref (q 3), .ref (q 4), .ref (q 5), .int i_nodes, .int i_half, .int i_made, .ref (q 6), .ref (q 7), .ref (q 8), .ref (q 9), .ref (q 10), .ref (q 11), .int i_rows, .ref (q 12), .ref (q 13), .ref (q 14), .int i_state, .ref (q 15), .ref (q 16), .ref (q 17), .int i_tested, .ref (q 18), .ref wa, .int i_length])), (q 0, .inl (cy 0, 3000, .inl T)), (q 1, .inl (cy 1, 3001, .inl Bf)), (q 2, .inl (cy 1, 3001, .inl Ef))] H := hP
        have hl : lv_has ls 7 [(5, .int (nI i)), (4, .int (nI x)), (3, .int (nI (wl Bn En wd nx))), (0, .ref h0), (1, .int (nI k)), (2, .int (nI mo))] := hl
        obtain ⟨hI1, hI2, hI3⟩ := hI
        refine lv_iload hx hb dX9_number_42 (lv_at hl 0 rfl) ?_
        refine lv_iload_n hx hb dX9_number_44 rfl (lv_at hl 2 rfl) ?_
        refine lv_icmp_ge (tgt := 91) hx hb dX9_number_45 (by decide) (fun c45 => ?_) (fun c45 => ?_)
        · have hge : wl Bn En wd nx ≤ i := (nI_leI (by omega) (by omega)).mp c45
          refine lv_iload hx hb dX9_number_91 (lv_at hl 1 rfl) ?_
          refine lv_iload_n hx hb dX9_number_93 rfl (lv_at hl 5 rfl) ?_
          refine lv_icmp_gt (tgt := 102) hx hb dX9_number_94 (by decide) (fun c94 => ?_) (fun c94 => ?_)
          · refine lv_iconst (v := -1) hx hb dX9_number_102 (by decide +kernel) ?_
            exact W.iret hx hb hr (fun t ht hW => ⟨⟨_, (), rfl, ⟨Or.inl rfl, (hI3.trans (by rw [show (wl Bn En wd nx) - i = 0 by omega, fp_num, if_neg (Nat.not_le.mpr ((nI_ltI (by omega) (by omega)).mp c94))])).symm⟩, trivial⟩, hS.F ht⟩) hS.2.2 dX9_number_103
          · refine lv_iload hx hb dX9_number_97 (lv_at hl 1 rfl) ?_
            refine lv_goto (tgt := 103) hx hb dX9_number_99 (by decide) ?_
            exact W.iret hx hb hr (fun t ht hW => ⟨⟨_, (), rfl, ⟨Or.inr ⟨wl_pos (Nat.lt_of_le_of_lt (Nat.zero_le _) hk0), x, rfl, Nat.le_of_not_lt (fun h => c94 (nI_lt h (by omega)))⟩, (hI3.trans (by rw [show (wl Bn En wd nx) - i = 0 by omega, fp_num, if_pos (Nat.le_of_not_lt (fun h => c94 (nI_lt h (by omega))))])).symm⟩, trivial⟩, hS.F ht⟩) hS.2.2 dX9_number_103
        · have hlt : i < wl Bn En wd nx := pk_nle (by omega) c45
          have hli : (wl Bn En wd nx) - i = ((wl Bn En wd nx) - (i + 1)) + 1 := by omega
          refine lv_aload_n hx hb dX9_number_48 rfl (lv_at hl 3 rfl) ?_
          refine lv_iload hx hb dX9_number_49 (lv_at hl 0 rfl) ?_
          refine pu_calli (va_runV (As := [.int (nI i)]) (rest := []) ⟨hx, hb, hml, hown, hts⟩ (c_M_at l D cy e h0 q wa i_size i_open i_stood i_nodes i_half i_made i_rows i_state i_tested i_length nx wd T Bf Ef Bn En i (by first | assumption | omega | decide +kernel) (by first | assumption | omega | decide +kernel) (by first | assumption | omega | decide +kernel) (by first | assumption | omega | decide +kernel)) (cwV 1 hts gX9_number_X9_at rfl rfl rfl (by decide +kernel) ⟨Nat.le_of_ble_eq_true rfl, Nat.le_of_ble_eq_true rfl⟩) (pu_preV hP hK hS hG [0, 1, 2, 3] rfl (q := (RX9, TX9, 32)) (ci := 10) (q0 := 0) rfl rfl) rfl rfl hl.1 rfl (lv_room (Nat.le_of_ble_eq_true rfl)) dX9_number_51 ⟨(Nat.le_of_ble_eq_true rfl), (Nat.le_of_ble_eq_true rfl)⟩) hP hS (fun H locs hP hS => ?_)
          have hP : va_P D vwCl [(h0, .inr (10, [.ref (q 0), .int i_size, .ref (q 1), .ref (q 2), .int (nI wd), .int (nI nx), .int i_open, .int i_stood, .ref (q 3), .ref (q 4), .ref (q 5), .int i_nodes, .int i_half, .int i_made, .ref (q 6), .ref (q 7), .ref (q 8), .ref (q 9), .ref (q 10), .ref (q 11), .int i_rows, .ref (q 12), .ref (q 13), .ref (q 14), .int i_state, .ref (q 15), .ref (q 16), .ref (q 17), .int i_tested, .ref (q 18), .ref wa, .int i_length])), (q 0, .inl (cy 0, 3000, .inl T)), (q 1, .inl (cy 1, 3001, .inl Bf)), (q 2, .inl (cy 1, 3001, .inl Ef))] H := hP
          refine lv_istore (lv' := [(6, .int (ww T Bn En wd nx i)), (5, .int (nI i)), (4, .int (nI x)), (3, .int (nI (wl Bn En wd nx))), (0, .ref h0), (1, .int (nI k)), (2, .int (nI mo))]) hx hb dX9_number_54 hl (by decide) rfl (fun ls hl => ?_)
          refine lv_iload hx hb dX9_number_56 (lv_at hl 0 rfl) ?_
          refine lv_bipush (v := 48) hx hb dX9_number_58 (by decide +kernel) ?_
          refine lv_icmp_lt (tgt := 70) hx hb dX9_number_60 (by decide) (fun c60 => ?_) (fun c60 => ?_)
          · refine lv_iconst (v := -1) hx hb dX9_number_70 (by decide +kernel) ?_
            exact W.iret hx hb hr (fun t ht hW => ⟨⟨_, (), rfl, ⟨Or.inl rfl, (hI3.trans (by rw [hli]; exact fp_num_b (Or.inl c60))).symm⟩, trivial⟩, hS.F ht⟩) hS.2.2 dX9_number_71
          · refine lv_iload hx hb dX9_number_63 (lv_at hl 0 rfl) ?_
            refine lv_bipush (v := 57) hx hb dX9_number_65 (by decide +kernel) ?_
            refine lv_icmp_le (tgt := 72) hx hb dX9_number_67 (by decide) (fun c67 => ?_) (fun c67 => ?_)
            · refine lv_bipush (v := 10) hx hb dX9_number_72 (by decide +kernel) ?_
              refine lv_iload hx hb dX9_number_74 (lv_at hl 2 rfl) ?_
              refine lv_imul hx hb dX9_number_76 ?_
              refine lv_iload hx hb dX9_number_77 (lv_at hl 0 rfl) ?_
              refine lv_iadd hx hb dX9_number_79 ?_
              refine lv_bipush (v := 48) hx hb dX9_number_80 (by decide +kernel) ?_
              refine lv_isub hx hb dX9_number_82 ?_
              obtain ⟨dd, hd1, hd2, hdd⟩ := pk_dig c60 c67
              refine lv_topi (fun x_1 ex_1 => ?_)
              obtain rfl : x_1 = nI (10 * x + (dd - 48)) := by rw [ex_1]; rw [hdd]; exact pk_num hd1
              refine lv_istore (lv' := [(4, .int (nI (10 * x + (dd - 48)))), (6, .int (ww T Bn En wd nx i)), (5, .int (nI i)), (3, .int (nI (wl Bn En wd nx))), (0, .ref h0), (1, .int (nI k)), (2, .int (nI mo))]) hx hb dX9_number_83 hl (by decide) rfl (fun ls hl => ?_)
              refine lv_iinc (v := nI (i + 1)) (lv' := [(5, .int (nI (i + 1))), (4, .int (nI (10 * x + (dd - 48)))), (6, .int (ww T Bn En wd nx i)), (3, .int (nI (wl Bn En wd nx))), (0, .ref h0), (1, .int (nI k)), (2, .int (nI mo))]) hx hb dX9_number_85 hl (k := 2) rfl (nI_1 i) (by decide) rfl (fun ls hl => ?_)
              refine lv_goto (tgt := 42) hx hb dX9_number_88 (by decide) ?_
              exact ih42 ((i + 1), (10 * x + (dd - 48))) _ _ ls ⟨hP.sub [0, 1, 2, 3] rfl, hS, lv_sub hl [0, 1, 3, 4, 5, 6] rfl, ⟨by omega, by omega, hI3.trans (by rw [hli]; exact fp_num_s hdd hd1 hd2)⟩⟩ (by (try dsimp only); omega)
            · refine lv_iconst (v := -1) hx hb dX9_number_70 (by decide +kernel) ?_
              exact W.iret hx hb hr (fun t ht hW => ⟨⟨_, (), rfl, ⟨Or.inl rfl, (hI3.trans (by rw [hli]; exact fp_num_b (Or.inr (Int32.not_le.mp c67)))).symm⟩, trivial⟩, hS.F ht⟩) hS.2.2 dX9_number_71
      · refine lv_iconst (v := -1) hx hb dX9_number_34 (by decide +kernel) ?_
        exact W.iret hx hb hr (fun t ht hW => ⟨⟨_, (), rfl, ⟨Or.inl rfl, (fp_nu_long hmo (pk_nle (by omega) (by rw [← nI_add k 4]; exact c31))).symm⟩, trivial⟩, hS.F ht⟩) hS.2.2 dX9_number_35
    · refine lv_iload_n hx hb dX9_number_20 rfl (lv_at hl 0 rfl) ?_
      refine lv_iload_n hx hb dX9_number_21 rfl (lv_at hl 2 rfl) ?_
      refine lv_iconst (v := 1) hx hb dX9_number_22 (by decide +kernel) ?_
      refine lv_iadd hx hb dX9_number_23 ?_
      refine lv_icmp_gt (tgt := 34) hx hb dX9_number_24 (by decide) (fun c24 => ?_) (fun c24 => ?_)
      · refine lv_iconst (v := -1) hx hb dX9_number_34 (by decide +kernel) ?_
        exact W.iret hx hb hr (fun t ht hW => ⟨⟨_, (), rfl, ⟨Or.inl rfl, (fp_nu_z c17 ((nI_ltI (by omega) (by omega)).mp (by rw [← nI_1]; exact c24))).symm⟩, trivial⟩, hS.F ht⟩) hS.2.2 dX9_number_35
      · refine lv_iload_n hx hb dX9_number_27 rfl (lv_at hl 0 rfl) ?_
        refine lv_iload_n hx hb dX9_number_28 rfl (lv_at hl 2 rfl) ?_
        refine lv_iconst (v := 4) hx hb dX9_number_29 (by decide +kernel) ?_
        refine lv_iadd hx hb dX9_number_30 ?_
        refine lv_icmp_le (tgt := 36) hx hb dX9_number_31 (by decide) (fun c31 => ?_) (fun c31 => ?_)
        · refine lv_iconst (v := 0) hx hb dX9_number_36 (by decide +kernel) ?_
          refine lv_istore (lv' := [(4, .int 0), (3, .int (nI (wl Bn En wd nx))), (0, .ref h0), (1, .int (nI k)), (2, .int (nI mo))]) hx hb dX9_number_37 hl (by decide) rfl (fun ls hl => ?_)
          refine lv_iload_n hx hb dX9_number_39 rfl (lv_at hl 3 rfl) ?_
          refine lv_istore (lv' := [(5, .int (nI k)), (4, .int 0), (3, .int (nI (wl Bn En wd nx))), (0, .ref h0), (1, .int (nI k)), (2, .int (nI mo))]) hx hb dX9_number_40 hl (by decide) rfl (fun ls hl => ?_)
          have hk0 : k < wl Bn En wd nx := pk_nle (by omega) c7
          have hnu0 : fp_nu (ww T Bn En wd nx) (wl Bn En wd nx) k mo = fp_num (ww T Bn En wd nx) mo ((wl Bn En wd nx) - k) k 0 := fp_nu_s (by omega) (fun q => c24 (by rw [nI_1]; exact nI_lt q.2 (by omega)))
          have hk4 : wl Bn En wd nx ≤ k + 4 := (nI_leI (by omega) (by omega)).mp (by rw [← nI_add k 4]; exact c31)
          refine lp_W (σ := Nat × Nat) (Wf := fun H locs ls => W p l ev _ s m _ below meth c H locs (0) (0) _ (F0 m 42 ls [])) (fun zz9 H locs ls => match zz9 with | (i, x) => va_P D vwCl [(h0, .inr (10, [.ref (q 0), .int i_size, .ref (q 1), .ref (q 2), .int (nI wd), .int (nI nx), .int i_open, .int i_stood, .ref (q 3), .ref (q 4), .ref (q 5), .int i_nodes, .int i_half, .int i_made, .ref (q 6), .ref (q 7), .ref (q 8), .ref (q 9), .ref (q 10), .ref (q 11), .int i_rows, .ref (q 12), .ref (q 13), .ref (q 14), .int i_state, .ref (q 15), .ref (q 16), .ref (q 17), .int i_tested, .ref (q 18), .ref wa, .int i_length])), (q 0, .inl (cy 0, 3000, .inl T)), (q 1, .inl (cy 1, 3001, .inl Bf)), (q 2, .inl (cy 1, 3001, .inl Ef))] H ∧ va_S (fun _ => False) s.heap H locs ∧ lv_has ls 7 [(5, .int (nI i)), (4, .int (nI x)), (3, .int (nI (wl Bn En wd nx))), (0, .ref h0), (1, .int (nI k)), (2, .int (nI mo))] ∧ (i ≤ wl Bn En wd nx ∧ (i = k ∧ x < 1 ∨ i = k + 1 ∧ x < 10 ∨ i = k + 2 ∧ x < 100 ∨ i = k + 3 ∧ x < 1000 ∨ i = k + 4 ∧ x < 10000) ∧ fp_nu (ww T Bn En wd nx) (wl Bn En wd nx) k mo = fp_num (ww T Bn En wd nx) mo ((wl Bn En wd nx) - i) i x)) (fun zz9 => match zz9 with | (i, x) => wl Bn En wd nx - i) ?_ (k, 0) _ _ ls ⟨hP, hS, lv_sub hl [0, 1, 2, 3, 4, 5] rfl, ⟨by omega, by omega, hnu0⟩⟩
          intro zz9 H locs ls hI ih
          obtain ⟨i, x⟩ := zz9
          obtain ⟨hP, hS, hl, hI⟩ := hI
          have ih42 := ih
          have hI42 := hI
          have hP : va_P D vwCl [(h0, .inr (10, [.ref (q 0), .int i_size, .ref (q 1), .ref (q 2), .int (nI wd), .int (nI nx), .int i_open, .int i_stood, .ref (q 3), .ref (q 4), .ref (q 5), .int i_nodes, .int i_half, .int i_made, .ref (q 6), .ref (q 7), .ref (q 8), .ref (q 9), .ref (q 10), .ref (q 11), .int i_rows, .ref (q 12), .ref (q 13), .ref (q 14), .int i_state, .ref (q 15), .ref (q 16), .ref (q 17), .int i_tested, .ref (q 18), .ref wa, .int i_length])), (q 0, .inl (cy 0, 3000, .inl T)), (q 1, .inl (cy 1, 3001, .inl Bf)), (q 2, .inl (cy 1, 3001, .inl Ef))] H := hP
          have hl : lv_has ls 7 [(5, .int (nI i)), (4, .int (nI x)), (3, .int (nI (wl Bn En wd nx))), (0, .ref h0), (1, .int (nI k)), (2, .int (nI mo))] := hl
          obtain ⟨hI1, hI2, hI3⟩ := hI
          refine lv_iload hx hb dX9_number_42 (lv_at hl 0 rfl) ?_
          refine lv_iload_n hx hb dX9_number_44 rfl (lv_at hl 2 rfl) ?_
          refine lv_icmp_ge (tgt := 91) hx hb dX9_number_45 (by decide) (fun c45 => ?_) (fun c45 => ?_)
          · have hge : wl Bn En wd nx ≤ i := (nI_leI (by omega) (by omega)).mp c45
            refine lv_iload hx hb dX9_number_91 (lv_at hl 1 rfl) ?_
            refine lv_iload_n hx hb dX9_number_93 rfl (lv_at hl 5 rfl) ?_
            refine lv_icmp_gt (tgt := 102) hx hb dX9_number_94 (by decide) (fun c94 => ?_) (fun c94 => ?_)
            · refine lv_iconst (v := -1) hx hb dX9_number_102 (by decide +kernel) ?_
              exact W.iret hx hb hr (fun t ht hW => ⟨⟨_, (), rfl, ⟨Or.inl rfl, (hI3.trans (by rw [show (wl Bn En wd nx) - i = 0 by omega, fp_num, if_neg (Nat.not_le.mpr ((nI_ltI (by omega) (by omega)).mp c94))])).symm⟩, trivial⟩, hS.F ht⟩) hS.2.2 dX9_number_103
            · refine lv_iload hx hb dX9_number_97 (lv_at hl 1 rfl) ?_
              refine lv_goto (tgt := 103) hx hb dX9_number_99 (by decide) ?_
              exact W.iret hx hb hr (fun t ht hW => ⟨⟨_, (), rfl, ⟨Or.inr ⟨wl_pos (Nat.lt_of_le_of_lt (Nat.zero_le _) hk0), x, rfl, Nat.le_of_not_lt (fun h => c94 (nI_lt h (by omega)))⟩, (hI3.trans (by rw [show (wl Bn En wd nx) - i = 0 by omega, fp_num, if_pos (Nat.le_of_not_lt (fun h => c94 (nI_lt h (by omega))))])).symm⟩, trivial⟩, hS.F ht⟩) hS.2.2 dX9_number_103
          · have hlt : i < wl Bn En wd nx := pk_nle (by omega) c45
            have hli : (wl Bn En wd nx) - i = ((wl Bn En wd nx) - (i + 1)) + 1 := by omega
            refine lv_aload_n hx hb dX9_number_48 rfl (lv_at hl 3 rfl) ?_
            refine lv_iload hx hb dX9_number_49 (lv_at hl 0 rfl) ?_
            refine pu_calli (va_runV (As := [.int (nI i)]) (rest := []) ⟨hx, hb, hml, hown, hts⟩ (c_M_at l D cy e h0 q wa i_size i_open i_stood i_nodes i_half i_made i_rows i_state i_tested i_length nx wd T Bf Ef Bn En i (by first | assumption | omega | decide +kernel) (by first | assumption | omega | decide +kernel) (by first | assumption | omega | decide +kernel) (by first | assumption | omega | decide +kernel)) (cwV 1 hts gX9_number_X9_at rfl rfl rfl (by decide +kernel) ⟨Nat.le_of_ble_eq_true rfl, Nat.le_of_ble_eq_true rfl⟩) (pu_preV hP hK hS hG [0, 1, 2, 3] rfl (q := (RX9, TX9, 32)) (ci := 10) (q0 := 0) rfl rfl) rfl rfl hl.1 rfl (lv_room (Nat.le_of_ble_eq_true rfl)) dX9_number_51 ⟨(Nat.le_of_ble_eq_true rfl), (Nat.le_of_ble_eq_true rfl)⟩) hP hS (fun H locs hP hS => ?_)
            have hP : va_P D vwCl [(h0, .inr (10, [.ref (q 0), .int i_size, .ref (q 1), .ref (q 2), .int (nI wd), .int (nI nx), .int i_open, .int i_stood, .ref (q 3), .ref (q 4), .ref (q 5), .int i_nodes, .int i_half, .int i_made, .ref (q 6), .ref (q 7), .ref (q 8), .ref (q 9), .ref (q 10), .ref (q 11), .int i_rows, .ref (q 12), .ref (q 13), .ref (q 14), .int i_state, .ref (q 15), .ref (q 16), .ref (q 17), .int i_tested, .ref (q 18), .ref wa, .int i_length])), (q 0, .inl (cy 0, 3000, .inl T)), (q 1, .inl (cy 1, 3001, .inl Bf)), (q 2, .inl (cy 1, 3001, .inl Ef))] H := hP
            refine lv_istore (lv' := [(6, .int (ww T Bn En wd nx i)), (5, .int (nI i)), (4, .int (nI x)), (3, .int (nI (wl Bn En wd nx))), (0, .ref h0), (1, .int (nI k)), (2, .int (nI mo))]) hx hb dX9_number_54 hl (by decide) rfl (fun ls hl => ?_)
            refine lv_iload hx hb dX9_number_56 (lv_at hl 0 rfl) ?_
            refine lv_bipush (v := 48) hx hb dX9_number_58 (by decide +kernel) ?_
            refine lv_icmp_lt (tgt := 70) hx hb dX9_number_60 (by decide) (fun c60 => ?_) (fun c60 => ?_)
            · refine lv_iconst (v := -1) hx hb dX9_number_70 (by decide +kernel) ?_
              exact W.iret hx hb hr (fun t ht hW => ⟨⟨_, (), rfl, ⟨Or.inl rfl, (hI3.trans (by rw [hli]; exact fp_num_b (Or.inl c60))).symm⟩, trivial⟩, hS.F ht⟩) hS.2.2 dX9_number_71
            · refine lv_iload hx hb dX9_number_63 (lv_at hl 0 rfl) ?_
              refine lv_bipush (v := 57) hx hb dX9_number_65 (by decide +kernel) ?_
              refine lv_icmp_le (tgt := 72) hx hb dX9_number_67 (by decide) (fun c67 => ?_) (fun c67 => ?_)
              · refine lv_bipush (v := 10) hx hb dX9_number_72 (by decide +kernel) ?_
                refine lv_iload hx hb dX9_number_74 (lv_at hl 2 rfl) ?_
                refine lv_imul hx hb dX9_number_76 ?_
                refine lv_iload hx hb dX9_number_77 (lv_at hl 0 rfl) ?_
                refine lv_iadd hx hb dX9_number_79 ?_
                refine lv_bipush (v := 48) hx hb dX9_number_80 (by decide +kernel) ?_
                refine lv_isub hx hb dX9_number_82 ?_
                obtain ⟨dd, hd1, hd2, hdd⟩ := pk_dig c60 c67
                refine lv_topi (fun x_2 ex_2 => ?_)
                obtain rfl : x_2 = nI (10 * x + (dd - 48)) := by rw [ex_2]; rw [hdd]; exact pk_num hd1
                refine lv_istore (lv' := [(4, .int (nI (10 * x + (dd - 48)))), (6, .int (ww T Bn En wd nx i)), (5, .int (nI i)), (3, .int (nI (wl Bn En wd nx))), (0, .ref h0), (1, .int (nI k)), (2, .int (nI mo))]) hx hb dX9_number_83 hl (by decide) rfl (fun ls hl => ?_)
                refine lv_iinc (v := nI (i + 1)) (lv' := [(5, .int (nI (i + 1))), (4, .int (nI (10 * x + (dd - 48)))), (6, .int (ww T Bn En wd nx i)), (3, .int (nI (wl Bn En wd nx))), (0, .ref h0), (1, .int (nI k)), (2, .int (nI mo))]) hx hb dX9_number_85 hl (k := 2) rfl (nI_1 i) (by decide) rfl (fun ls hl => ?_)
                refine lv_goto (tgt := 42) hx hb dX9_number_88 (by decide) ?_
                exact ih42 ((i + 1), (10 * x + (dd - 48))) _ _ ls ⟨hP.sub [0, 1, 2, 3] rfl, hS, lv_sub hl [0, 1, 3, 4, 5, 6] rfl, ⟨by omega, by omega, hI3.trans (by rw [hli]; exact fp_num_s hdd hd1 hd2)⟩⟩ (by (try dsimp only); omega)
              · refine lv_iconst (v := -1) hx hb dX9_number_70 (by decide +kernel) ?_
                exact W.iret hx hb hr (fun t ht hW => ⟨⟨_, (), rfl, ⟨Or.inl rfl, (hI3.trans (by rw [hli]; exact fp_num_b (Or.inr (Int32.not_le.mp c67)))).symm⟩, trivial⟩, hS.F ht⟩) hS.2.2 dX9_number_71
        · refine lv_iconst (v := -1) hx hb dX9_number_34 (by decide +kernel) ?_
          exact W.iret hx hb hr (fun t ht hW => ⟨⟨_, (), rfl, ⟨Or.inl rfl, (fp_nu_long hmo (pk_nle (by omega) (by rw [← nI_add k 4]; exact c31))).symm⟩, trivial⟩, hS.F ht⟩) hS.2.2 dX9_number_35

set_option maxHeartbeats 4000000 in
set_option maxRecDepth 100000 in
theorem c_M_act (l : Launch) (D : va_G) (cy : Nat → ClassId) (e : Nat → Nat)  (h0 : Nat) (q : Nat → Nat) (wa : Nat) (i_size : Int32) (i_open : Int32) (i_stood : Int32) (i_nodes : Int32) (i_half : Int32) (i_made : Int32) (i_rows : Int32) (i_state : Int32) (i_tested : Int32) (i_length : Int32) (nx : Nat) (wd : Nat) (T : Nat → Int32) (Bf : Nat → Int32) (Ef : Nat → Int32) (Bn : Nat → Nat) (En : Nat → Nat) (hwd : wd ≤ 3000) (hnx : nx ≤ wd) (hw : wo Bf Ef Bn En wd) (hfd : fp_wd (ww T Bn En wd nx) (wl Bn En wd nx)) : Met l yX9_act wsX9_act ({ frames := 2, cells := 0, slots := 0, locals := 48 }) (va_Pc [.ref h0] (pu_B D cy e [(h0, .inr (10, [.ref (q 0), .int i_size, .ref (q 1), .ref (q 2), .int (nI wd), .int (nI nx), .int i_open, .int i_stood, .ref (q 3), .ref (q 4), .ref (q 5), .int i_nodes, .int i_half, .int i_made, .ref (q 6), .ref (q 7), .ref (q 8), .ref (q 9), .ref (q 10), .ref (q 11), .int i_rows, .ref (q 12), .ref (q 13), .ref (q 14), .int i_state, .ref (q 15), .ref (q 16), .ref (q 17), .int i_tested, .ref (q 18), .ref wa, .int i_length])), (q 0, .inl (cy 0, 3000, .inl T)), (q 1, .inl (cy 1, 3001, .inl Bf)), (q 2, .inl (cy 1, 3001, .inl Ef))])) (va_Qi (fun (r : Int32) (_ : Unit) => (r = -1 ∨ nx < wd ∧ ∃ x, r = nI x ∧ x ≤ 31) ∧ r = if mk_K T Bn En wd nx = 12 then mk_V T Bn En wd nx else -1) (fun _ _ => True) (fun _ => False)) 0 0 (fun _ => False) := by
  refine Met.ofW (cc := cX9_act) (maxL := 1) (ret := (some .int)) (by decide) rfl ?_
  intro p ev s m args below meth c s₁ B hml hv
  obtain ⟨rfl, hP, hK, hG⟩ := hv
  have hx := B.exec
  have hb := B.bytes
  have hr := B.returns
  have hts := atoms_spec (ws := wsX9_act) B.pre
  have hown : s.vm.findClass RX9 = some m.cls := findClass_of_methodNamed B.named
  have hlocks := B.notSynchronized
  have hS : va_S (fun _ => False) s.heap s.heap [] := va_S.rf
  have hP : va_P D vwCl [(h0, .inr (10, [.ref (q 0), .int i_size, .ref (q 1), .ref (q 2), .int (nI wd), .int (nI nx), .int i_open, .int i_stood, .ref (q 3), .ref (q 4), .ref (q 5), .int i_nodes, .int i_half, .int i_made, .ref (q 6), .ref (q 7), .ref (q 8), .ref (q 9), .ref (q 10), .ref (q 11), .int i_rows, .ref (q 12), .ref (q 13), .ref (q 14), .int i_state, .ref (q 15), .ref (q 16), .ref (q 17), .int i_tested, .ref (q 18), .ref wa, .int i_length])), (q 0, .inl (cy 0, 3000, .inl T)), (q 1, .inl (cy 1, 3001, .inl Bf)), (q 2, .inl (cy 1, 3001, .inl Ef))] s.heap := hP
  have iX9 : ∀ w ∈ wsX90, w ∈ wsX9_act := fun w h => List.mem_cons_of_mem _ (List.mem_append_right _ h)
  have hl := lv_entry ([.ref h0]) (n := 1) (Nat.le_of_ble_eq_true rfl)
  rw [lg_entry_eq]
  generalize (lg_sl ([.ref h0]) ++ List.replicate (1 - (lg_sl ([.ref h0])).length) Slot.unset).toArray = ls at hl ⊢
  have hl : lv_has ls 1 [(0, .ref h0)] := hl
  refine lv_aload_n hx hb dX9_act_0 rfl (lv_at hl 0 rfl) ?_
  refine lv_iconst (v := 0) hx hb dX9_act_1 (by decide +kernel) ?_
  refine lv_topi (fun x_1 ex_1 => ?_)
  obtain rfl : x_1 = nI 0 := by rw [ex_1]; exact nI_0.symm
  refine pu_calli (va_runV (As := [.int (nI 0)]) (rest := []) ⟨hx, hb, hml, hown, hts⟩ (c_M_at l D cy e h0 q wa i_size i_open i_stood i_nodes i_half i_made i_rows i_state i_tested i_length nx wd T Bf Ef Bn En 0 (by first | assumption | omega | decide +kernel) (by first | assumption | omega | decide +kernel) (by first | assumption | omega | decide +kernel) (by first | assumption | omega | decide +kernel)) (cwV 1 hts gX9_act_X9_at rfl rfl rfl (by decide +kernel) ⟨Nat.le_of_ble_eq_true rfl, Nat.le_of_ble_eq_true rfl⟩) (pu_preV hP hK hS hG [0, 1, 2, 3] rfl (q := (RX9, TX9, 32)) (ci := 10) (q0 := 0) rfl rfl) rfl rfl hl.1 rfl (lv_room (Nat.le_of_ble_eq_true rfl)) dX9_act_2 ⟨(Nat.le_of_ble_eq_true rfl), (Nat.le_of_ble_eq_true rfl)⟩) hP hS (fun H locs hP hS => ?_)
  have hP : va_P D vwCl [(h0, .inr (10, [.ref (q 0), .int i_size, .ref (q 1), .ref (q 2), .int (nI wd), .int (nI nx), .int i_open, .int i_stood, .ref (q 3), .ref (q 4), .ref (q 5), .int i_nodes, .int i_half, .int i_made, .ref (q 6), .ref (q 7), .ref (q 8), .ref (q 9), .ref (q 10), .ref (q 11), .int i_rows, .ref (q 12), .ref (q 13), .ref (q 14), .int i_state, .ref (q 15), .ref (q 16), .ref (q 17), .int i_tested, .ref (q 18), .ref wa, .int i_length])), (q 0, .inl (cy 0, 3000, .inl T)), (q 1, .inl (cy 1, 3001, .inl Bf)), (q 2, .inl (cy 1, 3001, .inl Ef))] H := hP
  refine lv_bipush (v := 97) hx hb dX9_act_5 (by decide +kernel) ?_
  refine lv_icmp_ne (tgt := 20) hx hb dX9_act_7 (by decide) (fun c7 => ?_) (fun c7 => ?_)
  · refine lv_iconst (v := -1) hx hb dX9_act_20 (by decide +kernel) ?_
    exact W.iret hx hb hr (fun t ht hW => ⟨⟨_, (), rfl, ⟨Or.inl rfl, (if_neg c7).symm.trans (fp_act hfd)⟩, trivial⟩, hS.F ht⟩) hS.2.2 dX9_act_21
  · refine lv_aload_n hx hb dX9_act_10 rfl (lv_at hl 0 rfl) ?_
    refine lv_iconst (v := 1) hx hb dX9_act_11 (by decide +kernel) ?_
    refine lv_topi (fun x_2 ex_2 => ?_)
    obtain rfl : x_2 = nI 1 := ex_2
    refine lv_bipush (v := 31) hx hb dX9_act_12 (by decide +kernel) ?_
    refine lv_topi (fun x_3 ex_3 => ?_)
    obtain rfl : x_3 = nI 31 := ex_3
    refine pu_callni (va_runV (As := [.int (nI 1), .int (nI 31)]) (rest := []) ⟨hx, hb, hml, hown, hts⟩ (c_M_number l D cy e h0 q wa i_size i_open i_stood i_nodes i_half i_made i_rows i_state i_tested i_length nx wd T Bf Ef Bn En 1 31 (by first | assumption | omega | decide +kernel) (by first | assumption | omega | decide +kernel) (by first | assumption | omega | decide +kernel) (by first | assumption | omega | decide +kernel) (by first | assumption | omega | decide +kernel)) (cwV 2 hts gX9_act_X9_number rfl rfl rfl (by decide +kernel) ⟨Nat.le_of_ble_eq_true rfl, Nat.le_of_ble_eq_true rfl⟩) (pu_preV hP hK hS hG [0, 1, 2, 3] rfl (q := (RX9, TX9, 32)) (ci := 10) (q0 := 0) rfl rfl) rfl rfl hl.1 rfl (lv_room (Nat.le_of_ble_eq_true rfl)) dX9_act_14 ⟨(Nat.le_of_ble_eq_true rfl), (Nat.le_of_ble_eq_true rfl)⟩) hP hS (fun r14 H locs hw hP hS => ?_)
    have hP : va_P D vwCl [(h0, .inr (10, [.ref (q 0), .int i_size, .ref (q 1), .ref (q 2), .int (nI wd), .int (nI nx), .int i_open, .int i_stood, .ref (q 3), .ref (q 4), .ref (q 5), .int i_nodes, .int i_half, .int i_made, .ref (q 6), .ref (q 7), .ref (q 8), .ref (q 9), .ref (q 10), .ref (q 11), .int i_rows, .ref (q 12), .ref (q 13), .ref (q 14), .int i_state, .ref (q 15), .ref (q 16), .ref (q 17), .int i_tested, .ref (q 18), .ref wa, .int i_length])), (q 0, .inl (cy 0, 3000, .inl T)), (q 1, .inl (cy 1, 3001, .inl Bf)), (q 2, .inl (cy 1, 3001, .inl Ef))] H := hP
    replace hw : (r14 = -1 ∨ nx < wd ∧ ∃ x, r14 = nI x ∧ x ≤ 31) ∧ r14 = fp_nu (ww T Bn En wd nx) (wl Bn En wd nx) 1 31 := hw
    refine lv_goto (tgt := 21) hx hb dX9_act_17 (by decide) ?_
    exact W.iret hx hb hr (fun t ht hW => ⟨⟨_, (), rfl, ⟨hw.1, (hw.2.trans (if_pos c7).symm).trans (fp_act hfd)⟩, trivial⟩, hS.F ht⟩) hS.2.2 dX9_act_21

set_option maxHeartbeats 4000000 in
set_option maxRecDepth 100000 in
theorem c_M_conditionWord (l : Launch) (D : va_G) (cy : Nat → ClassId) (e : Nat → Nat)  (h0 : Nat) (q : Nat → Nat) (wa : Nat) (i_size : Int32) (i_open : Int32) (i_stood : Int32) (i_nodes : Int32) (i_half : Int32) (i_made : Int32) (i_rows : Int32) (i_state : Int32) (i_tested : Int32) (i_length : Int32) (nx : Nat) (wd : Nat) (T : Nat → Int32) (Bf : Nat → Int32) (Ef : Nat → Int32) (Bn : Nat → Nat) (En : Nat → Nat) (hwd : wd ≤ 3000) (hnx : nx ≤ wd) (hw : wo Bf Ef Bn En wd) (hfd : fp_wd (ww T Bn En wd nx) (wl Bn En wd nx)) : Met l yX9_conditionWord wsX9_conditionWord ({ frames := 2, cells := 0, slots := 0, locals := 48 }) (va_Pc [.ref h0] (pu_B D cy e [(h0, .inr (10, [.ref (q 0), .int i_size, .ref (q 1), .ref (q 2), .int (nI wd), .int (nI nx), .int i_open, .int i_stood, .ref (q 3), .ref (q 4), .ref (q 5), .int i_nodes, .int i_half, .int i_made, .ref (q 6), .ref (q 7), .ref (q 8), .ref (q 9), .ref (q 10), .ref (q 11), .int i_rows, .ref (q 12), .ref (q 13), .ref (q 14), .int i_state, .ref (q 15), .ref (q 16), .ref (q 17), .int i_tested, .ref (q 18), .ref wa, .int i_length])), (q 0, .inl (cy 0, 3000, .inl T)), (q 1, .inl (cy 1, 3001, .inl Bf)), (q 2, .inl (cy 1, 3001, .inl Ef))])) (va_Qi (fun (r : Int32) (_ : Unit) => (r = -1 ∨ nx < wd ∧ ∃ x, r = nI x ∧ x ≤ 15) ∧ r = if mk_K T Bn En wd nx = 13 then mk_V T Bn En wd nx else -1) (fun _ _ => True) (fun _ => False)) 0 0 (fun _ => False) := by
  refine Met.ofW (cc := cX9_conditionWord) (maxL := 1) (ret := (some .int)) (by decide) rfl ?_
  intro p ev s m args below meth c s₁ B hml hv
  obtain ⟨rfl, hP, hK, hG⟩ := hv
  have hx := B.exec
  have hb := B.bytes
  have hr := B.returns
  have hts := atoms_spec (ws := wsX9_conditionWord) B.pre
  have hown : s.vm.findClass RX9 = some m.cls := findClass_of_methodNamed B.named
  have hlocks := B.notSynchronized
  have hS : va_S (fun _ => False) s.heap s.heap [] := va_S.rf
  have hP : va_P D vwCl [(h0, .inr (10, [.ref (q 0), .int i_size, .ref (q 1), .ref (q 2), .int (nI wd), .int (nI nx), .int i_open, .int i_stood, .ref (q 3), .ref (q 4), .ref (q 5), .int i_nodes, .int i_half, .int i_made, .ref (q 6), .ref (q 7), .ref (q 8), .ref (q 9), .ref (q 10), .ref (q 11), .int i_rows, .ref (q 12), .ref (q 13), .ref (q 14), .int i_state, .ref (q 15), .ref (q 16), .ref (q 17), .int i_tested, .ref (q 18), .ref wa, .int i_length])), (q 0, .inl (cy 0, 3000, .inl T)), (q 1, .inl (cy 1, 3001, .inl Bf)), (q 2, .inl (cy 1, 3001, .inl Ef))] s.heap := hP
  have iX9 : ∀ w ∈ wsX90, w ∈ wsX9_conditionWord := fun w h => List.mem_cons_of_mem _ (List.mem_append_right _ h)
  have hl := lv_entry ([.ref h0]) (n := 1) (Nat.le_of_ble_eq_true rfl)
  rw [lg_entry_eq]
  generalize (lg_sl ([.ref h0]) ++ List.replicate (1 - (lg_sl ([.ref h0])).length) Slot.unset).toArray = ls at hl ⊢
  have hl : lv_has ls 1 [(0, .ref h0)] := hl
  refine lv_aload_n hx hb dX9_conditionWord_0 rfl (lv_at hl 0 rfl) ?_
  refine lv_iconst (v := 0) hx hb dX9_conditionWord_1 (by decide +kernel) ?_
  refine lv_topi (fun x_1 ex_1 => ?_)
  obtain rfl : x_1 = nI 0 := by rw [ex_1]; exact nI_0.symm
  refine pu_calli (va_runV (As := [.int (nI 0)]) (rest := []) ⟨hx, hb, hml, hown, hts⟩ (c_M_at l D cy e h0 q wa i_size i_open i_stood i_nodes i_half i_made i_rows i_state i_tested i_length nx wd T Bf Ef Bn En 0 (by first | assumption | omega | decide +kernel) (by first | assumption | omega | decide +kernel) (by first | assumption | omega | decide +kernel) (by first | assumption | omega | decide +kernel)) (cwV 1 hts gX9_conditionWord_X9_at rfl rfl rfl (by decide +kernel) ⟨Nat.le_of_ble_eq_true rfl, Nat.le_of_ble_eq_true rfl⟩) (pu_preV hP hK hS hG [0, 1, 2, 3] rfl (q := (RX9, TX9, 32)) (ci := 10) (q0 := 0) rfl rfl) rfl rfl hl.1 rfl (lv_room (Nat.le_of_ble_eq_true rfl)) dX9_conditionWord_2 ⟨(Nat.le_of_ble_eq_true rfl), (Nat.le_of_ble_eq_true rfl)⟩) hP hS (fun H locs hP hS => ?_)
  have hP : va_P D vwCl [(h0, .inr (10, [.ref (q 0), .int i_size, .ref (q 1), .ref (q 2), .int (nI wd), .int (nI nx), .int i_open, .int i_stood, .ref (q 3), .ref (q 4), .ref (q 5), .int i_nodes, .int i_half, .int i_made, .ref (q 6), .ref (q 7), .ref (q 8), .ref (q 9), .ref (q 10), .ref (q 11), .int i_rows, .ref (q 12), .ref (q 13), .ref (q 14), .int i_state, .ref (q 15), .ref (q 16), .ref (q 17), .int i_tested, .ref (q 18), .ref wa, .int i_length])), (q 0, .inl (cy 0, 3000, .inl T)), (q 1, .inl (cy 1, 3001, .inl Bf)), (q 2, .inl (cy 1, 3001, .inl Ef))] H := hP
  refine lv_bipush (v := 99) hx hb dX9_conditionWord_5 (by decide +kernel) ?_
  refine lv_icmp_ne (tgt := 20) hx hb dX9_conditionWord_7 (by decide) (fun c7 => ?_) (fun c7 => ?_)
  · refine lv_iconst (v := -1) hx hb dX9_conditionWord_20 (by decide +kernel) ?_
    exact W.iret hx hb hr (fun t ht hW => ⟨⟨_, (), rfl, ⟨Or.inl rfl, (if_neg c7).symm.trans (fp_cnd hfd)⟩, trivial⟩, hS.F ht⟩) hS.2.2 dX9_conditionWord_21
  · refine lv_aload_n hx hb dX9_conditionWord_10 rfl (lv_at hl 0 rfl) ?_
    refine lv_iconst (v := 1) hx hb dX9_conditionWord_11 (by decide +kernel) ?_
    refine lv_topi (fun x_2 ex_2 => ?_)
    obtain rfl : x_2 = nI 1 := ex_2
    refine lv_bipush (v := 15) hx hb dX9_conditionWord_12 (by decide +kernel) ?_
    refine lv_topi (fun x_3 ex_3 => ?_)
    obtain rfl : x_3 = nI 15 := ex_3
    refine pu_callni (va_runV (As := [.int (nI 1), .int (nI 15)]) (rest := []) ⟨hx, hb, hml, hown, hts⟩ (c_M_number l D cy e h0 q wa i_size i_open i_stood i_nodes i_half i_made i_rows i_state i_tested i_length nx wd T Bf Ef Bn En 1 15 (by first | assumption | omega | decide +kernel) (by first | assumption | omega | decide +kernel) (by first | assumption | omega | decide +kernel) (by first | assumption | omega | decide +kernel) (by first | assumption | omega | decide +kernel)) (cwV 2 hts gX9_conditionWord_X9_number rfl rfl rfl (by decide +kernel) ⟨Nat.le_of_ble_eq_true rfl, Nat.le_of_ble_eq_true rfl⟩) (pu_preV hP hK hS hG [0, 1, 2, 3] rfl (q := (RX9, TX9, 32)) (ci := 10) (q0 := 0) rfl rfl) rfl rfl hl.1 rfl (lv_room (Nat.le_of_ble_eq_true rfl)) dX9_conditionWord_14 ⟨(Nat.le_of_ble_eq_true rfl), (Nat.le_of_ble_eq_true rfl)⟩) hP hS (fun r14 H locs hw hP hS => ?_)
    have hP : va_P D vwCl [(h0, .inr (10, [.ref (q 0), .int i_size, .ref (q 1), .ref (q 2), .int (nI wd), .int (nI nx), .int i_open, .int i_stood, .ref (q 3), .ref (q 4), .ref (q 5), .int i_nodes, .int i_half, .int i_made, .ref (q 6), .ref (q 7), .ref (q 8), .ref (q 9), .ref (q 10), .ref (q 11), .int i_rows, .ref (q 12), .ref (q 13), .ref (q 14), .int i_state, .ref (q 15), .ref (q 16), .ref (q 17), .int i_tested, .ref (q 18), .ref wa, .int i_length])), (q 0, .inl (cy 0, 3000, .inl T)), (q 1, .inl (cy 1, 3001, .inl Bf)), (q 2, .inl (cy 1, 3001, .inl Ef))] H := hP
    replace hw : (r14 = -1 ∨ nx < wd ∧ ∃ x, r14 = nI x ∧ x ≤ 15) ∧ r14 = fp_nu (ww T Bn En wd nx) (wl Bn En wd nx) 1 15 := hw
    refine lv_goto (tgt := 21) hx hb dX9_conditionWord_17 (by decide) ?_
    exact W.iret hx hb hr (fun t ht hW => ⟨⟨_, (), rfl, ⟨hw.1, (hw.2.trans (if_pos c7).symm).trans (fp_cnd hfd)⟩, trivial⟩, hS.F ht⟩) hS.2.2 dX9_conditionWord_21
