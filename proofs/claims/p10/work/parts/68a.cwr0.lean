-- deps: 51 68
set_option maxHeartbeats 4000000 in
set_option maxRecDepth 100000 in
/-- add, counted -/
theorem c_addL (l : Launch) (D : va_G) (cy : Nat → ClassId) (e : Nat → Nat)  (ou : Nat) (b : Int32) (L : Nat) (rm : Nat) (fw : Nat → Int32) (sz : Nat) (hfw : sb_Fit fw) : Met l yX0_add wsX0_add ({ frames := 2, cells := ccB (L + 1) - ccB L, slots := ssB (L + 1) - ssB L, locals := 82 }) (va_Pc [.ref ou, .int b] (mt_B D cy e [(ou, .inr (1, [.int (nI 6000), .ref rm, .int (nI (mB L))])), (rm, .inl (cy 0, capB L, .inl fw))] sz)) (va_Qi (fun (r : Int32) (u : Nat × (Nat → Int32)) => match u with | (rm2, fw2) => sb_Fit fw2) (mt_Q D (fun (u : Nat × (Nat → Int32)) => match u with | (rm2, fw2) => [(ou, .inr (1, [.int (nI 6000), .ref rm2, .int (nI (mB (L + 1)))])), (rm2, .inl (cy 0, capB (L + 1), .inl fw2))]) (va_A [(ou, .inr (1, [.int (nI 6000), .ref rm, .int (nI (mB L))])), (rm, .inl (cy 0, capB L, .inl fw))] sz)) (va_A [(ou, .inr (1, [.int (nI 6000), .ref rm, .int (nI (mB L))])), (rm, .inl (cy 0, capB L, .inl fw))] sz)) (ccB (L + 1) - ccB L) (ssB (L + 1) - ssB L) (va_A [(ou, .inr (1, [.int (nI 6000), .ref rm, .int (nI (mB L))])), (rm, .inl (cy 0, capB L, .inl fw))] sz) := by
  refine Met.ofW (cc := cX0_add) (maxL := 2) (ret := (some .boolean)) (by decide) rfl ?_
  intro p ev s m args below meth c s₁ B hml hv
  obtain ⟨rfl, hsz, hP, hK, hD0, hG⟩ := hv
  have hx := B.exec
  have hb := B.bytes
  have hr := B.returns
  have hts := atoms_spec (ws := wsX0_add) B.pre
  have hown : s.vm.findClass RX0 = some m.cls := findClass_of_methodNamed B.named
  have hlocks := B.notSynchronized
  subst hsz
  have hD := hD0.self (sz := s.heap.size)
  generalize hAe : va_A [(ou, .inr (1, [.int (nI 6000), .ref rm, .int (nI (mB L))])), (rm, .inl (cy 0, capB L, .inl fw))] s.heap.size = A at hD hG ⊢
  have hA : ∀ q : Nat, s.heap.size ≤ q → A q := fun q h => by rw [← hAe]; exact Or.inr h
  have hS : va_S A s.heap s.heap [] := va_S.rf
  have hP : va_P D vwCl [(ou, .inr (1, [.int (nI 6000), .ref rm, .int (nI (mB L))])), (rm, .inl (cy 0, capB L, .inl fw))] s.heap := hP
  have iX0 : ∀ w ∈ wsX00, w ∈ wsX0_add := fun w h => List.mem_cons_of_mem _ (List.mem_append_right _ h)
  have hl := lv_entry ([.ref ou, .int b]) (n := 2) (Nat.le_of_ble_eq_true rfl)
  rw [lg_entry_eq]
  generalize (lg_sl ([.ref ou, .int b]) ++ List.replicate (2 - (lg_sl ([.ref ou, .int b])).length) Slot.unset).toArray = ls at hl ⊢
  have hl : lv_has ls 2 [(0, .ref ou), (1, .int b)] := hl
  have hcl := capB_le (L := L)
  have hc6 := capB_64 (L := L)
  have hm6 := mB_6 (L := L)
  have hmc := mB_le (L := L)
  refine lv_aload_n hx hb dX0_add_0 rfl (lv_at hl 0 rfl) ?_
  refine va_get (D := D) (ci := 1) (v := .int (nI (mB L))) (C := RX0) (T := TX0) (N := 3) hx hb hts iX0 hown hK hP 0 rfl rfl 2 (by decide) (hts (.fieldLink RX0 19 "InterlockTables$Bytes" "length" "I") (by decide +kernel)) (fun _ h9 => h9) rfl dX0_add_1 ?_
  refine lv_aload_n hx hb dX0_add_4 rfl (lv_at hl 0 rfl) ?_
  refine va_get (D := D) (ci := 1) (v := .int (nI 6000)) (C := RX0) (T := TX0) (N := 3) hx hb hts iX0 hown hK hP 0 rfl rfl 0 (by decide) (hts (.fieldLink RX0 9 "InterlockTables$Bytes" "limit" "I") (by decide +kernel)) (fun _ h9 => h9) rfl dX0_add_5 ?_
  refine lv_icmp_lt (tgt := 13) hx hb dX0_add_8 (by decide) (fun c8 => ?_) (fun c8 => ?_)
  · have hlt8 : mB L < 6000 := qk_lt (by omega) (by omega) c8
    obtain ⟨hL6, hmL, hm1⟩ := mB_lt hlt8
    refine lv_aload_n hx hb dX0_add_13 rfl (lv_at hl 0 rfl) ?_
    refine va_get (D := D) (ci := 1) (v := .int (nI (mB L))) (C := RX0) (T := TX0) (N := 3) hx hb hts iX0 hown hK hP 0 rfl rfl 2 (by decide) (hts (.fieldLink RX0 19 "InterlockTables$Bytes" "length" "I") (by decide +kernel)) (fun _ h9 => h9) rfl dX0_add_14 ?_
    refine lv_aload_n hx hb dX0_add_17 rfl (lv_at hl 0 rfl) ?_
    refine va_get (D := D) (ci := 1) (v := .ref rm) (C := RX0) (T := TX0) (N := 3) hx hb hts iX0 hown hK hP 0 rfl rfl 1 (by decide) (hts (.fieldLink RX0 15 "InterlockTables$Bytes" "room" "[B") (by decide +kernel)) (fun _ h9 => h9) rfl dX0_add_18 ?_
    refine va_alen hx hb hK hP 1 0 rfl rfl (v := nI (capB L)) rfl dX0_add_21 ?_
    refine lv_icmp_lt (tgt := 43) hx hb dX0_add_22 (by decide) (fun c22 => ?_) (fun c22 => ?_)
    · have hlt22 : mB L < capB L := qk_lt (by omega) (by omega) c22
      obtain ⟨hS1, hS2, hS3⟩ := aB_lo (L := L) (by omega) hL6
      refine lv_aload_n hx hb dX0_add_43 rfl (lv_at hl 0 rfl) ?_
      refine va_get (D := D) (ci := 1) (v := .ref rm) (C := RX0) (T := TX0) (N := 3) hx hb hts iX0 hown hK hP 0 rfl rfl 1 (by decide) (hts (.fieldLink RX0 15 "InterlockTables$Bytes" "room" "[B") (by decide +kernel)) (fun _ h9 => h9) rfl dX0_add_44 ?_
      refine lv_aload_n hx hb dX0_add_47 rfl (lv_at hl 0 rfl) ?_
      refine va_get (D := D) (ci := 1) (v := .int (nI (mB L))) (C := RX0) (T := TX0) (N := 3) hx hb hts iX0 hown hK hP 0 rfl rfl 2 (by decide) (hts (.fieldLink RX0 19 "InterlockTables$Bytes" "length" "I") (by decide +kernel)) (fun _ h9 => h9) rfl dX0_add_48 ?_
      refine lv_iload_n hx hb dX0_add_51 rfl (lv_at hl 1 rfl) ?_
      refine lv_i2b (v := b.toInt8.toInt32) hx hb dX0_add_52 (rfl) ?_
      refine va_bast hx hb hK hP hD hS 1 0 rfl rfl (vp_in_nI (by omega) (by omega)) dX0_add_53 (fun H locs hP hD hS => ?_)
      have hP : va_P D vwCl [(ou, .inr (1, [.int (nI 6000), .ref rm, .int (nI (mB L))])), (rm, .inl (cy 0, capB L, .inl (upd fw (nI (mB L)).toNatClampNeg (vp_nar .byte b.toInt8.toInt32))))] H := hP
      have hD : va_D A [(ou, .inr (1, [.int (nI 6000), .ref rm, .int (nI (mB L))])), (rm, .inl (cy 0, capB L, .inl (upd fw (nI (mB L)).toNatClampNeg (vp_nar .byte b.toInt8.toInt32))))] := hD
      refine lv_aload_n hx hb dX0_add_54 rfl (lv_at hl 0 rfl) ?_
      refine lv_dup hx hb dX0_add_55 rfl ?_
      refine va_get (D := D) (ci := 1) (v := .int (nI (mB L))) (C := RX0) (T := TX0) (N := 3) hx hb hts iX0 hown hK hP 0 rfl rfl 2 (by decide) (hts (.fieldLink RX0 19 "InterlockTables$Bytes" "length" "I") (by decide +kernel)) (fun _ h9 => h9) rfl dX0_add_56 ?_
      refine lv_iconst (v := 1) hx hb dX0_add_59 (by decide +kernel) ?_
      refine lv_iadd hx hb dX0_add_60 ?_
      refine lv_topi (fun x_1 ex_1 => ?_)
      obtain rfl : x_1 = nI (mB (L + 1)) := by rw [ex_1]; exact (nI_1 _).trans (congrArg nI hm1)
      refine va_put (D := D) (ci := 1) (v := .int (nI (mB (L + 1)))) (ty := .int) (C := RX0) (T := TX0) (N := 3) hx hb hts iX0 tyX0 tyX0_ok nmX0 hown hK hP hD hS 0 rfl rfl 2 (by decide) (hts (.fieldLink RX0 19 "InterlockTables$Bytes" "length" "I") (by decide +kernel)) (fun _ h9 => h9) rfl (by decide +kernel) rfl rfl (Nat.le_of_ble_eq_true rfl) dX0_add_61 (fun H locs hP hD hS => ?_)
      have hP : va_P D vwCl [(ou, .inr (1, [.int (nI 6000), .ref rm, .int (nI (mB (L + 1)))])), (rm, .inl (cy 0, capB L, .inl (upd fw (nI (mB L)).toNatClampNeg (vp_nar .byte b.toInt8.toInt32))))] H := hP
      have hD : va_D A [(ou, .inr (1, [.int (nI 6000), .ref rm, .int (nI (mB (L + 1)))])), (rm, .inl (cy 0, capB L, .inl (upd fw (nI (mB L)).toNatClampNeg (vp_nar .byte b.toInt8.toInt32))))] := hD
      refine lv_iconst (v := 1) hx hb dX0_add_64 (by decide +kernel) ?_
      rw [hS1] at hP hD
      have hP : va_P D vwCl [(ou, .inr (1, [.int (nI 6000), .ref rm, .int (nI (mB (L + 1)))])), (rm, .inl (cy 0, capB (L + 1), .inl (upd fw (nI (mB L)).toNatClampNeg (vp_nar .byte b.toInt8.toInt32))))] H := hP
      have hD : va_D A [(ou, .inr (1, [.int (nI 6000), .ref rm, .int (nI (mB (L + 1)))])), (rm, .inl (cy 0, capB (L + 1), .inl (upd fw (nI (mB L)).toNatClampNeg (vp_nar .byte b.toInt8.toInt32))))] := hD
      have hP9 : va_P D vwCl [(ou, .inr (1, [.int (nI 6000), .ref rm, .int (nI (mB (L + 1)))])), (rm, .inl (cy 0, capB (L + 1), .inl (upd fw (nI (mB L)).toNatClampNeg (vp_nar .byte b.toInt8.toInt32))))] H := hP.sub [0, 1] rfl
      have hD9 : va_D A [(ou, .inr (1, [.int (nI 6000), .ref rm, .int (nI (mB (L + 1)))])), (rm, .inl (cy 0, capB (L + 1), .inl (upd fw (nI (mB L)).toNatClampNeg (vp_nar .byte b.toInt8.toInt32))))] := hD.sub [0, 1] (by decide) rfl
      refine W.widen (k := ccB (L + 1) - ccB L) (n := ssB (L + 1) - ssB L) (by omega) (by omega) ?_
      exact W.zret hx hb hr rfl (fun t ht hW => ⟨⟨_, (rm, (upd fw (nI (mB L)).toNatClampNeg (vp_nar .byte b.toInt8.toInt32))), rfl, sb_fitU hfw (fitB _), by rw [ht]; exact hP9, hD9⟩, hS.F ht⟩) hS.2.2 dX0_add_65
    · have hge : capB L ≤ mB L := qk_nge (by omega) c22
      obtain ⟨hS1, hS2, hS3⟩ := aB_hi (L := L) (by omega) hL6
      refine lv_aload_n hx hb dX0_add_25 rfl (lv_at hl 0 rfl) ?_
      refine lv_aload_n hx hb dX0_add_26 rfl (lv_at hl 0 rfl) ?_
      refine va_get (D := D) (ci := 1) (v := .ref rm) (C := RX0) (T := TX0) (N := 3) hx hb hts iX0 hown hK hP 0 rfl rfl 1 (by decide) (hts (.fieldLink RX0 15 "InterlockTables$Bytes" "room" "[B") (by decide +kernel)) (fun _ h9 => h9) rfl dX0_add_27 ?_
      refine lv_iconst (v := 2) hx hb dX0_add_30 (by decide +kernel) ?_
      refine lv_aload_n hx hb dX0_add_31 rfl (lv_at hl 0 rfl) ?_
      refine va_get (D := D) (ci := 1) (v := .ref rm) (C := RX0) (T := TX0) (N := 3) hx hb hts iX0 hown hK hP 0 rfl rfl 1 (by decide) (hts (.fieldLink RX0 15 "InterlockTables$Bytes" "room" "[B") (by decide +kernel)) (fun _ h9 => h9) rfl dX0_add_32 ?_
      refine va_alen hx hb hK hP 1 0 rfl rfl (v := nI (capB L)) rfl dX0_add_35 ?_
      refine lv_imul hx hb dX0_add_36 ?_
      refine lv_topi (fun x_2 ex_2 => ?_)
      obtain rfl : x_2 = nI (2 * capB L) := by rw [ex_2]; exact pk_mul 2 (capB L)
      refine mt_callq (wr := [(ou, .inr (1, [.int (nI 6000), .ref rm, .int (nI (mB L))]))]) (va_runS (As := [.ref rm, .int (nI (2 * capB L))]) (rest := [.ref ou]) ⟨hx, hb, hml, hown, hts⟩ (c_copyOfB l D cy e rm (capB L) fw (2 * capB L) s.heap.size (by omega) (by omega) hfw) (va_cwS 2 hts gX0_add_J7_copyOf_9075b rfl rfl rfl (by decide +kernel) ⟨Nat.le_of_ble_eq_true rfl, Nat.le_of_ble_eq_true rfl⟩) (mt_preS hP hD hK hS hA hG [1] rfl (by decide)) rfl rfl hl.1 rfl (lv_room (Nat.le_of_ble_eq_true rfl)) dX0_add_37 ⟨show 0 + 1 ≤ ccB (L + 1) - ccB L from by omega, show 0 + 2 * capB L ≤ ssB (L + 1) - ssB L from by omega⟩) hP hD hS hA [1] [0] rfl rfl (by decide) (by decide) (fun r37 u H locs hw hP hD hS => ?_)
      obtain ⟨a2_37, f2_37⟩ := u
      have hP : va_P D vwCl [(ou, .inr (1, [.int (nI 6000), .ref rm, .int (nI (mB L))])), (rm, .inl (cy 0, capB L, .inl fw)), (a2_37, .inl (cy 0, 2 * capB L, .inl f2_37))] H := hP
      have hD : va_D A [(ou, .inr (1, [.int (nI 6000), .ref rm, .int (nI (mB L))])), (rm, .inl (cy 0, capB L, .inl fw)), (a2_37, .inl (cy 0, 2 * capB L, .inl f2_37))] := hD
      replace hw : r37 = some a2_37 ∧ sb_Fit f2_37 ∧ ∀ j, j < (capB L) → f2_37 j = fw j := hw
      refine W.widen (k := 1) (n := 2 * capB L) (by omega) (by omega) ?_
      have hw37 := hw
      obtain rfl : r37 = some a2_37 := hw.1
      refine va_put (D := D) (ci := 1) (v := .ref a2_37) (ty := (.array .byte)) (C := RX0) (T := TX0) (N := 3) hx hb hts iX0 tyX0 tyX0_ok nmX0 hown hK hP hD hS 0 rfl rfl 1 (by decide) (hts (.fieldLink RX0 15 "InterlockTables$Bytes" "room" "[B") (by decide +kernel)) (fun _ h9 => h9) rfl (by decide +kernel) rfl rfl (Nat.le_of_ble_eq_true rfl) dX0_add_40 (fun H locs hP hD hS => ?_)
      have hP : va_P D vwCl [(ou, .inr (1, [.int (nI 6000), .ref a2_37, .int (nI (mB L))])), (rm, .inl (cy 0, capB L, .inl fw)), (a2_37, .inl (cy 0, 2 * capB L, .inl f2_37))] H := hP
      have hD : va_D A [(ou, .inr (1, [.int (nI 6000), .ref a2_37, .int (nI (mB L))])), (rm, .inl (cy 0, capB L, .inl fw)), (a2_37, .inl (cy 0, 2 * capB L, .inl f2_37))] := hD
      refine lv_aload_n hx hb dX0_add_43 rfl (lv_at hl 0 rfl) ?_
      refine va_get (D := D) (ci := 1) (v := .ref a2_37) (C := RX0) (T := TX0) (N := 3) hx hb hts iX0 hown hK hP 0 rfl rfl 1 (by decide) (hts (.fieldLink RX0 15 "InterlockTables$Bytes" "room" "[B") (by decide +kernel)) (fun _ h9 => h9) rfl dX0_add_44 ?_
      refine lv_aload_n hx hb dX0_add_47 rfl (lv_at hl 0 rfl) ?_
      refine va_get (D := D) (ci := 1) (v := .int (nI (mB L))) (C := RX0) (T := TX0) (N := 3) hx hb hts iX0 hown hK hP 0 rfl rfl 2 (by decide) (hts (.fieldLink RX0 19 "InterlockTables$Bytes" "length" "I") (by decide +kernel)) (fun _ h9 => h9) rfl dX0_add_48 ?_
      refine lv_iload_n hx hb dX0_add_51 rfl (lv_at hl 1 rfl) ?_
      refine lv_i2b (v := b.toInt8.toInt32) hx hb dX0_add_52 (rfl) ?_
      refine va_bast hx hb hK hP hD hS 2 0 rfl rfl (vp_in_nI (by omega) (by omega)) dX0_add_53 (fun H locs hP hD hS => ?_)
      have hP : va_P D vwCl [(ou, .inr (1, [.int (nI 6000), .ref a2_37, .int (nI (mB L))])), (rm, .inl (cy 0, capB L, .inl fw)), (a2_37, .inl (cy 0, 2 * capB L, .inl (upd f2_37 (nI (mB L)).toNatClampNeg (vp_nar .byte b.toInt8.toInt32))))] H := hP
      have hD : va_D A [(ou, .inr (1, [.int (nI 6000), .ref a2_37, .int (nI (mB L))])), (rm, .inl (cy 0, capB L, .inl fw)), (a2_37, .inl (cy 0, 2 * capB L, .inl (upd f2_37 (nI (mB L)).toNatClampNeg (vp_nar .byte b.toInt8.toInt32))))] := hD
      refine lv_aload_n hx hb dX0_add_54 rfl (lv_at hl 0 rfl) ?_
      refine lv_dup hx hb dX0_add_55 rfl ?_
      refine va_get (D := D) (ci := 1) (v := .int (nI (mB L))) (C := RX0) (T := TX0) (N := 3) hx hb hts iX0 hown hK hP 0 rfl rfl 2 (by decide) (hts (.fieldLink RX0 19 "InterlockTables$Bytes" "length" "I") (by decide +kernel)) (fun _ h9 => h9) rfl dX0_add_56 ?_
      refine lv_iconst (v := 1) hx hb dX0_add_59 (by decide +kernel) ?_
      refine lv_iadd hx hb dX0_add_60 ?_
      refine lv_topi (fun x_3 ex_3 => ?_)
      obtain rfl : x_3 = nI (mB (L + 1)) := by rw [ex_3]; exact (nI_1 _).trans (congrArg nI hm1)
      refine va_put (D := D) (ci := 1) (v := .int (nI (mB (L + 1)))) (ty := .int) (C := RX0) (T := TX0) (N := 3) hx hb hts iX0 tyX0 tyX0_ok nmX0 hown hK hP hD hS 0 rfl rfl 2 (by decide) (hts (.fieldLink RX0 19 "InterlockTables$Bytes" "length" "I") (by decide +kernel)) (fun _ h9 => h9) rfl (by decide +kernel) rfl rfl (Nat.le_of_ble_eq_true rfl) dX0_add_61 (fun H locs hP hD hS => ?_)
      have hP : va_P D vwCl [(ou, .inr (1, [.int (nI 6000), .ref a2_37, .int (nI (mB (L + 1)))])), (rm, .inl (cy 0, capB L, .inl fw)), (a2_37, .inl (cy 0, 2 * capB L, .inl (upd f2_37 (nI (mB L)).toNatClampNeg (vp_nar .byte b.toInt8.toInt32))))] H := hP
      have hD : va_D A [(ou, .inr (1, [.int (nI 6000), .ref a2_37, .int (nI (mB (L + 1)))])), (rm, .inl (cy 0, capB L, .inl fw)), (a2_37, .inl (cy 0, 2 * capB L, .inl (upd f2_37 (nI (mB L)).toNatClampNeg (vp_nar .byte b.toInt8.toInt32))))] := hD
      refine lv_iconst (v := 1) hx hb dX0_add_64 (by decide +kernel) ?_
      rw [hS1] at hP hD
      have hP : va_P D vwCl [(ou, .inr (1, [.int (nI 6000), .ref a2_37, .int (nI (mB (L + 1)))])), (rm, .inl (cy 0, capB L, .inl fw)), (a2_37, .inl (cy 0, capB (L + 1), .inl (upd f2_37 (nI (mB L)).toNatClampNeg (vp_nar .byte b.toInt8.toInt32))))] H := hP
      have hD : va_D A [(ou, .inr (1, [.int (nI 6000), .ref a2_37, .int (nI (mB (L + 1)))])), (rm, .inl (cy 0, capB L, .inl fw)), (a2_37, .inl (cy 0, capB (L + 1), .inl (upd f2_37 (nI (mB L)).toNatClampNeg (vp_nar .byte b.toInt8.toInt32))))] := hD
      have hP9 : va_P D vwCl [(ou, .inr (1, [.int (nI 6000), .ref a2_37, .int (nI (mB (L + 1)))])), (a2_37, .inl (cy 0, capB (L + 1), .inl (upd f2_37 (nI (mB L)).toNatClampNeg (vp_nar .byte b.toInt8.toInt32))))] H := hP.sub [0, 2] rfl
      have hD9 : va_D A [(ou, .inr (1, [.int (nI 6000), .ref a2_37, .int (nI (mB (L + 1)))])), (a2_37, .inl (cy 0, capB (L + 1), .inl (upd f2_37 (nI (mB L)).toNatClampNeg (vp_nar .byte b.toInt8.toInt32))))] := hD.sub [0, 2] (by decide) rfl
      refine W.widen (k := ccB (L + 1) - ccB L) (n := ssB (L + 1) - ssB L) (by omega) (by omega) ?_
      exact W.zret hx hb hr rfl (fun t ht hW => ⟨⟨_, (a2_37, (upd f2_37 (nI (mB L)).toNatClampNeg (vp_nar .byte b.toInt8.toInt32))), rfl, sb_fitU hw37.2.1 (fitB _), by rw [ht]; exact hP9, hD9⟩, hS.F ht⟩) hS.2.2 dX0_add_65
  · obtain ⟨hm1, hS1, hS2, hS3⟩ := mB_ge (L := L) (qk_nge (a := mB L) (b := 6000) (by omega) c8)
    refine lv_iconst (v := 0) hx hb dX0_add_11 (by decide +kernel) ?_
    rw [hm1, hS1] at hP hD
    have hP : va_P D vwCl [(ou, .inr (1, [.int (nI 6000), .ref rm, .int (nI (mB (L + 1)))])), (rm, .inl (cy 0, capB (L + 1), .inl fw))] s.heap := hP
    have hD : va_D A [(ou, .inr (1, [.int (nI 6000), .ref rm, .int (nI (mB (L + 1)))])), (rm, .inl (cy 0, capB (L + 1), .inl fw))] := hD
    have hP9 : va_P D vwCl [(ou, .inr (1, [.int (nI 6000), .ref rm, .int (nI (mB (L + 1)))])), (rm, .inl (cy 0, capB (L + 1), .inl fw))] s.heap := hP.sub [0, 1] rfl
    have hD9 : va_D A [(ou, .inr (1, [.int (nI 6000), .ref rm, .int (nI (mB (L + 1)))])), (rm, .inl (cy 0, capB (L + 1), .inl fw))] := hD.sub [0, 1] (by decide) rfl
    refine W.widen (k := ccB (L + 1) - ccB L) (n := ssB (L + 1) - ssB L) (by omega) (by omega) ?_
    exact W.zret hx hb hr rfl (fun t ht hW => ⟨⟨_, (rm, fw), rfl, hfw, by rw [ht]; exact hP9, hD9⟩, hS.F ht⟩) hS.2.2 dX0_add_12
