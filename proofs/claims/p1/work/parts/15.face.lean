set_option maxHeartbeats 4000000 in
set_option maxRecDepth 100000 in
/-- add, where there is room -/
theorem c_Bytes_add_lo (l : Launch) (D : va_G) (cy : Nat → ClassId) (e : Nat → Nat) (h0 : Nat) (lim : Nat) (rm : Nat) (len : Nat) (n : Nat) (f : Nat → Int32) (b : Int32) (sz : Nat) (h1 : len < lim) (h2 : lim < 2 ^ 31) (h3 : len < n) (h4 : n < 2 ^ 31) : Met l yX0_add wsX0_add ({ frames := 0, cells := 0, slots := 0, locals := 0 }) (va_Pc [.ref h0, .int b] (mt_B D cy e [(h0, .inr (1, [.int (nI lim), .ref rm, .int (nI len)])), (rm, .inl (cy 0, n, .inl f))] sz)) (va_Qi (fun (r : Int32) (_ : Unit) => r = 1) (mt_Q D (fun (_ : Unit) => [(h0, .inr (1, [.int (nI lim), .ref rm, .int (nI (len + 1))])), (rm, .inl (cy 0, n, .inl (upd f len (vp_nar .byte b.toInt8.toInt32))))]) (va_A [(h0, .inr (1, [.int (nI lim), .ref rm, .int (nI len)])), (rm, .inl (cy 0, n, .inl f))] sz)) (va_A [(h0, .inr (1, [.int (nI lim), .ref rm, .int (nI len)])), (rm, .inl (cy 0, n, .inl f))] sz)) (0) (0) (va_A [(h0, .inr (1, [.int (nI lim), .ref rm, .int (nI len)])), (rm, .inl (cy 0, n, .inl f))] sz) := by
  refine Met.ofW (cc := cX0_add) (maxL := 2) (ret := (some .boolean)) (by decide) rfl ?_
  intro p ev s m args below meth c s₁ B hml hv
  obtain ⟨rfl, hsz, hP, hK, hD0, hG⟩ := hv
  have hx := B.exec
  have hb := B.bytes
  have hr := B.returns
  have hts := atoms_spec (ws := wsX0_add) B.pre
  have hown : s.vm.findClass RX0 = some m.cls := findClass_of_methodNamed B.named
  have hlocks := B.notSynchronized
  subst hsz
  have hD := hD0.self (sz := s.heap.size)
  generalize hAe : va_A [(h0, .inr (1, [.int (nI lim), .ref rm, .int (nI len)])), (rm, .inl (cy 0, n, .inl f))] s.heap.size = A at hD hG ⊢
  have hA : ∀ q : Nat, s.heap.size ≤ q → A q := fun q h => by rw [← hAe]; exact Or.inr h
  have hS : va_S A s.heap s.heap [] := va_S.rf
  have hP : va_P D vwCl [(h0, .inr (1, [.int (nI lim), .ref rm, .int (nI len)])), (rm, .inl (cy 0, n, .inl f))] s.heap := hP
  have iX0 : ∀ w ∈ wsX00, w ∈ wsX0_add := fun w h => List.mem_cons_of_mem _ (List.mem_append_right _ h)
  have hl := lv_entry ([.ref h0, .int b]) (n := 2) (Nat.le_of_ble_eq_true rfl)
  rw [lg_entry_eq]
  generalize (lg_sl ([.ref h0, .int b]) ++ List.replicate (2 - (lg_sl ([.ref h0, .int b])).length) Slot.unset).toArray = ls at hl ⊢
  have hl : lv_has ls 2 [(0, .ref h0), (1, .int b)] := hl
  refine lv_aload_n hx hb dX0_add_0 rfl (lv_at hl 0 rfl) ?_
  refine va_get (D := D) (ci := 1) (v := .int (nI len)) (C := RX0) (T := TX0) (N := 3) hx hb hts iX0 hown hK hP 0 rfl rfl 2 (by decide) (hts (.fieldLink RX0 19 "InterlockTables$Bytes" "length" "I") (by decide +kernel)) (fun _ h9 => h9) rfl dX0_add_1 ?_
  refine lv_aload_n hx hb dX0_add_4 rfl (lv_at hl 0 rfl) ?_
  refine va_get (D := D) (ci := 1) (v := .int (nI lim)) (C := RX0) (T := TX0) (N := 3) hx hb hts iX0 hown hK hP 0 rfl rfl 0 (by decide) (hts (.fieldLink RX0 9 "InterlockTables$Bytes" "limit" "I") (by decide +kernel)) (fun _ h9 => h9) rfl dX0_add_5 ?_
  refine lv_icmp_lt (tgt := 13) hx hb dX0_add_8 (by decide) (fun _ => ?_) (fun c8 => absurd (nI_lt h1 h2) c8)
  refine lv_aload_n hx hb dX0_add_13 rfl (lv_at hl 0 rfl) ?_
  refine va_get (D := D) (ci := 1) (v := .int (nI len)) (C := RX0) (T := TX0) (N := 3) hx hb hts iX0 hown hK hP 0 rfl rfl 2 (by decide) (hts (.fieldLink RX0 19 "InterlockTables$Bytes" "length" "I") (by decide +kernel)) (fun _ h9 => h9) rfl dX0_add_14 ?_
  refine lv_aload_n hx hb dX0_add_17 rfl (lv_at hl 0 rfl) ?_
  refine va_get (D := D) (ci := 1) (v := .ref rm) (C := RX0) (T := TX0) (N := 3) hx hb hts iX0 hown hK hP 0 rfl rfl 1 (by decide) (hts (.fieldLink RX0 15 "InterlockTables$Bytes" "room" "[B") (by decide +kernel)) (fun _ h9 => h9) rfl dX0_add_18 ?_
  refine va_alen hx hb hK hP 1 0 rfl rfl (v := nI n) rfl dX0_add_21 ?_
  refine lv_icmp_lt (tgt := 43) hx hb dX0_add_22 (by decide) (fun _ => ?_) (fun c22 => absurd (nI_lt h3 h4) c22)
  refine lv_aload_n hx hb dX0_add_43 rfl (lv_at hl 0 rfl) ?_
  refine va_get (D := D) (ci := 1) (v := .ref rm) (C := RX0) (T := TX0) (N := 3) hx hb hts iX0 hown hK hP 0 rfl rfl 1 (by decide) (hts (.fieldLink RX0 15 "InterlockTables$Bytes" "room" "[B") (by decide +kernel)) (fun _ h9 => h9) rfl dX0_add_44 ?_
  refine lv_aload_n hx hb dX0_add_47 rfl (lv_at hl 0 rfl) ?_
  refine va_get (D := D) (ci := 1) (v := .int (nI len)) (C := RX0) (T := TX0) (N := 3) hx hb hts iX0 hown hK hP 0 rfl rfl 2 (by decide) (hts (.fieldLink RX0 19 "InterlockTables$Bytes" "length" "I") (by decide +kernel)) (fun _ h9 => h9) rfl dX0_add_48 ?_
  refine lv_iload_n hx hb dX0_add_51 rfl (lv_at hl 1 rfl) ?_
  refine lv_i2b (v := b.toInt8.toInt32) hx hb dX0_add_52 (rfl) ?_
  refine va_bast hx hb hK hP hD hS 1 0 rfl rfl (vp_in_nI h3 h4) dX0_add_53 (fun H locs hP hD hS => ?_)
  have hP : va_P D vwCl [(h0, .inr (1, [.int (nI lim), .ref rm, .int (nI len)])), (rm, .inl (cy 0, n, .inl (upd f (nI len).toNatClampNeg (vp_nar .byte b.toInt8.toInt32))))] H := hP
  have hD : va_D A [(h0, .inr (1, [.int (nI lim), .ref rm, .int (nI len)])), (rm, .inl (cy 0, n, .inl (upd f (nI len).toNatClampNeg (vp_nar .byte b.toInt8.toInt32))))] := hD
  have ef_53 : (upd f (nI len).toNatClampNeg (vp_nar .byte b.toInt8.toInt32)) = (upd f len (vp_nar .byte b.toInt8.toInt32)) := by rw [nI_clamp (by omega)]
  rw [ef_53] at hP hD
  refine lv_aload_n hx hb dX0_add_54 rfl (lv_at hl 0 rfl) ?_
  refine lv_dup hx hb dX0_add_55 rfl ?_
  refine va_get (D := D) (ci := 1) (v := .int (nI len)) (C := RX0) (T := TX0) (N := 3) hx hb hts iX0 hown hK hP 0 rfl rfl 2 (by decide) (hts (.fieldLink RX0 19 "InterlockTables$Bytes" "length" "I") (by decide +kernel)) (fun _ h9 => h9) rfl dX0_add_56 ?_
  refine lv_iconst (v := 1) hx hb dX0_add_59 (by decide +kernel) ?_
  refine lv_iadd hx hb dX0_add_60 ?_
  refine lv_topi (fun x_1 ex_1 => ?_)
  obtain rfl : x_1 = nI (len + 1) := by rw [ex_1]; exact nI_1 len
  refine va_put (D := D) (ci := 1) (v := .int (nI (len + 1))) (ty := .int) (C := RX0) (T := TX0) (N := 3) hx hb hts iX0 tyX0 tyX0_ok nmX0 hown hK hP hD hS 0 rfl rfl 2 (by decide) (hts (.fieldLink RX0 19 "InterlockTables$Bytes" "length" "I") (by decide +kernel)) (fun _ h9 => h9) rfl (by decide +kernel) rfl rfl (Nat.le_of_ble_eq_true rfl) dX0_add_61 (fun H locs hP hD hS => ?_)
  have hP : va_P D vwCl [(h0, .inr (1, [.int (nI lim), .ref rm, .int (nI (len + 1))])), (rm, .inl (cy 0, n, .inl (upd f len (vp_nar .byte b.toInt8.toInt32))))] H := hP
  have hD : va_D A [(h0, .inr (1, [.int (nI lim), .ref rm, .int (nI (len + 1))])), (rm, .inl (cy 0, n, .inl (upd f len (vp_nar .byte b.toInt8.toInt32))))] := hD
  refine lv_iconst (v := 1) hx hb dX0_add_64 (by decide +kernel) ?_
  have hP9 : va_P D vwCl [(h0, .inr (1, [.int (nI lim), .ref rm, .int (nI (len + 1))])), (rm, .inl (cy 0, n, .inl (upd f len (vp_nar .byte b.toInt8.toInt32))))] H := hP.sub [0, 1] rfl
  have hD9 : va_D A [(h0, .inr (1, [.int (nI lim), .ref rm, .int (nI (len + 1))])), (rm, .inl (cy 0, n, .inl (upd f len (vp_nar .byte b.toInt8.toInt32))))] := hD.sub [0, 1] (by decide) rfl
  refine W.widen (k := 0) (n := 0) (by omega) (by omega) ?_
  exact W.zret hx hb hr rfl (fun t ht hW => ⟨⟨_, (), rfl, rfl, by rw [ht]; exact hP9, hD9⟩, hS.F ht⟩) hS.2.2 dX0_add_65

set_option maxHeartbeats 4000000 in
set_option maxRecDepth 100000 in
/-- unit, first of all -/
theorem c_IT_unit0 (l : Launch) (D : va_G) (cy : Nat → ClassId) (e : Nat → Nat) (h0 : Nat) (tx : Nat) (cn : Nat) (tb : Nat) (rm : Nat) (u0 : Int32) (sz : Nat)  : Met l yX8_unit wsX8_unit ({ frames := 1, cells := 0, slots := 0, locals := 21 }) (va_Pc [.ref h0, .int u0] (mt_B D cy e [(h0, .inr (9, [.ref tx, .ref cn, .ref tb])), (tx, .inr (1, [.int (nI 3000), .ref rm, .int (nI 0)])), (rm, .inl (cy 0, 64, .inl (fun _ => 0)))] sz)) (va_Qi (fun (r : Int32) (_ : Unit) => r = if u0 < 1 ∨ 127 < u0 then 0 else 1) (mt_Q D (fun (_ : Unit) => []) (va_A [(h0, .inr (9, [.ref tx, .ref cn, .ref tb])), (tx, .inr (1, [.int (nI 3000), .ref rm, .int (nI 0)])), (rm, .inl (cy 0, 64, .inl (fun _ => 0)))] sz)) (va_A [(h0, .inr (9, [.ref tx, .ref cn, .ref tb])), (tx, .inr (1, [.int (nI 3000), .ref rm, .int (nI 0)])), (rm, .inl (cy 0, 64, .inl (fun _ => 0)))] sz)) (0) (0) (va_A [(h0, .inr (9, [.ref tx, .ref cn, .ref tb])), (tx, .inr (1, [.int (nI 3000), .ref rm, .int (nI 0)])), (rm, .inl (cy 0, 64, .inl (fun _ => 0)))] sz) := by
  refine Met.ofW (cc := cX8_unit) (maxL := 2) (ret := (some .boolean)) (by decide) rfl ?_
  intro p ev s m args below meth c s₁ B hml hv
  obtain ⟨rfl, hsz, hP, hK, hD0, hG⟩ := hv
  have hx := B.exec
  have hb := B.bytes
  have hr := B.returns
  have hts := atoms_spec (ws := wsX8_unit) B.pre
  have hown : s.vm.findClass RX8 = some m.cls := findClass_of_methodNamed B.named
  have hlocks := B.notSynchronized
  subst hsz
  have hD := hD0.self (sz := s.heap.size)
  generalize hAe : va_A [(h0, .inr (9, [.ref tx, .ref cn, .ref tb])), (tx, .inr (1, [.int (nI 3000), .ref rm, .int (nI 0)])), (rm, .inl (cy 0, 64, .inl (fun _ => 0)))] s.heap.size = A at hD hG ⊢
  have hA : ∀ q : Nat, s.heap.size ≤ q → A q := fun q h => by rw [← hAe]; exact Or.inr h
  have hS : va_S A s.heap s.heap [] := va_S.rf
  have hP : va_P D vwCl [(h0, .inr (9, [.ref tx, .ref cn, .ref tb])), (tx, .inr (1, [.int (nI 3000), .ref rm, .int (nI 0)])), (rm, .inl (cy 0, 64, .inl (fun _ => 0)))] s.heap := hP
  have iX8 : ∀ w ∈ wsX80, w ∈ wsX8_unit := fun w h => List.mem_cons_of_mem _ (List.mem_append_left _ (List.mem_append_right _ h))
  have iX0 : ∀ w ∈ wsX00, w ∈ wsX8_unit := fun w h => List.mem_cons_of_mem _ (List.mem_append_right _ h)
  have hl := lv_entry ([.ref h0, .int u0]) (n := 2) (Nat.le_of_ble_eq_true rfl)
  rw [lg_entry_eq]
  generalize (lg_sl ([.ref h0, .int u0]) ++ List.replicate (2 - (lg_sl ([.ref h0, .int u0])).length) Slot.unset).toArray = ls at hl ⊢
  have hl : lv_has ls 2 [(0, .ref h0), (1, .int u0)] := hl
  refine lv_iload_n hx hb dX8_unit_0 rfl (lv_at hl 1 rfl) ?_
  refine lv_iconst (v := 1) hx hb dX8_unit_1 (by decide +kernel) ?_
  refine lv_icmp_lt (tgt := 26) hx hb dX8_unit_2 (by decide) (fun c2 => ?_) (fun c2 => ?_)
  · refine lv_iconst (v := 0) hx hb dX8_unit_26 (by decide +kernel) ?_
    have hP9 : va_P D vwCl [] s.heap := hP.sub [] rfl
    have hD9 : va_D A [] := hD.sub [] (by decide) rfl
    refine W.widen (k := 0) (n := 0) (by omega) (by omega) ?_
    exact W.zret hx hb hr rfl (fun t ht hW => ⟨⟨_, (), rfl, by simp [c2], by rw [ht]; exact hP9, hD9⟩, hS.F ht⟩) hS.2.2 dX8_unit_27
  · refine lv_iload_n hx hb dX8_unit_5 rfl (lv_at hl 1 rfl) ?_
    refine lv_bipush (v := 127) hx hb dX8_unit_6 (by decide +kernel) ?_
    refine lv_icmp_gt (tgt := 26) hx hb dX8_unit_8 (by decide) (fun c8 => ?_) (fun c8 => ?_)
    · refine lv_iconst (v := 0) hx hb dX8_unit_26 (by decide +kernel) ?_
      have hP9 : va_P D vwCl [] s.heap := hP.sub [] rfl
      have hD9 : va_D A [] := hD.sub [] (by decide) rfl
      refine W.widen (k := 0) (n := 0) (by omega) (by omega) ?_
      exact W.zret hx hb hr rfl (fun t ht hW => ⟨⟨_, (), rfl, by simp [c2, c8], by rw [ht]; exact hP9, hD9⟩, hS.F ht⟩) hS.2.2 dX8_unit_27
    · refine lv_aload_n hx hb dX8_unit_11 rfl (lv_at hl 0 rfl) ?_
      refine va_get (D := D) (ci := 9) (v := .ref tx) (C := RX8) (T := TX8) (N := 3) hx hb hts iX8 hown hK hP 0 rfl rfl 0 (by decide) (hts (.fieldLink RX8 14 "InterlockTables" "text" "LInterlockTables$Bytes;") (by decide +kernel)) (fun _ h9 => h9) rfl dX8_unit_12 ?_
      refine lv_iload_n hx hb dX8_unit_15 rfl (lv_at hl 1 rfl) ?_
      refine mt_calli (wr := [(h0, .inr (9, [.ref tx, .ref cn, .ref tb]))]) (va_runV (As := [.int u0]) (rest := []) ⟨hx, hb, hml, hown, hts⟩ (c_Bytes_add_lo l D cy e tx 3000 rm 0 64 (fun _ => 0) u0 s.heap.size (by decide) (by decide) (by decide) (by decide)) (cwV 1 hts gX8_unit_X0_add rfl rfl rfl (by decide +kernel) ⟨Nat.le_of_ble_eq_true rfl, Nat.le_of_ble_eq_true rfl⟩) (mt_preV hP hD hK hS hA hG [1, 2] rfl (by decide) (q := (RX0, TX0, 3)) (ci := 1) (q0 := 1) rfl rfl) rfl rfl hl.1 rfl (lv_room (Nat.le_of_ble_eq_true rfl)) dX8_unit_16 ⟨(Nat.le_of_ble_eq_true rfl), (Nat.le_of_ble_eq_true rfl)⟩) hP hD hS hA [1, 2] [0] rfl rfl (by decide) (by decide) (fun r16 u H locs hw hP hD hS => ?_)
      have hP : va_P D vwCl [(h0, .inr (9, [.ref tx, .ref cn, .ref tb])), (tx, .inr (1, [.int (nI 3000), .ref rm, .int (nI (0 + 1))])), (rm, .inl (cy 0, 64, .inl (upd (fun _ => 0) 0 (vp_nar .byte u0.toInt8.toInt32))))] H := hP
      have hD : va_D A [(h0, .inr (9, [.ref tx, .ref cn, .ref tb])), (tx, .inr (1, [.int (nI 3000), .ref rm, .int (nI (0 + 1))])), (rm, .inl (cy 0, 64, .inl (upd (fun _ => 0) 0 (vp_nar .byte u0.toInt8.toInt32))))] := hD
      replace hw : r16 = 1 := hw
      refine W.widen (k := 0) (n := 0) (by omega) (by omega) ?_
      subst hw
      refine lv_if_eq (tgt := 26) hx hb dX8_unit_19 (by decide) (fun c19 => absurd c19 (by decide)) (fun _ => ?_)
      refine lv_iconst (v := 1) hx hb dX8_unit_22 (by decide +kernel) ?_
      refine lv_goto (tgt := 27) hx hb dX8_unit_23 (by decide) ?_
      have hP9 : va_P D vwCl [] H := hP.sub [] rfl
      have hD9 : va_D A [] := hD.sub [] (by decide) rfl
      refine W.widen (k := 0) (n := 0) (by omega) (by omega) ?_
      exact W.zret hx hb hr rfl (fun t ht hW => ⟨⟨_, (), rfl, by simp [c2, c8], by rw [ht]; exact hP9, hD9⟩, hS.F ht⟩) hS.2.2 dX8_unit_27

set_option maxHeartbeats 4000000 in
set_option maxRecDepth 100000 in
/-- read, first of all -/
theorem c_IT_read0 (l : Launch) (D : va_G) (cy : Nat → ClassId) (e : Nat → Nat) (h0 : Nat) (tx : Nat) (cn : Nat) (tb : Nat) (rm : Nat) (sz : Nat)  : Met l yX8_read wsX8_read ({ frames := 5, cells := 9, slots := 50, locals := 93 }) (va_Pc [.ref h0] (mt_B D cy e [(h0, .inr (9, [.ref tx, .ref cn, .ref tb])), (tx, .inr (1, [.int (nI 3000), .ref rm, .int (nI 0)]))] sz)) (va_Qi (fun (r : Int32) (_ : Unit) => r = 0) (mt_Q D (fun (_ : Unit) => []) (va_A [(h0, .inr (9, [.ref tx, .ref cn, .ref tb])), (tx, .inr (1, [.int (nI 3000), .ref rm, .int (nI 0)]))] sz)) (va_A [(h0, .inr (9, [.ref tx, .ref cn, .ref tb])), (tx, .inr (1, [.int (nI 3000), .ref rm, .int (nI 0)]))] sz)) (9) (50) (va_A [(h0, .inr (9, [.ref tx, .ref cn, .ref tb])), (tx, .inr (1, [.int (nI 3000), .ref rm, .int (nI 0)]))] sz) := by
  refine Met.ofW (cc := cX8_read) (maxL := 3) (ret := (some .int)) (by decide) rfl ?_
  intro p ev s m args below meth c s₁ B hml hv
  obtain ⟨rfl, hsz, hP, hK, hD0, hG⟩ := hv
  have hx := B.exec
  have hb := B.bytes
  have hr := B.returns
  have hts := atoms_spec (ws := wsX8_read) B.pre
  have hown : s.vm.findClass RX8 = some m.cls := findClass_of_methodNamed B.named
  have hlocks := B.notSynchronized
  subst hsz
  have hD := hD0.self (sz := s.heap.size)
  generalize hAe : va_A [(h0, .inr (9, [.ref tx, .ref cn, .ref tb])), (tx, .inr (1, [.int (nI 3000), .ref rm, .int (nI 0)]))] s.heap.size = A at hD hG ⊢
  have hA : ∀ q : Nat, s.heap.size ≤ q → A q := fun q h => by rw [← hAe]; exact Or.inr h
  have hS : va_S A s.heap s.heap [] := va_S.rf
  have hP : va_P D vwCl [(h0, .inr (9, [.ref tx, .ref cn, .ref tb])), (tx, .inr (1, [.int (nI 3000), .ref rm, .int (nI 0)]))] s.heap := hP
  have iX6 : ∀ w ∈ wsX60, w ∈ wsX8_read := fun w h => List.mem_cons_of_mem _ (List.mem_append_left _ (List.mem_append_left _ (List.mem_append_left _ (List.mem_append_left _ (List.mem_append_left _ (List.mem_append_left _ (List.mem_append_left _ (List.mem_append_right _ h))))))))
  have iX8 : ∀ w ∈ wsX80, w ∈ wsX8_read := fun w h => List.mem_cons_of_mem _ (List.mem_append_left _ (List.mem_append_left _ (List.mem_append_left _ (List.mem_append_left _ (List.mem_append_left _ (List.mem_append_left _ (List.mem_append_right _ h)))))))
  have iX5 : ∀ w ∈ wsX50, w ∈ wsX8_read := fun w h => List.mem_cons_of_mem _ (List.mem_append_left _ (List.mem_append_left _ (List.mem_append_left _ (List.mem_append_left _ (List.mem_append_left _ (List.mem_append_right _ h))))))
  have iX2 : ∀ w ∈ wsX20, w ∈ wsX8_read := fun w h => List.mem_cons_of_mem _ (List.mem_append_left _ (List.mem_append_left _ (List.mem_append_left _ (List.mem_append_left _ (List.mem_append_right _ h)))))
  have iX0 : ∀ w ∈ wsX00, w ∈ wsX8_read := fun w h => List.mem_cons_of_mem _ (List.mem_append_left _ (List.mem_append_left _ (List.mem_append_left _ (List.mem_append_right _ h))))
  have iJx4a65c : ∀ w ∈ wsJx4a65c0, w ∈ wsX8_read := fun w h => List.mem_cons_of_mem _ (List.mem_append_left _ (List.mem_append_left _ (List.mem_append_right _ h)))
  have iX1 : ∀ w ∈ wsX10, w ∈ wsX8_read := fun w h => List.mem_cons_of_mem _ (List.mem_append_left _ (List.mem_append_right _ h))
  have iX3 : ∀ w ∈ wsX30, w ∈ wsX8_read := fun w h => List.mem_cons_of_mem _ (List.mem_append_right _ h)
  have hl := lv_entry ([.ref h0]) (n := 3) (Nat.le_of_ble_eq_true rfl)
  rw [lg_entry_eq]
  generalize (lg_sl ([.ref h0]) ++ List.replicate (3 - (lg_sl ([.ref h0])).length) Slot.unset).toArray = ls at hl ⊢
  have hl : lv_has ls 3 [(0, .ref h0)] := hl
  refine va_new (ci := 7) (fs := [.null, .null, .int 0, .int 0, .int 0]) (C := RX6) (T := TX6) (N := 5) hx hb hts iX6 tyX6 tyX6_ok hown (hts (.classLink RX8 33 RX6) (by decide +kernel)) (hts (.instantiable RX6 5) (by decide +kernel)) (hts (.initialized RX6) (by decide +kernel)) hK hP hD hS hA rfl (by decide +kernel) (Nat.le_of_ble_eq_true rfl) (Nat.le_of_ble_eq_true rfl) dX8_read_0 (fun a0 H hP hD hS => ?_)
  have hP : va_P D vwCl [(h0, .inr (9, [.ref tx, .ref cn, .ref tb])), (tx, .inr (1, [.int (nI 3000), .ref rm, .int (nI 0)])), (a0, .inr (7, [.null, .null, .int 0, .int 0, .int 0]))] H := hP
  have hD : va_D A [(h0, .inr (9, [.ref tx, .ref cn, .ref tb])), (tx, .inr (1, [.int (nI 3000), .ref rm, .int (nI 0)])), (a0, .inr (7, [.null, .null, .int 0, .int 0, .int 0]))] := hD
  refine W.widen (k := 1) (n := 5) (by omega) (by omega) ?_
  refine lv_dup hx hb dX8_read_3 rfl ?_
  refine lv_aload_n hx hb dX8_read_4 rfl (lv_at hl 0 rfl) ?_
  refine va_get (D := D) (ci := 9) (v := .ref tx) (C := RX8) (T := TX8) (N := 3) hx hb hts iX8 hown hK hP 0 rfl rfl 0 (by decide) (hts (.fieldLink RX8 14 "InterlockTables" "text" "LInterlockTables$Bytes;") (by decide +kernel)) (fun _ h9 => h9) rfl dX8_read_5 ?_
  refine pu_calli (va_runV (As := []) (rest := [.ref a0, .ref a0]) ⟨hx, hb, hml, hown, hts⟩ (c_Bytes_length l D cy e tx (nI 3000) rm (nI 0) ) (cwV 0 hts gX8_read_X0_length rfl rfl rfl (by decide +kernel) ⟨Nat.le_of_ble_eq_true rfl, Nat.le_of_ble_eq_true rfl⟩) (pu_preV hP hK hS hG [1] rfl (q := (RX0, TX0, 3)) (ci := 1) (q0 := 1) rfl rfl) rfl rfl hl.1 rfl (lv_room (Nat.le_of_ble_eq_true rfl)) dX8_read_8 ⟨(Nat.le_of_ble_eq_true rfl), (Nat.le_of_ble_eq_true rfl)⟩) hP hS (fun H locs hP hS => ?_)
  have hP : va_P D vwCl [(h0, .inr (9, [.ref tx, .ref cn, .ref tb])), (tx, .inr (1, [.int (nI 3000), .ref rm, .int (nI 0)])), (a0, .inr (7, [.null, .null, .int 0, .int 0, .int 0]))] H := hP
  refine mt_callv (wr := [(h0, .inr (9, [.ref tx, .ref cn, .ref tb])), (tx, .inr (1, [.int (nI 3000), .ref rm, .int (nI 0)]))]) (va_runI (As := [.int (nI 0)]) (rest := [.ref a0]) ⟨hx, hb, hml, hown, hts⟩ (c_Words_init l D cy e a0 0 H.size (by first | assumption | omega | decide +kernel)) (cwI 1 hts gX8_read_X6_init rfl rfl rfl (hts (.initialized RX6) (by decide +kernel)) (hts (.methodLink RX8 39 yX6_init) (by decide +kernel)) (hts (.instanceMethod yX6_init) (by decide +kernel)) rfl (by decide +kernel) ⟨Nat.le_of_ble_eq_true rfl, Nat.le_of_ble_eq_true rfl⟩) (mt_preS hP hD hK hS hA hG [2] rfl (by decide)) rfl rfl hl.1 rfl (lv_room (Nat.le_of_ble_eq_true rfl)) dX8_read_11 ⟨(Nat.le_of_ble_eq_true rfl), (Nat.le_of_ble_eq_true rfl)⟩) hP hD hS hA [2] [0, 1] rfl rfl (by decide) (by decide) (fun u H locs hw hP hD hS => ?_)
  obtain ⟨kd_11, vl_11⟩ := u
  have hP : va_P D vwCl [(h0, .inr (9, [.ref tx, .ref cn, .ref tb])), (tx, .inr (1, [.int (nI 3000), .ref rm, .int (nI 0)])), (a0, .inr (7, [.ref kd_11, .ref vl_11, .int (nI 0), .int (nI 0), .int 0])), (kd_11, .inl (cy 0, 0, .inl (fun _ => 0))), (vl_11, .inl (cy 3, 0, .inl (fun _ => 0)))] H := hP
  have hD : va_D A [(h0, .inr (9, [.ref tx, .ref cn, .ref tb])), (tx, .inr (1, [.int (nI 3000), .ref rm, .int (nI 0)])), (a0, .inr (7, [.ref kd_11, .ref vl_11, .int (nI 0), .int (nI 0), .int 0])), (kd_11, .inl (cy 0, 0, .inl (fun _ => 0))), (vl_11, .inl (cy 3, 0, .inl (fun _ => 0)))] := hD
  replace hw : True := hw
  refine W.widen (k := 3) (n := 5) (by omega) (by omega) ?_
  refine lv_astore_n (lv' := [(1, .ref a0), (0, .ref h0)]) hx hb dX8_read_14 rfl hl (by decide) rfl (fun ls hl => ?_)
  refine lv_aload_n hx hb dX8_read_15 rfl (lv_at hl 0 rfl) ?_
  refine lv_aload_n hx hb dX8_read_16 rfl (lv_at hl 1 rfl) ?_
  refine va_get (D := D) (ci := 9) (v := .ref tx) (C := RX8) (T := TX8) (N := 3) hx hb hts iX8 hown hK hP 0 rfl rfl 0 (by decide) (hts (.fieldLink RX8 14 "InterlockTables" "text" "LInterlockTables$Bytes;") (by decide +kernel)) (fun _ h9 => h9) rfl dX8_read_17 ?_
  refine pu_callv (va_runV (As := [.ref tx]) (rest := []) ⟨hx, hb, hml, hown, hts⟩ (c_Words_split0 l D cy e a0 tx (nI 3000) rm ) (cwV 1 hts gX8_read_X6_split rfl rfl rfl (by decide +kernel) ⟨Nat.le_of_ble_eq_true rfl, Nat.le_of_ble_eq_true rfl⟩) (pu_preV hP hK hS hG [1] rfl (q := (RX6, TX6, 5)) (ci := 7) (q0 := 2) rfl rfl) rfl rfl hl.1 rfl (lv_room (Nat.le_of_ble_eq_true rfl)) dX8_read_20 ⟨(Nat.le_of_ble_eq_true rfl), (Nat.le_of_ble_eq_true rfl)⟩) hP hS (fun H locs hP hS => ?_)
  have hP : va_P D vwCl [(h0, .inr (9, [.ref tx, .ref cn, .ref tb])), (tx, .inr (1, [.int (nI 3000), .ref rm, .int (nI 0)])), (a0, .inr (7, [.ref kd_11, .ref vl_11, .int (nI 0), .int (nI 0), .int 0])), (kd_11, .inl (cy 0, 0, .inl (fun _ => 0))), (vl_11, .inl (cy 3, 0, .inl (fun _ => 0)))] H := hP
  refine lv_aload_n hx hb dX8_read_23 rfl (lv_at hl 1 rfl) ?_
  refine va_get (D := D) (ci := 9) (v := .ref tx) (C := RX8) (T := TX8) (N := 3) hx hb hts iX8 hown hK hP 0 rfl rfl 0 (by decide) (hts (.fieldLink RX8 14 "InterlockTables" "text" "LInterlockTables$Bytes;") (by decide +kernel)) (fun _ h9 => h9) rfl dX8_read_24 ?_
  refine mt_callv (wr := [(h0, .inr (9, [.ref tx, .ref cn, .ref tb])), (a0, .inr (7, [.ref kd_11, .ref vl_11, .int (nI 0), .int (nI 0), .int 0])), (kd_11, .inl (cy 0, 0, .inl (fun _ => 0))), (vl_11, .inl (cy 3, 0, .inl (fun _ => 0)))]) (va_runV (As := []) (rest := []) ⟨hx, hb, hml, hown, hts⟩ (c_Bytes_empty l D cy e tx (nI 3000) rm (nI 0) H.size ) (cwV 0 hts gX8_read_X0_empty rfl rfl rfl (by decide +kernel) ⟨Nat.le_of_ble_eq_true rfl, Nat.le_of_ble_eq_true rfl⟩) (mt_preV hP hD hK hS hA hG [1] rfl (by decide) (q := (RX0, TX0, 3)) (ci := 1) (q0 := 1) rfl rfl) rfl rfl hl.1 rfl (lv_room (Nat.le_of_ble_eq_true rfl)) dX8_read_27 ⟨(Nat.le_of_ble_eq_true rfl), (Nat.le_of_ble_eq_true rfl)⟩) hP hD hS hA [1] [0, 2, 3, 4] rfl rfl (by decide) (by decide) (fun u H locs hw hP hD hS => ?_)
  have hP : va_P D vwCl [(h0, .inr (9, [.ref tx, .ref cn, .ref tb])), (a0, .inr (7, [.ref kd_11, .ref vl_11, .int (nI 0), .int (nI 0), .int 0])), (kd_11, .inl (cy 0, 0, .inl (fun _ => 0))), (vl_11, .inl (cy 3, 0, .inl (fun _ => 0))), (tx, .inr (1, [.int (nI 3000), .ref rm, .int (nI 0)]))] H := hP
  have hD : va_D A [(h0, .inr (9, [.ref tx, .ref cn, .ref tb])), (a0, .inr (7, [.ref kd_11, .ref vl_11, .int (nI 0), .int (nI 0), .int 0])), (kd_11, .inl (cy 0, 0, .inl (fun _ => 0))), (vl_11, .inl (cy 3, 0, .inl (fun _ => 0))), (tx, .inr (1, [.int (nI 3000), .ref rm, .int (nI 0)]))] := hD
  replace hw : True := hw
  refine W.widen (k := 3) (n := 5) (by omega) (by omega) ?_
  refine va_new (ci := 6) (fs := [.null, .null, .null, .int 0]) (C := RX5) (T := TX5) (N := 4) hx hb hts iX5 tyX5 tyX5_ok hown (hts (.classLink RX8 22 RX5) (by decide +kernel)) (hts (.instantiable RX5 4) (by decide +kernel)) (hts (.initialized RX5) (by decide +kernel)) hK hP hD hS hA rfl (by decide +kernel) (Nat.le_of_ble_eq_true rfl) (Nat.le_of_ble_eq_true rfl) dX8_read_30 (fun a30 H hP hD hS => ?_)
  have hP : va_P D vwCl [(h0, .inr (9, [.ref tx, .ref cn, .ref tb])), (a0, .inr (7, [.ref kd_11, .ref vl_11, .int (nI 0), .int (nI 0), .int 0])), (kd_11, .inl (cy 0, 0, .inl (fun _ => 0))), (vl_11, .inl (cy 3, 0, .inl (fun _ => 0))), (tx, .inr (1, [.int (nI 3000), .ref rm, .int (nI 0)])), (a30, .inr (6, [.null, .null, .null, .int 0]))] H := hP
  have hD : va_D A [(h0, .inr (9, [.ref tx, .ref cn, .ref tb])), (a0, .inr (7, [.ref kd_11, .ref vl_11, .int (nI 0), .int (nI 0), .int 0])), (kd_11, .inl (cy 0, 0, .inl (fun _ => 0))), (vl_11, .inl (cy 3, 0, .inl (fun _ => 0))), (tx, .inr (1, [.int (nI 3000), .ref rm, .int (nI 0)])), (a30, .inr (6, [.null, .null, .null, .int 0]))] := hD
  refine W.widen (k := 4) (n := 9) (by omega) (by omega) ?_
  refine lv_dup hx hb dX8_read_33 rfl ?_
  refine lv_aload_n hx hb dX8_read_34 rfl (lv_at hl 0 rfl) ?_
  refine pu_calli (va_runV (As := []) (rest := [.ref a30, .ref a30]) ⟨hx, hb, hml, hown, hts⟩ (c_Words_count l D cy e a0 kd_11 vl_11 0 0 0 ) (cwV 0 hts gX8_read_X6_count rfl rfl rfl (by decide +kernel) ⟨Nat.le_of_ble_eq_true rfl, Nat.le_of_ble_eq_true rfl⟩) (pu_preV hP hK hS hG [1] rfl (q := (RX6, TX6, 5)) (ci := 7) (q0 := 1) rfl rfl) rfl rfl hl.1 rfl (lv_room (Nat.le_of_ble_eq_true rfl)) dX8_read_35 ⟨(Nat.le_of_ble_eq_true rfl), (Nat.le_of_ble_eq_true rfl)⟩) hP hS (fun H locs hP hS => ?_)
  have hP : va_P D vwCl [(h0, .inr (9, [.ref tx, .ref cn, .ref tb])), (a0, .inr (7, [.ref kd_11, .ref vl_11, .int (nI 0), .int (nI 0), .int 0])), (kd_11, .inl (cy 0, 0, .inl (fun _ => 0))), (vl_11, .inl (cy 3, 0, .inl (fun _ => 0))), (tx, .inr (1, [.int (nI 3000), .ref rm, .int (nI 0)])), (a30, .inr (6, [.null, .null, .null, .int 0]))] H := hP
  refine mt_callv (wr := [(h0, .inr (9, [.ref tx, .ref cn, .ref tb])), (a0, .inr (7, [.ref kd_11, .ref vl_11, .int (nI 0), .int (nI 0), .int 0])), (kd_11, .inl (cy 0, 0, .inl (fun _ => 0))), (vl_11, .inl (cy 3, 0, .inl (fun _ => 0))), (tx, .inr (1, [.int (nI 3000), .ref rm, .int (nI 0)]))]) (va_runI (As := [.int (nI 0)]) (rest := [.ref a30]) ⟨hx, hb, hml, hown, hts⟩ (c_Table_init l D cy e a30 0 H.size (by first | assumption | omega | decide +kernel)) (cwI 1 hts gX8_read_X5_init rfl rfl rfl (hts (.initialized RX5) (by decide +kernel)) (hts (.methodLink RX8 24 yX5_init) (by decide +kernel)) (hts (.instanceMethod yX5_init) (by decide +kernel)) rfl (by decide +kernel) ⟨Nat.le_of_ble_eq_true rfl, Nat.le_of_ble_eq_true rfl⟩) (mt_preS hP hD hK hS hA hG [5] rfl (by decide)) rfl rfl hl.1 rfl (lv_room (Nat.le_of_ble_eq_true rfl)) dX8_read_38 ⟨(Nat.le_of_ble_eq_true rfl), (Nat.le_of_ble_eq_true rfl)⟩) hP hD hS hA [5] [0, 1, 2, 3, 4] rfl rfl (by decide) (by decide) (fun u H locs hw hP hD hS => ?_)
  obtain ⟨ro_38, xp_38, cd_38, st_38⟩ := u
  have hP : va_P D vwCl [(h0, .inr (9, [.ref tx, .ref cn, .ref tb])), (a0, .inr (7, [.ref kd_11, .ref vl_11, .int (nI 0), .int (nI 0), .int 0])), (kd_11, .inl (cy 0, 0, .inl (fun _ => 0))), (vl_11, .inl (cy 3, 0, .inl (fun _ => 0))), (tx, .inr (1, [.int (nI 3000), .ref rm, .int (nI 0)])), (a30, .inr (6, [.ref ro_38, .ref xp_38, .null, .int 0])), (ro_38, .inr (0, [.int 0, .ref (e 0), .int (nI 0)])), (xp_38, .inr (2, [.ref cd_38, .int (nI 0), .ref st_38])), (cd_38, .inl (cy 0, 0, .inl (fun _ => 0))), (st_38, .inl (cy 2, 32, .inr (.inl (fun _ => 0))))] H := hP
  have hD : va_D A [(h0, .inr (9, [.ref tx, .ref cn, .ref tb])), (a0, .inr (7, [.ref kd_11, .ref vl_11, .int (nI 0), .int (nI 0), .int 0])), (kd_11, .inl (cy 0, 0, .inl (fun _ => 0))), (vl_11, .inl (cy 3, 0, .inl (fun _ => 0))), (tx, .inr (1, [.int (nI 3000), .ref rm, .int (nI 0)])), (a30, .inr (6, [.ref ro_38, .ref xp_38, .null, .int 0])), (ro_38, .inr (0, [.int 0, .ref (e 0), .int (nI 0)])), (xp_38, .inr (2, [.ref cd_38, .int (nI 0), .ref st_38])), (cd_38, .inl (cy 0, 0, .inl (fun _ => 0))), (st_38, .inl (cy 2, 32, .inr (.inl (fun _ => 0))))] := hD
  replace hw : True := hw
  refine W.widen (k := 8) (n := 47) (by omega) (by omega) ?_
  refine lv_astore_n (lv' := [(2, .ref a30), (1, .ref a0), (0, .ref h0)]) hx hb dX8_read_41 rfl hl (by decide) rfl (fun ls hl => ?_)
  refine va_new (ci := 3) (fs := [.null, .null, .null]) (C := RX2) (T := TX2) (N := 3) hx hb hts iX2 tyX2 tyX2_ok hown (hts (.classLink RX8 50 RX2) (by decide +kernel)) (hts (.instantiable RX2 3) (by decide +kernel)) (hts (.initialized RX2) (by decide +kernel)) hK hP hD hS hA rfl (by decide +kernel) (Nat.le_of_ble_eq_true rfl) (Nat.le_of_ble_eq_true rfl) dX8_read_42 (fun a42 H hP hD hS => ?_)
  have hP : va_P D vwCl [(h0, .inr (9, [.ref tx, .ref cn, .ref tb])), (a0, .inr (7, [.ref kd_11, .ref vl_11, .int (nI 0), .int (nI 0), .int 0])), (kd_11, .inl (cy 0, 0, .inl (fun _ => 0))), (vl_11, .inl (cy 3, 0, .inl (fun _ => 0))), (tx, .inr (1, [.int (nI 3000), .ref rm, .int (nI 0)])), (a30, .inr (6, [.ref ro_38, .ref xp_38, .null, .int 0])), (ro_38, .inr (0, [.int 0, .ref (e 0), .int (nI 0)])), (xp_38, .inr (2, [.ref cd_38, .int (nI 0), .ref st_38])), (cd_38, .inl (cy 0, 0, .inl (fun _ => 0))), (st_38, .inl (cy 2, 32, .inr (.inl (fun _ => 0)))), (a42, .inr (3, [.null, .null, .null]))] H := hP
  have hD : va_D A [(h0, .inr (9, [.ref tx, .ref cn, .ref tb])), (a0, .inr (7, [.ref kd_11, .ref vl_11, .int (nI 0), .int (nI 0), .int 0])), (kd_11, .inl (cy 0, 0, .inl (fun _ => 0))), (vl_11, .inl (cy 3, 0, .inl (fun _ => 0))), (tx, .inr (1, [.int (nI 3000), .ref rm, .int (nI 0)])), (a30, .inr (6, [.ref ro_38, .ref xp_38, .null, .int 0])), (ro_38, .inr (0, [.int 0, .ref (e 0), .int (nI 0)])), (xp_38, .inr (2, [.ref cd_38, .int (nI 0), .ref st_38])), (cd_38, .inl (cy 0, 0, .inl (fun _ => 0))), (st_38, .inl (cy 2, 32, .inr (.inl (fun _ => 0)))), (a42, .inr (3, [.null, .null, .null]))] := hD
  refine W.widen (k := 9) (n := 50) (by omega) (by omega) ?_
  refine lv_dup hx hb dX8_read_45 rfl ?_
  refine lv_aload_n hx hb dX8_read_46 rfl (lv_at hl 1 rfl) ?_
  refine lv_aload_n hx hb dX8_read_47 rfl (lv_at hl 0 rfl) ?_
  refine mt_callv (wr := [(h0, .inr (9, [.ref tx, .ref cn, .ref tb])), (a0, .inr (7, [.ref kd_11, .ref vl_11, .int (nI 0), .int (nI 0), .int 0])), (kd_11, .inl (cy 0, 0, .inl (fun _ => 0))), (vl_11, .inl (cy 3, 0, .inl (fun _ => 0))), (tx, .inr (1, [.int (nI 3000), .ref rm, .int (nI 0)])), (ro_38, .inr (0, [.int 0, .ref (e 0), .int (nI 0)])), (xp_38, .inr (2, [.ref cd_38, .int (nI 0), .ref st_38])), (cd_38, .inl (cy 0, 0, .inl (fun _ => 0))), (st_38, .inl (cy 2, 32, .inr (.inl (fun _ => 0))))]) (va_runI (As := [.ref a0, .ref a30]) (rest := [.ref a42]) ⟨hx, hb, hml, hown, hts⟩ (c_Reader_init l D cy e a42 a0 a30 ro_38 xp_38 .null 0 H.size ) (cwI 2 hts gX8_read_X2_init rfl rfl rfl (hts (.initialized RX2) (by decide +kernel)) (hts (.methodLink RX8 52 yX2_init) (by decide +kernel)) (hts (.instanceMethod yX2_init) (by decide +kernel)) rfl (by decide +kernel) ⟨Nat.le_of_ble_eq_true rfl, Nat.le_of_ble_eq_true rfl⟩) (mt_preS hP hD hK hS hA hG [10, 5] rfl (by decide)) rfl rfl hl.1 rfl (lv_room (Nat.le_of_ble_eq_true rfl)) dX8_read_48 ⟨(Nat.le_of_ble_eq_true rfl), (Nat.le_of_ble_eq_true rfl)⟩) hP hD hS hA [10, 5] [0, 1, 2, 3, 4, 6, 7, 8, 9] rfl rfl (by decide) (by decide) (fun u H locs hw hP hD hS => ?_)
  have hP : va_P D vwCl [(h0, .inr (9, [.ref tx, .ref cn, .ref tb])), (a0, .inr (7, [.ref kd_11, .ref vl_11, .int (nI 0), .int (nI 0), .int 0])), (kd_11, .inl (cy 0, 0, .inl (fun _ => 0))), (vl_11, .inl (cy 3, 0, .inl (fun _ => 0))), (tx, .inr (1, [.int (nI 3000), .ref rm, .int (nI 0)])), (ro_38, .inr (0, [.int 0, .ref (e 0), .int (nI 0)])), (xp_38, .inr (2, [.ref cd_38, .int (nI 0), .ref st_38])), (cd_38, .inl (cy 0, 0, .inl (fun _ => 0))), (st_38, .inl (cy 2, 32, .inr (.inl (fun _ => 0)))), (a42, .inr (3, [.ref a0, .ref a30, .ref xp_38])), (a30, .inr (6, [.ref ro_38, .ref xp_38, .null, .int 0]))] H := hP
  have hD : va_D A [(h0, .inr (9, [.ref tx, .ref cn, .ref tb])), (a0, .inr (7, [.ref kd_11, .ref vl_11, .int (nI 0), .int (nI 0), .int 0])), (kd_11, .inl (cy 0, 0, .inl (fun _ => 0))), (vl_11, .inl (cy 3, 0, .inl (fun _ => 0))), (tx, .inr (1, [.int (nI 3000), .ref rm, .int (nI 0)])), (ro_38, .inr (0, [.int 0, .ref (e 0), .int (nI 0)])), (xp_38, .inr (2, [.ref cd_38, .int (nI 0), .ref st_38])), (cd_38, .inl (cy 0, 0, .inl (fun _ => 0))), (st_38, .inl (cy 2, 32, .inr (.inl (fun _ => 0)))), (a42, .inr (3, [.ref a0, .ref a30, .ref xp_38])), (a30, .inr (6, [.ref ro_38, .ref xp_38, .null, .int 0]))] := hD
  replace hw : True := hw
  refine W.widen (k := 9) (n := 50) (by omega) (by omega) ?_
  refine pu_calli (va_runV (As := []) (rest := []) ⟨hx, hb, hml, hown, hts⟩ (c_Reader_takeText0 l D cy e a42 a0 a30 xp_38 kd_11 vl_11 0 0 (fun _ => 0) (by decide)) (cwV 0 hts gX8_read_X2_takeText rfl rfl rfl (by decide +kernel) ⟨Nat.le_of_ble_eq_true rfl, Nat.le_of_ble_eq_true rfl⟩) (pu_preV hP hK hS hG [9, 1, 2] rfl (q := (RX2, TX2, 3)) (ci := 3) (q0 := 9) rfl rfl) rfl rfl hl.1 rfl (lv_room (Nat.le_of_ble_eq_true rfl)) dX8_read_51 ⟨(Nat.le_of_ble_eq_true rfl), (Nat.le_of_ble_eq_true rfl)⟩) hP hS (fun H locs hP hS => ?_)
  have hP : va_P D vwCl [(h0, .inr (9, [.ref tx, .ref cn, .ref tb])), (a0, .inr (7, [.ref kd_11, .ref vl_11, .int (nI 0), .int (nI 0), .int 0])), (kd_11, .inl (cy 0, 0, .inl (fun _ => 0))), (vl_11, .inl (cy 3, 0, .inl (fun _ => 0))), (tx, .inr (1, [.int (nI 3000), .ref rm, .int (nI 0)])), (ro_38, .inr (0, [.int 0, .ref (e 0), .int (nI 0)])), (xp_38, .inr (2, [.ref cd_38, .int (nI 0), .ref st_38])), (cd_38, .inl (cy 0, 0, .inl (fun _ => 0))), (st_38, .inl (cy 2, 32, .inr (.inl (fun _ => 0)))), (a42, .inr (3, [.ref a0, .ref a30, .ref xp_38])), (a30, .inr (6, [.ref ro_38, .ref xp_38, .null, .int 0]))] H := hP
  refine lv_if_ne (tgt := 64) hx hb dX8_read_54 (by decide) (fun _ => ?_) (fun c54 => absurd c54 (by decide))
  refine lv_aload_n hx hb dX8_read_64 rfl (lv_at hl 2 rfl) ?_
  refine lv_aload_n hx hb dX8_read_65 rfl (lv_at hl 0 rfl) ?_
  refine va_put (D := D) (ci := 9) (v := .ref a30) (ty := (.object "InterlockTables$Table")) (C := RX8) (T := TX8) (N := 3) hx hb hts iX8 tyX8 tyX8_ok nmX8 hown hK hP hD hS 0 rfl rfl 2 (by decide) (hts (.fieldLink RX8 25 "InterlockTables" "table" "LInterlockTables$Table;") (by decide +kernel)) (fun _ h9 => h9) rfl (by decide +kernel) rfl rfl (Nat.le_of_ble_eq_true rfl) dX8_read_66 (fun H locs hP hD hS => ?_)
  have hP : va_P D vwCl [(h0, .inr (9, [.ref tx, .ref cn, .ref a30])), (a0, .inr (7, [.ref kd_11, .ref vl_11, .int (nI 0), .int (nI 0), .int 0])), (kd_11, .inl (cy 0, 0, .inl (fun _ => 0))), (vl_11, .inl (cy 3, 0, .inl (fun _ => 0))), (tx, .inr (1, [.int (nI 3000), .ref rm, .int (nI 0)])), (ro_38, .inr (0, [.int 0, .ref (e 0), .int (nI 0)])), (xp_38, .inr (2, [.ref cd_38, .int (nI 0), .ref st_38])), (cd_38, .inl (cy 0, 0, .inl (fun _ => 0))), (st_38, .inl (cy 2, 32, .inr (.inl (fun _ => 0)))), (a42, .inr (3, [.ref a0, .ref a30, .ref xp_38])), (a30, .inr (6, [.ref ro_38, .ref xp_38, .null, .int 0]))] H := hP
  have hD : va_D A [(h0, .inr (9, [.ref tx, .ref cn, .ref a30])), (a0, .inr (7, [.ref kd_11, .ref vl_11, .int (nI 0), .int (nI 0), .int 0])), (kd_11, .inl (cy 0, 0, .inl (fun _ => 0))), (vl_11, .inl (cy 3, 0, .inl (fun _ => 0))), (tx, .inr (1, [.int (nI 3000), .ref rm, .int (nI 0)])), (ro_38, .inr (0, [.int 0, .ref (e 0), .int (nI 0)])), (xp_38, .inr (2, [.ref cd_38, .int (nI 0), .ref st_38])), (cd_38, .inl (cy 0, 0, .inl (fun _ => 0))), (st_38, .inl (cy 2, 32, .inr (.inl (fun _ => 0)))), (a42, .inr (3, [.ref a0, .ref a30, .ref xp_38])), (a30, .inr (6, [.ref ro_38, .ref xp_38, .null, .int 0]))] := hD
  refine lv_aload_n hx hb dX8_read_69 rfl (lv_at hl 2 rfl) ?_
  refine va_get (D := D) (ci := 9) (v := .ref a30) (C := RX8) (T := TX8) (N := 3) hx hb hts iX8 hown hK hP 0 rfl rfl 2 (by decide) (hts (.fieldLink RX8 25 "InterlockTables" "table" "LInterlockTables$Table;") (by decide +kernel)) (fun _ h9 => h9) rfl dX8_read_70 ?_
  refine pu_calli (va_runV (As := []) (rest := []) ⟨hx, hb, hml, hown, hts⟩ (c_Table_size l D cy e a30 ro_38 xp_38 .null 0 0 (.ref (e 0)) (nI 0) ) (cwV 0 hts gX8_read_X5_size rfl rfl rfl (by decide +kernel) ⟨Nat.le_of_ble_eq_true rfl, Nat.le_of_ble_eq_true rfl⟩) (pu_preV hP hK hS hG [10, 5] rfl (q := (RX5, TX5, 4)) (ci := 6) (q0 := 10) rfl rfl) rfl rfl hl.1 rfl (lv_room (Nat.le_of_ble_eq_true rfl)) dX8_read_73 ⟨(Nat.le_of_ble_eq_true rfl), (Nat.le_of_ble_eq_true rfl)⟩) hP hS (fun H locs hP hS => ?_)
  have hP : va_P D vwCl [(h0, .inr (9, [.ref tx, .ref cn, .ref a30])), (a0, .inr (7, [.ref kd_11, .ref vl_11, .int (nI 0), .int (nI 0), .int 0])), (kd_11, .inl (cy 0, 0, .inl (fun _ => 0))), (vl_11, .inl (cy 3, 0, .inl (fun _ => 0))), (tx, .inr (1, [.int (nI 3000), .ref rm, .int (nI 0)])), (ro_38, .inr (0, [.int 0, .ref (e 0), .int (nI 0)])), (xp_38, .inr (2, [.ref cd_38, .int (nI 0), .ref st_38])), (cd_38, .inl (cy 0, 0, .inl (fun _ => 0))), (st_38, .inl (cy 2, 32, .inr (.inl (fun _ => 0)))), (a42, .inr (3, [.ref a0, .ref a30, .ref xp_38])), (a30, .inr (6, [.ref ro_38, .ref xp_38, .null, .int 0]))] H := hP
  have hP9 : va_P D vwCl [] H := hP.sub [] rfl
  have hD9 : va_D A [] := hD.sub [] (by decide) rfl
  refine W.widen (k := 9) (n := 50) (by omega) (by omega) ?_
  exact W.iret hx hb hr (fun t ht hW => ⟨⟨_, (), rfl, rfl, by rw [ht]; exact hP9, hD9⟩, hS.F ht⟩) hS.2.2 dX8_read_76

set_option maxHeartbeats 4000000 in
set_option maxRecDepth 100000 in
/-- condition, first of all -/
theorem c_IT_condition0 (l : Launch) (D : va_G) (cy : Nat → ClassId) (e : Nat → Nat) (h0 : Nat) (tx : Nat) (cn : Nat) (tb : Nat) (k : Int32) (on : Int32) (sz : Nat)  : Met l yX8_condition wsX8_condition ({ frames := 0, cells := 0, slots := 0, locals := 0 }) (va_Pc [.ref h0, .int k, .int on] (mt_B D cy e [(h0, .inr (9, [.ref tx, .ref cn, .ref tb])), (cn, .inl (cy 2, 16, .inr (.inl (fun _ => 0))))] sz)) (va_Qi (fun (r : Int32) (_ : Unit) => r = if k < 0 ∨ ¬ k < 16 then 0 else if on = 0 then 0 else 1) (mt_Q D (fun (_ : Unit) => []) (va_A [(h0, .inr (9, [.ref tx, .ref cn, .ref tb])), (cn, .inl (cy 2, 16, .inr (.inl (fun _ => 0))))] sz)) (va_A [(h0, .inr (9, [.ref tx, .ref cn, .ref tb])), (cn, .inl (cy 2, 16, .inr (.inl (fun _ => 0))))] sz)) (0) (0) (va_A [(h0, .inr (9, [.ref tx, .ref cn, .ref tb])), (cn, .inl (cy 2, 16, .inr (.inl (fun _ => 0))))] sz) := by
  refine Met.ofW (cc := cX8_condition) (maxL := 6) (ret := (some .boolean)) (by decide) rfl ?_
  intro p ev s m args below meth c s₁ B hml hv
  obtain ⟨rfl, hsz, hP, hK, hD0, hG⟩ := hv
  have hx := B.exec
  have hb := B.bytes
  have hr := B.returns
  have hts := atoms_spec (ws := wsX8_condition) B.pre
  have hown : s.vm.findClass RX8 = some m.cls := findClass_of_methodNamed B.named
  have hlocks := B.notSynchronized
  subst hsz
  have hD := hD0.self (sz := s.heap.size)
  generalize hAe : va_A [(h0, .inr (9, [.ref tx, .ref cn, .ref tb])), (cn, .inl (cy 2, 16, .inr (.inl (fun _ => 0))))] s.heap.size = A at hD hG ⊢
  have hA : ∀ q : Nat, s.heap.size ≤ q → A q := fun q h => by rw [← hAe]; exact Or.inr h
  have hS : va_S A s.heap s.heap [] := va_S.rf
  have hP : va_P D vwCl [(h0, .inr (9, [.ref tx, .ref cn, .ref tb])), (cn, .inl (cy 2, 16, .inr (.inl (fun _ => 0))))] s.heap := hP
  have iX8 : ∀ w ∈ wsX80, w ∈ wsX8_condition := fun w h => List.mem_cons_of_mem _ (List.mem_append_right _ h)
  have hl := lv_entry ([.ref h0, .int k, .int on]) (n := 6) (Nat.le_of_ble_eq_true rfl)
  rw [lg_entry_eq]
  generalize (lg_sl ([.ref h0, .int k, .int on]) ++ List.replicate (6 - (lg_sl ([.ref h0, .int k, .int on])).length) Slot.unset).toArray = ls at hl ⊢
  have hl : lv_has ls 6 [(0, .ref h0), (1, .int k), (2, .int on)] := hl
  refine lv_iload_n hx hb dX8_condition_0 rfl (lv_at hl 1 rfl) ?_
  refine lv_if_lt (tgt := 10) hx hb dX8_condition_1 (by decide) (fun c1 => ?_) (fun c1 => ?_)
  · refine lv_iconst (v := 0) hx hb dX8_condition_10 (by decide +kernel) ?_
    have hP9 : va_P D vwCl [] s.heap := hP.sub [] rfl
    have hD9 : va_D A [] := hD.sub [] (by decide) rfl
    refine W.widen (k := 0) (n := 0) (by omega) (by omega) ?_
    exact W.zret hx hb hr rfl (fun t ht hW => ⟨⟨_, (), rfl, by simp [c1], by rw [ht]; exact hP9, hD9⟩, hS.F ht⟩) hS.2.2 dX8_condition_11
  · refine lv_iload_n hx hb dX8_condition_4 rfl (lv_at hl 1 rfl) ?_
    refine lv_bipush (v := 16) hx hb dX8_condition_5 (by decide +kernel) ?_
    refine lv_icmp_lt (tgt := 12) hx hb dX8_condition_7 (by decide) (fun c7 => ?_) (fun c7 => ?_)
    · refine lv_iload_n hx hb dX8_condition_12 rfl (lv_at hl 2 rfl) ?_
      refine lv_if_eq (tgt := 22) hx hb dX8_condition_13 (by decide) (fun c13 => ?_) (fun c13 => ?_)
      · refine lv_lconst (v := 0) hx hb dX8_condition_22 (by decide +kernel) ?_
        refine lv_lstore_n (lv' := [(3, .long 0), (0, .ref h0), (1, .int k), (2, .int on)]) hx hb dX8_condition_23 rfl hl (by decide) rfl (fun ls hl => ?_)
        refine lv_aload_n hx hb dX8_condition_24 rfl (lv_at hl 1 rfl) ?_
        refine va_get (D := D) (ci := 9) (v := .ref cn) (C := RX8) (T := TX8) (N := 3) hx hb hts iX8 hown hK hP 0 rfl rfl 1 (by decide) (hts (.fieldLink RX8 18 "InterlockTables" "conditions" "[J") (by decide +kernel)) (fun _ h9 => h9) rfl dX8_condition_25 ?_
        refine lv_iload_n hx hb dX8_condition_28 rfl (lv_at hl 2 rfl) ?_
        refine va_lald hx hb hK hP 1 2 rfl rfl (pk_inlt (len := 16) c1 c7 (by omega) (by omega)) dX8_condition_29 ?_
        refine lv_topl (fun x_1 ex_1 => ?_)
        obtain rfl : x_1 = 0 := ex_1
        refine lv_lload_n hx hb dX8_condition_30 rfl (lv_at hl 0 rfl) ?_
        refine W.lcmp hx hb dX8_condition_31 ?_
        refine lv_if_eq (tgt := 39) hx hb dX8_condition_32 (by decide) (fun _ => ?_) (fun c32 => absurd (by decide) c32)
        refine lv_iconst (v := 0) hx hb dX8_condition_39 (by decide +kernel) ?_
        refine lv_istore (lv' := [(5, .int 0), (3, .long 0), (0, .ref h0), (1, .int k), (2, .int on)]) hx hb dX8_condition_40 hl (by decide) rfl (fun ls hl => ?_)
        refine lv_aload_n hx hb dX8_condition_42 rfl (lv_at hl 2 rfl) ?_
        refine va_get (D := D) (ci := 9) (v := .ref cn) (C := RX8) (T := TX8) (N := 3) hx hb hts iX8 hown hK hP 0 rfl rfl 1 (by decide) (hts (.fieldLink RX8 18 "InterlockTables" "conditions" "[J") (by decide +kernel)) (fun _ h9 => h9) rfl dX8_condition_43 ?_
        refine lv_iload_n hx hb dX8_condition_46 rfl (lv_at hl 3 rfl) ?_
        refine lv_lload_n hx hb dX8_condition_47 rfl (lv_at hl 1 rfl) ?_
        refine va_last hx hb hK hP hD hS 1 2 rfl rfl (pk_inlt (len := 16) c1 c7 (by omega) (by omega)) dX8_condition_48 (fun H locs hP hD hS => ?_)
        have hP : va_P D vwCl [(h0, .inr (9, [.ref tx, .ref cn, .ref tb])), (cn, .inl (cy 2, 16, .inr (.inl (vp_updL (fun _ => 0) k.toNatClampNeg 0))))] H := hP
        have hD : va_D A [(h0, .inr (9, [.ref tx, .ref cn, .ref tb])), (cn, .inl (cy 2, 16, .inr (.inl (vp_updL (fun _ => 0) k.toNatClampNeg 0))))] := hD
        refine lv_iload hx hb dX8_condition_49 (lv_at hl 0 rfl) ?_
        have hP9 : va_P D vwCl [] H := hP.sub [] rfl
        have hD9 : va_D A [] := hD.sub [] (by decide) rfl
        refine W.widen (k := 0) (n := 0) (by omega) (by omega) ?_
        exact W.zret hx hb hr rfl (fun t ht hW => ⟨⟨_, (), rfl, by simp [c1, c7, c13], by rw [ht]; exact hP9, hD9⟩, hS.F ht⟩) hS.2.2 dX8_condition_51
      · refine lv_ldc2 (v := -1) hx hb hown (hts (.constantLong RX8 65 (-1)) (by decide +kernel)) dX8_condition_16 ?_
        refine lv_goto (tgt := 23) hx hb dX8_condition_19 (by decide) ?_
        refine lv_lstore_n (lv' := [(3, .long (-1)), (0, .ref h0), (1, .int k), (2, .int on)]) hx hb dX8_condition_23 rfl hl (by decide) rfl (fun ls hl => ?_)
        refine lv_aload_n hx hb dX8_condition_24 rfl (lv_at hl 1 rfl) ?_
        refine va_get (D := D) (ci := 9) (v := .ref cn) (C := RX8) (T := TX8) (N := 3) hx hb hts iX8 hown hK hP 0 rfl rfl 1 (by decide) (hts (.fieldLink RX8 18 "InterlockTables" "conditions" "[J") (by decide +kernel)) (fun _ h9 => h9) rfl dX8_condition_25 ?_
        refine lv_iload_n hx hb dX8_condition_28 rfl (lv_at hl 2 rfl) ?_
        refine va_lald hx hb hK hP 1 2 rfl rfl (pk_inlt (len := 16) c1 c7 (by omega) (by omega)) dX8_condition_29 ?_
        refine lv_topl (fun x_2 ex_2 => ?_)
        obtain rfl : x_2 = 0 := ex_2
        refine lv_lload_n hx hb dX8_condition_30 rfl (lv_at hl 0 rfl) ?_
        refine W.lcmp hx hb dX8_condition_31 ?_
        refine lv_if_eq (tgt := 39) hx hb dX8_condition_32 (by decide) (fun c32 => absurd c32 (by decide)) (fun _ => ?_)
        refine lv_iconst (v := 1) hx hb dX8_condition_35 (by decide +kernel) ?_
        refine lv_goto (tgt := 40) hx hb dX8_condition_36 (by decide) ?_
        refine lv_istore (lv' := [(5, .int 1), (3, .long (-1)), (0, .ref h0), (1, .int k), (2, .int on)]) hx hb dX8_condition_40 hl (by decide) rfl (fun ls hl => ?_)
        refine lv_aload_n hx hb dX8_condition_42 rfl (lv_at hl 2 rfl) ?_
        refine va_get (D := D) (ci := 9) (v := .ref cn) (C := RX8) (T := TX8) (N := 3) hx hb hts iX8 hown hK hP 0 rfl rfl 1 (by decide) (hts (.fieldLink RX8 18 "InterlockTables" "conditions" "[J") (by decide +kernel)) (fun _ h9 => h9) rfl dX8_condition_43 ?_
        refine lv_iload_n hx hb dX8_condition_46 rfl (lv_at hl 3 rfl) ?_
        refine lv_lload_n hx hb dX8_condition_47 rfl (lv_at hl 1 rfl) ?_
        refine va_last hx hb hK hP hD hS 1 2 rfl rfl (pk_inlt (len := 16) c1 c7 (by omega) (by omega)) dX8_condition_48 (fun H locs hP hD hS => ?_)
        have hP : va_P D vwCl [(h0, .inr (9, [.ref tx, .ref cn, .ref tb])), (cn, .inl (cy 2, 16, .inr (.inl (vp_updL (fun _ => 0) k.toNatClampNeg (-1)))))] H := hP
        have hD : va_D A [(h0, .inr (9, [.ref tx, .ref cn, .ref tb])), (cn, .inl (cy 2, 16, .inr (.inl (vp_updL (fun _ => 0) k.toNatClampNeg (-1)))))] := hD
        refine lv_iload hx hb dX8_condition_49 (lv_at hl 0 rfl) ?_
        have hP9 : va_P D vwCl [] H := hP.sub [] rfl
        have hD9 : va_D A [] := hD.sub [] (by decide) rfl
        refine W.widen (k := 0) (n := 0) (by omega) (by omega) ?_
        exact W.zret hx hb hr rfl (fun t ht hW => ⟨⟨_, (), rfl, by simp [c1, c7, c13], by rw [ht]; exact hP9, hD9⟩, hS.F ht⟩) hS.2.2 dX8_condition_51
    · refine lv_iconst (v := 0) hx hb dX8_condition_10 (by decide +kernel) ?_
      have hP9 : va_P D vwCl [] s.heap := hP.sub [] rfl
      have hD9 : va_D A [] := hD.sub [] (by decide) rfl
      refine W.widen (k := 0) (n := 0) (by omega) (by omega) ?_
      exact W.zret hx hb hr rfl (fun t ht hW => ⟨⟨_, (), rfl, by simp [c1, c7], by rw [ht]; exact hP9, hD9⟩, hS.F ht⟩) hS.2.2 dX8_condition_11

set_option maxHeartbeats 4000000 in
set_option maxRecDepth 100000 in
theorem c_IT_tick0 (l : Launch) (D : va_G) (cy : Nat → ClassId) (e : Nat → Nat) (h0 : Nat) (tx : Nat) (cn : Nat) (tb : Nat) (ro : Nat) (xp : Nat) (i : Int32)  : Met l yX8_tick wsX8_tick ({ frames := 2, cells := 0, slots := 0, locals := 44 }) (va_Pc [.ref h0, .int i] (pu_B D cy e [(h0, .inr (9, [.ref tx, .ref cn, .ref tb])), (tb, .inr (6, [.ref ro, .ref xp, .null, .int 0])), (ro, .inr (0, [.int 0, .ref (e 0), .int (nI 0)]))])) (va_Qi (fun (r : Int32) (_ : Unit) => r = if i < 0 ∨ ¬ i ≤ 100000 then 0 else 1) (fun _ _ => True) (fun _ => False)) 0 0 (fun _ => False) := by
  refine Met.ofW (cc := cX8_tick) (maxL := 2) (ret := (some .boolean)) (by decide) rfl ?_
  intro p ev s m args below meth c s₁ B hml hv
  obtain ⟨rfl, hP, hK, hG⟩ := hv
  have hx := B.exec
  have hb := B.bytes
  have hr := B.returns
  have hts := atoms_spec (ws := wsX8_tick) B.pre
  have hown : s.vm.findClass RX8 = some m.cls := findClass_of_methodNamed B.named
  have hlocks := B.notSynchronized
  have hS : va_S (fun _ => False) s.heap s.heap [] := va_S.rf
  have hP : va_P D vwCl [(h0, .inr (9, [.ref tx, .ref cn, .ref tb])), (tb, .inr (6, [.ref ro, .ref xp, .null, .int 0])), (ro, .inr (0, [.int 0, .ref (e 0), .int (nI 0)]))] s.heap := hP
  have iX8 : ∀ w ∈ wsX80, w ∈ wsX8_tick := fun w h => List.mem_cons_of_mem _ (List.mem_append_left _ (List.mem_append_left _ (List.mem_append_left _ (List.mem_append_left _ (List.mem_append_right _ h)))))
  have iX5 : ∀ w ∈ wsX50, w ∈ wsX8_tick := fun w h => List.mem_cons_of_mem _ (List.mem_append_left _ (List.mem_append_left _ (List.mem_append_left _ (List.mem_append_right _ h))))
  have iJx4a65c : ∀ w ∈ wsJx4a65c0, w ∈ wsX8_tick := fun w h => List.mem_cons_of_mem _ (List.mem_append_left _ (List.mem_append_left _ (List.mem_append_right _ h)))
  have iX3 : ∀ w ∈ wsX30, w ∈ wsX8_tick := fun w h => List.mem_cons_of_mem _ (List.mem_append_left _ (List.mem_append_right _ h))
  have iX1 : ∀ w ∈ wsX10, w ∈ wsX8_tick := fun w h => List.mem_cons_of_mem _ (List.mem_append_right _ h)
  have hl := lv_entry ([.ref h0, .int i]) (n := 2) (Nat.le_of_ble_eq_true rfl)
  rw [lg_entry_eq]
  generalize (lg_sl ([.ref h0, .int i]) ++ List.replicate (2 - (lg_sl ([.ref h0, .int i])).length) Slot.unset).toArray = ls at hl ⊢
  have hl : lv_has ls 2 [(0, .ref h0), (1, .int i)] := hl
  refine lv_iload_n hx hb dX8_tick_0 rfl (lv_at hl 1 rfl) ?_
  refine lv_if_lt (tgt := 10) hx hb dX8_tick_1 (by decide) (fun c1 => ?_) (fun c1 => ?_)
  · refine lv_iconst (v := 0) hx hb dX8_tick_10 (by decide +kernel) ?_
    exact W.zret hx hb hr rfl (fun t ht hW => ⟨⟨_, (), rfl, by simp [c1], trivial⟩, hS.F ht⟩) hS.2.2 dX8_tick_11
  · refine lv_iload_n hx hb dX8_tick_4 rfl (lv_at hl 1 rfl) ?_
    refine lv_ldc (v := 100000) hx hb hown (hts (.constant RX8 67 (100000)) (by decide +kernel)) dX8_tick_5 ?_
    refine lv_icmp_le (tgt := 12) hx hb dX8_tick_7 (by decide) (fun c7 => ?_) (fun c7 => ?_)
    · refine lv_aload_n hx hb dX8_tick_12 rfl (lv_at hl 0 rfl) ?_
      refine va_get (D := D) (ci := 9) (v := .ref tb) (C := RX8) (T := TX8) (N := 3) hx hb hts iX8 hown hK hP 0 rfl rfl 2 (by decide) (hts (.fieldLink RX8 25 "InterlockTables" "table" "LInterlockTables$Table;") (by decide +kernel)) (fun _ h9 => h9) rfl dX8_tick_13 ?_
      refine lv_iload_n hx hb dX8_tick_16 rfl (lv_at hl 1 rfl) ?_
      refine lv_aload_n hx hb dX8_tick_17 rfl (lv_at hl 0 rfl) ?_
      refine va_get (D := D) (ci := 9) (v := .ref cn) (C := RX8) (T := TX8) (N := 3) hx hb hts iX8 hown hK hP 0 rfl rfl 1 (by decide) (hts (.fieldLink RX8 18 "InterlockTables" "conditions" "[J") (by decide +kernel)) (fun _ h9 => h9) rfl dX8_tick_18 ?_
      refine pu_callv (va_runV (As := [.int i, .ref cn]) (rest := []) ⟨hx, hb, hml, hown, hts⟩ (c_Table_letGoBy0 l D cy e tb ro xp .null 0 0 (.ref (e 0)) i cn ) (cwV 2 hts gX8_tick_X5_letGoBy rfl rfl rfl (by decide +kernel) ⟨Nat.le_of_ble_eq_true rfl, Nat.le_of_ble_eq_true rfl⟩) (pu_preV hP hK hS hG [1, 2] rfl (q := (RX5, TX5, 4)) (ci := 6) (q0 := 1) rfl rfl) rfl rfl hl.1 rfl (lv_room (Nat.le_of_ble_eq_true rfl)) dX8_tick_21 ⟨(Nat.le_of_ble_eq_true rfl), (Nat.le_of_ble_eq_true rfl)⟩) hP hS (fun H locs hP hS => ?_)
      have hP : va_P D vwCl [(h0, .inr (9, [.ref tx, .ref cn, .ref tb])), (tb, .inr (6, [.ref ro, .ref xp, .null, .int 0])), (ro, .inr (0, [.int 0, .ref (e 0), .int (nI 0)]))] H := hP
      refine lv_iconst (v := 1) hx hb dX8_tick_24 (by decide +kernel) ?_
      exact W.zret hx hb hr rfl (fun t ht hW => ⟨⟨_, (), rfl, by simp [c1, c7], trivial⟩, hS.F ht⟩) hS.2.2 dX8_tick_25
    · refine lv_iconst (v := 0) hx hb dX8_tick_10 (by decide +kernel) ?_
      exact W.zret hx hb hr rfl (fun t ht hW => ⟨⟨_, (), rfl, by simp [c1, c7], trivial⟩, hS.F ht⟩) hS.2.2 dX8_tick_11

set_option maxHeartbeats 4000000 in
set_option maxRecDepth 100000 in
theorem c_IT_act0 (l : Launch) (D : va_G) (cy : Nat → ClassId) (e : Nat → Nat) (h0 : Nat) (tx : Nat) (cn : Nat) (tb : Nat) (ro : Nat) (xp : Nat) (i : Int32)  : Met l yX8_act wsX8_act ({ frames := 2, cells := 0, slots := 0, locals := 44 }) (va_Pc [.ref h0, .int i] (pu_B D cy e [(h0, .inr (9, [.ref tx, .ref cn, .ref tb])), (tb, .inr (6, [.ref ro, .ref xp, .null, .int 0])), (ro, .inr (0, [.int 0, .ref (e 0), .int (nI 0)]))])) (va_Qi (fun (r : Int32) (_ : Unit) => r = if i < 0 ∨ ¬ i < 32 then -1 else 0) (fun _ _ => True) (fun _ => False)) 0 0 (fun _ => False) := by
  refine Met.ofW (cc := cX8_act) (maxL := 2) (ret := (some .int)) (by decide) rfl ?_
  intro p ev s m args below meth c s₁ B hml hv
  obtain ⟨rfl, hP, hK, hG⟩ := hv
  have hx := B.exec
  have hb := B.bytes
  have hr := B.returns
  have hts := atoms_spec (ws := wsX8_act) B.pre
  have hown : s.vm.findClass RX8 = some m.cls := findClass_of_methodNamed B.named
  have hlocks := B.notSynchronized
  have hS : va_S (fun _ => False) s.heap s.heap [] := va_S.rf
  have hP : va_P D vwCl [(h0, .inr (9, [.ref tx, .ref cn, .ref tb])), (tb, .inr (6, [.ref ro, .ref xp, .null, .int 0])), (ro, .inr (0, [.int 0, .ref (e 0), .int (nI 0)]))] s.heap := hP
  have iX8 : ∀ w ∈ wsX80, w ∈ wsX8_act := fun w h => List.mem_cons_of_mem _ (List.mem_append_left _ (List.mem_append_left _ (List.mem_append_left _ (List.mem_append_left _ (List.mem_append_right _ h)))))
  have iX5 : ∀ w ∈ wsX50, w ∈ wsX8_act := fun w h => List.mem_cons_of_mem _ (List.mem_append_left _ (List.mem_append_left _ (List.mem_append_left _ (List.mem_append_right _ h))))
  have iJx4a65c : ∀ w ∈ wsJx4a65c0, w ∈ wsX8_act := fun w h => List.mem_cons_of_mem _ (List.mem_append_left _ (List.mem_append_left _ (List.mem_append_right _ h)))
  have iX3 : ∀ w ∈ wsX30, w ∈ wsX8_act := fun w h => List.mem_cons_of_mem _ (List.mem_append_left _ (List.mem_append_right _ h))
  have iX1 : ∀ w ∈ wsX10, w ∈ wsX8_act := fun w h => List.mem_cons_of_mem _ (List.mem_append_right _ h)
  have hl := lv_entry ([.ref h0, .int i]) (n := 2) (Nat.le_of_ble_eq_true rfl)
  rw [lg_entry_eq]
  generalize (lg_sl ([.ref h0, .int i]) ++ List.replicate (2 - (lg_sl ([.ref h0, .int i])).length) Slot.unset).toArray = ls at hl ⊢
  have hl : lv_has ls 2 [(0, .ref h0), (1, .int i)] := hl
  refine lv_iload_n hx hb dX8_act_0 rfl (lv_at hl 1 rfl) ?_
  refine lv_if_lt (tgt := 10) hx hb dX8_act_1 (by decide) (fun c1 => ?_) (fun c1 => ?_)
  · refine lv_iconst (v := -1) hx hb dX8_act_10 (by decide +kernel) ?_
    exact W.iret hx hb hr (fun t ht hW => ⟨⟨_, (), rfl, by simp [c1], trivial⟩, hS.F ht⟩) hS.2.2 dX8_act_11
  · refine lv_iload_n hx hb dX8_act_4 rfl (lv_at hl 1 rfl) ?_
    refine lv_bipush (v := 32) hx hb dX8_act_5 (by decide +kernel) ?_
    refine lv_icmp_lt (tgt := 12) hx hb dX8_act_7 (by decide) (fun c7 => ?_) (fun c7 => ?_)
    · refine lv_aload_n hx hb dX8_act_12 rfl (lv_at hl 0 rfl) ?_
      refine va_get (D := D) (ci := 9) (v := .ref tb) (C := RX8) (T := TX8) (N := 3) hx hb hts iX8 hown hK hP 0 rfl rfl 2 (by decide) (hts (.fieldLink RX8 25 "InterlockTables" "table" "LInterlockTables$Table;") (by decide +kernel)) (fun _ h9 => h9) rfl dX8_act_13 ?_
      refine lv_iload_n hx hb dX8_act_16 rfl (lv_at hl 1 rfl) ?_
      refine lv_aload_n hx hb dX8_act_17 rfl (lv_at hl 0 rfl) ?_
      refine va_get (D := D) (ci := 9) (v := .ref cn) (C := RX8) (T := TX8) (N := 3) hx hb hts iX8 hown hK hP 0 rfl rfl 1 (by decide) (hts (.fieldLink RX8 18 "InterlockTables" "conditions" "[J") (by decide +kernel)) (fun _ h9 => h9) rfl dX8_act_18 ?_
      refine pu_calli (va_runV (As := [.int i, .ref cn]) (rest := []) ⟨hx, hb, hml, hown, hts⟩ (c_Table_firstToBar0 l D cy e tb ro xp .null 0 0 (.ref (e 0)) i cn ) (cwV 2 hts gX8_act_X5_firstToBar rfl rfl rfl (by decide +kernel) ⟨Nat.le_of_ble_eq_true rfl, Nat.le_of_ble_eq_true rfl⟩) (pu_preV hP hK hS hG [1, 2] rfl (q := (RX5, TX5, 4)) (ci := 6) (q0 := 1) rfl rfl) rfl rfl hl.1 rfl (lv_room (Nat.le_of_ble_eq_true rfl)) dX8_act_21 ⟨(Nat.le_of_ble_eq_true rfl), (Nat.le_of_ble_eq_true rfl)⟩) hP hS (fun H locs hP hS => ?_)
      have hP : va_P D vwCl [(h0, .inr (9, [.ref tx, .ref cn, .ref tb])), (tb, .inr (6, [.ref ro, .ref xp, .null, .int 0])), (ro, .inr (0, [.int 0, .ref (e 0), .int (nI 0)]))] H := hP
      exact W.iret hx hb hr (fun t ht hW => ⟨⟨_, (), rfl, by simp [c1, c7], trivial⟩, hS.F ht⟩) hS.2.2 dX8_act_24
    · refine lv_iconst (v := -1) hx hb dX8_act_10 (by decide +kernel) ?_
      exact W.iret hx hb hr (fun t ht hW => ⟨⟨_, (), rfl, by simp [c1, c7], trivial⟩, hS.F ht⟩) hS.2.2 dX8_act_11

set_option maxHeartbeats 4000000 in
set_option maxRecDepth 100000 in
theorem c_IT_pass0 (l : Launch) (D : va_G) (cy : Nat → ClassId) (e : Nat → Nat) (h0 : Nat) (tx : Nat) (cn : Nat) (tb : Nat) (ro : Nat) (xp : Nat) (i : Int32) (a : Int32) (b : Int32) (w : Int32)  : Met l yX8_pass wsX8_pass ({ frames := 2, cells := 0, slots := 0, locals := 41 }) (va_Pc [.ref h0, .int i, .int a, .int b, .int w] (pu_B D cy e [(h0, .inr (9, [.ref tx, .ref cn, .ref tb])), (tb, .inr (6, [.ref ro, .ref xp, .null, .int 0])), (ro, .inr (0, [.int 0, .ref (e 0), .int (nI 0)]))])) (va_Qi (fun (r : Int32) (_ : Unit) => r = -1) (fun _ _ => True) (fun _ => False)) 0 0 (fun _ => False) := by
  refine Met.ofW (cc := cX8_pass) (maxL := 6) (ret := (some .int)) (by decide) rfl ?_
  intro p ev s m args below meth c s₁ B hml hv
  obtain ⟨rfl, hP, hK, hG⟩ := hv
  have hx := B.exec
  have hb := B.bytes
  have hr := B.returns
  have hts := atoms_spec (ws := wsX8_pass) B.pre
  have hown : s.vm.findClass RX8 = some m.cls := findClass_of_methodNamed B.named
  have hlocks := B.notSynchronized
  have hS : va_S (fun _ => False) s.heap s.heap [] := va_S.rf
  have hP : va_P D vwCl [(h0, .inr (9, [.ref tx, .ref cn, .ref tb])), (tb, .inr (6, [.ref ro, .ref xp, .null, .int 0])), (ro, .inr (0, [.int 0, .ref (e 0), .int (nI 0)]))] s.heap := hP
  have iX8 : ∀ w ∈ wsX80, w ∈ wsX8_pass := fun w h => List.mem_cons_of_mem _ (List.mem_append_left _ (List.mem_append_left _ (List.mem_append_left _ (List.mem_append_right _ h))))
  have iX3 : ∀ w ∈ wsX30, w ∈ wsX8_pass := fun w h => List.mem_cons_of_mem _ (List.mem_append_left _ (List.mem_append_left _ (List.mem_append_right _ h)))
  have iX5 : ∀ w ∈ wsX50, w ∈ wsX8_pass := fun w h => List.mem_cons_of_mem _ (List.mem_append_left _ (List.mem_append_right _ h))
  have iJx4a65c : ∀ w ∈ wsJx4a65c0, w ∈ wsX8_pass := fun w h => List.mem_cons_of_mem _ (List.mem_append_right _ h)
  have hl := lv_entry ([.ref h0, .int i, .int a, .int b, .int w]) (n := 6) (Nat.le_of_ble_eq_true rfl)
  rw [lg_entry_eq]
  generalize (lg_sl ([.ref h0, .int i, .int a, .int b, .int w]) ++ List.replicate (6 - (lg_sl ([.ref h0, .int i, .int a, .int b, .int w])).length) Slot.unset).toArray = ls at hl ⊢
  have hl : lv_has ls 6 [(0, .ref h0), (1, .int i), (2, .int a), (3, .int b), (4, .int w)] := hl
  refine lv_aload_n hx hb dX8_pass_0 rfl (lv_at hl 0 rfl) ?_
  refine va_get (D := D) (ci := 9) (v := .ref tb) (C := RX8) (T := TX8) (N := 3) hx hb hts iX8 hown hK hP 0 rfl rfl 2 (by decide) (hts (.fieldLink RX8 25 "InterlockTables" "table" "LInterlockTables$Table;") (by decide +kernel)) (fun _ h9 => h9) rfl dX8_pass_1 ?_
  refine lv_iload_n hx hb dX8_pass_4 rfl (lv_at hl 1 rfl) ?_
  refine pu_callq (va_runV (As := [.int i]) (rest := []) ⟨hx, hb, hml, hown, hts⟩ (c_Table_find0 l D cy e tb ro xp .null 0 0 (.ref (e 0)) i ) (cwV 1 hts gX8_pass_X5_find rfl rfl rfl (by decide +kernel) ⟨Nat.le_of_ble_eq_true rfl, Nat.le_of_ble_eq_true rfl⟩) (pu_preV hP hK hS hG [1, 2] rfl (q := (RX5, TX5, 4)) (ci := 6) (q0 := 1) rfl rfl) rfl rfl hl.1 rfl (lv_room (Nat.le_of_ble_eq_true rfl)) dX8_pass_5 ⟨(Nat.le_of_ble_eq_true rfl), (Nat.le_of_ble_eq_true rfl)⟩) hP hS (fun H locs hP hS => ?_)
  have hP : va_P D vwCl [(h0, .inr (9, [.ref tx, .ref cn, .ref tb])), (tb, .inr (6, [.ref ro, .ref xp, .null, .int 0])), (ro, .inr (0, [.int 0, .ref (e 0), .int (nI 0)]))] H := hP
  refine lv_astoreN (lv' := [(5, .null), (0, .ref h0), (1, .int i), (2, .int a), (3, .int b), (4, .int w)]) hx hb dX8_pass_8 hl (by decide) rfl (fun ls hl => ?_)
  refine lv_aloadN hx hb dX8_pass_10 (lv_at hl 0 rfl) ?_
  refine lv_ifnonnullN hx hb dX8_pass_12 ?_
  refine lv_iconst (v := -1) hx hb dX8_pass_15 (by decide +kernel) ?_
  exact W.iret hx hb hr (fun t ht hW => ⟨⟨_, (), rfl, rfl, trivial⟩, hS.F ht⟩) hS.2.2 dX8_pass_16

set_option maxHeartbeats 4000000 in
set_option maxRecDepth 100000 in
theorem c_IT_listed0 (l : Launch) (D : va_G) (cy : Nat → ClassId) (e : Nat → Nat) (h0 : Nat) (tx : Nat) (cn : Nat) (tb : Nat) (ro : Nat) (xp : Nat) (i : Int32)  : Met l yX8_listed wsX8_listed ({ frames := 3, cells := 0, slots := 0, locals := 66 }) (va_Pc [.ref h0, .int i] (pu_B D cy e [(h0, .inr (9, [.ref tx, .ref cn, .ref tb])), (tb, .inr (6, [.ref ro, .ref xp, .null, .int 0])), (ro, .inr (0, [.int 0, .ref (e 0), .int (nI 0)]))])) (va_Qi (fun (r : Int32) (_ : Unit) => r = -1) (fun _ _ => True) (fun _ => False)) 0 0 (fun _ => False) := by
  refine Met.ofW (cc := cX8_listed) (maxL := 2) (ret := (some .int)) (by decide) rfl ?_
  intro p ev s m args below meth c s₁ B hml hv
  obtain ⟨rfl, hP, hK, hG⟩ := hv
  have hx := B.exec
  have hb := B.bytes
  have hr := B.returns
  have hts := atoms_spec (ws := wsX8_listed) B.pre
  have hown : s.vm.findClass RX8 = some m.cls := findClass_of_methodNamed B.named
  have hlocks := B.notSynchronized
  have hS : va_S (fun _ => False) s.heap s.heap [] := va_S.rf
  have hP : va_P D vwCl [(h0, .inr (9, [.ref tx, .ref cn, .ref tb])), (tb, .inr (6, [.ref ro, .ref xp, .null, .int 0])), (ro, .inr (0, [.int 0, .ref (e 0), .int (nI 0)]))] s.heap := hP
  have iX8 : ∀ w ∈ wsX80, w ∈ wsX8_listed := fun w h => List.mem_cons_of_mem _ (List.mem_append_left _ (List.mem_append_left _ (List.mem_append_left _ (List.mem_append_right _ h))))
  have iX5 : ∀ w ∈ wsX50, w ∈ wsX8_listed := fun w h => List.mem_cons_of_mem _ (List.mem_append_left _ (List.mem_append_left _ (List.mem_append_right _ h)))
  have iX3 : ∀ w ∈ wsX30, w ∈ wsX8_listed := fun w h => List.mem_cons_of_mem _ (List.mem_append_left _ (List.mem_append_right _ h))
  have iJx4a65c : ∀ w ∈ wsJx4a65c0, w ∈ wsX8_listed := fun w h => List.mem_cons_of_mem _ (List.mem_append_right _ h)
  have hl := lv_entry ([.ref h0, .int i]) (n := 2) (Nat.le_of_ble_eq_true rfl)
  rw [lg_entry_eq]
  generalize (lg_sl ([.ref h0, .int i]) ++ List.replicate (2 - (lg_sl ([.ref h0, .int i])).length) Slot.unset).toArray = ls at hl ⊢
  have hl : lv_has ls 2 [(0, .ref h0), (1, .int i)] := hl
  refine lv_aload_n hx hb dX8_listed_0 rfl (lv_at hl 0 rfl) ?_
  refine va_get (D := D) (ci := 9) (v := .ref tb) (C := RX8) (T := TX8) (N := 3) hx hb hts iX8 hown hK hP 0 rfl rfl 2 (by decide) (hts (.fieldLink RX8 25 "InterlockTables" "table" "LInterlockTables$Table;") (by decide +kernel)) (fun _ h9 => h9) rfl dX8_listed_1 ?_
  refine lv_iload_n hx hb dX8_listed_4 rfl (lv_at hl 1 rfl) ?_
  refine pu_calli (va_runV (As := [.int i]) (rest := []) ⟨hx, hb, hml, hown, hts⟩ (c_Table_passedRow0 l D cy e tb ro xp .null 0 0 (.ref (e 0)) i ) (cwV 1 hts gX8_listed_X5_passedRow rfl rfl rfl (by decide +kernel) ⟨Nat.le_of_ble_eq_true rfl, Nat.le_of_ble_eq_true rfl⟩) (pu_preV hP hK hS hG [1, 2] rfl (q := (RX5, TX5, 4)) (ci := 6) (q0 := 1) rfl rfl) rfl rfl hl.1 rfl (lv_room (Nat.le_of_ble_eq_true rfl)) dX8_listed_5 ⟨(Nat.le_of_ble_eq_true rfl), (Nat.le_of_ble_eq_true rfl)⟩) hP hS (fun H locs hP hS => ?_)
  have hP : va_P D vwCl [(h0, .inr (9, [.ref tx, .ref cn, .ref tb])), (tb, .inr (6, [.ref ro, .ref xp, .null, .int 0])), (ro, .inr (0, [.int 0, .ref (e 0), .int (nI 0)]))] H := hP
  exact W.iret hx hb hr (fun t ht hW => ⟨⟨_, (), rfl, rfl, trivial⟩, hS.F ht⟩) hS.2.2 dX8_listed_8

set_option maxHeartbeats 4000000 in
set_option maxRecDepth 100000 in
theorem c_IT_reset0 (l : Launch) (D : va_G) (cy : Nat → ClassId) (e : Nat → Nat) (h0 : Nat) (tx : Nat) (cn : Nat) (tb : Nat) (ro : Nat) (xp : Nat) (i : Int32)  : Met l yX8_reset wsX8_reset ({ frames := 2, cells := 0, slots := 0, locals := 41 }) (va_Pc [.ref h0, .int i] (pu_B D cy e [(h0, .inr (9, [.ref tx, .ref cn, .ref tb])), (tb, .inr (6, [.ref ro, .ref xp, .null, .int 0])), (ro, .inr (0, [.int 0, .ref (e 0), .int (nI 0)]))])) (va_Qi (fun (r : Int32) (_ : Unit) => r = 0) (fun _ _ => True) (fun _ => False)) 0 0 (fun _ => False) := by
  refine Met.ofW (cc := cX8_reset) (maxL := 3) (ret := (some .boolean)) (by decide) rfl ?_
  intro p ev s m args below meth c s₁ B hml hv
  obtain ⟨rfl, hP, hK, hG⟩ := hv
  have hx := B.exec
  have hb := B.bytes
  have hr := B.returns
  have hts := atoms_spec (ws := wsX8_reset) B.pre
  have hown : s.vm.findClass RX8 = some m.cls := findClass_of_methodNamed B.named
  have hlocks := B.notSynchronized
  have hS : va_S (fun _ => False) s.heap s.heap [] := va_S.rf
  have hP : va_P D vwCl [(h0, .inr (9, [.ref tx, .ref cn, .ref tb])), (tb, .inr (6, [.ref ro, .ref xp, .null, .int 0])), (ro, .inr (0, [.int 0, .ref (e 0), .int (nI 0)]))] s.heap := hP
  have iX8 : ∀ w ∈ wsX80, w ∈ wsX8_reset := fun w h => List.mem_cons_of_mem _ (List.mem_append_left _ (List.mem_append_left _ (List.mem_append_left _ (List.mem_append_left _ (List.mem_append_right _ h)))))
  have iX3 : ∀ w ∈ wsX30, w ∈ wsX8_reset := fun w h => List.mem_cons_of_mem _ (List.mem_append_left _ (List.mem_append_left _ (List.mem_append_left _ (List.mem_append_right _ h))))
  have iX5 : ∀ w ∈ wsX50, w ∈ wsX8_reset := fun w h => List.mem_cons_of_mem _ (List.mem_append_left _ (List.mem_append_left _ (List.mem_append_right _ h)))
  have iJx4a65c : ∀ w ∈ wsJx4a65c0, w ∈ wsX8_reset := fun w h => List.mem_cons_of_mem _ (List.mem_append_left _ (List.mem_append_right _ h))
  have iX1 : ∀ w ∈ wsX10, w ∈ wsX8_reset := fun w h => List.mem_cons_of_mem _ (List.mem_append_right _ h)
  have hl := lv_entry ([.ref h0, .int i]) (n := 3) (Nat.le_of_ble_eq_true rfl)
  rw [lg_entry_eq]
  generalize (lg_sl ([.ref h0, .int i]) ++ List.replicate (3 - (lg_sl ([.ref h0, .int i])).length) Slot.unset).toArray = ls at hl ⊢
  have hl : lv_has ls 3 [(0, .ref h0), (1, .int i)] := hl
  refine lv_aload_n hx hb dX8_reset_0 rfl (lv_at hl 0 rfl) ?_
  refine va_get (D := D) (ci := 9) (v := .ref tb) (C := RX8) (T := TX8) (N := 3) hx hb hts iX8 hown hK hP 0 rfl rfl 2 (by decide) (hts (.fieldLink RX8 25 "InterlockTables" "table" "LInterlockTables$Table;") (by decide +kernel)) (fun _ h9 => h9) rfl dX8_reset_1 ?_
  refine lv_iload_n hx hb dX8_reset_4 rfl (lv_at hl 1 rfl) ?_
  refine pu_callq (va_runV (As := [.int i]) (rest := []) ⟨hx, hb, hml, hown, hts⟩ (c_Table_find0 l D cy e tb ro xp .null 0 0 (.ref (e 0)) i ) (cwV 1 hts gX8_reset_X5_find rfl rfl rfl (by decide +kernel) ⟨Nat.le_of_ble_eq_true rfl, Nat.le_of_ble_eq_true rfl⟩) (pu_preV hP hK hS hG [1, 2] rfl (q := (RX5, TX5, 4)) (ci := 6) (q0 := 1) rfl rfl) rfl rfl hl.1 rfl (lv_room (Nat.le_of_ble_eq_true rfl)) dX8_reset_5 ⟨(Nat.le_of_ble_eq_true rfl), (Nat.le_of_ble_eq_true rfl)⟩) hP hS (fun H locs hP hS => ?_)
  have hP : va_P D vwCl [(h0, .inr (9, [.ref tx, .ref cn, .ref tb])), (tb, .inr (6, [.ref ro, .ref xp, .null, .int 0])), (ro, .inr (0, [.int 0, .ref (e 0), .int (nI 0)]))] H := hP
  refine lv_astore_nN (lv' := [(2, .null), (0, .ref h0), (1, .int i)]) hx hb dX8_reset_8 rfl hl (by decide) rfl (fun ls hl => ?_)
  refine lv_aload_nN hx hb dX8_reset_9 rfl (lv_at hl 0 rfl) ?_
  refine lv_ifnullN (tgt := 35) hx hb dX8_reset_10 (by decide) ?_
  refine lv_iconst (v := 0) hx hb dX8_reset_35 (by decide +kernel) ?_
  exact W.zret hx hb hr rfl (fun t ht hW => ⟨⟨_, (), rfl, rfl, trivial⟩, hS.F ht⟩) hS.2.2 dX8_reset_36

set_option maxHeartbeats 4000000 in
set_option maxRecDepth 100000 in
theorem c_IT_row0 (l : Launch) (D : va_G) (cy : Nat → ClassId) (e : Nat → Nat) (h0 : Nat) (tx : Nat) (cn : Nat) (tb : Nat) (ro : Nat) (xp : Nat) (i : Int32) (w : Int32)  : Met l yX8_row wsX8_row ({ frames := 2, cells := 0, slots := 0, locals := 41 }) (va_Pc [.ref h0, .int i, .int w] (pu_B D cy e [(h0, .inr (9, [.ref tx, .ref cn, .ref tb])), (tb, .inr (6, [.ref ro, .ref xp, .null, .int 0])), (ro, .inr (0, [.int 0, .ref (e 0), .int (nI 0)]))])) (va_Qi (fun (r : Int32) (_ : Unit) => r = -1) (fun _ _ => True) (fun _ => False)) 0 0 (fun _ => False) := by
  refine Met.ofW (cc := cX8_row) (maxL := 4) (ret := (some .int)) (by decide) rfl ?_
  intro p ev s m args below meth c s₁ B hml hv
  obtain ⟨rfl, hP, hK, hG⟩ := hv
  have hx := B.exec
  have hb := B.bytes
  have hr := B.returns
  have hts := atoms_spec (ws := wsX8_row) B.pre
  have hown : s.vm.findClass RX8 = some m.cls := findClass_of_methodNamed B.named
  have hlocks := B.notSynchronized
  have hS : va_S (fun _ => False) s.heap s.heap [] := va_S.rf
  have hP : va_P D vwCl [(h0, .inr (9, [.ref tx, .ref cn, .ref tb])), (tb, .inr (6, [.ref ro, .ref xp, .null, .int 0])), (ro, .inr (0, [.int 0, .ref (e 0), .int (nI 0)]))] s.heap := hP
  have iX8 : ∀ w ∈ wsX80, w ∈ wsX8_row := fun w h => List.mem_cons_of_mem _ (List.mem_append_left _ (List.mem_append_left _ (List.mem_append_left _ (List.mem_append_left _ (List.mem_append_right _ h)))))
  have iX3 : ∀ w ∈ wsX30, w ∈ wsX8_row := fun w h => List.mem_cons_of_mem _ (List.mem_append_left _ (List.mem_append_left _ (List.mem_append_left _ (List.mem_append_right _ h))))
  have iX5 : ∀ w ∈ wsX50, w ∈ wsX8_row := fun w h => List.mem_cons_of_mem _ (List.mem_append_left _ (List.mem_append_left _ (List.mem_append_right _ h)))
  have iJx4a65c : ∀ w ∈ wsJx4a65c0, w ∈ wsX8_row := fun w h => List.mem_cons_of_mem _ (List.mem_append_left _ (List.mem_append_right _ h))
  have iX1 : ∀ w ∈ wsX10, w ∈ wsX8_row := fun w h => List.mem_cons_of_mem _ (List.mem_append_right _ h)
  have hl := lv_entry ([.ref h0, .int i, .int w]) (n := 4) (Nat.le_of_ble_eq_true rfl)
  rw [lg_entry_eq]
  generalize (lg_sl ([.ref h0, .int i, .int w]) ++ List.replicate (4 - (lg_sl ([.ref h0, .int i, .int w])).length) Slot.unset).toArray = ls at hl ⊢
  have hl : lv_has ls 4 [(0, .ref h0), (1, .int i), (2, .int w)] := hl
  refine lv_aload_n hx hb dX8_row_0 rfl (lv_at hl 0 rfl) ?_
  refine va_get (D := D) (ci := 9) (v := .ref tb) (C := RX8) (T := TX8) (N := 3) hx hb hts iX8 hown hK hP 0 rfl rfl 2 (by decide) (hts (.fieldLink RX8 25 "InterlockTables" "table" "LInterlockTables$Table;") (by decide +kernel)) (fun _ h9 => h9) rfl dX8_row_1 ?_
  refine lv_iload_n hx hb dX8_row_4 rfl (lv_at hl 1 rfl) ?_
  refine pu_callq (va_runV (As := [.int i]) (rest := []) ⟨hx, hb, hml, hown, hts⟩ (c_Table_find0 l D cy e tb ro xp .null 0 0 (.ref (e 0)) i ) (cwV 1 hts gX8_row_X5_find rfl rfl rfl (by decide +kernel) ⟨Nat.le_of_ble_eq_true rfl, Nat.le_of_ble_eq_true rfl⟩) (pu_preV hP hK hS hG [1, 2] rfl (q := (RX5, TX5, 4)) (ci := 6) (q0 := 1) rfl rfl) rfl rfl hl.1 rfl (lv_room (Nat.le_of_ble_eq_true rfl)) dX8_row_5 ⟨(Nat.le_of_ble_eq_true rfl), (Nat.le_of_ble_eq_true rfl)⟩) hP hS (fun H locs hP hS => ?_)
  have hP : va_P D vwCl [(h0, .inr (9, [.ref tx, .ref cn, .ref tb])), (tb, .inr (6, [.ref ro, .ref xp, .null, .int 0])), (ro, .inr (0, [.int 0, .ref (e 0), .int (nI 0)]))] H := hP
  refine lv_astore_nN (lv' := [(3, .null), (0, .ref h0), (1, .int i), (2, .int w)]) hx hb dX8_row_8 rfl hl (by decide) rfl (fun ls hl => ?_)
  refine lv_aload_nN hx hb dX8_row_9 rfl (lv_at hl 0 rfl) ?_
  refine lv_ifnonnullN hx hb dX8_row_10 ?_
  refine lv_iconst (v := -1) hx hb dX8_row_13 (by decide +kernel) ?_
  exact W.iret hx hb hr (fun t ht hW => ⟨⟨_, (), rfl, rfl, trivial⟩, hS.F ht⟩) hS.2.2 dX8_row_14

set_option maxHeartbeats 4000000 in
set_option maxRecDepth 100000 in
theorem c_IT_test0 (l : Launch) (D : va_G) (cy : Nat → ClassId) (e : Nat → Nat) (h0 : Nat) (tx : Nat) (cn : Nat) (tb : Nat) (ro : Nat) (xp : Nat) (cd : Nat) (st : Nat) (i : Int32) (sz : Nat)  : Met l yX8_test wsX8_test ({ frames := 4, cells := 4, slots := 69, locals := 88 }) (va_Pc [.ref h0, .int i] (mt_B D cy e [(h0, .inr (9, [.ref tx, .ref cn, .ref tb])), (tb, .inr (6, [.ref ro, .ref xp, .null, .int 0])), (ro, .inr (0, [.int 0, .ref (e 0), .int (nI 0)])), (xp, .inr (2, [.ref cd, .int (nI 0), .ref st]))] sz)) (va_Qi (fun (r : Int32) (_ : Unit) => r = -1) (mt_Q D (fun (_ : Unit) => []) (va_A [(h0, .inr (9, [.ref tx, .ref cn, .ref tb])), (tb, .inr (6, [.ref ro, .ref xp, .null, .int 0])), (ro, .inr (0, [.int 0, .ref (e 0), .int (nI 0)])), (xp, .inr (2, [.ref cd, .int (nI 0), .ref st]))] sz)) (va_A [(h0, .inr (9, [.ref tx, .ref cn, .ref tb])), (tb, .inr (6, [.ref ro, .ref xp, .null, .int 0])), (ro, .inr (0, [.int 0, .ref (e 0), .int (nI 0)])), (xp, .inr (2, [.ref cd, .int (nI 0), .ref st]))] sz)) (4) (69) (va_A [(h0, .inr (9, [.ref tx, .ref cn, .ref tb])), (tb, .inr (6, [.ref ro, .ref xp, .null, .int 0])), (ro, .inr (0, [.int 0, .ref (e 0), .int (nI 0)])), (xp, .inr (2, [.ref cd, .int (nI 0), .ref st]))] sz) := by
  refine Met.ofW (cc := cX8_test) (maxL := 2) (ret := (some .int)) (by decide) rfl ?_
  intro p ev s m args below meth c s₁ B hml hv
  obtain ⟨rfl, hsz, hP, hK, hD0, hG⟩ := hv
  have hx := B.exec
  have hb := B.bytes
  have hr := B.returns
  have hts := atoms_spec (ws := wsX8_test) B.pre
  have hown : s.vm.findClass RX8 = some m.cls := findClass_of_methodNamed B.named
  have hlocks := B.notSynchronized
  subst hsz
  have hD := hD0.self (sz := s.heap.size)
  generalize hAe : va_A [(h0, .inr (9, [.ref tx, .ref cn, .ref tb])), (tb, .inr (6, [.ref ro, .ref xp, .null, .int 0])), (ro, .inr (0, [.int 0, .ref (e 0), .int (nI 0)])), (xp, .inr (2, [.ref cd, .int (nI 0), .ref st]))] s.heap.size = A at hD hG ⊢
  have hA : ∀ q : Nat, s.heap.size ≤ q → A q := fun q h => by rw [← hAe]; exact Or.inr h
  have hS : va_S A s.heap s.heap [] := va_S.rf
  have hP : va_P D vwCl [(h0, .inr (9, [.ref tx, .ref cn, .ref tb])), (tb, .inr (6, [.ref ro, .ref xp, .null, .int 0])), (ro, .inr (0, [.int 0, .ref (e 0), .int (nI 0)])), (xp, .inr (2, [.ref cd, .int (nI 0), .ref st]))] s.heap := hP
  have iX8 : ∀ w ∈ wsX80, w ∈ wsX8_test := fun w h => List.mem_cons_of_mem _ (List.mem_append_left _ (List.mem_append_left _ (List.mem_append_left _ (List.mem_append_left _ (List.mem_append_left _ (List.mem_append_right _ h))))))
  have iX5 : ∀ w ∈ wsX50, w ∈ wsX8_test := fun w h => List.mem_cons_of_mem _ (List.mem_append_left _ (List.mem_append_left _ (List.mem_append_left _ (List.mem_append_left _ (List.mem_append_right _ h)))))
  have iX4 : ∀ w ∈ wsX40, w ∈ wsX8_test := fun w h => List.mem_cons_of_mem _ (List.mem_append_left _ (List.mem_append_left _ (List.mem_append_left _ (List.mem_append_right _ h))))
  have iX1 : ∀ w ∈ wsX10, w ∈ wsX8_test := fun w h => List.mem_cons_of_mem _ (List.mem_append_left _ (List.mem_append_left _ (List.mem_append_right _ h)))
  have iJx4a65c : ∀ w ∈ wsJx4a65c0, w ∈ wsX8_test := fun w h => List.mem_cons_of_mem _ (List.mem_append_left _ (List.mem_append_right _ h))
  have iX3 : ∀ w ∈ wsX30, w ∈ wsX8_test := fun w h => List.mem_cons_of_mem _ (List.mem_append_right _ h)
  have hl := lv_entry ([.ref h0, .int i]) (n := 2) (Nat.le_of_ble_eq_true rfl)
  rw [lg_entry_eq]
  generalize (lg_sl ([.ref h0, .int i]) ++ List.replicate (2 - (lg_sl ([.ref h0, .int i])).length) Slot.unset).toArray = ls at hl ⊢
  have hl : lv_has ls 2 [(0, .ref h0), (1, .int i)] := hl
  refine lv_aload_n hx hb dX8_test_0 rfl (lv_at hl 0 rfl) ?_
  refine va_get (D := D) (ci := 9) (v := .ref tb) (C := RX8) (T := TX8) (N := 3) hx hb hts iX8 hown hK hP 0 rfl rfl 2 (by decide) (hts (.fieldLink RX8 25 "InterlockTables" "table" "LInterlockTables$Table;") (by decide +kernel)) (fun _ h9 => h9) rfl dX8_test_1 ?_
  refine lv_iload_n hx hb dX8_test_4 rfl (lv_at hl 1 rfl) ?_
  refine mt_calli (wr := [(h0, .inr (9, [.ref tx, .ref cn, .ref tb]))]) (va_runV (As := [.int i]) (rest := []) ⟨hx, hb, hml, hown, hts⟩ (c_Table_idleRow0 l D cy e tb ro xp .null 0 (.ref (e 0)) cd st i s.heap.size ) (cwV 1 hts gX8_test_X5_idleRow rfl rfl rfl (by decide +kernel) ⟨Nat.le_of_ble_eq_true rfl, Nat.le_of_ble_eq_true rfl⟩) (mt_preV hP hD hK hS hA hG [1, 2, 3] rfl (by decide) (q := (RX5, TX5, 4)) (ci := 6) (q0 := 1) rfl rfl) rfl rfl hl.1 rfl (lv_room (Nat.le_of_ble_eq_true rfl)) dX8_test_5 ⟨(Nat.le_of_ble_eq_true rfl), (Nat.le_of_ble_eq_true rfl)⟩) hP hD hS hA [1, 2, 3] [0] rfl rfl (by decide) (by decide) (fun r5 u H locs hw hP hD hS => ?_)
  have hP : va_P D vwCl [(h0, .inr (9, [.ref tx, .ref cn, .ref tb]))] H := hP
  have hD : va_D A [(h0, .inr (9, [.ref tx, .ref cn, .ref tb]))] := hD
  replace hw : r5 = -1 := hw
  refine W.widen (k := 4) (n := 69) (by omega) (by omega) ?_
  have hP9 : va_P D vwCl [] H := hP.sub [] rfl
  have hD9 : va_D A [] := hD.sub [] (by decide) rfl
  refine W.widen (k := 4) (n := 69) (by omega) (by omega) ?_
  exact W.iret hx hb hr (fun t ht hW => ⟨⟨_, (), rfl, hw, by rw [ht]; exact hP9, hD9⟩, hS.F ht⟩) hS.2.2 dX8_test_8

set_option maxHeartbeats 4000000 in
set_option maxRecDepth 100000 in
theorem c_IT_write0 (l : Launch) (D : va_G) (cy : Nat → ClassId) (e : Nat → Nat) (h0 : Nat) (tx : Nat) (cn : Nat) (tb : Nat) (ro : Nat) (xp : Nat) (i : Int32) (sz : Nat)  : Met l yX8_write wsX8_write ({ frames := 4, cells := 3, slots := 70, locals := 76 }) (va_Pc [.ref h0, .int i] (mt_B D cy e [(h0, .inr (9, [.ref tx, .ref cn, .ref tb])), (tb, .inr (6, [.ref ro, .ref xp, .null, .int 0])), (ro, .inr (0, [.int 0, .ref (e 0), .int (nI 0)]))] sz)) (va_Qi (fun (r : Int32) (_ : Unit) => r = -1) (mt_Q D (fun (_ : Unit) => []) (va_A [(h0, .inr (9, [.ref tx, .ref cn, .ref tb])), (tb, .inr (6, [.ref ro, .ref xp, .null, .int 0])), (ro, .inr (0, [.int 0, .ref (e 0), .int (nI 0)]))] sz)) (va_A [(h0, .inr (9, [.ref tx, .ref cn, .ref tb])), (tb, .inr (6, [.ref ro, .ref xp, .null, .int 0])), (ro, .inr (0, [.int 0, .ref (e 0), .int (nI 0)]))] sz)) (3) (70) (va_A [(h0, .inr (9, [.ref tx, .ref cn, .ref tb])), (tb, .inr (6, [.ref ro, .ref xp, .null, .int 0])), (ro, .inr (0, [.int 0, .ref (e 0), .int (nI 0)]))] sz) := by
  refine Met.ofW (cc := cX8_write) (maxL := 2) (ret := (some .int)) (by decide) rfl ?_
  intro p ev s m args below meth c s₁ B hml hv
  obtain ⟨rfl, hsz, hP, hK, hD0, hG⟩ := hv
  have hx := B.exec
  have hb := B.bytes
  have hr := B.returns
  have hts := atoms_spec (ws := wsX8_write) B.pre
  have hown : s.vm.findClass RX8 = some m.cls := findClass_of_methodNamed B.named
  have hlocks := B.notSynchronized
  subst hsz
  have hD := hD0.self (sz := s.heap.size)
  generalize hAe : va_A [(h0, .inr (9, [.ref tx, .ref cn, .ref tb])), (tb, .inr (6, [.ref ro, .ref xp, .null, .int 0])), (ro, .inr (0, [.int 0, .ref (e 0), .int (nI 0)]))] s.heap.size = A at hD hG ⊢
  have hA : ∀ q : Nat, s.heap.size ≤ q → A q := fun q h => by rw [← hAe]; exact Or.inr h
  have hS : va_S A s.heap s.heap [] := va_S.rf
  have hP : va_P D vwCl [(h0, .inr (9, [.ref tx, .ref cn, .ref tb])), (tb, .inr (6, [.ref ro, .ref xp, .null, .int 0])), (ro, .inr (0, [.int 0, .ref (e 0), .int (nI 0)]))] s.heap := hP
  have iX8 : ∀ w ∈ wsX80, w ∈ wsX8_write := fun w h => List.mem_cons_of_mem _ (List.mem_append_left _ (List.mem_append_left _ (List.mem_append_left _ (List.mem_append_left _ (List.mem_append_left _ (List.mem_append_left _ (List.mem_append_right _ h)))))))
  have iX5 : ∀ w ∈ wsX50, w ∈ wsX8_write := fun w h => List.mem_cons_of_mem _ (List.mem_append_left _ (List.mem_append_left _ (List.mem_append_left _ (List.mem_append_left _ (List.mem_append_left _ (List.mem_append_right _ h))))))
  have iX7 : ∀ w ∈ wsX70, w ∈ wsX8_write := fun w h => List.mem_cons_of_mem _ (List.mem_append_left _ (List.mem_append_left _ (List.mem_append_left _ (List.mem_append_left _ (List.mem_append_right _ h)))))
  have iX0 : ∀ w ∈ wsX00, w ∈ wsX8_write := fun w h => List.mem_cons_of_mem _ (List.mem_append_left _ (List.mem_append_left _ (List.mem_append_left _ (List.mem_append_right _ h))))
  have iJx4a65c : ∀ w ∈ wsJx4a65c0, w ∈ wsX8_write := fun w h => List.mem_cons_of_mem _ (List.mem_append_left _ (List.mem_append_left _ (List.mem_append_right _ h)))
  have iX3 : ∀ w ∈ wsX30, w ∈ wsX8_write := fun w h => List.mem_cons_of_mem _ (List.mem_append_left _ (List.mem_append_right _ h))
  have iX1 : ∀ w ∈ wsX10, w ∈ wsX8_write := fun w h => List.mem_cons_of_mem _ (List.mem_append_right _ h)
  have hl := lv_entry ([.ref h0, .int i]) (n := 2) (Nat.le_of_ble_eq_true rfl)
  rw [lg_entry_eq]
  generalize (lg_sl ([.ref h0, .int i]) ++ List.replicate (2 - (lg_sl ([.ref h0, .int i])).length) Slot.unset).toArray = ls at hl ⊢
  have hl : lv_has ls 2 [(0, .ref h0), (1, .int i)] := hl
  refine lv_aload_n hx hb dX8_write_0 rfl (lv_at hl 0 rfl) ?_
  refine va_get (D := D) (ci := 9) (v := .ref tb) (C := RX8) (T := TX8) (N := 3) hx hb hts iX8 hown hK hP 0 rfl rfl 2 (by decide) (hts (.fieldLink RX8 25 "InterlockTables" "table" "LInterlockTables$Table;") (by decide +kernel)) (fun _ h9 => h9) rfl dX8_write_1 ?_
  refine mt_callq (wr := [(h0, .inr (9, [.ref tx, .ref cn, .ref tb]))]) (va_runV (As := []) (rest := []) ⟨hx, hb, hml, hown, hts⟩ (c_Table_written0 l D cy e tb ro xp 0 0 (.ref (e 0)) s.heap.size ) (cwV 0 hts gX8_write_X5_written rfl rfl rfl (by decide +kernel) ⟨Nat.le_of_ble_eq_true rfl, Nat.le_of_ble_eq_true rfl⟩) (mt_preV hP hD hK hS hA hG [1, 2] rfl (by decide) (q := (RX5, TX5, 4)) (ci := 6) (q0 := 1) rfl rfl) rfl rfl hl.1 rfl (lv_room (Nat.le_of_ble_eq_true rfl)) dX8_write_4 ⟨(Nat.le_of_ble_eq_true rfl), (Nat.le_of_ble_eq_true rfl)⟩) hP hD hS hA [1, 2] [0] rfl rfl (by decide) (by decide) (fun r4 u H locs hw hP hD hS => ?_)
  obtain ⟨ou_4, rm_4⟩ := u
  have hP : va_P D vwCl [(h0, .inr (9, [.ref tx, .ref cn, .ref tb])), (ou_4, .inr (1, [.int (nI 6000), .ref rm_4, .int (nI 0)])), (rm_4, .inl (cy 0, 64, .inl (fun _ => 0)))] H := hP
  have hD : va_D A [(h0, .inr (9, [.ref tx, .ref cn, .ref tb])), (ou_4, .inr (1, [.int (nI 6000), .ref rm_4, .int (nI 0)])), (rm_4, .inl (cy 0, 64, .inl (fun _ => 0)))] := hD
  replace hw : r4 = some ou_4 := hw
  refine W.widen (k := 3) (n := 70) (by omega) (by omega) ?_
  subst hw
  refine lv_iload_n hx hb dX8_write_7 rfl (lv_at hl 1 rfl) ?_
  refine pu_calli (va_runV (As := [.int i]) (rest := []) ⟨hx, hb, hml, hown, hts⟩ (c_Bytes_at l D cy e ou_4 (nI 6000) rm_4 0 64 (fun _ => 0) i (by decide) (by decide)) (cwV 1 hts gX8_write_X0_at rfl rfl rfl (by decide +kernel) ⟨Nat.le_of_ble_eq_true rfl, Nat.le_of_ble_eq_true rfl⟩) (pu_preV hP hK hS hG [1, 2] rfl (q := (RX0, TX0, 3)) (ci := 1) (q0 := 1) rfl rfl) rfl rfl hl.1 rfl (lv_room (Nat.le_of_ble_eq_true rfl)) dX8_write_8 ⟨(Nat.le_of_ble_eq_true rfl), (Nat.le_of_ble_eq_true rfl)⟩) hP hS (fun H locs hP hS => ?_)
  have hP : va_P D vwCl [(h0, .inr (9, [.ref tx, .ref cn, .ref tb])), (ou_4, .inr (1, [.int (nI 6000), .ref rm_4, .int (nI 0)])), (rm_4, .inl (cy 0, 64, .inl (fun _ => 0)))] H := hP
  have hP9 : va_P D vwCl [] H := hP.sub [] rfl
  have hD9 : va_D A [] := hD.sub [] (by decide) rfl
  refine W.widen (k := 3) (n := 70) (by omega) (by omega) ?_
  exact W.iret hx hb hr (fun t ht hW => ⟨⟨_, (), rfl, pk_at0 i (fun _ => 0), by rw [ht]; exact hP9, hD9⟩, hS.F ht⟩) hS.2.2 dX8_write_11

set_option maxHeartbeats 4000000 in
set_option maxRecDepth 100000 in
theorem c_IT_clear0 (l : Launch) (D : va_G) (cy : Nat → ClassId) (e : Nat → Nat) (h0 : Nat) (tx : Nat) (cn : Nat) (tb : Nat) (rm : Nat) (sz : Nat)  : Met l yX8_clear wsX8_clear ({ frames := 5, cells := 5, slots := 42, locals := 93 }) (va_Pc [.ref h0] (mt_B D cy e [(h0, .inr (9, [.ref tx, .ref cn, .ref tb])), (tx, .inr (1, [.int (nI 3000), .ref rm, .int (nI 0)]))] sz)) (va_Qv (fun (_ : Unit) => True) (mt_Q D (fun (_ : Unit) => []) (va_A [(h0, .inr (9, [.ref tx, .ref cn, .ref tb])), (tx, .inr (1, [.int (nI 3000), .ref rm, .int (nI 0)]))] sz)) (va_A [(h0, .inr (9, [.ref tx, .ref cn, .ref tb])), (tx, .inr (1, [.int (nI 3000), .ref rm, .int (nI 0)]))] sz)) (5) (42) (va_A [(h0, .inr (9, [.ref tx, .ref cn, .ref tb])), (tx, .inr (1, [.int (nI 3000), .ref rm, .int (nI 0)]))] sz) := by
  refine Met.ofW (cc := cX8_clear) (maxL := 1) (ret := none) (by decide) rfl ?_
  intro p ev s m args below meth c s₁ B hml hv
  obtain ⟨rfl, hsz, hP, hK, hD0, hG⟩ := hv
  have hx := B.exec
  have hb := B.bytes
  have hr := B.returns
  have hts := atoms_spec (ws := wsX8_clear) B.pre
  have hown : s.vm.findClass RX8 = some m.cls := findClass_of_methodNamed B.named
  have hlocks := B.notSynchronized
  subst hsz
  have hD := hD0.self (sz := s.heap.size)
  generalize hAe : va_A [(h0, .inr (9, [.ref tx, .ref cn, .ref tb])), (tx, .inr (1, [.int (nI 3000), .ref rm, .int (nI 0)]))] s.heap.size = A at hD hG ⊢
  have hA : ∀ q : Nat, s.heap.size ≤ q → A q := fun q h => by rw [← hAe]; exact Or.inr h
  have hS : va_S A s.heap s.heap [] := va_S.rf
  have hP : va_P D vwCl [(h0, .inr (9, [.ref tx, .ref cn, .ref tb])), (tx, .inr (1, [.int (nI 3000), .ref rm, .int (nI 0)]))] s.heap := hP
  have iX5 : ∀ w ∈ wsX50, w ∈ wsX8_clear := fun w h => List.mem_cons_of_mem _ (List.mem_append_left _ (List.mem_append_left _ (List.mem_append_left _ (List.mem_append_left _ (List.mem_append_right _ h)))))
  have iX8 : ∀ w ∈ wsX80, w ∈ wsX8_clear := fun w h => List.mem_cons_of_mem _ (List.mem_append_left _ (List.mem_append_left _ (List.mem_append_left _ (List.mem_append_right _ h))))
  have iJx4a65c : ∀ w ∈ wsJx4a65c0, w ∈ wsX8_clear := fun w h => List.mem_cons_of_mem _ (List.mem_append_left _ (List.mem_append_left _ (List.mem_append_right _ h)))
  have iX1 : ∀ w ∈ wsX10, w ∈ wsX8_clear := fun w h => List.mem_cons_of_mem _ (List.mem_append_left _ (List.mem_append_right _ h))
  have iX0 : ∀ w ∈ wsX00, w ∈ wsX8_clear := fun w h => List.mem_cons_of_mem _ (List.mem_append_right _ h)
  have hl := lv_entry ([.ref h0]) (n := 1) (Nat.le_of_ble_eq_true rfl)
  rw [lg_entry_eq]
  generalize (lg_sl ([.ref h0]) ++ List.replicate (1 - (lg_sl ([.ref h0])).length) Slot.unset).toArray = ls at hl ⊢
  have hl : lv_has ls 1 [(0, .ref h0)] := hl
  refine lv_aload_n hx hb dX8_clear_0 rfl (lv_at hl 0 rfl) ?_
  refine va_new (ci := 6) (fs := [.null, .null, .null, .int 0]) (C := RX5) (T := TX5) (N := 4) hx hb hts iX5 tyX5 tyX5_ok hown (hts (.classLink RX8 22 RX5) (by decide +kernel)) (hts (.instantiable RX5 4) (by decide +kernel)) (hts (.initialized RX5) (by decide +kernel)) hK hP hD hS hA rfl (by decide +kernel) (Nat.le_of_ble_eq_true rfl) (Nat.le_of_ble_eq_true rfl) dX8_clear_1 (fun a1 H hP hD hS => ?_)
  have hP : va_P D vwCl [(h0, .inr (9, [.ref tx, .ref cn, .ref tb])), (tx, .inr (1, [.int (nI 3000), .ref rm, .int (nI 0)])), (a1, .inr (6, [.null, .null, .null, .int 0]))] H := hP
  have hD : va_D A [(h0, .inr (9, [.ref tx, .ref cn, .ref tb])), (tx, .inr (1, [.int (nI 3000), .ref rm, .int (nI 0)])), (a1, .inr (6, [.null, .null, .null, .int 0]))] := hD
  refine W.widen (k := 1) (n := 4) (by omega) (by omega) ?_
  refine lv_dup hx hb dX8_clear_4 rfl ?_
  refine lv_iconst (v := 0) hx hb dX8_clear_5 (by decide +kernel) ?_
  refine lv_topi (fun x_1 ex_1 => ?_)
  obtain rfl : x_1 = nI 0 := by rw [ex_1]; exact nI_0.symm
  refine mt_callv (wr := [(h0, .inr (9, [.ref tx, .ref cn, .ref tb])), (tx, .inr (1, [.int (nI 3000), .ref rm, .int (nI 0)]))]) (va_runI (As := [.int (nI 0)]) (rest := [.ref a1, .ref h0]) ⟨hx, hb, hml, hown, hts⟩ (c_Table_init l D cy e a1 0 H.size (by first | assumption | omega | decide +kernel)) (cwI 1 hts gX8_clear_X5_init rfl rfl rfl (hts (.initialized RX5) (by decide +kernel)) (hts (.methodLink RX8 24 yX5_init) (by decide +kernel)) (hts (.instanceMethod yX5_init) (by decide +kernel)) rfl (by decide +kernel) ⟨Nat.le_of_ble_eq_true rfl, Nat.le_of_ble_eq_true rfl⟩) (mt_preS hP hD hK hS hA hG [2] rfl (by decide)) rfl rfl hl.1 rfl (lv_room (Nat.le_of_ble_eq_true rfl)) dX8_clear_6 ⟨(Nat.le_of_ble_eq_true rfl), (Nat.le_of_ble_eq_true rfl)⟩) hP hD hS hA [2] [0, 1] rfl rfl (by decide) (by decide) (fun u H locs hw hP hD hS => ?_)
  obtain ⟨ro_6, xp_6, cd_6, st_6⟩ := u
  have hP : va_P D vwCl [(h0, .inr (9, [.ref tx, .ref cn, .ref tb])), (tx, .inr (1, [.int (nI 3000), .ref rm, .int (nI 0)])), (a1, .inr (6, [.ref ro_6, .ref xp_6, .null, .int 0])), (ro_6, .inr (0, [.int 0, .ref (e 0), .int (nI 0)])), (xp_6, .inr (2, [.ref cd_6, .int (nI 0), .ref st_6])), (cd_6, .inl (cy 0, 0, .inl (fun _ => 0))), (st_6, .inl (cy 2, 32, .inr (.inl (fun _ => 0))))] H := hP
  have hD : va_D A [(h0, .inr (9, [.ref tx, .ref cn, .ref tb])), (tx, .inr (1, [.int (nI 3000), .ref rm, .int (nI 0)])), (a1, .inr (6, [.ref ro_6, .ref xp_6, .null, .int 0])), (ro_6, .inr (0, [.int 0, .ref (e 0), .int (nI 0)])), (xp_6, .inr (2, [.ref cd_6, .int (nI 0), .ref st_6])), (cd_6, .inl (cy 0, 0, .inl (fun _ => 0))), (st_6, .inl (cy 2, 32, .inr (.inl (fun _ => 0))))] := hD
  replace hw : True := hw
  refine W.widen (k := 5) (n := 42) (by omega) (by omega) ?_
  refine va_put (D := D) (ci := 9) (v := .ref a1) (ty := (.object "InterlockTables$Table")) (C := RX8) (T := TX8) (N := 3) hx hb hts iX8 tyX8 tyX8_ok nmX8 hown hK hP hD hS 0 rfl rfl 2 (by decide) (hts (.fieldLink RX8 25 "InterlockTables" "table" "LInterlockTables$Table;") (by decide +kernel)) (fun _ h9 => h9) rfl (by decide +kernel) rfl rfl (Nat.le_of_ble_eq_true rfl) dX8_clear_9 (fun H locs hP hD hS => ?_)
  have hP : va_P D vwCl [(h0, .inr (9, [.ref tx, .ref cn, .ref a1])), (tx, .inr (1, [.int (nI 3000), .ref rm, .int (nI 0)])), (a1, .inr (6, [.ref ro_6, .ref xp_6, .null, .int 0])), (ro_6, .inr (0, [.int 0, .ref (e 0), .int (nI 0)])), (xp_6, .inr (2, [.ref cd_6, .int (nI 0), .ref st_6])), (cd_6, .inl (cy 0, 0, .inl (fun _ => 0))), (st_6, .inl (cy 2, 32, .inr (.inl (fun _ => 0))))] H := hP
  have hD : va_D A [(h0, .inr (9, [.ref tx, .ref cn, .ref a1])), (tx, .inr (1, [.int (nI 3000), .ref rm, .int (nI 0)])), (a1, .inr (6, [.ref ro_6, .ref xp_6, .null, .int 0])), (ro_6, .inr (0, [.int 0, .ref (e 0), .int (nI 0)])), (xp_6, .inr (2, [.ref cd_6, .int (nI 0), .ref st_6])), (cd_6, .inl (cy 0, 0, .inl (fun _ => 0))), (st_6, .inl (cy 2, 32, .inr (.inl (fun _ => 0))))] := hD
  refine lv_aload_n hx hb dX8_clear_12 rfl (lv_at hl 0 rfl) ?_
  refine va_get (D := D) (ci := 9) (v := .ref tx) (C := RX8) (T := TX8) (N := 3) hx hb hts iX8 hown hK hP 0 rfl rfl 0 (by decide) (hts (.fieldLink RX8 14 "InterlockTables" "text" "LInterlockTables$Bytes;") (by decide +kernel)) (fun _ h9 => h9) rfl dX8_clear_13 ?_
  refine mt_callv (wr := [(h0, .inr (9, [.ref tx, .ref cn, .ref a1])), (a1, .inr (6, [.ref ro_6, .ref xp_6, .null, .int 0])), (ro_6, .inr (0, [.int 0, .ref (e 0), .int (nI 0)])), (xp_6, .inr (2, [.ref cd_6, .int (nI 0), .ref st_6])), (cd_6, .inl (cy 0, 0, .inl (fun _ => 0))), (st_6, .inl (cy 2, 32, .inr (.inl (fun _ => 0))))]) (va_runV (As := []) (rest := []) ⟨hx, hb, hml, hown, hts⟩ (c_Bytes_empty l D cy e tx (nI 3000) rm (nI 0) H.size ) (cwV 0 hts gX8_clear_X0_empty rfl rfl rfl (by decide +kernel) ⟨Nat.le_of_ble_eq_true rfl, Nat.le_of_ble_eq_true rfl⟩) (mt_preV hP hD hK hS hA hG [1] rfl (by decide) (q := (RX0, TX0, 3)) (ci := 1) (q0 := 1) rfl rfl) rfl rfl hl.1 rfl (lv_room (Nat.le_of_ble_eq_true rfl)) dX8_clear_16 ⟨(Nat.le_of_ble_eq_true rfl), (Nat.le_of_ble_eq_true rfl)⟩) hP hD hS hA [1] [0, 2, 3, 4, 5, 6] rfl rfl (by decide) (by decide) (fun u H locs hw hP hD hS => ?_)
  have hP : va_P D vwCl [(h0, .inr (9, [.ref tx, .ref cn, .ref a1])), (a1, .inr (6, [.ref ro_6, .ref xp_6, .null, .int 0])), (ro_6, .inr (0, [.int 0, .ref (e 0), .int (nI 0)])), (xp_6, .inr (2, [.ref cd_6, .int (nI 0), .ref st_6])), (cd_6, .inl (cy 0, 0, .inl (fun _ => 0))), (st_6, .inl (cy 2, 32, .inr (.inl (fun _ => 0)))), (tx, .inr (1, [.int (nI 3000), .ref rm, .int (nI 0)]))] H := hP
  have hD : va_D A [(h0, .inr (9, [.ref tx, .ref cn, .ref a1])), (a1, .inr (6, [.ref ro_6, .ref xp_6, .null, .int 0])), (ro_6, .inr (0, [.int 0, .ref (e 0), .int (nI 0)])), (xp_6, .inr (2, [.ref cd_6, .int (nI 0), .ref st_6])), (cd_6, .inl (cy 0, 0, .inl (fun _ => 0))), (st_6, .inl (cy 2, 32, .inr (.inl (fun _ => 0)))), (tx, .inr (1, [.int (nI 3000), .ref rm, .int (nI 0)]))] := hD
  replace hw : True := hw
  refine W.widen (k := 5) (n := 42) (by omega) (by omega) ?_
  have hP9 : va_P D vwCl [] H := hP.sub [] rfl
  have hD9 : va_D A [] := hD.sub [] (by decide) rfl
  refine W.widen (k := 5) (n := 42) (by omega) (by omega) ?_
  exact W.vret hx hb hr (fun t ht hW => ⟨⟨(), rfl, trivial, by rw [ht]; exact hP9, hD9⟩, hS.F ht⟩) hS.2.2 dX8_clear_19
