def ValC (l : Launch) (D : va_G) (cy : Nat → ClassId) (e : Nat → Nat) (d : Nat) : Prop := ∀ (h0 : Nat) (q : Nat → Nat) (wa : Nat) (i_size : Int32) (i_words : Int32) (i_next : Int32) (i_open : Int32) (i_stood : Int32) (i_nodes : Int32) (i_half : Int32) (i_made : Int32) (i_rows : Int32) (i_tested : Int32) (i_length : Int32) (x : Int32) (W0 : Nat → Int32) (F0_ : Nat → Int32) (S0 : Nat → Int32) (rd : Nat) (lo : Nat) (n : Nat) (ht : tr W0 F0_ S0 d rd lo n) (hn : n < 6000), Met l yX9_value wsX9_value ({ frames := d, cells := 0, slots := 0, locals := 21 * d }) (va_Pc [.ref h0, .int (nI n)] (pu_B D cy e [(h0, .inr (10, [.ref (q 0), .int i_size, .ref (q 1), .ref (q 2), .int i_words, .int i_next, .int i_open, .int i_stood, .ref (q 3), .ref (q 4), .ref (q 5), .int i_nodes, .int i_half, .int i_made, .ref (q 6), .ref (q 7), .ref (q 8), .ref (q 9), .ref (q 10), .ref (q 11), .int i_rows, .ref (q 12), .ref (q 13), .ref (q 14), .int x, .ref (q 15), .ref (q 16), .ref (q 17), .int i_tested, .ref (q 18), .ref wa, .int i_length])), (q 3, .inl (cy 1, 6000, .inl W0)), (q 4, .inl (cy 1, 6000, .inl F0_)), (q 5, .inl (cy 1, 6000, .inl S0))])) (va_Qi (fun (r : Int32) (_ : Unit) => r = vl W0 F0_ S0 x d n) (fun _ _ => True) (fun _ => False)) 0 0 (fun _ => False)

set_option maxHeartbeats 4000000 in
set_option maxRecDepth 100000 in
/-- value: of the tree at n -/
theorem c_M_value_s (l : Launch) (D : va_G) (cy : Nat → ClassId) (e : Nat → Nat) (d : Nat) (hrec : ValC l D cy e d) (h0 : Nat) (q : Nat → Nat) (wa : Nat) (i_size : Int32) (i_words : Int32) (i_next : Int32) (i_open : Int32) (i_stood : Int32) (i_nodes : Int32) (i_half : Int32) (i_made : Int32) (i_rows : Int32) (i_tested : Int32) (i_length : Int32) (x : Int32) (W0 : Nat → Int32) (F0_ : Nat → Int32) (S0 : Nat → Int32) (rd : Nat) (lo : Nat) (n : Nat) (ht : tr W0 F0_ S0 (d + 1) rd lo n) (hn : n < 6000) : Met l yX9_value wsX9_value ({ frames := d + 1, cells := 0, slots := 0, locals := 21 * (d + 1) }) (va_Pc [.ref h0, .int (nI n)] (pu_B D cy e [(h0, .inr (10, [.ref (q 0), .int i_size, .ref (q 1), .ref (q 2), .int i_words, .int i_next, .int i_open, .int i_stood, .ref (q 3), .ref (q 4), .ref (q 5), .int i_nodes, .int i_half, .int i_made, .ref (q 6), .ref (q 7), .ref (q 8), .ref (q 9), .ref (q 10), .ref (q 11), .int i_rows, .ref (q 12), .ref (q 13), .ref (q 14), .int x, .ref (q 15), .ref (q 16), .ref (q 17), .int i_tested, .ref (q 18), .ref wa, .int i_length])), (q 3, .inl (cy 1, 6000, .inl W0)), (q 4, .inl (cy 1, 6000, .inl F0_)), (q 5, .inl (cy 1, 6000, .inl S0))])) (va_Qi (fun (r : Int32) (_ : Unit) => r = vl W0 F0_ S0 x (d + 1) n) (fun _ _ => True) (fun _ => False)) 0 0 (fun _ => False) := by
  refine Met.ofW (cc := cX9_value) (maxL := 2) (ret := (some .boolean)) (by decide) rfl ?_
  intro p ev s m args below meth c s₁ B hml hv
  obtain ⟨rfl, hP, hK, hG⟩ := hv
  have hx := B.exec
  have hb := B.bytes
  have hr := B.returns
  have hts := atoms_spec (ws := wsX9_value) B.pre
  have hown : s.vm.findClass RX9 = some m.cls := findClass_of_methodNamed B.named
  have hlocks := B.notSynchronized
  have hS : va_S (fun _ => False) s.heap s.heap [] := va_S.rf
  have hP : va_P D vwCl [(h0, .inr (10, [.ref (q 0), .int i_size, .ref (q 1), .ref (q 2), .int i_words, .int i_next, .int i_open, .int i_stood, .ref (q 3), .ref (q 4), .ref (q 5), .int i_nodes, .int i_half, .int i_made, .ref (q 6), .ref (q 7), .ref (q 8), .ref (q 9), .ref (q 10), .ref (q 11), .int i_rows, .ref (q 12), .ref (q 13), .ref (q 14), .int x, .ref (q 15), .ref (q 16), .ref (q 17), .int i_tested, .ref (q 18), .ref wa, .int i_length])), (q 3, .inl (cy 1, 6000, .inl W0)), (q 4, .inl (cy 1, 6000, .inl F0_)), (q 5, .inl (cy 1, 6000, .inl S0))] s.heap := hP
  have iX9 : ∀ w ∈ wsX90, w ∈ wsX9_value := fun w h => List.mem_cons_of_mem _ (List.mem_append_right _ h)
  have hl := lv_entry ([.ref h0, .int (nI n)]) (n := 2) (Nat.le_of_ble_eq_true rfl)
  rw [lg_entry_eq]
  generalize (lg_sl ([.ref h0, .int (nI n)]) ++ List.replicate (2 - (lg_sl ([.ref h0, .int (nI n)])).length) Slot.unset).toArray = ls at hl ⊢
  have hl : lv_has ls 2 [(0, .ref h0), (1, .int (nI n))] := hl
  refine lv_aload_n hx hb dX9_value_0 rfl (lv_at hl 0 rfl) ?_
  refine va_get (D := D) (ci := 10) (v := .ref (q 3)) (C := RX9) (T := TX9) (N := 32) hx hb hts iX9 hown hK hP 0 rfl rfl 8 (by decide) (hts (.fieldLink RX9 20 "InterlockTablesModel" "whats" "[I") (by decide +kernel)) (fun _ h9 => h9) rfl dX9_value_1 ?_
  refine lv_iload_n hx hb dX9_value_4 rfl (lv_at hl 1 rfl) ?_
  refine va_iald hx hb hK hP 1 1 rfl rfl (vp_in_nI (by omega) (by omega)) dX9_value_5 ?_
  refine lv_topi (fun x_1 ex_1 => ?_)
  obtain rfl : x_1 = W0 n := by rw [ex_1]; rw [nI_clamp (by omega)]
  rcases ht with ⟨hlo, cc, hcc, hWn⟩ | ⟨hWn, hlo, hF, hT⟩ | ⟨hWn, hrd, k, hk1, hk2, hF, hSn, hT1, hT2⟩
  · refine lv_topi (fun x_2 ex_2 => ?_)
    obtain rfl : x_2 = nI cc := by rw [ex_2]; exact hWn
    refine lv_tableOut (tgt := 115) hx hb dX9_value_6 (Or.inl (by rw [nI_toInt (by omega)]; omega)) (by decide) ?_
    refine lv_aload_n hx hb dX9_value_115 rfl (lv_at hl 0 rfl) ?_
    refine va_get (D := D) (ci := 10) (v := .int x) (C := RX9) (T := TX9) (N := 32) hx hb hts iX9 hown hK hP 0 rfl rfl 24 (by decide) (hts (.fieldLink RX9 156 "InterlockTablesModel" "state" "I") (by decide +kernel)) (fun _ h9 => h9) rfl dX9_value_116 ?_
    refine lv_aload_n hx hb dX9_value_119 rfl (lv_at hl 0 rfl) ?_
    refine va_get (D := D) (ci := 10) (v := .ref (q 3)) (C := RX9) (T := TX9) (N := 32) hx hb hts iX9 hown hK hP 0 rfl rfl 8 (by decide) (hts (.fieldLink RX9 20 "InterlockTablesModel" "whats" "[I") (by decide +kernel)) (fun _ h9 => h9) rfl dX9_value_120 ?_
    refine lv_iload_n hx hb dX9_value_123 rfl (lv_at hl 1 rfl) ?_
    refine va_iald hx hb hK hP 1 1 rfl rfl (vp_in_nI (by omega) (by omega)) dX9_value_124 ?_
    refine lv_topi (fun x_3 ex_3 => ?_)
    obtain rfl : x_3 = nI cc := by rw [ex_3]; rw [nI_clamp (by omega)]; exact hWn
    refine lv_ishr hx hb dX9_value_125 ?_
    refine lv_iconst (v := 1) hx hb dX9_value_126 (by decide +kernel) ?_
    refine lv_iand hx hb dX9_value_127 ?_
    refine lv_iconst (v := 1) hx hb dX9_value_128 (by decide +kernel) ?_
    refine lv_icmp_ne (tgt := 136) hx hb dX9_value_129 (by decide) (fun c129 => ?_) (fun c129 => ?_)
    · refine lv_iconst (v := 0) hx hb dX9_value_136 (by decide +kernel) ?_
      exact W.zret hx hb hr rfl (fun t ht hW => ⟨⟨_, (), rfl, by show _ = _; rw [vl_leaf hWn hcc]; simp [c129], trivial⟩, hS.F ht⟩) hS.2.2 dX9_value_137
    · refine lv_iconst (v := 1) hx hb dX9_value_132 (by decide +kernel) ?_
      refine lv_goto (tgt := 137) hx hb dX9_value_133 (by decide) ?_
      exact W.zret hx hb hr rfl (fun t ht hW => ⟨⟨_, (), rfl, by show _ = _; rw [vl_leaf hWn hcc]; simp [c129], trivial⟩, hS.F ht⟩) hS.2.2 dX9_value_137
  · refine lv_topi (fun x_4 ex_4 => ?_)
    obtain rfl : x_4 = 16 := by rw [ex_4]; exact hWn
    refine lv_tableIn (off := 26) (tgt := 32) hx hb dX9_value_6 (by decide) (by decide) rfl (by decide) ?_
    refine lv_aload_n hx hb dX9_value_32 rfl (lv_at hl 0 rfl) ?_
    refine lv_aload_n hx hb dX9_value_33 rfl (lv_at hl 0 rfl) ?_
    refine va_get (D := D) (ci := 10) (v := .ref (q 4)) (C := RX9) (T := TX9) (N := 32) hx hb hts iX9 hown hK hP 0 rfl rfl 9 (by decide) (hts (.fieldLink RX9 23 "InterlockTablesModel" "firsts" "[I") (by decide +kernel)) (fun _ h9 => h9) rfl dX9_value_34 ?_
    refine lv_iload_n hx hb dX9_value_37 rfl (lv_at hl 1 rfl) ?_
    refine va_iald hx hb hK hP 2 1 rfl rfl (vp_in_nI (by omega) (by omega)) dX9_value_38 ?_
    refine lv_topi (fun x_5 ex_5 => ?_)
    obtain rfl : x_5 = nI (n - 1) := by rw [ex_5]; rw [nI_clamp (by omega)]; exact hF
    refine pu_calli (va_runV (As := [.int (nI (n - 1))]) (rest := []) ⟨hx, hb, hml, hown, hts⟩ (hrec h0 q wa i_size i_words i_next i_open i_stood i_nodes i_half i_made i_rows i_tested i_length x W0 F0_ S0 rd lo (n - 1) hT (by omega)) (cwV 1 hts gX9_value_X9_value rfl rfl rfl (by decide +kernel) ⟨show d + 1 ≤ d + 1 from by omega, show 8 + (2 + 11) + (21 * d) ≤ 21 * (d + 1) from by omega⟩) (pu_preV hP hK hS hG [0, 1, 2, 3] rfl (q := (RX9, TX9, 32)) (ci := 10) (q0 := 0) rfl rfl) rfl rfl hl.1 rfl (lv_room (Nat.le_of_ble_eq_true rfl)) dX9_value_39 ⟨(Nat.le_of_ble_eq_true rfl), (Nat.le_of_ble_eq_true rfl)⟩) hP hS (fun H locs hP hS => ?_)
    have hP : va_P D vwCl [(h0, .inr (10, [.ref (q 0), .int i_size, .ref (q 1), .ref (q 2), .int i_words, .int i_next, .int i_open, .int i_stood, .ref (q 3), .ref (q 4), .ref (q 5), .int i_nodes, .int i_half, .int i_made, .ref (q 6), .ref (q 7), .ref (q 8), .ref (q 9), .ref (q 10), .ref (q 11), .int i_rows, .ref (q 12), .ref (q 13), .ref (q 14), .int x, .ref (q 15), .ref (q 16), .ref (q 17), .int i_tested, .ref (q 18), .ref wa, .int i_length])), (q 3, .inl (cy 1, 6000, .inl W0)), (q 4, .inl (cy 1, 6000, .inl F0_)), (q 5, .inl (cy 1, 6000, .inl S0))] H := hP
    refine lv_if_ne (tgt := 49) hx hb dX9_value_42 (by decide) (fun c42 => ?_) (fun c42 => ?_)
    · refine lv_iconst (v := 0) hx hb dX9_value_49 (by decide +kernel) ?_
      exact W.zret hx hb hr rfl (fun t ht hW => ⟨⟨_, (), rfl, by show _ = _; rw [vl_not hWn hF (by omega)]; simp [c42], trivial⟩, hS.F ht⟩) hS.2.2 dX9_value_50
    · refine lv_iconst (v := 1) hx hb dX9_value_45 (by decide +kernel) ?_
      refine lv_goto (tgt := 50) hx hb dX9_value_46 (by decide) ?_
      exact W.zret hx hb hr rfl (fun t ht hW => ⟨⟨_, (), rfl, by show _ = _; rw [vl_not hWn hF (by omega)]; simp [c42], trivial⟩, hS.F ht⟩) hS.2.2 dX9_value_50
  · rcases hWn with hWn | hWn
    · refine lv_topi (fun x_6 ex_6 => ?_)
      obtain rfl : x_6 = 17 := by rw [ex_6]; exact hWn
      refine lv_tableIn (off := 45) (tgt := 51) hx hb dX9_value_6 (by decide) (by decide) rfl (by decide) ?_
      refine lv_aload_n hx hb dX9_value_51 rfl (lv_at hl 0 rfl) ?_
      refine lv_aload_n hx hb dX9_value_52 rfl (lv_at hl 0 rfl) ?_
      refine va_get (D := D) (ci := 10) (v := .ref (q 4)) (C := RX9) (T := TX9) (N := 32) hx hb hts iX9 hown hK hP 0 rfl rfl 9 (by decide) (hts (.fieldLink RX9 23 "InterlockTablesModel" "firsts" "[I") (by decide +kernel)) (fun _ h9 => h9) rfl dX9_value_53 ?_
      refine lv_iload_n hx hb dX9_value_56 rfl (lv_at hl 1 rfl) ?_
      refine va_iald hx hb hK hP 2 1 rfl rfl (vp_in_nI (by omega) (by omega)) dX9_value_57 ?_
      refine lv_topi (fun x_7 ex_7 => ?_)
      obtain rfl : x_7 = nI k := by rw [ex_7]; rw [nI_clamp (by omega)]; exact hF
      refine pu_calli (va_runV (As := [.int (nI k)]) (rest := []) ⟨hx, hb, hml, hown, hts⟩ (hrec h0 q wa i_size i_words i_next i_open i_stood i_nodes i_half i_made i_rows i_tested i_length x W0 F0_ S0 rd lo k hT1 (by omega)) (cwV 1 hts gX9_value_X9_value rfl rfl rfl (by decide +kernel) ⟨show d + 1 ≤ d + 1 from by omega, show 8 + (2 + 11) + (21 * d) ≤ 21 * (d + 1) from by omega⟩) (pu_preV hP hK hS hG [0, 1, 2, 3] rfl (q := (RX9, TX9, 32)) (ci := 10) (q0 := 0) rfl rfl) rfl rfl hl.1 rfl (lv_room (Nat.le_of_ble_eq_true rfl)) dX9_value_58 ⟨(Nat.le_of_ble_eq_true rfl), (Nat.le_of_ble_eq_true rfl)⟩) hP hS (fun H locs hP hS => ?_)
      have hP : va_P D vwCl [(h0, .inr (10, [.ref (q 0), .int i_size, .ref (q 1), .ref (q 2), .int i_words, .int i_next, .int i_open, .int i_stood, .ref (q 3), .ref (q 4), .ref (q 5), .int i_nodes, .int i_half, .int i_made, .ref (q 6), .ref (q 7), .ref (q 8), .ref (q 9), .ref (q 10), .ref (q 11), .int i_rows, .ref (q 12), .ref (q 13), .ref (q 14), .int x, .ref (q 15), .ref (q 16), .ref (q 17), .int i_tested, .ref (q 18), .ref wa, .int i_length])), (q 3, .inl (cy 1, 6000, .inl W0)), (q 4, .inl (cy 1, 6000, .inl F0_)), (q 5, .inl (cy 1, 6000, .inl S0))] H := hP
      refine lv_if_eq (tgt := 81) hx hb dX9_value_61 (by decide) (fun c61 => ?_) (fun c61 => ?_)
      · refine lv_iconst (v := 0) hx hb dX9_value_81 (by decide +kernel) ?_
        exact W.zret hx hb hr rfl (fun t ht hW => ⟨⟨_, (), rfl, by show _ = _; rw [vl_and hWn hF hSn (by omega) (by omega)]; simp [c61], trivial⟩, hS.F ht⟩) hS.2.2 dX9_value_82
      · refine lv_aload_n hx hb dX9_value_64 rfl (lv_at hl 0 rfl) ?_
        refine lv_aload_n hx hb dX9_value_65 rfl (lv_at hl 0 rfl) ?_
        refine va_get (D := D) (ci := 10) (v := .ref (q 5)) (C := RX9) (T := TX9) (N := 32) hx hb hts iX9 hown hK hP 0 rfl rfl 10 (by decide) (hts (.fieldLink RX9 26 "InterlockTablesModel" "seconds" "[I") (by decide +kernel)) (fun _ h9 => h9) rfl dX9_value_66 ?_
        refine lv_iload_n hx hb dX9_value_69 rfl (lv_at hl 1 rfl) ?_
        refine va_iald hx hb hK hP 3 1 rfl rfl (vp_in_nI (by omega) (by omega)) dX9_value_70 ?_
        refine lv_topi (fun x_8 ex_8 => ?_)
        obtain rfl : x_8 = nI (n - 1) := by rw [ex_8]; rw [nI_clamp (by omega)]; exact hSn
        refine pu_calli (va_runV (As := [.int (nI (n - 1))]) (rest := []) ⟨hx, hb, hml, hown, hts⟩ (hrec h0 q wa i_size i_words i_next i_open i_stood i_nodes i_half i_made i_rows i_tested i_length x W0 F0_ S0 (rd - 1) (k + 1) (n - 1) hT2 (by omega)) (cwV 1 hts gX9_value_X9_value rfl rfl rfl (by decide +kernel) ⟨show d + 1 ≤ d + 1 from by omega, show 8 + (2 + 11) + (21 * d) ≤ 21 * (d + 1) from by omega⟩) (pu_preV hP hK hS hG [0, 1, 2, 3] rfl (q := (RX9, TX9, 32)) (ci := 10) (q0 := 0) rfl rfl) rfl rfl hl.1 rfl (lv_room (Nat.le_of_ble_eq_true rfl)) dX9_value_71 ⟨(Nat.le_of_ble_eq_true rfl), (Nat.le_of_ble_eq_true rfl)⟩) hP hS (fun H locs hP hS => ?_)
        have hP : va_P D vwCl [(h0, .inr (10, [.ref (q 0), .int i_size, .ref (q 1), .ref (q 2), .int i_words, .int i_next, .int i_open, .int i_stood, .ref (q 3), .ref (q 4), .ref (q 5), .int i_nodes, .int i_half, .int i_made, .ref (q 6), .ref (q 7), .ref (q 8), .ref (q 9), .ref (q 10), .ref (q 11), .int i_rows, .ref (q 12), .ref (q 13), .ref (q 14), .int x, .ref (q 15), .ref (q 16), .ref (q 17), .int i_tested, .ref (q 18), .ref wa, .int i_length])), (q 3, .inl (cy 1, 6000, .inl W0)), (q 4, .inl (cy 1, 6000, .inl F0_)), (q 5, .inl (cy 1, 6000, .inl S0))] H := hP
        refine lv_if_eq (tgt := 81) hx hb dX9_value_74 (by decide) (fun c74 => ?_) (fun c74 => ?_)
        · refine lv_iconst (v := 0) hx hb dX9_value_81 (by decide +kernel) ?_
          exact W.zret hx hb hr rfl (fun t ht hW => ⟨⟨_, (), rfl, by show _ = _; rw [vl_and hWn hF hSn (by omega) (by omega)]; simp [c61, c74], trivial⟩, hS.F ht⟩) hS.2.2 dX9_value_82
        · refine lv_iconst (v := 1) hx hb dX9_value_77 (by decide +kernel) ?_
          refine lv_goto (tgt := 82) hx hb dX9_value_78 (by decide) ?_
          exact W.zret hx hb hr rfl (fun t ht hW => ⟨⟨_, (), rfl, by show _ = _; rw [vl_and hWn hF hSn (by omega) (by omega)]; simp [c61, c74], trivial⟩, hS.F ht⟩) hS.2.2 dX9_value_82
    · refine lv_topi (fun x_9 ex_9 => ?_)
      obtain rfl : x_9 = 18 := by rw [ex_9]; exact hWn
      refine lv_tableIn (off := 77) (tgt := 83) hx hb dX9_value_6 (by decide) (by decide) rfl (by decide) ?_
      refine lv_aload_n hx hb dX9_value_83 rfl (lv_at hl 0 rfl) ?_
      refine lv_aload_n hx hb dX9_value_84 rfl (lv_at hl 0 rfl) ?_
      refine va_get (D := D) (ci := 10) (v := .ref (q 4)) (C := RX9) (T := TX9) (N := 32) hx hb hts iX9 hown hK hP 0 rfl rfl 9 (by decide) (hts (.fieldLink RX9 23 "InterlockTablesModel" "firsts" "[I") (by decide +kernel)) (fun _ h9 => h9) rfl dX9_value_85 ?_
      refine lv_iload_n hx hb dX9_value_88 rfl (lv_at hl 1 rfl) ?_
      refine va_iald hx hb hK hP 2 1 rfl rfl (vp_in_nI (by omega) (by omega)) dX9_value_89 ?_
      refine lv_topi (fun x_10 ex_10 => ?_)
      obtain rfl : x_10 = nI k := by rw [ex_10]; rw [nI_clamp (by omega)]; exact hF
      refine pu_calli (va_runV (As := [.int (nI k)]) (rest := []) ⟨hx, hb, hml, hown, hts⟩ (hrec h0 q wa i_size i_words i_next i_open i_stood i_nodes i_half i_made i_rows i_tested i_length x W0 F0_ S0 rd lo k hT1 (by omega)) (cwV 1 hts gX9_value_X9_value rfl rfl rfl (by decide +kernel) ⟨show d + 1 ≤ d + 1 from by omega, show 8 + (2 + 11) + (21 * d) ≤ 21 * (d + 1) from by omega⟩) (pu_preV hP hK hS hG [0, 1, 2, 3] rfl (q := (RX9, TX9, 32)) (ci := 10) (q0 := 0) rfl rfl) rfl rfl hl.1 rfl (lv_room (Nat.le_of_ble_eq_true rfl)) dX9_value_90 ⟨(Nat.le_of_ble_eq_true rfl), (Nat.le_of_ble_eq_true rfl)⟩) hP hS (fun H locs hP hS => ?_)
      have hP : va_P D vwCl [(h0, .inr (10, [.ref (q 0), .int i_size, .ref (q 1), .ref (q 2), .int i_words, .int i_next, .int i_open, .int i_stood, .ref (q 3), .ref (q 4), .ref (q 5), .int i_nodes, .int i_half, .int i_made, .ref (q 6), .ref (q 7), .ref (q 8), .ref (q 9), .ref (q 10), .ref (q 11), .int i_rows, .ref (q 12), .ref (q 13), .ref (q 14), .int x, .ref (q 15), .ref (q 16), .ref (q 17), .int i_tested, .ref (q 18), .ref wa, .int i_length])), (q 3, .inl (cy 1, 6000, .inl W0)), (q 4, .inl (cy 1, 6000, .inl F0_)), (q 5, .inl (cy 1, 6000, .inl S0))] H := hP
      refine lv_if_ne (tgt := 109) hx hb dX9_value_93 (by decide) (fun c93 => ?_) (fun c93 => ?_)
      · refine lv_iconst (v := 1) hx hb dX9_value_109 (by decide +kernel) ?_
        refine lv_goto (tgt := 114) hx hb dX9_value_110 (by decide) ?_
        exact W.zret hx hb hr rfl (fun t ht hW => ⟨⟨_, (), rfl, by show _ = _; rw [vl_or hWn hF hSn (by omega) (by omega)]; simp [c93], trivial⟩, hS.F ht⟩) hS.2.2 dX9_value_114
      · refine lv_aload_n hx hb dX9_value_96 rfl (lv_at hl 0 rfl) ?_
        refine lv_aload_n hx hb dX9_value_97 rfl (lv_at hl 0 rfl) ?_
        refine va_get (D := D) (ci := 10) (v := .ref (q 5)) (C := RX9) (T := TX9) (N := 32) hx hb hts iX9 hown hK hP 0 rfl rfl 10 (by decide) (hts (.fieldLink RX9 26 "InterlockTablesModel" "seconds" "[I") (by decide +kernel)) (fun _ h9 => h9) rfl dX9_value_98 ?_
        refine lv_iload_n hx hb dX9_value_101 rfl (lv_at hl 1 rfl) ?_
        refine va_iald hx hb hK hP 3 1 rfl rfl (vp_in_nI (by omega) (by omega)) dX9_value_102 ?_
        refine lv_topi (fun x_11 ex_11 => ?_)
        obtain rfl : x_11 = nI (n - 1) := by rw [ex_11]; rw [nI_clamp (by omega)]; exact hSn
        refine pu_calli (va_runV (As := [.int (nI (n - 1))]) (rest := []) ⟨hx, hb, hml, hown, hts⟩ (hrec h0 q wa i_size i_words i_next i_open i_stood i_nodes i_half i_made i_rows i_tested i_length x W0 F0_ S0 (rd - 1) (k + 1) (n - 1) hT2 (by omega)) (cwV 1 hts gX9_value_X9_value rfl rfl rfl (by decide +kernel) ⟨show d + 1 ≤ d + 1 from by omega, show 8 + (2 + 11) + (21 * d) ≤ 21 * (d + 1) from by omega⟩) (pu_preV hP hK hS hG [0, 1, 2, 3] rfl (q := (RX9, TX9, 32)) (ci := 10) (q0 := 0) rfl rfl) rfl rfl hl.1 rfl (lv_room (Nat.le_of_ble_eq_true rfl)) dX9_value_103 ⟨(Nat.le_of_ble_eq_true rfl), (Nat.le_of_ble_eq_true rfl)⟩) hP hS (fun H locs hP hS => ?_)
        have hP : va_P D vwCl [(h0, .inr (10, [.ref (q 0), .int i_size, .ref (q 1), .ref (q 2), .int i_words, .int i_next, .int i_open, .int i_stood, .ref (q 3), .ref (q 4), .ref (q 5), .int i_nodes, .int i_half, .int i_made, .ref (q 6), .ref (q 7), .ref (q 8), .ref (q 9), .ref (q 10), .ref (q 11), .int i_rows, .ref (q 12), .ref (q 13), .ref (q 14), .int x, .ref (q 15), .ref (q 16), .ref (q 17), .int i_tested, .ref (q 18), .ref wa, .int i_length])), (q 3, .inl (cy 1, 6000, .inl W0)), (q 4, .inl (cy 1, 6000, .inl F0_)), (q 5, .inl (cy 1, 6000, .inl S0))] H := hP
        refine lv_if_eq (tgt := 113) hx hb dX9_value_106 (by decide) (fun c106 => ?_) (fun c106 => ?_)
        · refine lv_iconst (v := 0) hx hb dX9_value_113 (by decide +kernel) ?_
          exact W.zret hx hb hr rfl (fun t ht hW => ⟨⟨_, (), rfl, by show _ = _; rw [vl_or hWn hF hSn (by omega) (by omega)]; simp [c93, c106], trivial⟩, hS.F ht⟩) hS.2.2 dX9_value_114
        · refine lv_iconst (v := 1) hx hb dX9_value_109 (by decide +kernel) ?_
          refine lv_goto (tgt := 114) hx hb dX9_value_110 (by decide) ?_
          exact W.zret hx hb hr rfl (fun t ht hW => ⟨⟨_, (), rfl, by show _ = _; rw [vl_or hWn hF hSn (by omega) (by omega)]; simp [c93, c106], trivial⟩, hS.F ht⟩) hS.2.2 dX9_value_114

theorem c_M_value (l : Launch) (D : va_G) (cy : Nat → ClassId) (e : Nat → Nat) : ∀ d, ValC l D cy e d := by
  intro d
  induction d with
  | zero =>
    unfold ValC
    intros
    rename_i ht hn
    exact False.elim ht
  | succ d ih => exact c_M_value_s l D cy e d ih

set_option maxHeartbeats 4000000 in
set_option maxRecDepth 100000 in
/-- isOn -/
theorem c_M_isOn (l : Launch) (D : va_G) (cy : Nat → ClassId) (e : Nat → Nat)  (h0 : Nat) (q : Nat → Nat) (wa : Nat) (i_size : Int32) (i_words : Int32) (i_next : Int32) (i_open : Int32) (i_stood : Int32) (i_nodes : Int32) (i_made : Int32) (i_rows : Int32) (i_tested : Int32) (i_length : Int32) (x : Int32) (h : Nat) (W0 : Nat → Int32) (F0_ : Nat → Int32) (S0 : Nat → Int32) (tp0 : Nat → Int32) (rd : Nat) (lo : Nat) (n : Nat) (k : Nat) (hh : h ≤ 1) (hk : k < 40) (hn : n < 6000) (htp : tp0 (40 * h + k) = nI n) (ht : tr W0 F0_ S0 512 rd lo n) : Met l yX9_isOn wsX9_isOn ({ frames := 513, cells := 0, slots := 0, locals := 11000 }) (va_Pc [.ref h0, .int (nI k)] (pu_B D cy e [(h0, .inr (10, [.ref (q 0), .int i_size, .ref (q 1), .ref (q 2), .int i_words, .int i_next, .int i_open, .int i_stood, .ref (q 3), .ref (q 4), .ref (q 5), .int i_nodes, .int (nI h), .int i_made, .ref (q 6), .ref (q 7), .ref (q 8), .ref (q 9), .ref (q 10), .ref (q 11), .int i_rows, .ref (q 12), .ref (q 13), .ref (q 14), .int x, .ref (q 15), .ref (q 16), .ref (q 17), .int i_tested, .ref (q 18), .ref wa, .int i_length])), (q 3, .inl (cy 1, 6000, .inl W0)), (q 4, .inl (cy 1, 6000, .inl F0_)), (q 5, .inl (cy 1, 6000, .inl S0)), (q 6, .inl (cy 1, 80, .inl tp0))])) (va_Qi (fun (r : Int32) (_ : Unit) => r = vl W0 F0_ S0 x 512 n) (fun _ _ => True) (fun _ => False)) 0 0 (fun _ => False) := by
  refine Met.ofW (cc := cX9_isOn) (maxL := 2) (ret := (some .boolean)) (by decide) rfl ?_
  intro p ev s m args below meth c s₁ B hml hv
  obtain ⟨rfl, hP, hK, hG⟩ := hv
  have hx := B.exec
  have hb := B.bytes
  have hr := B.returns
  have hts := atoms_spec (ws := wsX9_isOn) B.pre
  have hown : s.vm.findClass RX9 = some m.cls := findClass_of_methodNamed B.named
  have hlocks := B.notSynchronized
  have hS : va_S (fun _ => False) s.heap s.heap [] := va_S.rf
  have hP : va_P D vwCl [(h0, .inr (10, [.ref (q 0), .int i_size, .ref (q 1), .ref (q 2), .int i_words, .int i_next, .int i_open, .int i_stood, .ref (q 3), .ref (q 4), .ref (q 5), .int i_nodes, .int (nI h), .int i_made, .ref (q 6), .ref (q 7), .ref (q 8), .ref (q 9), .ref (q 10), .ref (q 11), .int i_rows, .ref (q 12), .ref (q 13), .ref (q 14), .int x, .ref (q 15), .ref (q 16), .ref (q 17), .int i_tested, .ref (q 18), .ref wa, .int i_length])), (q 3, .inl (cy 1, 6000, .inl W0)), (q 4, .inl (cy 1, 6000, .inl F0_)), (q 5, .inl (cy 1, 6000, .inl S0)), (q 6, .inl (cy 1, 80, .inl tp0))] s.heap := hP
  have iX9 : ∀ w ∈ wsX90, w ∈ wsX9_isOn := fun w h => List.mem_cons_of_mem _ (List.mem_append_right _ h)
  have hl := lv_entry ([.ref h0, .int (nI k)]) (n := 2) (Nat.le_of_ble_eq_true rfl)
  rw [lg_entry_eq]
  generalize (lg_sl ([.ref h0, .int (nI k)]) ++ List.replicate (2 - (lg_sl ([.ref h0, .int (nI k)])).length) Slot.unset).toArray = ls at hl ⊢
  have hl : lv_has ls 2 [(0, .ref h0), (1, .int (nI k))] := hl
  refine lv_aload_n hx hb dX9_isOn_0 rfl (lv_at hl 0 rfl) ?_
  refine lv_aload_n hx hb dX9_isOn_1 rfl (lv_at hl 0 rfl) ?_
  refine va_get (D := D) (ci := 10) (v := .ref (q 6)) (C := RX9) (T := TX9) (N := 32) hx hb hts iX9 hown hK hP 0 rfl rfl 14 (by decide) (hts (.fieldLink RX9 29 "InterlockTablesModel" "tops" "[I") (by decide +kernel)) (fun _ h9 => h9) rfl dX9_isOn_2 ?_
  refine lv_bipush (v := 40) hx hb dX9_isOn_5 (by decide +kernel) ?_
  refine lv_aload_n hx hb dX9_isOn_7 rfl (lv_at hl 0 rfl) ?_
  refine va_get (D := D) (ci := 10) (v := .int (nI h)) (C := RX9) (T := TX9) (N := 32) hx hb hts iX9 hown hK hP 0 rfl rfl 12 (by decide) (hts (.fieldLink RX9 101 "InterlockTablesModel" "half" "I") (by decide +kernel)) (fun _ h9 => h9) rfl dX9_isOn_8 ?_
  refine lv_imul hx hb dX9_isOn_11 ?_
  refine lv_topi (fun x_1 ex_1 => ?_)
  obtain rfl : x_1 = nI (40 * h) := by rw [ex_1]; exact pk_mul 40 h
  refine lv_iload_n hx hb dX9_isOn_12 rfl (lv_at hl 1 rfl) ?_
  refine lv_iadd hx hb dX9_isOn_13 ?_
  refine lv_topi (fun x_2 ex_2 => ?_)
  obtain rfl : x_2 = nI (40 * h + k) := by rw [ex_2]; exact nI_add _ _
  refine va_iald hx hb hK hP 4 1 rfl rfl (vp_in_nI (by omega) (by omega)) dX9_isOn_14 ?_
  refine lv_topi (fun x_3 ex_3 => ?_)
  obtain rfl : x_3 = nI n := by rw [ex_3]; rw [nI_clamp (by omega)]; exact htp
  refine pu_calli (va_runV (As := [.int (nI n)]) (rest := []) ⟨hx, hb, hml, hown, hts⟩ (c_M_value l D cy e 512 h0 q wa i_size i_words i_next i_open i_stood i_nodes (nI h) i_made i_rows i_tested i_length x W0 F0_ S0 rd lo n (by first | assumption | omega | decide +kernel) (by first | assumption | omega | decide +kernel)) (cwV 1 hts gX9_isOn_X9_value rfl rfl rfl (by decide +kernel) ⟨show 512 + 1 ≤ 513 from by decide, show 8 + (2 + 11) + 21 * 512 ≤ 11000 from by decide⟩) (pu_preV hP hK hS hG [0, 1, 2, 3] rfl (q := (RX9, TX9, 32)) (ci := 10) (q0 := 0) rfl rfl) rfl rfl hl.1 rfl (lv_room (Nat.le_of_ble_eq_true rfl)) dX9_isOn_15 ⟨(Nat.le_of_ble_eq_true rfl), (Nat.le_of_ble_eq_true rfl)⟩) hP hS (fun H locs hP hS => ?_)
  have hP : va_P D vwCl [(h0, .inr (10, [.ref (q 0), .int i_size, .ref (q 1), .ref (q 2), .int i_words, .int i_next, .int i_open, .int i_stood, .ref (q 3), .ref (q 4), .ref (q 5), .int i_nodes, .int (nI h), .int i_made, .ref (q 6), .ref (q 7), .ref (q 8), .ref (q 9), .ref (q 10), .ref (q 11), .int i_rows, .ref (q 12), .ref (q 13), .ref (q 14), .int x, .ref (q 15), .ref (q 16), .ref (q 17), .int i_tested, .ref (q 18), .ref wa, .int i_length])), (q 3, .inl (cy 1, 6000, .inl W0)), (q 4, .inl (cy 1, 6000, .inl F0_)), (q 5, .inl (cy 1, 6000, .inl S0)), (q 6, .inl (cy 1, 80, .inl tp0))] H := hP
  exact W.zret hx hb hr (vl_nar _ _ _ _ _ _) (fun t ht hW => ⟨⟨_, (), rfl, rfl, trivial⟩, hS.F ht⟩) hS.2.2 dX9_isOn_18
