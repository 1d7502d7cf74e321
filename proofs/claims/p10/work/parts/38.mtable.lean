set_option maxHeartbeats 4000000 in
set_option maxRecDepth 100000 in
/-- bits -/
theorem c_M_bits (l : Launch) (D : va_G) (cy : Nat → ClassId) (e : Nat → Nat)  (ck : Nat) (w9 : Nat) (hc : ck < 16) : Met l yX9_bits wsX9_bits ({ frames := 0, cells := 0, slots := 0, locals := 0 }) (va_Pc [.int (nI ck), .int (nI w9)] (pu_B D cy e [])) (va_Ql (fun (r : Int64) (_ : Unit) => r = bsg w9 ck) (fun _ _ => True) (fun _ => False)) 0 0 (fun _ => False) := by
  refine Met.ofW (cc := cX9_bits) (maxL := 2) (ret := (some .long)) (by decide) rfl ?_
  intro p ev s m args below meth c s₁ B hml hv
  obtain ⟨rfl, hP, hK, hG⟩ := hv
  have hx := B.exec
  have hb := B.bytes
  have hr := B.returns
  have hts := atoms_spec (ws := wsX9_bits) B.pre
  have hown : s.vm.findClass RX9 = some m.cls := findClass_of_methodNamed B.named
  have hlocks := B.notSynchronized
  have hS : va_S (fun _ => False) s.heap s.heap [] := va_S.rf
  have hP : va_P D vwCl [] s.heap := hP
  have hl := lv_entry ([.int (nI ck), .int (nI w9)]) (n := 2) (Nat.le_of_ble_eq_true rfl)
  rw [lg_entry_eq]
  generalize (lg_sl ([.int (nI ck), .int (nI w9)]) ++ List.replicate (2 - (lg_sl ([.int (nI ck), .int (nI w9)])).length) Slot.unset).toArray = ls at hl ⊢
  have hl : lv_has ls 2 [(0, .int (nI ck)), (1, .int (nI w9))] := hl
  refine lv_iload_n hx hb dX9_bits_0 rfl (lv_at hl 0 rfl) ?_
  rcases pk_sw6 (nI ck) with hsw | ⟨t9, ht9, hw9⟩
  · have hc6 : ¬ ck < 6 := by rw [nI_toInt (by omega)] at hsw; omega
    refine lv_tableOut (tgt := 64) hx hb dX9_bits_1 hsw (by decide) ?_
    refine lv_iload_n hx hb dX9_bits_64 rfl (lv_at hl 1 rfl) ?_
    refine lv_iload_n hx hb dX9_bits_65 rfl (lv_at hl 0 rfl) ?_
    refine lv_bipush (v := 6) hx hb dX9_bits_66 (by decide +kernel) ?_
    refine lv_isub hx hb dX9_bits_68 ?_
    refine lv_topi (fun x_1 ex_1 => ?_)
    obtain rfl : x_1 = nI (ck - 6) := by rw [ex_1]; exact pk_sub (b := 6) (by omega)
    refine lv_ishr hx hb dX9_bits_69 ?_
    refine lv_iconst (v := 1) hx hb dX9_bits_70 (by decide +kernel) ?_
    refine lv_iand hx hb dX9_bits_71 ?_
    refine lv_iconst (v := 1) hx hb dX9_bits_72 (by decide +kernel) ?_
    refine lv_icmp_ne (tgt := 82) hx hb dX9_bits_73 (by decide) (fun c73 => ?_) (fun c73 => ?_)
    · refine lv_lconst (v := 0) hx hb dX9_bits_82 (by decide +kernel) ?_
      exact W.lret hx hb hr (fun t ht hW => ⟨⟨_, (), rfl, ((if_neg hc6).trans (if_neg c73)).symm, trivial⟩, hS.F ht⟩) hS.2.2 dX9_bits_83
    · refine lv_ldc2 (v := -1) hx hb hown (hts (.constantLong RX9 186 (-1)) (by decide +kernel)) dX9_bits_76 ?_
      refine lv_goto (tgt := 83) hx hb dX9_bits_79 (by decide) ?_
      exact W.lret hx hb hr (fun t ht hW => ⟨⟨_, (), rfl, ((if_neg hc6).trans (if_pos c73)).symm, trivial⟩, hS.F ht⟩) hS.2.2 dX9_bits_83
  · have hc9 : ck = t9 := (nI_eq (by omega) (by omega)).mp hw9
    rcases (show t9 = 0 ∨ t9 = 1 ∨ t9 = 2 ∨ t9 = 3 ∨ t9 = 4 ∨ t9 = 5 by omega) with h9 | h9 | h9 | h9 | h9 | h9
    · obtain rfl : ck = 0 := hc9.trans h9
      refine lv_tableIn (off := 39) (tgt := 40) hx hb dX9_bits_1 (by decide) (by decide) rfl (by decide) ?_
      refine lv_ldc2 (v := -6148914691236517206) hx hb hown (hts (.constantLong RX9 174 (-6148914691236517206)) (by decide +kernel)) dX9_bits_40 ?_
      exact W.lret hx hb hr (fun t ht hW => ⟨⟨_, (), rfl, (show bsg w9 0 = _ from if_pos (by decide)).symm, trivial⟩, hS.F ht⟩) hS.2.2 dX9_bits_43
    · obtain rfl : ck = 1 := hc9.trans h9
      refine lv_tableIn (off := 43) (tgt := 44) hx hb dX9_bits_1 (by decide) (by decide) rfl (by decide) ?_
      refine lv_ldc2 (v := -3689348814741910324) hx hb hown (hts (.constantLong RX9 176 (-3689348814741910324)) (by decide +kernel)) dX9_bits_44 ?_
      exact W.lret hx hb hr (fun t ht hW => ⟨⟨_, (), rfl, (show bsg w9 1 = _ from if_pos (by decide)).symm, trivial⟩, hS.F ht⟩) hS.2.2 dX9_bits_47
    · obtain rfl : ck = 2 := hc9.trans h9
      refine lv_tableIn (off := 47) (tgt := 48) hx hb dX9_bits_1 (by decide) (by decide) rfl (by decide) ?_
      refine lv_ldc2 (v := -1085102592571150096) hx hb hown (hts (.constantLong RX9 178 (-1085102592571150096)) (by decide +kernel)) dX9_bits_48 ?_
      exact W.lret hx hb hr (fun t ht hW => ⟨⟨_, (), rfl, (show bsg w9 2 = _ from if_pos (by decide)).symm, trivial⟩, hS.F ht⟩) hS.2.2 dX9_bits_51
    · obtain rfl : ck = 3 := hc9.trans h9
      refine lv_tableIn (off := 51) (tgt := 52) hx hb dX9_bits_1 (by decide) (by decide) rfl (by decide) ?_
      refine lv_ldc2 (v := -71777214294589696) hx hb hown (hts (.constantLong RX9 180 (-71777214294589696)) (by decide +kernel)) dX9_bits_52 ?_
      exact W.lret hx hb hr (fun t ht hW => ⟨⟨_, (), rfl, (show bsg w9 3 = _ from if_pos (by decide)).symm, trivial⟩, hS.F ht⟩) hS.2.2 dX9_bits_55
    · obtain rfl : ck = 4 := hc9.trans h9
      refine lv_tableIn (off := 55) (tgt := 56) hx hb dX9_bits_1 (by decide) (by decide) rfl (by decide) ?_
      refine lv_ldc2 (v := -281470681808896) hx hb hown (hts (.constantLong RX9 182 (-281470681808896)) (by decide +kernel)) dX9_bits_56 ?_
      exact W.lret hx hb hr (fun t ht hW => ⟨⟨_, (), rfl, (show bsg w9 4 = _ from if_pos (by decide)).symm, trivial⟩, hS.F ht⟩) hS.2.2 dX9_bits_59
    · obtain rfl : ck = 5 := hc9.trans h9
      refine lv_tableIn (off := 59) (tgt := 60) hx hb dX9_bits_1 (by decide) (by decide) rfl (by decide) ?_
      refine lv_ldc2 (v := -4294967296) hx hb hown (hts (.constantLong RX9 184 (-4294967296)) (by decide +kernel)) dX9_bits_60 ?_
      exact W.lret hx hb hr (fun t ht hW => ⟨⟨_, (), rfl, (show bsg w9 5 = _ from if_pos (by decide)).symm, trivial⟩, hS.F ht⟩) hS.2.2 dX9_bits_63

def TabC (l : Launch) (D : va_G) (cy : Nat → ClassId) (e : Nat → Nat) (d : Nat) : Prop := ∀ (h0 : Nat) (q : Nat → Nat) (wa : Nat) (i_size : Int32) (i_words : Int32) (i_next : Int32) (i_open : Int32) (i_stood : Int32) (i_nodes : Int32) (i_half : Int32) (i_made : Int32) (i_rows : Int32) (i_state : Int32) (i_tested : Int32) (i_length : Int32) (W0 : Nat → Int32) (F0_ : Nat → Int32) (S0 : Nat → Int32) (sk0 : Nat → Int64) (rd : Nat) (lo : Nat) (n : Nat) (av : Nat) (sz : Nat) (ht : tr W0 F0_ S0 d rd lo n) (hn : n < 6000) (hav : av + rd < 70), Met l yX9_table wsX9_table ({ frames := d + 1, cells := 0, slots := 0, locals := 28 * d + 21 }) (va_Pc [.ref h0, .int (nI n), .int (nI av)] (mt_B D cy e [(h0, .inr (10, [.ref (q 0), .int i_size, .ref (q 1), .ref (q 2), .int i_words, .int i_next, .int i_open, .int i_stood, .ref (q 3), .ref (q 4), .ref (q 5), .int i_nodes, .int i_half, .int i_made, .ref (q 6), .ref (q 7), .ref (q 8), .ref (q 9), .ref (q 10), .ref (q 11), .int i_rows, .ref (q 12), .ref (q 13), .ref (q 14), .int i_state, .ref (q 15), .ref (q 16), .ref (q 17), .int i_tested, .ref (q 18), .ref wa, .int i_length])), (q 3, .inl (cy 1, 6000, .inl W0)), (q 4, .inl (cy 1, 6000, .inl F0_)), (q 5, .inl (cy 1, 6000, .inl S0)), (q 16, .inl (cy 2, 71680, .inr (.inl sk0)))] sz)) (va_Qv (fun (sk2 : (Nat → Int64)) => (∀ w, w < 1024 → sk2 (1024 * av + w) = fp_tv W0 F0_ S0 (bsg w) d n) ∧ (∀ j, j < 1024 * av → sk2 j = sk0 j)) (mt_Q D (fun sk2 => [(h0, .inr (10, [.ref (q 0), .int i_size, .ref (q 1), .ref (q 2), .int i_words, .int i_next, .int i_open, .int i_stood, .ref (q 3), .ref (q 4), .ref (q 5), .int i_nodes, .int i_half, .int i_made, .ref (q 6), .ref (q 7), .ref (q 8), .ref (q 9), .ref (q 10), .ref (q 11), .int i_rows, .ref (q 12), .ref (q 13), .ref (q 14), .int i_state, .ref (q 15), .ref (q 16), .ref (q 17), .int i_tested, .ref (q 18), .ref wa, .int i_length])), (q 3, .inl (cy 1, 6000, .inl W0)), (q 4, .inl (cy 1, 6000, .inl F0_)), (q 5, .inl (cy 1, 6000, .inl S0)), (q 16, .inl (cy 2, 71680, .inr (.inl sk2)))]) (va_A [(h0, .inr (10, [.ref (q 0), .int i_size, .ref (q 1), .ref (q 2), .int i_words, .int i_next, .int i_open, .int i_stood, .ref (q 3), .ref (q 4), .ref (q 5), .int i_nodes, .int i_half, .int i_made, .ref (q 6), .ref (q 7), .ref (q 8), .ref (q 9), .ref (q 10), .ref (q 11), .int i_rows, .ref (q 12), .ref (q 13), .ref (q 14), .int i_state, .ref (q 15), .ref (q 16), .ref (q 17), .int i_tested, .ref (q 18), .ref wa, .int i_length])), (q 3, .inl (cy 1, 6000, .inl W0)), (q 4, .inl (cy 1, 6000, .inl F0_)), (q 5, .inl (cy 1, 6000, .inl S0)), (q 16, .inl (cy 2, 71680, .inr (.inl sk0)))] sz)) (va_A [(h0, .inr (10, [.ref (q 0), .int i_size, .ref (q 1), .ref (q 2), .int i_words, .int i_next, .int i_open, .int i_stood, .ref (q 3), .ref (q 4), .ref (q 5), .int i_nodes, .int i_half, .int i_made, .ref (q 6), .ref (q 7), .ref (q 8), .ref (q 9), .ref (q 10), .ref (q 11), .int i_rows, .ref (q 12), .ref (q 13), .ref (q 14), .int i_state, .ref (q 15), .ref (q 16), .ref (q 17), .int i_tested, .ref (q 18), .ref wa, .int i_length])), (q 3, .inl (cy 1, 6000, .inl W0)), (q 4, .inl (cy 1, 6000, .inl F0_)), (q 5, .inl (cy 1, 6000, .inl S0)), (q 16, .inl (cy 2, 71680, .inr (.inl sk0)))] sz)) (0) (0) (va_A [(h0, .inr (10, [.ref (q 0), .int i_size, .ref (q 1), .ref (q 2), .int i_words, .int i_next, .int i_open, .int i_stood, .ref (q 3), .ref (q 4), .ref (q 5), .int i_nodes, .int i_half, .int i_made, .ref (q 6), .ref (q 7), .ref (q 8), .ref (q 9), .ref (q 10), .ref (q 11), .int i_rows, .ref (q 12), .ref (q 13), .ref (q 14), .int i_state, .ref (q 15), .ref (q 16), .ref (q 17), .int i_tested, .ref (q 18), .ref wa, .int i_length])), (q 3, .inl (cy 1, 6000, .inl W0)), (q 4, .inl (cy 1, 6000, .inl F0_)), (q 5, .inl (cy 1, 6000, .inl S0)), (q 16, .inl (cy 2, 71680, .inr (.inl sk0)))] sz)

set_option maxHeartbeats 4000000 in
set_option maxRecDepth 100000 in
/-- table: of the tree at n -/
theorem c_M_table_s (l : Launch) (D : va_G) (cy : Nat → ClassId) (e : Nat → Nat) (d : Nat) (hrec : TabC l D cy e d) (h0 : Nat) (q : Nat → Nat) (wa : Nat) (i_size : Int32) (i_words : Int32) (i_next : Int32) (i_open : Int32) (i_stood : Int32) (i_nodes : Int32) (i_half : Int32) (i_made : Int32) (i_rows : Int32) (i_state : Int32) (i_tested : Int32) (i_length : Int32) (W0 : Nat → Int32) (F0_ : Nat → Int32) (S0 : Nat → Int32) (sk0 : Nat → Int64) (rd : Nat) (lo : Nat) (n : Nat) (av : Nat) (sz : Nat) (ht : tr W0 F0_ S0 (d + 1) rd lo n) (hn : n < 6000) (hav : av + rd < 70) : Met l yX9_table wsX9_table ({ frames := (d + 1) + 1, cells := 0, slots := 0, locals := 28 * (d + 1) + 21 }) (va_Pc [.ref h0, .int (nI n), .int (nI av)] (mt_B D cy e [(h0, .inr (10, [.ref (q 0), .int i_size, .ref (q 1), .ref (q 2), .int i_words, .int i_next, .int i_open, .int i_stood, .ref (q 3), .ref (q 4), .ref (q 5), .int i_nodes, .int i_half, .int i_made, .ref (q 6), .ref (q 7), .ref (q 8), .ref (q 9), .ref (q 10), .ref (q 11), .int i_rows, .ref (q 12), .ref (q 13), .ref (q 14), .int i_state, .ref (q 15), .ref (q 16), .ref (q 17), .int i_tested, .ref (q 18), .ref wa, .int i_length])), (q 3, .inl (cy 1, 6000, .inl W0)), (q 4, .inl (cy 1, 6000, .inl F0_)), (q 5, .inl (cy 1, 6000, .inl S0)), (q 16, .inl (cy 2, 71680, .inr (.inl sk0)))] sz)) (va_Qv (fun (sk2 : (Nat → Int64)) => (∀ w, w < 1024 → sk2 (1024 * av + w) = fp_tv W0 F0_ S0 (bsg w) (d + 1) n) ∧ (∀ j, j < 1024 * av → sk2 j = sk0 j)) (mt_Q D (fun sk2 => [(h0, .inr (10, [.ref (q 0), .int i_size, .ref (q 1), .ref (q 2), .int i_words, .int i_next, .int i_open, .int i_stood, .ref (q 3), .ref (q 4), .ref (q 5), .int i_nodes, .int i_half, .int i_made, .ref (q 6), .ref (q 7), .ref (q 8), .ref (q 9), .ref (q 10), .ref (q 11), .int i_rows, .ref (q 12), .ref (q 13), .ref (q 14), .int i_state, .ref (q 15), .ref (q 16), .ref (q 17), .int i_tested, .ref (q 18), .ref wa, .int i_length])), (q 3, .inl (cy 1, 6000, .inl W0)), (q 4, .inl (cy 1, 6000, .inl F0_)), (q 5, .inl (cy 1, 6000, .inl S0)), (q 16, .inl (cy 2, 71680, .inr (.inl sk2)))]) (va_A [(h0, .inr (10, [.ref (q 0), .int i_size, .ref (q 1), .ref (q 2), .int i_words, .int i_next, .int i_open, .int i_stood, .ref (q 3), .ref (q 4), .ref (q 5), .int i_nodes, .int i_half, .int i_made, .ref (q 6), .ref (q 7), .ref (q 8), .ref (q 9), .ref (q 10), .ref (q 11), .int i_rows, .ref (q 12), .ref (q 13), .ref (q 14), .int i_state, .ref (q 15), .ref (q 16), .ref (q 17), .int i_tested, .ref (q 18), .ref wa, .int i_length])), (q 3, .inl (cy 1, 6000, .inl W0)), (q 4, .inl (cy 1, 6000, .inl F0_)), (q 5, .inl (cy 1, 6000, .inl S0)), (q 16, .inl (cy 2, 71680, .inr (.inl sk0)))] sz)) (va_A [(h0, .inr (10, [.ref (q 0), .int i_size, .ref (q 1), .ref (q 2), .int i_words, .int i_next, .int i_open, .int i_stood, .ref (q 3), .ref (q 4), .ref (q 5), .int i_nodes, .int i_half, .int i_made, .ref (q 6), .ref (q 7), .ref (q 8), .ref (q 9), .ref (q 10), .ref (q 11), .int i_rows, .ref (q 12), .ref (q 13), .ref (q 14), .int i_state, .ref (q 15), .ref (q 16), .ref (q 17), .int i_tested, .ref (q 18), .ref wa, .int i_length])), (q 3, .inl (cy 1, 6000, .inl W0)), (q 4, .inl (cy 1, 6000, .inl F0_)), (q 5, .inl (cy 1, 6000, .inl S0)), (q 16, .inl (cy 2, 71680, .inr (.inl sk0)))] sz)) (0) (0) (va_A [(h0, .inr (10, [.ref (q 0), .int i_size, .ref (q 1), .ref (q 2), .int i_words, .int i_next, .int i_open, .int i_stood, .ref (q 3), .ref (q 4), .ref (q 5), .int i_nodes, .int i_half, .int i_made, .ref (q 6), .ref (q 7), .ref (q 8), .ref (q 9), .ref (q 10), .ref (q 11), .int i_rows, .ref (q 12), .ref (q 13), .ref (q 14), .int i_state, .ref (q 15), .ref (q 16), .ref (q 17), .int i_tested, .ref (q 18), .ref wa, .int i_length])), (q 3, .inl (cy 1, 6000, .inl W0)), (q 4, .inl (cy 1, 6000, .inl F0_)), (q 5, .inl (cy 1, 6000, .inl S0)), (q 16, .inl (cy 2, 71680, .inr (.inl sk0)))] sz) := by
  refine Met.ofW (cc := cX9_table) (maxL := 9) (ret := none) (by decide) rfl ?_
  intro p ev s m args below meth c s₁ B hml hv
  obtain ⟨rfl, hsz, hP, hK, hD0, hG⟩ := hv
  have hx := B.exec
  have hb := B.bytes
  have hr := B.returns
  have hts := atoms_spec (ws := wsX9_table) B.pre
  have hown : s.vm.findClass RX9 = some m.cls := findClass_of_methodNamed B.named
  have hlocks := B.notSynchronized
  subst hsz
  have hD := hD0.self (sz := s.heap.size)
  generalize hAe : va_A [(h0, .inr (10, [.ref (q 0), .int i_size, .ref (q 1), .ref (q 2), .int i_words, .int i_next, .int i_open, .int i_stood, .ref (q 3), .ref (q 4), .ref (q 5), .int i_nodes, .int i_half, .int i_made, .ref (q 6), .ref (q 7), .ref (q 8), .ref (q 9), .ref (q 10), .ref (q 11), .int i_rows, .ref (q 12), .ref (q 13), .ref (q 14), .int i_state, .ref (q 15), .ref (q 16), .ref (q 17), .int i_tested, .ref (q 18), .ref wa, .int i_length])), (q 3, .inl (cy 1, 6000, .inl W0)), (q 4, .inl (cy 1, 6000, .inl F0_)), (q 5, .inl (cy 1, 6000, .inl S0)), (q 16, .inl (cy 2, 71680, .inr (.inl sk0)))] s.heap.size = A at hD hG ⊢
  have hA : ∀ q : Nat, s.heap.size ≤ q → A q := fun q h => by rw [← hAe]; exact Or.inr h
  have hS : va_S A s.heap s.heap [] := va_S.rf
  have hP : va_P D vwCl [(h0, .inr (10, [.ref (q 0), .int i_size, .ref (q 1), .ref (q 2), .int i_words, .int i_next, .int i_open, .int i_stood, .ref (q 3), .ref (q 4), .ref (q 5), .int i_nodes, .int i_half, .int i_made, .ref (q 6), .ref (q 7), .ref (q 8), .ref (q 9), .ref (q 10), .ref (q 11), .int i_rows, .ref (q 12), .ref (q 13), .ref (q 14), .int i_state, .ref (q 15), .ref (q 16), .ref (q 17), .int i_tested, .ref (q 18), .ref wa, .int i_length])), (q 3, .inl (cy 1, 6000, .inl W0)), (q 4, .inl (cy 1, 6000, .inl F0_)), (q 5, .inl (cy 1, 6000, .inl S0)), (q 16, .inl (cy 2, 71680, .inr (.inl sk0)))] s.heap := hP
  have iX9 : ∀ w ∈ wsX90, w ∈ wsX9_table := fun w h => List.mem_cons_of_mem _ (List.mem_append_right _ h)
  have hl := lv_entry ([.ref h0, .int (nI n), .int (nI av)]) (n := 9) (Nat.le_of_ble_eq_true rfl)
  rw [lg_entry_eq]
  generalize (lg_sl ([.ref h0, .int (nI n), .int (nI av)]) ++ List.replicate (9 - (lg_sl ([.ref h0, .int (nI n), .int (nI av)])).length) Slot.unset).toArray = ls at hl ⊢
  have hl : lv_has ls 9 [(0, .ref h0), (1, .int (nI n)), (2, .int (nI av))] := hl
  refine lv_aload_n hx hb dX9_table_0 rfl (lv_at hl 0 rfl) ?_
  refine va_get (D := D) (ci := 10) (v := .ref (q 3)) (C := RX9) (T := TX9) (N := 32) hx hb hts iX9 hown hK hP 0 rfl rfl 8 (by decide) (hts (.fieldLink RX9 20 "InterlockTablesModel" "whats" "[I") (by decide +kernel)) (fun _ h9 => h9) rfl dX9_table_1 ?_
  refine lv_iload_n hx hb dX9_table_4 rfl (lv_at hl 1 rfl) ?_
  refine va_iald hx hb hK hP 1 1 rfl rfl (vp_in_nI (by omega) (by omega)) dX9_table_5 ?_
  refine lv_topi (fun x_1 ex_1 => ?_)
  obtain rfl : x_1 = W0 n := by rw [ex_1]; rw [nI_clamp (by omega)]
  refine lv_istore_n (lv' := [(3, .int (W0 n)), (0, .ref h0), (1, .int (nI n)), (2, .int (nI av))]) hx hb dX9_table_6 rfl hl (by decide) rfl (fun ls hl => ?_)
  rcases ht with ⟨hlo, cc, hcc, hWn⟩ | ⟨hWn, hlo, hF, hT⟩ | ⟨hWn, hrd, k, hk1, hk2, hF, hSn, hT1, hT2⟩
  · have hl : lv_has ls 9 [(3, .int (nI cc)), (0, .ref h0), (1, .int (nI n)), (2, .int (nI av))] := by rw [hWn] at hl; exact hl
    refine lv_iload_n hx hb dX9_table_7 rfl (lv_at hl 0 rfl) ?_
    refine lv_bipush (v := 16) hx hb dX9_table_8 (by decide +kernel) ?_
    refine lv_icmp_ne (tgt := 74) hx hb dX9_table_10 (by decide) (fun _ => ?_) (fun c10 => absurd c10 (cc_ne hcc))
    refine lv_iload_n hx hb dX9_table_74 rfl (lv_at hl 0 rfl) ?_
    refine lv_bipush (v := 16) hx hb dX9_table_75 (by decide +kernel) ?_
    refine lv_icmp_ge (tgt := 119) hx hb dX9_table_77 (by decide) (fun c77 => absurd c77 (cc_lt hcc)) (fun _ => ?_)
    refine lv_iconst (v := 0) hx hb dX9_table_80 (by decide +kernel) ?_
    refine lv_topi (fun x_2 ex_2 => ?_)
    obtain rfl : x_2 = nI 0 := by rw [ex_2]; exact nI_0.symm
    refine lv_istore (lv' := [(4, .int (nI 0)), (3, .int (nI cc)), (0, .ref h0), (1, .int (nI n)), (2, .int (nI av))]) hx hb dX9_table_81 hl (by decide) rfl (fun ls hl => ?_)
    refine lp_W (σ := Nat × (Nat → Int64)) (Wf := fun H locs ls => W p l ev _ s m _ below meth c H locs (0) (0) _ (F0 m 83 ls [])) (fun zz9 H locs ls => match zz9 with | (w, sk1) => va_P D vwCl [(h0, .inr (10, [.ref (q 0), .int i_size, .ref (q 1), .ref (q 2), .int i_words, .int i_next, .int i_open, .int i_stood, .ref (q 3), .ref (q 4), .ref (q 5), .int i_nodes, .int i_half, .int i_made, .ref (q 6), .ref (q 7), .ref (q 8), .ref (q 9), .ref (q 10), .ref (q 11), .int i_rows, .ref (q 12), .ref (q 13), .ref (q 14), .int i_state, .ref (q 15), .ref (q 16), .ref (q 17), .int i_tested, .ref (q 18), .ref wa, .int i_length])), (q 3, .inl (cy 1, 6000, .inl W0)), (q 4, .inl (cy 1, 6000, .inl F0_)), (q 5, .inl (cy 1, 6000, .inl S0)), (q 16, .inl (cy 2, 71680, .inr (.inl sk1)))] H ∧ va_D A [(h0, .inr (10, [.ref (q 0), .int i_size, .ref (q 1), .ref (q 2), .int i_words, .int i_next, .int i_open, .int i_stood, .ref (q 3), .ref (q 4), .ref (q 5), .int i_nodes, .int i_half, .int i_made, .ref (q 6), .ref (q 7), .ref (q 8), .ref (q 9), .ref (q 10), .ref (q 11), .int i_rows, .ref (q 12), .ref (q 13), .ref (q 14), .int i_state, .ref (q 15), .ref (q 16), .ref (q 17), .int i_tested, .ref (q 18), .ref wa, .int i_length])), (q 3, .inl (cy 1, 6000, .inl W0)), (q 4, .inl (cy 1, 6000, .inl F0_)), (q 5, .inl (cy 1, 6000, .inl S0)), (q 16, .inl (cy 2, 71680, .inr (.inl sk1)))] ∧ va_S A s.heap H locs ∧ lv_has ls 9 [(4, .int (nI w)), (3, .int (nI cc)), (0, .ref h0), (1, .int (nI n)), (2, .int (nI av))] ∧ (w ≤ 1024 ∧ tbI av w sk0 sk1 (fun w9 => bsg w9 cc) (fun w9 => sk0 (1024 * av + w9)))) (fun zz9 => match zz9 with | (w, sk1) => 1024 - w) ?_ (0, sk0) _ _ ls ⟨hP, hD, hS, lv_sub hl [0, 1, 2, 3, 4] rfl, ⟨Nat.zero_le _, tbI_0 (fun _ _ => rfl) (fun _ _ => rfl)⟩⟩
    intro zz9 H locs ls hI ih
    obtain ⟨w, sk1⟩ := zz9
    obtain ⟨hP, hD, hS, hl, hI⟩ := hI
    have ih83 := ih
    have hI83 := hI
    have hP : va_P D vwCl [(h0, .inr (10, [.ref (q 0), .int i_size, .ref (q 1), .ref (q 2), .int i_words, .int i_next, .int i_open, .int i_stood, .ref (q 3), .ref (q 4), .ref (q 5), .int i_nodes, .int i_half, .int i_made, .ref (q 6), .ref (q 7), .ref (q 8), .ref (q 9), .ref (q 10), .ref (q 11), .int i_rows, .ref (q 12), .ref (q 13), .ref (q 14), .int i_state, .ref (q 15), .ref (q 16), .ref (q 17), .int i_tested, .ref (q 18), .ref wa, .int i_length])), (q 3, .inl (cy 1, 6000, .inl W0)), (q 4, .inl (cy 1, 6000, .inl F0_)), (q 5, .inl (cy 1, 6000, .inl S0)), (q 16, .inl (cy 2, 71680, .inr (.inl sk1)))] H := hP
    have hD : va_D A [(h0, .inr (10, [.ref (q 0), .int i_size, .ref (q 1), .ref (q 2), .int i_words, .int i_next, .int i_open, .int i_stood, .ref (q 3), .ref (q 4), .ref (q 5), .int i_nodes, .int i_half, .int i_made, .ref (q 6), .ref (q 7), .ref (q 8), .ref (q 9), .ref (q 10), .ref (q 11), .int i_rows, .ref (q 12), .ref (q 13), .ref (q 14), .int i_state, .ref (q 15), .ref (q 16), .ref (q 17), .int i_tested, .ref (q 18), .ref wa, .int i_length])), (q 3, .inl (cy 1, 6000, .inl W0)), (q 4, .inl (cy 1, 6000, .inl F0_)), (q 5, .inl (cy 1, 6000, .inl S0)), (q 16, .inl (cy 2, 71680, .inr (.inl sk1)))] := hD
    have hl : lv_has ls 9 [(4, .int (nI w)), (3, .int (nI cc)), (0, .ref h0), (1, .int (nI n)), (2, .int (nI av))] := hl
    obtain ⟨hI1, hI2⟩ := hI
    refine lv_iload hx hb dX9_table_83 (lv_at hl 0 rfl) ?_
    refine lv_sipush (v := 1024) hx hb dX9_table_85 (by decide +kernel) ?_
    refine lv_icmp_ge (tgt := 116) hx hb dX9_table_88 (by decide) (fun c88 => ?_) (fun c88 => ?_)
    · have hge : 1024 ≤ w := (nI_leI (a := 1024) (by decide) (by omega)).mp c88
      refine lv_goto (tgt := 224) hx hb dX9_table_116 (by decide) ?_
      have hP9 : va_P D vwCl [(h0, .inr (10, [.ref (q 0), .int i_size, .ref (q 1), .ref (q 2), .int i_words, .int i_next, .int i_open, .int i_stood, .ref (q 3), .ref (q 4), .ref (q 5), .int i_nodes, .int i_half, .int i_made, .ref (q 6), .ref (q 7), .ref (q 8), .ref (q 9), .ref (q 10), .ref (q 11), .int i_rows, .ref (q 12), .ref (q 13), .ref (q 14), .int i_state, .ref (q 15), .ref (q 16), .ref (q 17), .int i_tested, .ref (q 18), .ref wa, .int i_length])), (q 3, .inl (cy 1, 6000, .inl W0)), (q 4, .inl (cy 1, 6000, .inl F0_)), (q 5, .inl (cy 1, 6000, .inl S0)), (q 16, .inl (cy 2, 71680, .inr (.inl sk1)))] H := hP.sub [0, 1, 2, 3, 4] rfl
      have hD9 : va_D A [(h0, .inr (10, [.ref (q 0), .int i_size, .ref (q 1), .ref (q 2), .int i_words, .int i_next, .int i_open, .int i_stood, .ref (q 3), .ref (q 4), .ref (q 5), .int i_nodes, .int i_half, .int i_made, .ref (q 6), .ref (q 7), .ref (q 8), .ref (q 9), .ref (q 10), .ref (q 11), .int i_rows, .ref (q 12), .ref (q 13), .ref (q 14), .int i_state, .ref (q 15), .ref (q 16), .ref (q 17), .int i_tested, .ref (q 18), .ref wa, .int i_length])), (q 3, .inl (cy 1, 6000, .inl W0)), (q 4, .inl (cy 1, 6000, .inl F0_)), (q 5, .inl (cy 1, 6000, .inl S0)), (q 16, .inl (cy 2, 71680, .inr (.inl sk1)))] := hD.sub [0, 1, 2, 3, 4] (by decide) rfl
      refine W.widen (k := 0) (n := 0) (by omega) (by omega) ?_
      exact W.vret hx hb hr (fun t ht hW => ⟨⟨sk1, rfl, ⟨fun w9 h9 => (tbI_e hI2 hge w9 h9).trans (tv_leaf hWn hcc).symm, hI2.2⟩, by rw [ht]; exact hP9, hD9⟩, hS.F ht⟩) hS.2.2 dX9_table_224
    · have hw1024 : w < 1024 := pk_nle (a := 1024) (by omega) c88
      refine lv_aload_n hx hb dX9_table_91 rfl (lv_at hl 2 rfl) ?_
      refine va_get (D := D) (ci := 10) (v := .ref (q 16)) (C := RX9) (T := TX9) (N := 32) hx hb hts iX9 hown hK hP 0 rfl rfl 26 (by decide) (hts (.fieldLink RX9 63 "InterlockTablesModel" "stack" "[J") (by decide +kernel)) (fun _ h9 => h9) rfl dX9_table_92 ?_
      refine lv_sipush (v := 1024) hx hb dX9_table_95 (by decide +kernel) ?_
      refine lv_iload_n hx hb dX9_table_98 rfl (lv_at hl 4 rfl) ?_
      refine lv_imul hx hb dX9_table_99 ?_
      refine lv_topi (fun x_3 ex_3 => ?_)
      obtain rfl : x_3 = nI (1024 * av) := by rw [ex_3]; exact pk_mul 1024 av
      refine lv_iload hx hb dX9_table_100 (lv_at hl 0 rfl) ?_
      refine lv_iadd hx hb dX9_table_102 ?_
      refine lv_topi (fun x_4 ex_4 => ?_)
      obtain rfl : x_4 = nI (1024 * av + w) := by rw [ex_4]; exact nI_add _ _
      refine lv_iload_n hx hb dX9_table_103 rfl (lv_at hl 1 rfl) ?_
      refine lv_iload hx hb dX9_table_104 (lv_at hl 0 rfl) ?_
      refine pu_calll (va_runS (As := [.int (nI cc), .int (nI w)]) (rest := [.int (nI (1024 * av + w)), .ref (q 16)]) ⟨hx, hb, hml, hown, hts⟩ (c_M_bits l D cy e cc w hcc) (va_cwS 2 hts gX9_table_X9_bits rfl rfl rfl (by decide +kernel) ⟨show 0 + 1 ≤ (d + 1) + 1 from by omega, show 8 + (2 + 11) + (0) ≤ 28 * (d + 1) + 21 from by omega⟩) (pu_preS hP hK hS hG [] rfl) rfl rfl hl.1 rfl (lv_room (Nat.le_of_ble_eq_true rfl)) dX9_table_106 ⟨(Nat.le_of_ble_eq_true rfl), (Nat.le_of_ble_eq_true rfl)⟩) hP hS (fun H locs hP hS => ?_)
      have hP : va_P D vwCl [(h0, .inr (10, [.ref (q 0), .int i_size, .ref (q 1), .ref (q 2), .int i_words, .int i_next, .int i_open, .int i_stood, .ref (q 3), .ref (q 4), .ref (q 5), .int i_nodes, .int i_half, .int i_made, .ref (q 6), .ref (q 7), .ref (q 8), .ref (q 9), .ref (q 10), .ref (q 11), .int i_rows, .ref (q 12), .ref (q 13), .ref (q 14), .int i_state, .ref (q 15), .ref (q 16), .ref (q 17), .int i_tested, .ref (q 18), .ref wa, .int i_length])), (q 3, .inl (cy 1, 6000, .inl W0)), (q 4, .inl (cy 1, 6000, .inl F0_)), (q 5, .inl (cy 1, 6000, .inl S0)), (q 16, .inl (cy 2, 71680, .inr (.inl sk1)))] H := hP
      refine va_last hx hb hK hP hD hS 4 2 rfl rfl (vp_in_nI (by omega) (by omega)) dX9_table_109 (fun H locs hP hD hS => ?_)
      have hP : va_P D vwCl [(h0, .inr (10, [.ref (q 0), .int i_size, .ref (q 1), .ref (q 2), .int i_words, .int i_next, .int i_open, .int i_stood, .ref (q 3), .ref (q 4), .ref (q 5), .int i_nodes, .int i_half, .int i_made, .ref (q 6), .ref (q 7), .ref (q 8), .ref (q 9), .ref (q 10), .ref (q 11), .int i_rows, .ref (q 12), .ref (q 13), .ref (q 14), .int i_state, .ref (q 15), .ref (q 16), .ref (q 17), .int i_tested, .ref (q 18), .ref wa, .int i_length])), (q 3, .inl (cy 1, 6000, .inl W0)), (q 4, .inl (cy 1, 6000, .inl F0_)), (q 5, .inl (cy 1, 6000, .inl S0)), (q 16, .inl (cy 2, 71680, .inr (.inl (vp_updL sk1 (nI (1024 * av + w)).toNatClampNeg (bsg w cc)))))] H := hP
      have hD : va_D A [(h0, .inr (10, [.ref (q 0), .int i_size, .ref (q 1), .ref (q 2), .int i_words, .int i_next, .int i_open, .int i_stood, .ref (q 3), .ref (q 4), .ref (q 5), .int i_nodes, .int i_half, .int i_made, .ref (q 6), .ref (q 7), .ref (q 8), .ref (q 9), .ref (q 10), .ref (q 11), .int i_rows, .ref (q 12), .ref (q 13), .ref (q 14), .int i_state, .ref (q 15), .ref (q 16), .ref (q 17), .int i_tested, .ref (q 18), .ref wa, .int i_length])), (q 3, .inl (cy 1, 6000, .inl W0)), (q 4, .inl (cy 1, 6000, .inl F0_)), (q 5, .inl (cy 1, 6000, .inl S0)), (q 16, .inl (cy 2, 71680, .inr (.inl (vp_updL sk1 (nI (1024 * av + w)).toNatClampNeg (bsg w cc)))))] := hD
      have ef_109 : (vp_updL sk1 (nI (1024 * av + w)).toNatClampNeg (bsg w cc)) = (vp_updL sk1 (1024 * av + w) (bsg w cc)) := by rw [nI_clamp (by omega)]
      rw [ef_109] at hP hD
      refine lv_iinc (v := nI (w + 1)) (lv' := [(4, .int (nI (w + 1))), (3, .int (nI cc)), (0, .ref h0), (1, .int (nI n)), (2, .int (nI av))]) hx hb dX9_table_110 hl (k := 0) rfl (nI_1 w) (by decide) rfl (fun ls hl => ?_)
      refine lv_goto (tgt := 83) hx hb dX9_table_113 (by decide) ?_
      exact ih83 ((w + 1), (vp_updL sk1 (1024 * av + w) (bsg w cc))) _ _ ls ⟨hP.sub [0, 1, 2, 3, 4] rfl, hD.sub [0, 1, 2, 3, 4] (by decide) rfl, hS, lv_sub hl [0, 1, 2, 3, 4] rfl, ⟨by omega, tbI_s hI2 hw1024 rfl⟩⟩ (by (try dsimp only); omega)
  · have hl : lv_has ls 9 [(3, .int 16), (0, .ref h0), (1, .int (nI n)), (2, .int (nI av))] := by rw [hWn] at hl; exact hl
    refine lv_iload_n hx hb dX9_table_7 rfl (lv_at hl 0 rfl) ?_
    refine lv_bipush (v := 16) hx hb dX9_table_8 (by decide +kernel) ?_
    refine lv_icmp_ne (tgt := 74) hx hb dX9_table_10 (by decide) (fun c10 => absurd rfl c10) (fun _ => ?_)
    refine lv_aload_n hx hb dX9_table_13 rfl (lv_at hl 1 rfl) ?_
    refine lv_aload_n hx hb dX9_table_14 rfl (lv_at hl 1 rfl) ?_
    refine va_get (D := D) (ci := 10) (v := .ref (q 4)) (C := RX9) (T := TX9) (N := 32) hx hb hts iX9 hown hK hP 0 rfl rfl 9 (by decide) (hts (.fieldLink RX9 23 "InterlockTablesModel" "firsts" "[I") (by decide +kernel)) (fun _ h9 => h9) rfl dX9_table_15 ?_
    refine lv_iload_n hx hb dX9_table_18 rfl (lv_at hl 2 rfl) ?_
    refine va_iald hx hb hK hP 2 1 rfl rfl (vp_in_nI (by omega) (by omega)) dX9_table_19 ?_
    refine lv_topi (fun x_5 ex_5 => ?_)
    obtain rfl : x_5 = nI (n - 1) := by rw [ex_5]; rw [nI_clamp (by omega)]; exact hF
    refine lv_iload_n hx hb dX9_table_20 rfl (lv_at hl 3 rfl) ?_
    refine mt_callv (wr := []) (va_runV (As := [.int (nI (n - 1)), .int (nI av)]) (rest := []) ⟨hx, hb, hml, hown, hts⟩ (hrec h0 q wa i_size i_words i_next i_open i_stood i_nodes i_half i_made i_rows i_state i_tested i_length W0 F0_ S0 sk0 rd lo (n - 1) av s.heap.size hT (by omega) (by omega)) (cwV 2 hts gX9_table_X9_table rfl rfl rfl (by decide +kernel) ⟨show d + 1 + 1 ≤ (d + 1) + 1 from by omega, show 8 + (9 + 11) + (28 * d + 21) ≤ 28 * (d + 1) + 21 from by omega⟩) (mt_preV hP hD hK hS hA hG [0, 1, 2, 3, 4] rfl (by decide) (q := (RX9, TX9, 32)) (ci := 10) (q0 := 0) rfl rfl) rfl rfl hl.1 rfl (lv_room (Nat.le_of_ble_eq_true rfl)) dX9_table_21 ⟨(Nat.le_of_ble_eq_true rfl), (Nat.le_of_ble_eq_true rfl)⟩) hP hD hS hA [0, 1, 2, 3, 4] [] rfl rfl (by decide) (by decide) (fun u H locs hw hP hD hS => ?_)
    obtain ⟨sk2_21, rfl⟩ : ∃ z, z = u := ⟨_, rfl⟩
    have hP : va_P D vwCl [(h0, .inr (10, [.ref (q 0), .int i_size, .ref (q 1), .ref (q 2), .int i_words, .int i_next, .int i_open, .int i_stood, .ref (q 3), .ref (q 4), .ref (q 5), .int i_nodes, .int i_half, .int i_made, .ref (q 6), .ref (q 7), .ref (q 8), .ref (q 9), .ref (q 10), .ref (q 11), .int i_rows, .ref (q 12), .ref (q 13), .ref (q 14), .int i_state, .ref (q 15), .ref (q 16), .ref (q 17), .int i_tested, .ref (q 18), .ref wa, .int i_length])), (q 3, .inl (cy 1, 6000, .inl W0)), (q 4, .inl (cy 1, 6000, .inl F0_)), (q 5, .inl (cy 1, 6000, .inl S0)), (q 16, .inl (cy 2, 71680, .inr (.inl sk2_21)))] H := hP
    have hD : va_D A [(h0, .inr (10, [.ref (q 0), .int i_size, .ref (q 1), .ref (q 2), .int i_words, .int i_next, .int i_open, .int i_stood, .ref (q 3), .ref (q 4), .ref (q 5), .int i_nodes, .int i_half, .int i_made, .ref (q 6), .ref (q 7), .ref (q 8), .ref (q 9), .ref (q 10), .ref (q 11), .int i_rows, .ref (q 12), .ref (q 13), .ref (q 14), .int i_state, .ref (q 15), .ref (q 16), .ref (q 17), .int i_tested, .ref (q 18), .ref wa, .int i_length])), (q 3, .inl (cy 1, 6000, .inl W0)), (q 4, .inl (cy 1, 6000, .inl F0_)), (q 5, .inl (cy 1, 6000, .inl S0)), (q 16, .inl (cy 2, 71680, .inr (.inl sk2_21)))] := hD
    replace hw : (∀ w, w < 1024 → sk2_21 (1024 * av + w) = fp_tv W0 F0_ S0 (bsg w) d (n - 1)) ∧ (∀ j, j < 1024 * av → sk2_21 j = sk0 j) := hw
    refine W.widen (k := 0) (n := 0) (by omega) (by omega) ?_
    have hw21 := hw
    refine lv_iconst (v := 0) hx hb dX9_table_24 (by decide +kernel) ?_
    refine lv_topi (fun x_6 ex_6 => ?_)
    obtain rfl : x_6 = nI 0 := by rw [ex_6]; exact nI_0.symm
    refine lv_istore (lv' := [(4, .int (nI 0)), (3, .int 16), (0, .ref h0), (1, .int (nI n)), (2, .int (nI av))]) hx hb dX9_table_25 hl (by decide) rfl (fun ls hl => ?_)
    refine lp_W (σ := Nat × (Nat → Int64)) (Wf := fun H locs ls => W p l ev _ s m _ below meth c H locs (0) (0) _ (F0 m 27 ls [])) (fun zz9 H locs ls => match zz9 with | (w, sk1) => va_P D vwCl [(h0, .inr (10, [.ref (q 0), .int i_size, .ref (q 1), .ref (q 2), .int i_words, .int i_next, .int i_open, .int i_stood, .ref (q 3), .ref (q 4), .ref (q 5), .int i_nodes, .int i_half, .int i_made, .ref (q 6), .ref (q 7), .ref (q 8), .ref (q 9), .ref (q 10), .ref (q 11), .int i_rows, .ref (q 12), .ref (q 13), .ref (q 14), .int i_state, .ref (q 15), .ref (q 16), .ref (q 17), .int i_tested, .ref (q 18), .ref wa, .int i_length])), (q 3, .inl (cy 1, 6000, .inl W0)), (q 4, .inl (cy 1, 6000, .inl F0_)), (q 5, .inl (cy 1, 6000, .inl S0)), (q 16, .inl (cy 2, 71680, .inr (.inl sk1)))] H ∧ va_D A [(h0, .inr (10, [.ref (q 0), .int i_size, .ref (q 1), .ref (q 2), .int i_words, .int i_next, .int i_open, .int i_stood, .ref (q 3), .ref (q 4), .ref (q 5), .int i_nodes, .int i_half, .int i_made, .ref (q 6), .ref (q 7), .ref (q 8), .ref (q 9), .ref (q 10), .ref (q 11), .int i_rows, .ref (q 12), .ref (q 13), .ref (q 14), .int i_state, .ref (q 15), .ref (q 16), .ref (q 17), .int i_tested, .ref (q 18), .ref wa, .int i_length])), (q 3, .inl (cy 1, 6000, .inl W0)), (q 4, .inl (cy 1, 6000, .inl F0_)), (q 5, .inl (cy 1, 6000, .inl S0)), (q 16, .inl (cy 2, 71680, .inr (.inl sk1)))] ∧ va_S A s.heap H locs ∧ lv_has ls 9 [(4, .int (nI w)), (3, .int 16), (0, .ref h0), (1, .int (nI n)), (2, .int (nI av))] ∧ (w ≤ 1024 ∧ tbI av w sk0 sk1 (fun w9 => fp_tv W0 F0_ S0 (bsg w9) d (n - 1) ^^^ (-1)) (fun w9 => fp_tv W0 F0_ S0 (bsg w9) d (n - 1)))) (fun zz9 => match zz9 with | (w, sk1) => 1024 - w) ?_ (0, sk2_21) _ _ ls ⟨hP, hD, hS, lv_sub hl [0, 1, 2, 3, 4] rfl, ⟨Nat.zero_le _, tbI_0 (fun w9 h9 => hw21.1 w9 h9) hw21.2⟩⟩
    intro zz9 H locs ls hI ih
    obtain ⟨w, sk1⟩ := zz9
    obtain ⟨hP, hD, hS, hl, hI⟩ := hI
    have ih27 := ih
    have hI27 := hI
    have hP : va_P D vwCl [(h0, .inr (10, [.ref (q 0), .int i_size, .ref (q 1), .ref (q 2), .int i_words, .int i_next, .int i_open, .int i_stood, .ref (q 3), .ref (q 4), .ref (q 5), .int i_nodes, .int i_half, .int i_made, .ref (q 6), .ref (q 7), .ref (q 8), .ref (q 9), .ref (q 10), .ref (q 11), .int i_rows, .ref (q 12), .ref (q 13), .ref (q 14), .int i_state, .ref (q 15), .ref (q 16), .ref (q 17), .int i_tested, .ref (q 18), .ref wa, .int i_length])), (q 3, .inl (cy 1, 6000, .inl W0)), (q 4, .inl (cy 1, 6000, .inl F0_)), (q 5, .inl (cy 1, 6000, .inl S0)), (q 16, .inl (cy 2, 71680, .inr (.inl sk1)))] H := hP
    have hD : va_D A [(h0, .inr (10, [.ref (q 0), .int i_size, .ref (q 1), .ref (q 2), .int i_words, .int i_next, .int i_open, .int i_stood, .ref (q 3), .ref (q 4), .ref (q 5), .int i_nodes, .int i_half, .int i_made, .ref (q 6), .ref (q 7), .ref (q 8), .ref (q 9), .ref (q 10), .ref (q 11), .int i_rows, .ref (q 12), .ref (q 13), .ref (q 14), .int i_state, .ref (q 15), .ref (q 16), .ref (q 17), .int i_tested, .ref (q 18), .ref wa, .int i_length])), (q 3, .inl (cy 1, 6000, .inl W0)), (q 4, .inl (cy 1, 6000, .inl F0_)), (q 5, .inl (cy 1, 6000, .inl S0)), (q 16, .inl (cy 2, 71680, .inr (.inl sk1)))] := hD
    have hl : lv_has ls 9 [(4, .int (nI w)), (3, .int 16), (0, .ref h0), (1, .int (nI n)), (2, .int (nI av))] := hl
    obtain ⟨hI1, hI2⟩ := hI
    refine lv_iload hx hb dX9_table_27 (lv_at hl 0 rfl) ?_
    refine lv_sipush (v := 1024) hx hb dX9_table_29 (by decide +kernel) ?_
    refine lv_icmp_ge (tgt := 71) hx hb dX9_table_32 (by decide) (fun c32 => ?_) (fun c32 => ?_)
    · have hge : 1024 ≤ w := (nI_leI (a := 1024) (by decide) (by omega)).mp c32
      refine lv_goto (tgt := 224) hx hb dX9_table_71 (by decide) ?_
      have hP9 : va_P D vwCl [(h0, .inr (10, [.ref (q 0), .int i_size, .ref (q 1), .ref (q 2), .int i_words, .int i_next, .int i_open, .int i_stood, .ref (q 3), .ref (q 4), .ref (q 5), .int i_nodes, .int i_half, .int i_made, .ref (q 6), .ref (q 7), .ref (q 8), .ref (q 9), .ref (q 10), .ref (q 11), .int i_rows, .ref (q 12), .ref (q 13), .ref (q 14), .int i_state, .ref (q 15), .ref (q 16), .ref (q 17), .int i_tested, .ref (q 18), .ref wa, .int i_length])), (q 3, .inl (cy 1, 6000, .inl W0)), (q 4, .inl (cy 1, 6000, .inl F0_)), (q 5, .inl (cy 1, 6000, .inl S0)), (q 16, .inl (cy 2, 71680, .inr (.inl sk1)))] H := hP.sub [0, 1, 2, 3, 4] rfl
      have hD9 : va_D A [(h0, .inr (10, [.ref (q 0), .int i_size, .ref (q 1), .ref (q 2), .int i_words, .int i_next, .int i_open, .int i_stood, .ref (q 3), .ref (q 4), .ref (q 5), .int i_nodes, .int i_half, .int i_made, .ref (q 6), .ref (q 7), .ref (q 8), .ref (q 9), .ref (q 10), .ref (q 11), .int i_rows, .ref (q 12), .ref (q 13), .ref (q 14), .int i_state, .ref (q 15), .ref (q 16), .ref (q 17), .int i_tested, .ref (q 18), .ref wa, .int i_length])), (q 3, .inl (cy 1, 6000, .inl W0)), (q 4, .inl (cy 1, 6000, .inl F0_)), (q 5, .inl (cy 1, 6000, .inl S0)), (q 16, .inl (cy 2, 71680, .inr (.inl sk1)))] := hD.sub [0, 1, 2, 3, 4] (by decide) rfl
      refine W.widen (k := 0) (n := 0) (by omega) (by omega) ?_
      exact W.vret hx hb hr (fun t ht hW => ⟨⟨sk1, rfl, ⟨fun w9 h9 => (tbI_e hI2 hge w9 h9).trans (tv_not hWn hF (by omega)).symm, hI2.2⟩, by rw [ht]; exact hP9, hD9⟩, hS.F ht⟩) hS.2.2 dX9_table_224
    · have hw1024 : w < 1024 := pk_nle (a := 1024) (by omega) c32
      refine lv_aload_n hx hb dX9_table_35 rfl (lv_at hl 2 rfl) ?_
      refine va_get (D := D) (ci := 10) (v := .ref (q 16)) (C := RX9) (T := TX9) (N := 32) hx hb hts iX9 hown hK hP 0 rfl rfl 26 (by decide) (hts (.fieldLink RX9 63 "InterlockTablesModel" "stack" "[J") (by decide +kernel)) (fun _ h9 => h9) rfl dX9_table_36 ?_
      refine lv_sipush (v := 1024) hx hb dX9_table_39 (by decide +kernel) ?_
      refine lv_iload_n hx hb dX9_table_42 rfl (lv_at hl 4 rfl) ?_
      refine lv_imul hx hb dX9_table_43 ?_
      refine lv_topi (fun x_7 ex_7 => ?_)
      obtain rfl : x_7 = nI (1024 * av) := by rw [ex_7]; exact pk_mul 1024 av
      refine lv_iload hx hb dX9_table_44 (lv_at hl 0 rfl) ?_
      refine lv_iadd hx hb dX9_table_46 ?_
      refine lv_topi (fun x_8 ex_8 => ?_)
      obtain rfl : x_8 = nI (1024 * av + w) := by rw [ex_8]; exact nI_add _ _
      refine lv_aload_n hx hb dX9_table_47 rfl (lv_at hl 2 rfl) ?_
      refine va_get (D := D) (ci := 10) (v := .ref (q 16)) (C := RX9) (T := TX9) (N := 32) hx hb hts iX9 hown hK hP 0 rfl rfl 26 (by decide) (hts (.fieldLink RX9 63 "InterlockTablesModel" "stack" "[J") (by decide +kernel)) (fun _ h9 => h9) rfl dX9_table_48 ?_
      refine lv_sipush (v := 1024) hx hb dX9_table_51 (by decide +kernel) ?_
      refine lv_iload_n hx hb dX9_table_54 rfl (lv_at hl 4 rfl) ?_
      refine lv_imul hx hb dX9_table_55 ?_
      refine lv_topi (fun x_9 ex_9 => ?_)
      obtain rfl : x_9 = nI (1024 * av) := by rw [ex_9]; exact pk_mul 1024 av
      refine lv_iload hx hb dX9_table_56 (lv_at hl 0 rfl) ?_
      refine lv_iadd hx hb dX9_table_58 ?_
      refine lv_topi (fun x_10 ex_10 => ?_)
      obtain rfl : x_10 = nI (1024 * av + w) := by rw [ex_10]; exact nI_add _ _
      refine va_lald hx hb hK hP 4 2 rfl rfl (vp_in_nI (by omega) (by omega)) dX9_table_59 ?_
      refine lv_topl (fun x_11 ex_11 => ?_)
      obtain rfl : x_11 = sk1 (1024 * av + w) := by rw [ex_11]; rw [nI_clamp (by omega)]
      refine lv_ldc2 (v := -1) hx hb hown (hts (.constantLong RX9 186 (-1)) (by decide +kernel)) dX9_table_60 ?_
      refine lv_lxor hx hb dX9_table_63 ?_
      refine va_last hx hb hK hP hD hS 4 2 rfl rfl (vp_in_nI (by omega) (by omega)) dX9_table_64 (fun H locs hP hD hS => ?_)
      have hP : va_P D vwCl [(h0, .inr (10, [.ref (q 0), .int i_size, .ref (q 1), .ref (q 2), .int i_words, .int i_next, .int i_open, .int i_stood, .ref (q 3), .ref (q 4), .ref (q 5), .int i_nodes, .int i_half, .int i_made, .ref (q 6), .ref (q 7), .ref (q 8), .ref (q 9), .ref (q 10), .ref (q 11), .int i_rows, .ref (q 12), .ref (q 13), .ref (q 14), .int i_state, .ref (q 15), .ref (q 16), .ref (q 17), .int i_tested, .ref (q 18), .ref wa, .int i_length])), (q 3, .inl (cy 1, 6000, .inl W0)), (q 4, .inl (cy 1, 6000, .inl F0_)), (q 5, .inl (cy 1, 6000, .inl S0)), (q 16, .inl (cy 2, 71680, .inr (.inl (vp_updL sk1 (nI (1024 * av + w)).toNatClampNeg ((sk1 (1024 * av + w)) ^^^ (-1))))))] H := hP
      have hD : va_D A [(h0, .inr (10, [.ref (q 0), .int i_size, .ref (q 1), .ref (q 2), .int i_words, .int i_next, .int i_open, .int i_stood, .ref (q 3), .ref (q 4), .ref (q 5), .int i_nodes, .int i_half, .int i_made, .ref (q 6), .ref (q 7), .ref (q 8), .ref (q 9), .ref (q 10), .ref (q 11), .int i_rows, .ref (q 12), .ref (q 13), .ref (q 14), .int i_state, .ref (q 15), .ref (q 16), .ref (q 17), .int i_tested, .ref (q 18), .ref wa, .int i_length])), (q 3, .inl (cy 1, 6000, .inl W0)), (q 4, .inl (cy 1, 6000, .inl F0_)), (q 5, .inl (cy 1, 6000, .inl S0)), (q 16, .inl (cy 2, 71680, .inr (.inl (vp_updL sk1 (nI (1024 * av + w)).toNatClampNeg ((sk1 (1024 * av + w)) ^^^ (-1))))))] := hD
      have ef_64 : (vp_updL sk1 (nI (1024 * av + w)).toNatClampNeg ((sk1 (1024 * av + w)) ^^^ (-1))) = (vp_updL sk1 (1024 * av + w) ((sk1 (1024 * av + w)) ^^^ (-1))) := by rw [nI_clamp (by omega)]
      rw [ef_64] at hP hD
      refine lv_iinc (v := nI (w + 1)) (lv' := [(4, .int (nI (w + 1))), (3, .int 16), (0, .ref h0), (1, .int (nI n)), (2, .int (nI av))]) hx hb dX9_table_65 hl (k := 0) rfl (nI_1 w) (by decide) rfl (fun ls hl => ?_)
      refine lv_goto (tgt := 27) hx hb dX9_table_68 (by decide) ?_
      exact ih27 ((w + 1), (vp_updL sk1 (1024 * av + w) ((sk1 (1024 * av + w)) ^^^ (-1)))) _ _ ls ⟨hP.sub [0, 1, 2, 3, 4] rfl, hD.sub [0, 1, 2, 3, 4] (by decide) rfl, hS, lv_sub hl [0, 1, 2, 3, 4] rfl, ⟨by omega, tbI_s hI2 hw1024 (congrArg (fun x9 => x9 ^^^ (-1)) (tbI_b hI2 hw1024))⟩⟩ (by (try dsimp only); omega)
  · rcases hWn with hWn | hWn
    · have hl : lv_has ls 9 [(3, .int 17), (0, .ref h0), (1, .int (nI n)), (2, .int (nI av))] := by rw [hWn] at hl; exact hl
      refine lv_iload_n hx hb dX9_table_7 rfl (lv_at hl 0 rfl) ?_
      refine lv_bipush (v := 16) hx hb dX9_table_8 (by decide +kernel) ?_
      refine lv_icmp_ne (tgt := 74) hx hb dX9_table_10 (by decide) (fun _ => ?_) (fun c10 => absurd c10 (by decide))
      refine lv_iload_n hx hb dX9_table_74 rfl (lv_at hl 0 rfl) ?_
      refine lv_bipush (v := 16) hx hb dX9_table_75 (by decide +kernel) ?_
      refine lv_icmp_ge (tgt := 119) hx hb dX9_table_77 (by decide) (fun _ => ?_) (fun c77 => absurd (by decide) c77)
      refine lv_aload_n hx hb dX9_table_119 rfl (lv_at hl 1 rfl) ?_
      refine lv_aload_n hx hb dX9_table_120 rfl (lv_at hl 1 rfl) ?_
      refine va_get (D := D) (ci := 10) (v := .ref (q 4)) (C := RX9) (T := TX9) (N := 32) hx hb hts iX9 hown hK hP 0 rfl rfl 9 (by decide) (hts (.fieldLink RX9 23 "InterlockTablesModel" "firsts" "[I") (by decide +kernel)) (fun _ h9 => h9) rfl dX9_table_121 ?_
      refine lv_iload_n hx hb dX9_table_124 rfl (lv_at hl 2 rfl) ?_
      refine va_iald hx hb hK hP 2 1 rfl rfl (vp_in_nI (by omega) (by omega)) dX9_table_125 ?_
      refine lv_topi (fun x_12 ex_12 => ?_)
      obtain rfl : x_12 = nI k := by rw [ex_12]; rw [nI_clamp (by omega)]; exact hF
      refine lv_iload_n hx hb dX9_table_126 rfl (lv_at hl 3 rfl) ?_
      refine mt_callv (wr := []) (va_runV (As := [.int (nI k), .int (nI av)]) (rest := []) ⟨hx, hb, hml, hown, hts⟩ (hrec h0 q wa i_size i_words i_next i_open i_stood i_nodes i_half i_made i_rows i_state i_tested i_length W0 F0_ S0 sk0 rd lo k av s.heap.size hT1 (by omega) (by omega)) (cwV 2 hts gX9_table_X9_table rfl rfl rfl (by decide +kernel) ⟨show d + 1 + 1 ≤ (d + 1) + 1 from by omega, show 8 + (9 + 11) + (28 * d + 21) ≤ 28 * (d + 1) + 21 from by omega⟩) (mt_preV hP hD hK hS hA hG [0, 1, 2, 3, 4] rfl (by decide) (q := (RX9, TX9, 32)) (ci := 10) (q0 := 0) rfl rfl) rfl rfl hl.1 rfl (lv_room (Nat.le_of_ble_eq_true rfl)) dX9_table_127 ⟨(Nat.le_of_ble_eq_true rfl), (Nat.le_of_ble_eq_true rfl)⟩) hP hD hS hA [0, 1, 2, 3, 4] [] rfl rfl (by decide) (by decide) (fun u H locs hw hP hD hS => ?_)
      obtain ⟨sk2_127, rfl⟩ : ∃ z, z = u := ⟨_, rfl⟩
      have hP : va_P D vwCl [(h0, .inr (10, [.ref (q 0), .int i_size, .ref (q 1), .ref (q 2), .int i_words, .int i_next, .int i_open, .int i_stood, .ref (q 3), .ref (q 4), .ref (q 5), .int i_nodes, .int i_half, .int i_made, .ref (q 6), .ref (q 7), .ref (q 8), .ref (q 9), .ref (q 10), .ref (q 11), .int i_rows, .ref (q 12), .ref (q 13), .ref (q 14), .int i_state, .ref (q 15), .ref (q 16), .ref (q 17), .int i_tested, .ref (q 18), .ref wa, .int i_length])), (q 3, .inl (cy 1, 6000, .inl W0)), (q 4, .inl (cy 1, 6000, .inl F0_)), (q 5, .inl (cy 1, 6000, .inl S0)), (q 16, .inl (cy 2, 71680, .inr (.inl sk2_127)))] H := hP
      have hD : va_D A [(h0, .inr (10, [.ref (q 0), .int i_size, .ref (q 1), .ref (q 2), .int i_words, .int i_next, .int i_open, .int i_stood, .ref (q 3), .ref (q 4), .ref (q 5), .int i_nodes, .int i_half, .int i_made, .ref (q 6), .ref (q 7), .ref (q 8), .ref (q 9), .ref (q 10), .ref (q 11), .int i_rows, .ref (q 12), .ref (q 13), .ref (q 14), .int i_state, .ref (q 15), .ref (q 16), .ref (q 17), .int i_tested, .ref (q 18), .ref wa, .int i_length])), (q 3, .inl (cy 1, 6000, .inl W0)), (q 4, .inl (cy 1, 6000, .inl F0_)), (q 5, .inl (cy 1, 6000, .inl S0)), (q 16, .inl (cy 2, 71680, .inr (.inl sk2_127)))] := hD
      replace hw : (∀ w, w < 1024 → sk2_127 (1024 * av + w) = fp_tv W0 F0_ S0 (bsg w) d k) ∧ (∀ j, j < 1024 * av → sk2_127 j = sk0 j) := hw
      refine W.widen (k := 0) (n := 0) (by omega) (by omega) ?_
      have hw127 := hw
      refine lv_aload_n hx hb dX9_table_130 rfl (lv_at hl 1 rfl) ?_
      refine lv_aload_n hx hb dX9_table_131 rfl (lv_at hl 1 rfl) ?_
      refine va_get (D := D) (ci := 10) (v := .ref (q 5)) (C := RX9) (T := TX9) (N := 32) hx hb hts iX9 hown hK hP 0 rfl rfl 10 (by decide) (hts (.fieldLink RX9 26 "InterlockTablesModel" "seconds" "[I") (by decide +kernel)) (fun _ h9 => h9) rfl dX9_table_132 ?_
      refine lv_iload_n hx hb dX9_table_135 rfl (lv_at hl 2 rfl) ?_
      refine va_iald hx hb hK hP 3 1 rfl rfl (vp_in_nI (by omega) (by omega)) dX9_table_136 ?_
      refine lv_topi (fun x_13 ex_13 => ?_)
      obtain rfl : x_13 = nI (n - 1) := by rw [ex_13]; rw [nI_clamp (by omega)]; exact hSn
      refine lv_iload_n hx hb dX9_table_137 rfl (lv_at hl 3 rfl) ?_
      refine lv_iconst (v := 1) hx hb dX9_table_138 (by decide +kernel) ?_
      refine lv_iadd hx hb dX9_table_139 ?_
      refine lv_topi (fun x_14 ex_14 => ?_)
      obtain rfl : x_14 = nI (av + 1) := by rw [ex_14]; exact nI_1 av
      refine mt_callv (wr := []) (va_runV (As := [.int (nI (n - 1)), .int (nI (av + 1))]) (rest := []) ⟨hx, hb, hml, hown, hts⟩ (hrec h0 q wa i_size i_words i_next i_open i_stood i_nodes i_half i_made i_rows i_state i_tested i_length W0 F0_ S0 sk2_127 (rd - 1) (k + 1) (n - 1) (av + 1) H.size hT2 (by omega) (by omega)) (cwV 2 hts gX9_table_X9_table rfl rfl rfl (by decide +kernel) ⟨show d + 1 + 1 ≤ (d + 1) + 1 from by omega, show 8 + (9 + 11) + (28 * d + 21) ≤ 28 * (d + 1) + 21 from by omega⟩) (mt_preV hP hD hK hS hA hG [0, 1, 2, 3, 4] rfl (by decide) (q := (RX9, TX9, 32)) (ci := 10) (q0 := 0) rfl rfl) rfl rfl hl.1 rfl (lv_room (Nat.le_of_ble_eq_true rfl)) dX9_table_140 ⟨(Nat.le_of_ble_eq_true rfl), (Nat.le_of_ble_eq_true rfl)⟩) hP hD hS hA [0, 1, 2, 3, 4] [] rfl rfl (by decide) (by decide) (fun u H locs hw hP hD hS => ?_)
      obtain ⟨sk2_140, rfl⟩ : ∃ z, z = u := ⟨_, rfl⟩
      have hP : va_P D vwCl [(h0, .inr (10, [.ref (q 0), .int i_size, .ref (q 1), .ref (q 2), .int i_words, .int i_next, .int i_open, .int i_stood, .ref (q 3), .ref (q 4), .ref (q 5), .int i_nodes, .int i_half, .int i_made, .ref (q 6), .ref (q 7), .ref (q 8), .ref (q 9), .ref (q 10), .ref (q 11), .int i_rows, .ref (q 12), .ref (q 13), .ref (q 14), .int i_state, .ref (q 15), .ref (q 16), .ref (q 17), .int i_tested, .ref (q 18), .ref wa, .int i_length])), (q 3, .inl (cy 1, 6000, .inl W0)), (q 4, .inl (cy 1, 6000, .inl F0_)), (q 5, .inl (cy 1, 6000, .inl S0)), (q 16, .inl (cy 2, 71680, .inr (.inl sk2_140)))] H := hP
      have hD : va_D A [(h0, .inr (10, [.ref (q 0), .int i_size, .ref (q 1), .ref (q 2), .int i_words, .int i_next, .int i_open, .int i_stood, .ref (q 3), .ref (q 4), .ref (q 5), .int i_nodes, .int i_half, .int i_made, .ref (q 6), .ref (q 7), .ref (q 8), .ref (q 9), .ref (q 10), .ref (q 11), .int i_rows, .ref (q 12), .ref (q 13), .ref (q 14), .int i_state, .ref (q 15), .ref (q 16), .ref (q 17), .int i_tested, .ref (q 18), .ref wa, .int i_length])), (q 3, .inl (cy 1, 6000, .inl W0)), (q 4, .inl (cy 1, 6000, .inl F0_)), (q 5, .inl (cy 1, 6000, .inl S0)), (q 16, .inl (cy 2, 71680, .inr (.inl sk2_140)))] := hD
      replace hw : (∀ w, w < 1024 → sk2_140 (1024 * (av + 1) + w) = fp_tv W0 F0_ S0 (bsg w) d (n - 1)) ∧ (∀ j, j < 1024 * (av + 1) → sk2_140 j = sk2_127 j) := hw
      refine W.widen (k := 0) (n := 0) (by omega) (by omega) ?_
      have hw140 := hw
      refine lv_iconst (v := 0) hx hb dX9_table_143 (by decide +kernel) ?_
      refine lv_topi (fun x_15 ex_15 => ?_)
      obtain rfl : x_15 = nI 0 := by rw [ex_15]; exact nI_0.symm
      refine lv_istore (lv' := [(4, .int (nI 0)), (3, .int 17), (0, .ref h0), (1, .int (nI n)), (2, .int (nI av))]) hx hb dX9_table_144 hl (by decide) rfl (fun ls hl => ?_)
      refine lp_W (σ := Nat × (Nat → Int64)) (Wf := fun H locs ls => W p l ev _ s m _ below meth c H locs (0) (0) _ (F0 m 146 ls [])) (fun zz9 H locs ls => match zz9 with | (w, sk1) => va_P D vwCl [(h0, .inr (10, [.ref (q 0), .int i_size, .ref (q 1), .ref (q 2), .int i_words, .int i_next, .int i_open, .int i_stood, .ref (q 3), .ref (q 4), .ref (q 5), .int i_nodes, .int i_half, .int i_made, .ref (q 6), .ref (q 7), .ref (q 8), .ref (q 9), .ref (q 10), .ref (q 11), .int i_rows, .ref (q 12), .ref (q 13), .ref (q 14), .int i_state, .ref (q 15), .ref (q 16), .ref (q 17), .int i_tested, .ref (q 18), .ref wa, .int i_length])), (q 3, .inl (cy 1, 6000, .inl W0)), (q 4, .inl (cy 1, 6000, .inl F0_)), (q 5, .inl (cy 1, 6000, .inl S0)), (q 16, .inl (cy 2, 71680, .inr (.inl sk1)))] H ∧ va_D A [(h0, .inr (10, [.ref (q 0), .int i_size, .ref (q 1), .ref (q 2), .int i_words, .int i_next, .int i_open, .int i_stood, .ref (q 3), .ref (q 4), .ref (q 5), .int i_nodes, .int i_half, .int i_made, .ref (q 6), .ref (q 7), .ref (q 8), .ref (q 9), .ref (q 10), .ref (q 11), .int i_rows, .ref (q 12), .ref (q 13), .ref (q 14), .int i_state, .ref (q 15), .ref (q 16), .ref (q 17), .int i_tested, .ref (q 18), .ref wa, .int i_length])), (q 3, .inl (cy 1, 6000, .inl W0)), (q 4, .inl (cy 1, 6000, .inl F0_)), (q 5, .inl (cy 1, 6000, .inl S0)), (q 16, .inl (cy 2, 71680, .inr (.inl sk1)))] ∧ va_S A s.heap H locs ∧ lv_has ls 9 [(4, .int (nI w)), (3, .int 17), (0, .ref h0), (1, .int (nI n)), (2, .int (nI av))] ∧ (w ≤ 1024 ∧ tbI av w sk0 sk1 (fun w9 => fp_tv W0 F0_ S0 (bsg w9) d k &&& fp_tv W0 F0_ S0 (bsg w9) d (n - 1)) (fun w9 => fp_tv W0 F0_ S0 (bsg w9) d k) ∧ ∀ w9, w9 < 1024 → sk1 (1024 * (av + 1) + w9) = fp_tv W0 F0_ S0 (bsg w9) d (n - 1))) (fun zz9 => match zz9 with | (w, sk1) => 1024 - w) ?_ (0, sk2_140) _ _ ls ⟨hP, hD, hS, lv_sub hl [0, 1, 2, 3, 4] rfl, ⟨Nat.zero_le _, tbI_0 (fun w9 h9 => (hw140.2 _ (by omega)).trans (hw127.1 w9 h9)) (fun j9 h9 => (hw140.2 j9 (by omega)).trans (hw127.2 j9 h9)), hw140.1⟩⟩
      intro zz9 H locs ls hI ih
      obtain ⟨w, sk1⟩ := zz9
      obtain ⟨hP, hD, hS, hl, hI⟩ := hI
      have ih146 := ih
      have hI146 := hI
      have hP : va_P D vwCl [(h0, .inr (10, [.ref (q 0), .int i_size, .ref (q 1), .ref (q 2), .int i_words, .int i_next, .int i_open, .int i_stood, .ref (q 3), .ref (q 4), .ref (q 5), .int i_nodes, .int i_half, .int i_made, .ref (q 6), .ref (q 7), .ref (q 8), .ref (q 9), .ref (q 10), .ref (q 11), .int i_rows, .ref (q 12), .ref (q 13), .ref (q 14), .int i_state, .ref (q 15), .ref (q 16), .ref (q 17), .int i_tested, .ref (q 18), .ref wa, .int i_length])), (q 3, .inl (cy 1, 6000, .inl W0)), (q 4, .inl (cy 1, 6000, .inl F0_)), (q 5, .inl (cy 1, 6000, .inl S0)), (q 16, .inl (cy 2, 71680, .inr (.inl sk1)))] H := hP
      have hD : va_D A [(h0, .inr (10, [.ref (q 0), .int i_size, .ref (q 1), .ref (q 2), .int i_words, .int i_next, .int i_open, .int i_stood, .ref (q 3), .ref (q 4), .ref (q 5), .int i_nodes, .int i_half, .int i_made, .ref (q 6), .ref (q 7), .ref (q 8), .ref (q 9), .ref (q 10), .ref (q 11), .int i_rows, .ref (q 12), .ref (q 13), .ref (q 14), .int i_state, .ref (q 15), .ref (q 16), .ref (q 17), .int i_tested, .ref (q 18), .ref wa, .int i_length])), (q 3, .inl (cy 1, 6000, .inl W0)), (q 4, .inl (cy 1, 6000, .inl F0_)), (q 5, .inl (cy 1, 6000, .inl S0)), (q 16, .inl (cy 2, 71680, .inr (.inl sk1)))] := hD
      have hl : lv_has ls 9 [(4, .int (nI w)), (3, .int 17), (0, .ref h0), (1, .int (nI n)), (2, .int (nI av))] := hl
      obtain ⟨hI1, hI2, hI3⟩ := hI
      refine lv_iload hx hb dX9_table_146 (lv_at hl 0 rfl) ?_
      refine lv_sipush (v := 1024) hx hb dX9_table_148 (by decide +kernel) ?_
      refine lv_icmp_ge (tgt := 224) hx hb dX9_table_151 (by decide) (fun c151 => ?_) (fun c151 => ?_)
      · have hge : 1024 ≤ w := (nI_leI (a := 1024) (by decide) (by omega)).mp c151
        have hP9 : va_P D vwCl [(h0, .inr (10, [.ref (q 0), .int i_size, .ref (q 1), .ref (q 2), .int i_words, .int i_next, .int i_open, .int i_stood, .ref (q 3), .ref (q 4), .ref (q 5), .int i_nodes, .int i_half, .int i_made, .ref (q 6), .ref (q 7), .ref (q 8), .ref (q 9), .ref (q 10), .ref (q 11), .int i_rows, .ref (q 12), .ref (q 13), .ref (q 14), .int i_state, .ref (q 15), .ref (q 16), .ref (q 17), .int i_tested, .ref (q 18), .ref wa, .int i_length])), (q 3, .inl (cy 1, 6000, .inl W0)), (q 4, .inl (cy 1, 6000, .inl F0_)), (q 5, .inl (cy 1, 6000, .inl S0)), (q 16, .inl (cy 2, 71680, .inr (.inl sk1)))] H := hP.sub [0, 1, 2, 3, 4] rfl
        have hD9 : va_D A [(h0, .inr (10, [.ref (q 0), .int i_size, .ref (q 1), .ref (q 2), .int i_words, .int i_next, .int i_open, .int i_stood, .ref (q 3), .ref (q 4), .ref (q 5), .int i_nodes, .int i_half, .int i_made, .ref (q 6), .ref (q 7), .ref (q 8), .ref (q 9), .ref (q 10), .ref (q 11), .int i_rows, .ref (q 12), .ref (q 13), .ref (q 14), .int i_state, .ref (q 15), .ref (q 16), .ref (q 17), .int i_tested, .ref (q 18), .ref wa, .int i_length])), (q 3, .inl (cy 1, 6000, .inl W0)), (q 4, .inl (cy 1, 6000, .inl F0_)), (q 5, .inl (cy 1, 6000, .inl S0)), (q 16, .inl (cy 2, 71680, .inr (.inl sk1)))] := hD.sub [0, 1, 2, 3, 4] (by decide) rfl
        refine W.widen (k := 0) (n := 0) (by omega) (by omega) ?_
        exact W.vret hx hb hr (fun t ht hW => ⟨⟨sk1, rfl, ⟨fun w9 h9 => (tbI_e hI2 hge w9 h9).trans (tv_and hWn hF hSn (by omega) (by omega)).symm, hI2.2⟩, by rw [ht]; exact hP9, hD9⟩, hS.F ht⟩) hS.2.2 dX9_table_224
      · have hw1024 : w < 1024 := pk_nle (a := 1024) (by omega) c151
        refine lv_aload_n hx hb dX9_table_154 rfl (lv_at hl 2 rfl) ?_
        refine va_get (D := D) (ci := 10) (v := .ref (q 16)) (C := RX9) (T := TX9) (N := 32) hx hb hts iX9 hown hK hP 0 rfl rfl 26 (by decide) (hts (.fieldLink RX9 63 "InterlockTablesModel" "stack" "[J") (by decide +kernel)) (fun _ h9 => h9) rfl dX9_table_155 ?_
        refine lv_sipush (v := 1024) hx hb dX9_table_158 (by decide +kernel) ?_
        refine lv_iload_n hx hb dX9_table_161 rfl (lv_at hl 4 rfl) ?_
        refine lv_imul hx hb dX9_table_162 ?_
        refine lv_topi (fun x_16 ex_16 => ?_)
        obtain rfl : x_16 = nI (1024 * av) := by rw [ex_16]; exact pk_mul 1024 av
        refine lv_iload hx hb dX9_table_163 (lv_at hl 0 rfl) ?_
        refine lv_iadd hx hb dX9_table_165 ?_
        refine lv_topi (fun x_17 ex_17 => ?_)
        obtain rfl : x_17 = nI (1024 * av + w) := by rw [ex_17]; exact nI_add _ _
        refine va_lald hx hb hK hP 4 2 rfl rfl (vp_in_nI (by omega) (by omega)) dX9_table_166 ?_
        refine lv_topl (fun x_18 ex_18 => ?_)
        obtain rfl : x_18 = sk1 (1024 * av + w) := by rw [ex_18]; rw [nI_clamp (by omega)]
        refine lv_lstore (lv' := [(5, .long (sk1 (1024 * av + w))), (4, .int (nI w)), (3, .int 17), (0, .ref h0), (1, .int (nI n)), (2, .int (nI av))]) hx hb dX9_table_167 hl (by decide) rfl (fun ls hl => ?_)
        refine lv_aload_n hx hb dX9_table_169 rfl (lv_at hl 3 rfl) ?_
        refine va_get (D := D) (ci := 10) (v := .ref (q 16)) (C := RX9) (T := TX9) (N := 32) hx hb hts iX9 hown hK hP 0 rfl rfl 26 (by decide) (hts (.fieldLink RX9 63 "InterlockTablesModel" "stack" "[J") (by decide +kernel)) (fun _ h9 => h9) rfl dX9_table_170 ?_
        refine lv_sipush (v := 1024) hx hb dX9_table_173 (by decide +kernel) ?_
        refine lv_iload_n hx hb dX9_table_176 rfl (lv_at hl 5 rfl) ?_
        refine lv_iconst (v := 1) hx hb dX9_table_177 (by decide +kernel) ?_
        refine lv_iadd hx hb dX9_table_178 ?_
        refine lv_topi (fun x_19 ex_19 => ?_)
        obtain rfl : x_19 = nI (av + 1) := by rw [ex_19]; exact nI_1 av
        refine lv_imul hx hb dX9_table_179 ?_
        refine lv_topi (fun x_20 ex_20 => ?_)
        obtain rfl : x_20 = nI (1024 * (av + 1)) := by rw [ex_20]; exact pk_mul 1024 _
        refine lv_iload hx hb dX9_table_180 (lv_at hl 1 rfl) ?_
        refine lv_iadd hx hb dX9_table_182 ?_
        refine lv_topi (fun x_21 ex_21 => ?_)
        obtain rfl : x_21 = nI (1024 * (av + 1) + w) := by rw [ex_21]; exact nI_add _ _
        refine va_lald hx hb hK hP 4 2 rfl rfl (vp_in_nI (by omega) (by omega)) dX9_table_183 ?_
        refine lv_topl (fun x_22 ex_22 => ?_)
        obtain rfl : x_22 = sk1 (1024 * (av + 1) + w) := by rw [ex_22]; rw [nI_clamp (by omega)]
        refine lv_lstore (lv' := [(7, .long (sk1 (1024 * (av + 1) + w))), (5, .long (sk1 (1024 * av + w))), (4, .int (nI w)), (3, .int 17), (0, .ref h0), (1, .int (nI n)), (2, .int (nI av))]) hx hb dX9_table_184 hl (by decide) rfl (fun ls hl => ?_)
        refine lv_aload_n hx hb dX9_table_186 rfl (lv_at hl 4 rfl) ?_
        refine va_get (D := D) (ci := 10) (v := .ref (q 16)) (C := RX9) (T := TX9) (N := 32) hx hb hts iX9 hown hK hP 0 rfl rfl 26 (by decide) (hts (.fieldLink RX9 63 "InterlockTablesModel" "stack" "[J") (by decide +kernel)) (fun _ h9 => h9) rfl dX9_table_187 ?_
        refine lv_sipush (v := 1024) hx hb dX9_table_190 (by decide +kernel) ?_
        refine lv_iload_n hx hb dX9_table_193 rfl (lv_at hl 6 rfl) ?_
        refine lv_imul hx hb dX9_table_194 ?_
        refine lv_topi (fun x_23 ex_23 => ?_)
        obtain rfl : x_23 = nI (1024 * av) := by rw [ex_23]; exact pk_mul 1024 av
        refine lv_iload hx hb dX9_table_195 (lv_at hl 2 rfl) ?_
        refine lv_iadd hx hb dX9_table_197 ?_
        refine lv_topi (fun x_24 ex_24 => ?_)
        obtain rfl : x_24 = nI (1024 * av + w) := by rw [ex_24]; exact nI_add _ _
        refine lv_iload_n hx hb dX9_table_198 rfl (lv_at hl 3 rfl) ?_
        refine lv_bipush (v := 17) hx hb dX9_table_199 (by decide +kernel) ?_
        refine lv_icmp_ne (tgt := 212) hx hb dX9_table_201 (by decide) (fun c201 => absurd rfl c201) (fun _ => ?_)
        refine lv_lload hx hb dX9_table_204 (lv_at hl 1 rfl) ?_
        refine lv_lload hx hb dX9_table_206 (lv_at hl 0 rfl) ?_
        refine lv_land hx hb dX9_table_208 ?_
        refine lv_goto (tgt := 217) hx hb dX9_table_209 (by decide) ?_
        refine va_last hx hb hK hP hD hS 4 2 rfl rfl (vp_in_nI (by omega) (by omega)) dX9_table_217 (fun H locs hP hD hS => ?_)
        have hP : va_P D vwCl [(h0, .inr (10, [.ref (q 0), .int i_size, .ref (q 1), .ref (q 2), .int i_words, .int i_next, .int i_open, .int i_stood, .ref (q 3), .ref (q 4), .ref (q 5), .int i_nodes, .int i_half, .int i_made, .ref (q 6), .ref (q 7), .ref (q 8), .ref (q 9), .ref (q 10), .ref (q 11), .int i_rows, .ref (q 12), .ref (q 13), .ref (q 14), .int i_state, .ref (q 15), .ref (q 16), .ref (q 17), .int i_tested, .ref (q 18), .ref wa, .int i_length])), (q 3, .inl (cy 1, 6000, .inl W0)), (q 4, .inl (cy 1, 6000, .inl F0_)), (q 5, .inl (cy 1, 6000, .inl S0)), (q 16, .inl (cy 2, 71680, .inr (.inl (vp_updL sk1 (nI (1024 * av + w)).toNatClampNeg ((sk1 (1024 * av + w)) &&& (sk1 (1024 * (av + 1) + w)))))))] H := hP
        have hD : va_D A [(h0, .inr (10, [.ref (q 0), .int i_size, .ref (q 1), .ref (q 2), .int i_words, .int i_next, .int i_open, .int i_stood, .ref (q 3), .ref (q 4), .ref (q 5), .int i_nodes, .int i_half, .int i_made, .ref (q 6), .ref (q 7), .ref (q 8), .ref (q 9), .ref (q 10), .ref (q 11), .int i_rows, .ref (q 12), .ref (q 13), .ref (q 14), .int i_state, .ref (q 15), .ref (q 16), .ref (q 17), .int i_tested, .ref (q 18), .ref wa, .int i_length])), (q 3, .inl (cy 1, 6000, .inl W0)), (q 4, .inl (cy 1, 6000, .inl F0_)), (q 5, .inl (cy 1, 6000, .inl S0)), (q 16, .inl (cy 2, 71680, .inr (.inl (vp_updL sk1 (nI (1024 * av + w)).toNatClampNeg ((sk1 (1024 * av + w)) &&& (sk1 (1024 * (av + 1) + w)))))))] := hD
        have ef_217 : (vp_updL sk1 (nI (1024 * av + w)).toNatClampNeg ((sk1 (1024 * av + w)) &&& (sk1 (1024 * (av + 1) + w)))) = (vp_updL sk1 (1024 * av + w) ((sk1 (1024 * av + w)) &&& (sk1 (1024 * (av + 1) + w)))) := by rw [nI_clamp (by omega)]
        rw [ef_217] at hP hD
        refine lv_iinc (v := nI (w + 1)) (lv' := [(4, .int (nI (w + 1))), (7, .long (sk1 (1024 * (av + 1) + w))), (5, .long (sk1 (1024 * av + w))), (3, .int 17), (0, .ref h0), (1, .int (nI n)), (2, .int (nI av))]) hx hb dX9_table_218 hl (k := 2) rfl (nI_1 w) (by decide) rfl (fun ls hl => ?_)
        refine lv_goto (tgt := 146) hx hb dX9_table_221 (by decide) ?_
        exact ih146 ((w + 1), (vp_updL sk1 (1024 * av + w) ((sk1 (1024 * av + w)) &&& (sk1 (1024 * (av + 1) + w))))) _ _ ls ⟨hP.sub [0, 1, 2, 3, 4] rfl, hD.sub [0, 1, 2, 3, 4] (by decide) rfl, hS, lv_sub hl [0, 3, 4, 5, 6] rfl, ⟨by omega, tbI_s hI2 hw1024 (by rw [show sk1 (1024 * av + w) = fp_tv W0 F0_ S0 (bsg w) d k from tbI_b hI2 hw1024, show sk1 (1024 * (av + 1) + w) = fp_tv W0 F0_ S0 (bsg w) d (n - 1) from hI3 w hw1024]), fun w9 h9 => (pk_uLn (by omega)).trans (hI3 w9 h9)⟩⟩ (by (try dsimp only); omega)
    · have hl : lv_has ls 9 [(3, .int 18), (0, .ref h0), (1, .int (nI n)), (2, .int (nI av))] := by rw [hWn] at hl; exact hl
      refine lv_iload_n hx hb dX9_table_7 rfl (lv_at hl 0 rfl) ?_
      refine lv_bipush (v := 16) hx hb dX9_table_8 (by decide +kernel) ?_
      refine lv_icmp_ne (tgt := 74) hx hb dX9_table_10 (by decide) (fun _ => ?_) (fun c10 => absurd c10 (by decide))
      refine lv_iload_n hx hb dX9_table_74 rfl (lv_at hl 0 rfl) ?_
      refine lv_bipush (v := 16) hx hb dX9_table_75 (by decide +kernel) ?_
      refine lv_icmp_ge (tgt := 119) hx hb dX9_table_77 (by decide) (fun _ => ?_) (fun c77 => absurd (by decide) c77)
      refine lv_aload_n hx hb dX9_table_119 rfl (lv_at hl 1 rfl) ?_
      refine lv_aload_n hx hb dX9_table_120 rfl (lv_at hl 1 rfl) ?_
      refine va_get (D := D) (ci := 10) (v := .ref (q 4)) (C := RX9) (T := TX9) (N := 32) hx hb hts iX9 hown hK hP 0 rfl rfl 9 (by decide) (hts (.fieldLink RX9 23 "InterlockTablesModel" "firsts" "[I") (by decide +kernel)) (fun _ h9 => h9) rfl dX9_table_121 ?_
      refine lv_iload_n hx hb dX9_table_124 rfl (lv_at hl 2 rfl) ?_
      refine va_iald hx hb hK hP 2 1 rfl rfl (vp_in_nI (by omega) (by omega)) dX9_table_125 ?_
      refine lv_topi (fun x_25 ex_25 => ?_)
      obtain rfl : x_25 = nI k := by rw [ex_25]; rw [nI_clamp (by omega)]; exact hF
      refine lv_iload_n hx hb dX9_table_126 rfl (lv_at hl 3 rfl) ?_
      refine mt_callv (wr := []) (va_runV (As := [.int (nI k), .int (nI av)]) (rest := []) ⟨hx, hb, hml, hown, hts⟩ (hrec h0 q wa i_size i_words i_next i_open i_stood i_nodes i_half i_made i_rows i_state i_tested i_length W0 F0_ S0 sk0 rd lo k av s.heap.size hT1 (by omega) (by omega)) (cwV 2 hts gX9_table_X9_table rfl rfl rfl (by decide +kernel) ⟨show d + 1 + 1 ≤ (d + 1) + 1 from by omega, show 8 + (9 + 11) + (28 * d + 21) ≤ 28 * (d + 1) + 21 from by omega⟩) (mt_preV hP hD hK hS hA hG [0, 1, 2, 3, 4] rfl (by decide) (q := (RX9, TX9, 32)) (ci := 10) (q0 := 0) rfl rfl) rfl rfl hl.1 rfl (lv_room (Nat.le_of_ble_eq_true rfl)) dX9_table_127 ⟨(Nat.le_of_ble_eq_true rfl), (Nat.le_of_ble_eq_true rfl)⟩) hP hD hS hA [0, 1, 2, 3, 4] [] rfl rfl (by decide) (by decide) (fun u H locs hw hP hD hS => ?_)
      obtain ⟨sk2_127, rfl⟩ : ∃ z, z = u := ⟨_, rfl⟩
      have hP : va_P D vwCl [(h0, .inr (10, [.ref (q 0), .int i_size, .ref (q 1), .ref (q 2), .int i_words, .int i_next, .int i_open, .int i_stood, .ref (q 3), .ref (q 4), .ref (q 5), .int i_nodes, .int i_half, .int i_made, .ref (q 6), .ref (q 7), .ref (q 8), .ref (q 9), .ref (q 10), .ref (q 11), .int i_rows, .ref (q 12), .ref (q 13), .ref (q 14), .int i_state, .ref (q 15), .ref (q 16), .ref (q 17), .int i_tested, .ref (q 18), .ref wa, .int i_length])), (q 3, .inl (cy 1, 6000, .inl W0)), (q 4, .inl (cy 1, 6000, .inl F0_)), (q 5, .inl (cy 1, 6000, .inl S0)), (q 16, .inl (cy 2, 71680, .inr (.inl sk2_127)))] H := hP
      have hD : va_D A [(h0, .inr (10, [.ref (q 0), .int i_size, .ref (q 1), .ref (q 2), .int i_words, .int i_next, .int i_open, .int i_stood, .ref (q 3), .ref (q 4), .ref (q 5), .int i_nodes, .int i_half, .int i_made, .ref (q 6), .ref (q 7), .ref (q 8), .ref (q 9), .ref (q 10), .ref (q 11), .int i_rows, .ref (q 12), .ref (q 13), .ref (q 14), .int i_state, .ref (q 15), .ref (q 16), .ref (q 17), .int i_tested, .ref (q 18), .ref wa, .int i_length])), (q 3, .inl (cy 1, 6000, .inl W0)), (q 4, .inl (cy 1, 6000, .inl F0_)), (q 5, .inl (cy 1, 6000, .inl S0)), (q 16, .inl (cy 2, 71680, .inr (.inl sk2_127)))] := hD
      replace hw : (∀ w, w < 1024 → sk2_127 (1024 * av + w) = fp_tv W0 F0_ S0 (bsg w) d k) ∧ (∀ j, j < 1024 * av → sk2_127 j = sk0 j) := hw
      refine W.widen (k := 0) (n := 0) (by omega) (by omega) ?_
      have hw127 := hw
      refine lv_aload_n hx hb dX9_table_130 rfl (lv_at hl 1 rfl) ?_
      refine lv_aload_n hx hb dX9_table_131 rfl (lv_at hl 1 rfl) ?_
      refine va_get (D := D) (ci := 10) (v := .ref (q 5)) (C := RX9) (T := TX9) (N := 32) hx hb hts iX9 hown hK hP 0 rfl rfl 10 (by decide) (hts (.fieldLink RX9 26 "InterlockTablesModel" "seconds" "[I") (by decide +kernel)) (fun _ h9 => h9) rfl dX9_table_132 ?_
      refine lv_iload_n hx hb dX9_table_135 rfl (lv_at hl 2 rfl) ?_
      refine va_iald hx hb hK hP 3 1 rfl rfl (vp_in_nI (by omega) (by omega)) dX9_table_136 ?_
      refine lv_topi (fun x_26 ex_26 => ?_)
      obtain rfl : x_26 = nI (n - 1) := by rw [ex_26]; rw [nI_clamp (by omega)]; exact hSn
      refine lv_iload_n hx hb dX9_table_137 rfl (lv_at hl 3 rfl) ?_
      refine lv_iconst (v := 1) hx hb dX9_table_138 (by decide +kernel) ?_
      refine lv_iadd hx hb dX9_table_139 ?_
      refine lv_topi (fun x_27 ex_27 => ?_)
      obtain rfl : x_27 = nI (av + 1) := by rw [ex_27]; exact nI_1 av
      refine mt_callv (wr := []) (va_runV (As := [.int (nI (n - 1)), .int (nI (av + 1))]) (rest := []) ⟨hx, hb, hml, hown, hts⟩ (hrec h0 q wa i_size i_words i_next i_open i_stood i_nodes i_half i_made i_rows i_state i_tested i_length W0 F0_ S0 sk2_127 (rd - 1) (k + 1) (n - 1) (av + 1) H.size hT2 (by omega) (by omega)) (cwV 2 hts gX9_table_X9_table rfl rfl rfl (by decide +kernel) ⟨show d + 1 + 1 ≤ (d + 1) + 1 from by omega, show 8 + (9 + 11) + (28 * d + 21) ≤ 28 * (d + 1) + 21 from by omega⟩) (mt_preV hP hD hK hS hA hG [0, 1, 2, 3, 4] rfl (by decide) (q := (RX9, TX9, 32)) (ci := 10) (q0 := 0) rfl rfl) rfl rfl hl.1 rfl (lv_room (Nat.le_of_ble_eq_true rfl)) dX9_table_140 ⟨(Nat.le_of_ble_eq_true rfl), (Nat.le_of_ble_eq_true rfl)⟩) hP hD hS hA [0, 1, 2, 3, 4] [] rfl rfl (by decide) (by decide) (fun u H locs hw hP hD hS => ?_)
      obtain ⟨sk2_140, rfl⟩ : ∃ z, z = u := ⟨_, rfl⟩
      have hP : va_P D vwCl [(h0, .inr (10, [.ref (q 0), .int i_size, .ref (q 1), .ref (q 2), .int i_words, .int i_next, .int i_open, .int i_stood, .ref (q 3), .ref (q 4), .ref (q 5), .int i_nodes, .int i_half, .int i_made, .ref (q 6), .ref (q 7), .ref (q 8), .ref (q 9), .ref (q 10), .ref (q 11), .int i_rows, .ref (q 12), .ref (q 13), .ref (q 14), .int i_state, .ref (q 15), .ref (q 16), .ref (q 17), .int i_tested, .ref (q 18), .ref wa, .int i_length])), (q 3, .inl (cy 1, 6000, .inl W0)), (q 4, .inl (cy 1, 6000, .inl F0_)), (q 5, .inl (cy 1, 6000, .inl S0)), (q 16, .inl (cy 2, 71680, .inr (.inl sk2_140)))] H := hP
      have hD : va_D A [(h0, .inr (10, [.ref (q 0), .int i_size, .ref (q 1), .ref (q 2), .int i_words, .int i_next, .int i_open, .int i_stood, .ref (q 3), .ref (q 4), .ref (q 5), .int i_nodes, .int i_half, .int i_made, .ref (q 6), .ref (q 7), .ref (q 8), .ref (q 9), .ref (q 10), .ref (q 11), .int i_rows, .ref (q 12), .ref (q 13), .ref (q 14), .int i_state, .ref (q 15), .ref (q 16), .ref (q 17), .int i_tested, .ref (q 18), .ref wa, .int i_length])), (q 3, .inl (cy 1, 6000, .inl W0)), (q 4, .inl (cy 1, 6000, .inl F0_)), (q 5, .inl (cy 1, 6000, .inl S0)), (q 16, .inl (cy 2, 71680, .inr (.inl sk2_140)))] := hD
      replace hw : (∀ w, w < 1024 → sk2_140 (1024 * (av + 1) + w) = fp_tv W0 F0_ S0 (bsg w) d (n - 1)) ∧ (∀ j, j < 1024 * (av + 1) → sk2_140 j = sk2_127 j) := hw
      refine W.widen (k := 0) (n := 0) (by omega) (by omega) ?_
      have hw140 := hw
      refine lv_iconst (v := 0) hx hb dX9_table_143 (by decide +kernel) ?_
      refine lv_topi (fun x_28 ex_28 => ?_)
      obtain rfl : x_28 = nI 0 := by rw [ex_28]; exact nI_0.symm
      refine lv_istore (lv' := [(4, .int (nI 0)), (3, .int 18), (0, .ref h0), (1, .int (nI n)), (2, .int (nI av))]) hx hb dX9_table_144 hl (by decide) rfl (fun ls hl => ?_)
      refine lp_W (σ := Nat × (Nat → Int64)) (Wf := fun H locs ls => W p l ev _ s m _ below meth c H locs (0) (0) _ (F0 m 146 ls [])) (fun zz9 H locs ls => match zz9 with | (w, sk1) => va_P D vwCl [(h0, .inr (10, [.ref (q 0), .int i_size, .ref (q 1), .ref (q 2), .int i_words, .int i_next, .int i_open, .int i_stood, .ref (q 3), .ref (q 4), .ref (q 5), .int i_nodes, .int i_half, .int i_made, .ref (q 6), .ref (q 7), .ref (q 8), .ref (q 9), .ref (q 10), .ref (q 11), .int i_rows, .ref (q 12), .ref (q 13), .ref (q 14), .int i_state, .ref (q 15), .ref (q 16), .ref (q 17), .int i_tested, .ref (q 18), .ref wa, .int i_length])), (q 3, .inl (cy 1, 6000, .inl W0)), (q 4, .inl (cy 1, 6000, .inl F0_)), (q 5, .inl (cy 1, 6000, .inl S0)), (q 16, .inl (cy 2, 71680, .inr (.inl sk1)))] H ∧ va_D A [(h0, .inr (10, [.ref (q 0), .int i_size, .ref (q 1), .ref (q 2), .int i_words, .int i_next, .int i_open, .int i_stood, .ref (q 3), .ref (q 4), .ref (q 5), .int i_nodes, .int i_half, .int i_made, .ref (q 6), .ref (q 7), .ref (q 8), .ref (q 9), .ref (q 10), .ref (q 11), .int i_rows, .ref (q 12), .ref (q 13), .ref (q 14), .int i_state, .ref (q 15), .ref (q 16), .ref (q 17), .int i_tested, .ref (q 18), .ref wa, .int i_length])), (q 3, .inl (cy 1, 6000, .inl W0)), (q 4, .inl (cy 1, 6000, .inl F0_)), (q 5, .inl (cy 1, 6000, .inl S0)), (q 16, .inl (cy 2, 71680, .inr (.inl sk1)))] ∧ va_S A s.heap H locs ∧ lv_has ls 9 [(4, .int (nI w)), (3, .int 18), (0, .ref h0), (1, .int (nI n)), (2, .int (nI av))] ∧ (w ≤ 1024 ∧ tbI av w sk0 sk1 (fun w9 => fp_tv W0 F0_ S0 (bsg w9) d k ||| fp_tv W0 F0_ S0 (bsg w9) d (n - 1)) (fun w9 => fp_tv W0 F0_ S0 (bsg w9) d k) ∧ ∀ w9, w9 < 1024 → sk1 (1024 * (av + 1) + w9) = fp_tv W0 F0_ S0 (bsg w9) d (n - 1))) (fun zz9 => match zz9 with | (w, sk1) => 1024 - w) ?_ (0, sk2_140) _ _ ls ⟨hP, hD, hS, lv_sub hl [0, 1, 2, 3, 4] rfl, ⟨Nat.zero_le _, tbI_0 (fun w9 h9 => (hw140.2 _ (by omega)).trans (hw127.1 w9 h9)) (fun j9 h9 => (hw140.2 j9 (by omega)).trans (hw127.2 j9 h9)), hw140.1⟩⟩
      intro zz9 H locs ls hI ih
      obtain ⟨w, sk1⟩ := zz9
      obtain ⟨hP, hD, hS, hl, hI⟩ := hI
      have ih146 := ih
      have hI146 := hI
      have hP : va_P D vwCl [(h0, .inr (10, [.ref (q 0), .int i_size, .ref (q 1), .ref (q 2), .int i_words, .int i_next, .int i_open, .int i_stood, .ref (q 3), .ref (q 4), .ref (q 5), .int i_nodes, .int i_half, .int i_made, .ref (q 6), .ref (q 7), .ref (q 8), .ref (q 9), .ref (q 10), .ref (q 11), .int i_rows, .ref (q 12), .ref (q 13), .ref (q 14), .int i_state, .ref (q 15), .ref (q 16), .ref (q 17), .int i_tested, .ref (q 18), .ref wa, .int i_length])), (q 3, .inl (cy 1, 6000, .inl W0)), (q 4, .inl (cy 1, 6000, .inl F0_)), (q 5, .inl (cy 1, 6000, .inl S0)), (q 16, .inl (cy 2, 71680, .inr (.inl sk1)))] H := hP
      have hD : va_D A [(h0, .inr (10, [.ref (q 0), .int i_size, .ref (q 1), .ref (q 2), .int i_words, .int i_next, .int i_open, .int i_stood, .ref (q 3), .ref (q 4), .ref (q 5), .int i_nodes, .int i_half, .int i_made, .ref (q 6), .ref (q 7), .ref (q 8), .ref (q 9), .ref (q 10), .ref (q 11), .int i_rows, .ref (q 12), .ref (q 13), .ref (q 14), .int i_state, .ref (q 15), .ref (q 16), .ref (q 17), .int i_tested, .ref (q 18), .ref wa, .int i_length])), (q 3, .inl (cy 1, 6000, .inl W0)), (q 4, .inl (cy 1, 6000, .inl F0_)), (q 5, .inl (cy 1, 6000, .inl S0)), (q 16, .inl (cy 2, 71680, .inr (.inl sk1)))] := hD
      have hl : lv_has ls 9 [(4, .int (nI w)), (3, .int 18), (0, .ref h0), (1, .int (nI n)), (2, .int (nI av))] := hl
      obtain ⟨hI1, hI2, hI3⟩ := hI
      refine lv_iload hx hb dX9_table_146 (lv_at hl 0 rfl) ?_
      refine lv_sipush (v := 1024) hx hb dX9_table_148 (by decide +kernel) ?_
      refine lv_icmp_ge (tgt := 224) hx hb dX9_table_151 (by decide) (fun c151 => ?_) (fun c151 => ?_)
      · have hge : 1024 ≤ w := (nI_leI (a := 1024) (by decide) (by omega)).mp c151
        have hP9 : va_P D vwCl [(h0, .inr (10, [.ref (q 0), .int i_size, .ref (q 1), .ref (q 2), .int i_words, .int i_next, .int i_open, .int i_stood, .ref (q 3), .ref (q 4), .ref (q 5), .int i_nodes, .int i_half, .int i_made, .ref (q 6), .ref (q 7), .ref (q 8), .ref (q 9), .ref (q 10), .ref (q 11), .int i_rows, .ref (q 12), .ref (q 13), .ref (q 14), .int i_state, .ref (q 15), .ref (q 16), .ref (q 17), .int i_tested, .ref (q 18), .ref wa, .int i_length])), (q 3, .inl (cy 1, 6000, .inl W0)), (q 4, .inl (cy 1, 6000, .inl F0_)), (q 5, .inl (cy 1, 6000, .inl S0)), (q 16, .inl (cy 2, 71680, .inr (.inl sk1)))] H := hP.sub [0, 1, 2, 3, 4] rfl
        have hD9 : va_D A [(h0, .inr (10, [.ref (q 0), .int i_size, .ref (q 1), .ref (q 2), .int i_words, .int i_next, .int i_open, .int i_stood, .ref (q 3), .ref (q 4), .ref (q 5), .int i_nodes, .int i_half, .int i_made, .ref (q 6), .ref (q 7), .ref (q 8), .ref (q 9), .ref (q 10), .ref (q 11), .int i_rows, .ref (q 12), .ref (q 13), .ref (q 14), .int i_state, .ref (q 15), .ref (q 16), .ref (q 17), .int i_tested, .ref (q 18), .ref wa, .int i_length])), (q 3, .inl (cy 1, 6000, .inl W0)), (q 4, .inl (cy 1, 6000, .inl F0_)), (q 5, .inl (cy 1, 6000, .inl S0)), (q 16, .inl (cy 2, 71680, .inr (.inl sk1)))] := hD.sub [0, 1, 2, 3, 4] (by decide) rfl
        refine W.widen (k := 0) (n := 0) (by omega) (by omega) ?_
        exact W.vret hx hb hr (fun t ht hW => ⟨⟨sk1, rfl, ⟨fun w9 h9 => (tbI_e hI2 hge w9 h9).trans (tv_or hWn hF hSn (by omega) (by omega)).symm, hI2.2⟩, by rw [ht]; exact hP9, hD9⟩, hS.F ht⟩) hS.2.2 dX9_table_224
      · have hw1024 : w < 1024 := pk_nle (a := 1024) (by omega) c151
        refine lv_aload_n hx hb dX9_table_154 rfl (lv_at hl 2 rfl) ?_
        refine va_get (D := D) (ci := 10) (v := .ref (q 16)) (C := RX9) (T := TX9) (N := 32) hx hb hts iX9 hown hK hP 0 rfl rfl 26 (by decide) (hts (.fieldLink RX9 63 "InterlockTablesModel" "stack" "[J") (by decide +kernel)) (fun _ h9 => h9) rfl dX9_table_155 ?_
        refine lv_sipush (v := 1024) hx hb dX9_table_158 (by decide +kernel) ?_
        refine lv_iload_n hx hb dX9_table_161 rfl (lv_at hl 4 rfl) ?_
        refine lv_imul hx hb dX9_table_162 ?_
        refine lv_topi (fun x_29 ex_29 => ?_)
        obtain rfl : x_29 = nI (1024 * av) := by rw [ex_29]; exact pk_mul 1024 av
        refine lv_iload hx hb dX9_table_163 (lv_at hl 0 rfl) ?_
        refine lv_iadd hx hb dX9_table_165 ?_
        refine lv_topi (fun x_30 ex_30 => ?_)
        obtain rfl : x_30 = nI (1024 * av + w) := by rw [ex_30]; exact nI_add _ _
        refine va_lald hx hb hK hP 4 2 rfl rfl (vp_in_nI (by omega) (by omega)) dX9_table_166 ?_
        refine lv_topl (fun x_31 ex_31 => ?_)
        obtain rfl : x_31 = sk1 (1024 * av + w) := by rw [ex_31]; rw [nI_clamp (by omega)]
        refine lv_lstore (lv' := [(5, .long (sk1 (1024 * av + w))), (4, .int (nI w)), (3, .int 18), (0, .ref h0), (1, .int (nI n)), (2, .int (nI av))]) hx hb dX9_table_167 hl (by decide) rfl (fun ls hl => ?_)
        refine lv_aload_n hx hb dX9_table_169 rfl (lv_at hl 3 rfl) ?_
        refine va_get (D := D) (ci := 10) (v := .ref (q 16)) (C := RX9) (T := TX9) (N := 32) hx hb hts iX9 hown hK hP 0 rfl rfl 26 (by decide) (hts (.fieldLink RX9 63 "InterlockTablesModel" "stack" "[J") (by decide +kernel)) (fun _ h9 => h9) rfl dX9_table_170 ?_
        refine lv_sipush (v := 1024) hx hb dX9_table_173 (by decide +kernel) ?_
        refine lv_iload_n hx hb dX9_table_176 rfl (lv_at hl 5 rfl) ?_
        refine lv_iconst (v := 1) hx hb dX9_table_177 (by decide +kernel) ?_
        refine lv_iadd hx hb dX9_table_178 ?_
        refine lv_topi (fun x_32 ex_32 => ?_)
        obtain rfl : x_32 = nI (av + 1) := by rw [ex_32]; exact nI_1 av
        refine lv_imul hx hb dX9_table_179 ?_
        refine lv_topi (fun x_33 ex_33 => ?_)
        obtain rfl : x_33 = nI (1024 * (av + 1)) := by rw [ex_33]; exact pk_mul 1024 _
        refine lv_iload hx hb dX9_table_180 (lv_at hl 1 rfl) ?_
        refine lv_iadd hx hb dX9_table_182 ?_
        refine lv_topi (fun x_34 ex_34 => ?_)
        obtain rfl : x_34 = nI (1024 * (av + 1) + w) := by rw [ex_34]; exact nI_add _ _
        refine va_lald hx hb hK hP 4 2 rfl rfl (vp_in_nI (by omega) (by omega)) dX9_table_183 ?_
        refine lv_topl (fun x_35 ex_35 => ?_)
        obtain rfl : x_35 = sk1 (1024 * (av + 1) + w) := by rw [ex_35]; rw [nI_clamp (by omega)]
        refine lv_lstore (lv' := [(7, .long (sk1 (1024 * (av + 1) + w))), (5, .long (sk1 (1024 * av + w))), (4, .int (nI w)), (3, .int 18), (0, .ref h0), (1, .int (nI n)), (2, .int (nI av))]) hx hb dX9_table_184 hl (by decide) rfl (fun ls hl => ?_)
        refine lv_aload_n hx hb dX9_table_186 rfl (lv_at hl 4 rfl) ?_
        refine va_get (D := D) (ci := 10) (v := .ref (q 16)) (C := RX9) (T := TX9) (N := 32) hx hb hts iX9 hown hK hP 0 rfl rfl 26 (by decide) (hts (.fieldLink RX9 63 "InterlockTablesModel" "stack" "[J") (by decide +kernel)) (fun _ h9 => h9) rfl dX9_table_187 ?_
        refine lv_sipush (v := 1024) hx hb dX9_table_190 (by decide +kernel) ?_
        refine lv_iload_n hx hb dX9_table_193 rfl (lv_at hl 6 rfl) ?_
        refine lv_imul hx hb dX9_table_194 ?_
        refine lv_topi (fun x_36 ex_36 => ?_)
        obtain rfl : x_36 = nI (1024 * av) := by rw [ex_36]; exact pk_mul 1024 av
        refine lv_iload hx hb dX9_table_195 (lv_at hl 2 rfl) ?_
        refine lv_iadd hx hb dX9_table_197 ?_
        refine lv_topi (fun x_37 ex_37 => ?_)
        obtain rfl : x_37 = nI (1024 * av + w) := by rw [ex_37]; exact nI_add _ _
        refine lv_iload_n hx hb dX9_table_198 rfl (lv_at hl 3 rfl) ?_
        refine lv_bipush (v := 17) hx hb dX9_table_199 (by decide +kernel) ?_
        refine lv_icmp_ne (tgt := 212) hx hb dX9_table_201 (by decide) (fun _ => ?_) (fun c201 => absurd c201 (by decide))
        refine lv_lload hx hb dX9_table_212 (lv_at hl 1 rfl) ?_
        refine lv_lload hx hb dX9_table_214 (lv_at hl 0 rfl) ?_
        refine lv_lor hx hb dX9_table_216 ?_
        refine va_last hx hb hK hP hD hS 4 2 rfl rfl (vp_in_nI (by omega) (by omega)) dX9_table_217 (fun H locs hP hD hS => ?_)
        have hP : va_P D vwCl [(h0, .inr (10, [.ref (q 0), .int i_size, .ref (q 1), .ref (q 2), .int i_words, .int i_next, .int i_open, .int i_stood, .ref (q 3), .ref (q 4), .ref (q 5), .int i_nodes, .int i_half, .int i_made, .ref (q 6), .ref (q 7), .ref (q 8), .ref (q 9), .ref (q 10), .ref (q 11), .int i_rows, .ref (q 12), .ref (q 13), .ref (q 14), .int i_state, .ref (q 15), .ref (q 16), .ref (q 17), .int i_tested, .ref (q 18), .ref wa, .int i_length])), (q 3, .inl (cy 1, 6000, .inl W0)), (q 4, .inl (cy 1, 6000, .inl F0_)), (q 5, .inl (cy 1, 6000, .inl S0)), (q 16, .inl (cy 2, 71680, .inr (.inl (vp_updL sk1 (nI (1024 * av + w)).toNatClampNeg ((sk1 (1024 * av + w)) ||| (sk1 (1024 * (av + 1) + w)))))))] H := hP
        have hD : va_D A [(h0, .inr (10, [.ref (q 0), .int i_size, .ref (q 1), .ref (q 2), .int i_words, .int i_next, .int i_open, .int i_stood, .ref (q 3), .ref (q 4), .ref (q 5), .int i_nodes, .int i_half, .int i_made, .ref (q 6), .ref (q 7), .ref (q 8), .ref (q 9), .ref (q 10), .ref (q 11), .int i_rows, .ref (q 12), .ref (q 13), .ref (q 14), .int i_state, .ref (q 15), .ref (q 16), .ref (q 17), .int i_tested, .ref (q 18), .ref wa, .int i_length])), (q 3, .inl (cy 1, 6000, .inl W0)), (q 4, .inl (cy 1, 6000, .inl F0_)), (q 5, .inl (cy 1, 6000, .inl S0)), (q 16, .inl (cy 2, 71680, .inr (.inl (vp_updL sk1 (nI (1024 * av + w)).toNatClampNeg ((sk1 (1024 * av + w)) ||| (sk1 (1024 * (av + 1) + w)))))))] := hD
        have ef_217 : (vp_updL sk1 (nI (1024 * av + w)).toNatClampNeg ((sk1 (1024 * av + w)) ||| (sk1 (1024 * (av + 1) + w)))) = (vp_updL sk1 (1024 * av + w) ((sk1 (1024 * av + w)) ||| (sk1 (1024 * (av + 1) + w)))) := by rw [nI_clamp (by omega)]
        rw [ef_217] at hP hD
        refine lv_iinc (v := nI (w + 1)) (lv' := [(4, .int (nI (w + 1))), (7, .long (sk1 (1024 * (av + 1) + w))), (5, .long (sk1 (1024 * av + w))), (3, .int 18), (0, .ref h0), (1, .int (nI n)), (2, .int (nI av))]) hx hb dX9_table_218 hl (k := 2) rfl (nI_1 w) (by decide) rfl (fun ls hl => ?_)
        refine lv_goto (tgt := 146) hx hb dX9_table_221 (by decide) ?_
        exact ih146 ((w + 1), (vp_updL sk1 (1024 * av + w) ((sk1 (1024 * av + w)) ||| (sk1 (1024 * (av + 1) + w))))) _ _ ls ⟨hP.sub [0, 1, 2, 3, 4] rfl, hD.sub [0, 1, 2, 3, 4] (by decide) rfl, hS, lv_sub hl [0, 3, 4, 5, 6] rfl, ⟨by omega, tbI_s hI2 hw1024 (by rw [show sk1 (1024 * av + w) = fp_tv W0 F0_ S0 (bsg w) d k from tbI_b hI2 hw1024, show sk1 (1024 * (av + 1) + w) = fp_tv W0 F0_ S0 (bsg w) d (n - 1) from hI3 w hw1024]), fun w9 h9 => (pk_uLn (by omega)).trans (hI3 w9 h9)⟩⟩ (by (try dsimp only); omega)

theorem c_M_table (l : Launch) (D : va_G) (cy : Nat → ClassId) (e : Nat → Nat) : ∀ d, TabC l D cy e d := by
  intro d
  induction d with
  | zero =>
    unfold TabC
    intros
    rename_i ht hn hav
    exact False.elim ht
  | succ d ih => exact c_M_table_s l D cy e d ih
