set_option maxHeartbeats 4000000 in
set_option maxRecDepth 100000 in
/-- say8: nb bytes -/
theorem c_M_say8 (l : Launch) (D : va_G) (cy : Nat → ClassId) (e : Nat → Nat)  (h0 : Nat) (q : Nat → Nat) (i_size : Int32) (i_words : Int32) (i_next : Int32) (i_open : Int32) (i_stood : Int32) (i_nodes : Int32) (i_half : Int32) (i_made : Int32) (i_rows : Int32) (i_state : Int32) (i_tested : Int32) (x8 : Int64) (nb : Nat) (cap0 : Nat) (L : Nat) (wa : Nat) (fw : Nat → Int32) (sz : Nat) (hL : L + nb ≤ 16 * cap0) (hc0 : 1 ≤ cap0 ∧ cap0 ≤ 65536) (hfw : sb_Fit fw) (hb8 : b8 nb x8) : Met l yX9_say8 wsX9_say8 ({ frames := 2, cells := ccA (L + nb) cap0 - ccA L cap0, slots := ssA (L + nb) cap0 - ssA L cap0, locals := 82 }) (va_Pc [.ref h0, .long x8] (mt_B D cy e [(h0, .inr (10, [.ref (q 0), .int i_size, .ref (q 1), .ref (q 2), .int i_words, .int i_next, .int i_open, .int i_stood, .ref (q 3), .ref (q 4), .ref (q 5), .int i_nodes, .int i_half, .int i_made, .ref (q 6), .ref (q 7), .ref (q 8), .ref (q 9), .ref (q 10), .ref (q 11), .int i_rows, .ref (q 12), .ref (q 13), .ref (q 14), .int i_state, .ref (q 15), .ref (q 16), .ref (q 17), .int i_tested, .ref (q 18), .ref wa, .int (nI L)])), (wa, .inl (cy 0, capA L cap0, .inl fw))] sz)) (va_Qv (fun (u : Nat × (Nat → Int32)) => match u with | (wa2, fw2) => sb_Fit fw2) (mt_Q D (fun (u : Nat × (Nat → Int32)) => match u with | (wa2, fw2) => [(h0, .inr (10, [.ref (q 0), .int i_size, .ref (q 1), .ref (q 2), .int i_words, .int i_next, .int i_open, .int i_stood, .ref (q 3), .ref (q 4), .ref (q 5), .int i_nodes, .int i_half, .int i_made, .ref (q 6), .ref (q 7), .ref (q 8), .ref (q 9), .ref (q 10), .ref (q 11), .int i_rows, .ref (q 12), .ref (q 13), .ref (q 14), .int i_state, .ref (q 15), .ref (q 16), .ref (q 17), .int i_tested, .ref (q 18), .ref wa2, .int (nI (L + nb))])), (wa2, .inl (cy 0, capA (L + nb) cap0, .inl fw2))]) (va_A [(h0, .inr (10, [.ref (q 0), .int i_size, .ref (q 1), .ref (q 2), .int i_words, .int i_next, .int i_open, .int i_stood, .ref (q 3), .ref (q 4), .ref (q 5), .int i_nodes, .int i_half, .int i_made, .ref (q 6), .ref (q 7), .ref (q 8), .ref (q 9), .ref (q 10), .ref (q 11), .int i_rows, .ref (q 12), .ref (q 13), .ref (q 14), .int i_state, .ref (q 15), .ref (q 16), .ref (q 17), .int i_tested, .ref (q 18), .ref wa, .int (nI L)])), (wa, .inl (cy 0, capA L cap0, .inl fw))] sz)) (va_A [(h0, .inr (10, [.ref (q 0), .int i_size, .ref (q 1), .ref (q 2), .int i_words, .int i_next, .int i_open, .int i_stood, .ref (q 3), .ref (q 4), .ref (q 5), .int i_nodes, .int i_half, .int i_made, .ref (q 6), .ref (q 7), .ref (q 8), .ref (q 9), .ref (q 10), .ref (q 11), .int i_rows, .ref (q 12), .ref (q 13), .ref (q 14), .int i_state, .ref (q 15), .ref (q 16), .ref (q 17), .int i_tested, .ref (q 18), .ref wa, .int (nI L)])), (wa, .inl (cy 0, capA L cap0, .inl fw))] sz)) (ccA (L + nb) cap0 - ccA L cap0) (ssA (L + nb) cap0 - ssA L cap0) (va_A [(h0, .inr (10, [.ref (q 0), .int i_size, .ref (q 1), .ref (q 2), .int i_words, .int i_next, .int i_open, .int i_stood, .ref (q 3), .ref (q 4), .ref (q 5), .int i_nodes, .int i_half, .int i_made, .ref (q 6), .ref (q 7), .ref (q 8), .ref (q 9), .ref (q 10), .ref (q 11), .int i_rows, .ref (q 12), .ref (q 13), .ref (q 14), .int i_state, .ref (q 15), .ref (q 16), .ref (q 17), .int i_tested, .ref (q 18), .ref wa, .int (nI L)])), (wa, .inl (cy 0, capA L cap0, .inl fw))] sz) := by
  refine Met.ofW (cc := cX9_say8) (maxL := 5) (ret := none) (by decide) rfl ?_
  intro p ev s m args below meth c s₁ B hml hv
  obtain ⟨rfl, hsz, hP, hK, hD0, hG⟩ := hv
  have hx := B.exec
  have hb := B.bytes
  have hr := B.returns
  have hts := atoms_spec (ws := wsX9_say8) B.pre
  have hown : s.vm.findClass RX9 = some m.cls := findClass_of_methodNamed B.named
  have hlocks := B.notSynchronized
  subst hsz
  have hD := hD0.self (sz := s.heap.size)
  generalize hAe : va_A [(h0, .inr (10, [.ref (q 0), .int i_size, .ref (q 1), .ref (q 2), .int i_words, .int i_next, .int i_open, .int i_stood, .ref (q 3), .ref (q 4), .ref (q 5), .int i_nodes, .int i_half, .int i_made, .ref (q 6), .ref (q 7), .ref (q 8), .ref (q 9), .ref (q 10), .ref (q 11), .int i_rows, .ref (q 12), .ref (q 13), .ref (q 14), .int i_state, .ref (q 15), .ref (q 16), .ref (q 17), .int i_tested, .ref (q 18), .ref wa, .int (nI L)])), (wa, .inl (cy 0, capA L cap0, .inl fw))] s.heap.size = A at hD hG ⊢
  have hA : ∀ q : Nat, s.heap.size ≤ q → A q := fun q h => by rw [← hAe]; exact Or.inr h
  have hS : va_S A s.heap s.heap [] := va_S.rf
  have hP : va_P D vwCl [(h0, .inr (10, [.ref (q 0), .int i_size, .ref (q 1), .ref (q 2), .int i_words, .int i_next, .int i_open, .int i_stood, .ref (q 3), .ref (q 4), .ref (q 5), .int i_nodes, .int i_half, .int i_made, .ref (q 6), .ref (q 7), .ref (q 8), .ref (q 9), .ref (q 10), .ref (q 11), .int i_rows, .ref (q 12), .ref (q 13), .ref (q 14), .int i_state, .ref (q 15), .ref (q 16), .ref (q 17), .int i_tested, .ref (q 18), .ref wa, .int (nI L)])), (wa, .inl (cy 0, capA L cap0, .inl fw))] s.heap := hP
  have iX9 : ∀ w ∈ wsX90, w ∈ wsX9_say8 := fun w h => List.mem_cons_of_mem _ (List.mem_append_right _ h)
  have hl := lv_entry ([.ref h0, .long x8]) (n := 5) (Nat.le_of_ble_eq_true rfl)
  rw [lg_entry_eq]
  generalize (lg_sl ([.ref h0, .long x8]) ++ List.replicate (5 - (lg_sl ([.ref h0, .long x8])).length) Slot.unset).toArray = ls at hl ⊢
  have hl : lv_has ls 5 [(0, .ref h0), (1, .long x8)] := hl
  refine lv_lload_n hx hb dX9_say8_0 rfl (lv_at hl 1 rfl) ?_
  refine lv_lstore_n (lv' := [(3, .long x8), (0, .ref h0), (1, .long x8)]) hx hb dX9_say8_1 rfl hl (by decide) rfl (fun ls hl => ?_)
  refine W.widen (k := ccA (L + 0) cap0 - ccA (L) cap0) (n := ssA (L + 0) cap0 - ssA (L) cap0) (Nat.zero_le _) (Nat.zero_le _) ?_
  refine lp_Wx (σ := Nat × Int64 × Nat × (Nat → Int32)) (Wf := fun zz9 H locs ls => W p l ev _ s m _ below meth c H locs (ccA (L + zz9.1) cap0 - ccA (L) cap0) (ssA (L + zz9.1) cap0 - ssA (L) cap0) _ (F0 m 2 ls [])) (fun zz9 H locs ls => match zz9 with | (i, y, wa1, f1) => va_P D vwCl [(h0, .inr (10, [.ref (q 0), .int i_size, .ref (q 1), .ref (q 2), .int i_words, .int i_next, .int i_open, .int i_stood, .ref (q 3), .ref (q 4), .ref (q 5), .int i_nodes, .int i_half, .int i_made, .ref (q 6), .ref (q 7), .ref (q 8), .ref (q 9), .ref (q 10), .ref (q 11), .int i_rows, .ref (q 12), .ref (q 13), .ref (q 14), .int i_state, .ref (q 15), .ref (q 16), .ref (q 17), .int i_tested, .ref (q 18), .ref wa1, .int (nI (L + i))])), (wa1, .inl (cy 0, capA (L + i) cap0, .inl f1))] H ∧ va_D A [(h0, .inr (10, [.ref (q 0), .int i_size, .ref (q 1), .ref (q 2), .int i_words, .int i_next, .int i_open, .int i_stood, .ref (q 3), .ref (q 4), .ref (q 5), .int i_nodes, .int i_half, .int i_made, .ref (q 6), .ref (q 7), .ref (q 8), .ref (q 9), .ref (q 10), .ref (q 11), .int i_rows, .ref (q 12), .ref (q 13), .ref (q 14), .int i_state, .ref (q 15), .ref (q 16), .ref (q 17), .int i_tested, .ref (q 18), .ref wa1, .int (nI (L + i))])), (wa1, .inl (cy 0, capA (L + i) cap0, .inl f1))] ∧ va_S A s.heap H locs ∧ lv_has ls 5 [(3, .long y), (0, .ref h0), (1, .long x8)] ∧ (i ≤ nb ∧ b8 (nb - i) y ∧ sb_Fit f1)) (fun zz9 => match zz9 with | (i, y, wa1, f1) => nb - i) ?_ (0, x8, wa, fw) _ _ ls ⟨hP, hD, hS, lv_sub hl [0, 1, 2] rfl, ⟨Nat.zero_le _, hb8, hfw⟩⟩
  intro zz9 H locs ls hI ih
  obtain ⟨i, y, wa1, f1⟩ := zz9
  obtain ⟨hP, hD, hS, hl, hI⟩ := hI
  dsimp only
  have ih2 := ih
  have hI2 := hI
  have hP : va_P D vwCl [(h0, .inr (10, [.ref (q 0), .int i_size, .ref (q 1), .ref (q 2), .int i_words, .int i_next, .int i_open, .int i_stood, .ref (q 3), .ref (q 4), .ref (q 5), .int i_nodes, .int i_half, .int i_made, .ref (q 6), .ref (q 7), .ref (q 8), .ref (q 9), .ref (q 10), .ref (q 11), .int i_rows, .ref (q 12), .ref (q 13), .ref (q 14), .int i_state, .ref (q 15), .ref (q 16), .ref (q 17), .int i_tested, .ref (q 18), .ref wa1, .int (nI (L + i))])), (wa1, .inl (cy 0, capA (L + i) cap0, .inl f1))] H := hP
  have hD : va_D A [(h0, .inr (10, [.ref (q 0), .int i_size, .ref (q 1), .ref (q 2), .int i_words, .int i_next, .int i_open, .int i_stood, .ref (q 3), .ref (q 4), .ref (q 5), .int i_nodes, .int i_half, .int i_made, .ref (q 6), .ref (q 7), .ref (q 8), .ref (q 9), .ref (q 10), .ref (q 11), .int i_rows, .ref (q 12), .ref (q 13), .ref (q 14), .int i_state, .ref (q 15), .ref (q 16), .ref (q 17), .int i_tested, .ref (q 18), .ref wa1, .int (nI (L + i))])), (wa1, .inl (cy 0, capA (L + i) cap0, .inl f1))] := hD
  have hl : lv_has ls 5 [(3, .long y), (0, .ref h0), (1, .long x8)] := hl
  obtain ⟨hJ1, hJ2, hJ3⟩ := hI
  refine lv_lload_n hx hb dX9_say8_2 rfl (lv_at hl 0 rfl) ?_
  refine lv_lconst (v := 0) hx hb dX9_say8_3 (by decide +kernel) ?_
  refine W.lcmp hx hb dX9_say8_4 ?_
  refine lv_if_eq (tgt := 26) hx hb dX9_say8_5 (by decide) (fun c5 => ?_) (fun c5 => ?_)
  · have hi : i = nb := by have h9 := b8_end hJ2 c5; omega
    have hLe : L + i = L + nb := by omega
    rw [hLe] at hP hD
    have hP : va_P D vwCl [(h0, .inr (10, [.ref (q 0), .int i_size, .ref (q 1), .ref (q 2), .int i_words, .int i_next, .int i_open, .int i_stood, .ref (q 3), .ref (q 4), .ref (q 5), .int i_nodes, .int i_half, .int i_made, .ref (q 6), .ref (q 7), .ref (q 8), .ref (q 9), .ref (q 10), .ref (q 11), .int i_rows, .ref (q 12), .ref (q 13), .ref (q 14), .int i_state, .ref (q 15), .ref (q 16), .ref (q 17), .int i_tested, .ref (q 18), .ref wa1, .int (nI (L + nb))])), (wa1, .inl (cy 0, capA (L + nb) cap0, .inl f1))] H := hP
    have hD : va_D A [(h0, .inr (10, [.ref (q 0), .int i_size, .ref (q 1), .ref (q 2), .int i_words, .int i_next, .int i_open, .int i_stood, .ref (q 3), .ref (q 4), .ref (q 5), .int i_nodes, .int i_half, .int i_made, .ref (q 6), .ref (q 7), .ref (q 8), .ref (q 9), .ref (q 10), .ref (q 11), .int i_rows, .ref (q 12), .ref (q 13), .ref (q 14), .int i_state, .ref (q 15), .ref (q 16), .ref (q 17), .int i_tested, .ref (q 18), .ref wa1, .int (nI (L + nb))])), (wa1, .inl (cy 0, capA (L + nb) cap0, .inl f1))] := hD
    have hP9 : va_P D vwCl [(h0, .inr (10, [.ref (q 0), .int i_size, .ref (q 1), .ref (q 2), .int i_words, .int i_next, .int i_open, .int i_stood, .ref (q 3), .ref (q 4), .ref (q 5), .int i_nodes, .int i_half, .int i_made, .ref (q 6), .ref (q 7), .ref (q 8), .ref (q 9), .ref (q 10), .ref (q 11), .int i_rows, .ref (q 12), .ref (q 13), .ref (q 14), .int i_state, .ref (q 15), .ref (q 16), .ref (q 17), .int i_tested, .ref (q 18), .ref wa1, .int (nI (L + nb))])), (wa1, .inl (cy 0, capA (L + nb) cap0, .inl f1))] H := hP.sub [0, 1] rfl
    have hD9 : va_D A [(h0, .inr (10, [.ref (q 0), .int i_size, .ref (q 1), .ref (q 2), .int i_words, .int i_next, .int i_open, .int i_stood, .ref (q 3), .ref (q 4), .ref (q 5), .int i_nodes, .int i_half, .int i_made, .ref (q 6), .ref (q 7), .ref (q 8), .ref (q 9), .ref (q 10), .ref (q 11), .int i_rows, .ref (q 12), .ref (q 13), .ref (q 14), .int i_state, .ref (q 15), .ref (q 16), .ref (q 17), .int i_tested, .ref (q 18), .ref wa1, .int (nI (L + nb))])), (wa1, .inl (cy 0, capA (L + nb) cap0, .inl f1))] := hD.sub [0, 1] (by decide) rfl
    refine W.widen (k := ccA (L + nb) cap0 - ccA L cap0) (n := ssA (L + nb) cap0 - ssA L cap0) (Nat.le_of_eq (by rw [hLe])) (Nat.le_of_eq (by rw [hLe])) ?_
    exact W.vret hx hb hr (fun t ht hW => ⟨⟨(wa1, f1), rfl, hJ3, by rw [ht]; exact hP9, hD9⟩, hS.F ht⟩) hS.2.2 dX9_say8_26
  · have hs8 := b8_step hJ2 c5
    refine lv_aload_n hx hb dX9_say8_8 rfl (lv_at hl 1 rfl) ?_
    refine lv_lload_n hx hb dX9_say8_9 rfl (lv_at hl 0 rfl) ?_
    refine lv_ldc2 (v := 255) hx hb hown (hts (.constantLong RX9 208 (255)) (by decide +kernel)) dX9_say8_10 ?_
    refine lv_land hx hb dX9_say8_13 ?_
    refine lv_l2i (v := (y &&& 255).toInt32) hx hb dX9_say8_14 (rfl) ?_
    refine mt_callv (wr := []) (va_runV (As := [.int ((y &&& 255).toInt32)]) (rest := []) ⟨hx, hb, hml, hown, hts⟩ (c_M_say l D cy e h0 q i_size i_words i_next i_open i_stood i_nodes i_half i_made i_rows i_state i_tested ((y &&& 255).toInt32) cap0 (L + i) wa1 f1 H.size (by omega) hc0 hJ3) (cwV 1 hts gX9_say8_X9_say rfl rfl rfl (by decide +kernel) ⟨Nat.le_of_ble_eq_true rfl, Nat.le_of_ble_eq_true rfl⟩) (mt_preV hP hD hK hS hA hG [0, 1] rfl (by decide) (q := (RX9, TX9, 32)) (ci := 10) (q0 := 0) rfl rfl) rfl rfl hl.1 rfl (lv_room (Nat.le_of_ble_eq_true rfl)) dX9_say8_15 ⟨acc_c (by omega) (by omega) (by omega), acc_s (by omega) (by omega) (by omega)⟩) hP hD hS hA [0, 1] [] rfl rfl (by decide) (by decide) (fun u H locs hw hP hD hS => ?_)
    obtain ⟨wa2_15, fw2_15⟩ := u
    have hP : va_P D vwCl [(h0, .inr (10, [.ref (q 0), .int i_size, .ref (q 1), .ref (q 2), .int i_words, .int i_next, .int i_open, .int i_stood, .ref (q 3), .ref (q 4), .ref (q 5), .int i_nodes, .int i_half, .int i_made, .ref (q 6), .ref (q 7), .ref (q 8), .ref (q 9), .ref (q 10), .ref (q 11), .int i_rows, .ref (q 12), .ref (q 13), .ref (q 14), .int i_state, .ref (q 15), .ref (q 16), .ref (q 17), .int i_tested, .ref (q 18), .ref wa2_15, .int (nI (L + i + 1))])), (wa2_15, .inl (cy 0, capA (L + i + 1) cap0, .inl fw2_15))] H := hP
    have hD : va_D A [(h0, .inr (10, [.ref (q 0), .int i_size, .ref (q 1), .ref (q 2), .int i_words, .int i_next, .int i_open, .int i_stood, .ref (q 3), .ref (q 4), .ref (q 5), .int i_nodes, .int i_half, .int i_made, .ref (q 6), .ref (q 7), .ref (q 8), .ref (q 9), .ref (q 10), .ref (q 11), .int i_rows, .ref (q 12), .ref (q 13), .ref (q 14), .int i_state, .ref (q 15), .ref (q 16), .ref (q 17), .int i_tested, .ref (q 18), .ref wa2_15, .int (nI (L + i + 1))])), (wa2_15, .inl (cy 0, capA (L + i + 1) cap0, .inl fw2_15))] := hD
    replace hw : sb_Fit fw2_15 := hw
    refine W.widen (k := ccA (L + i + 1) cap0 - ccA (L) cap0) (n := ssA (L + i + 1) cap0 - ssA (L) cap0) (acc_c2 (by omega) (by omega)) (acc_s2 (by omega) (by omega)) ?_
    refine lv_lload_n hx hb dX9_say8_18 rfl (lv_at hl 0 rfl) ?_
    refine lv_bipush (v := 8) hx hb dX9_say8_19 (by decide +kernel) ?_
    refine lv_lushr (v := (y.toUInt64 >>> ((8 : Int32).toInt64.toUInt64 &&& Int64.toUInt64 63)).toInt64) hx hb dX9_say8_21 (rfl) ?_
    refine lv_lstore_n (lv' := [(3, .long ((y.toUInt64 >>> ((8 : Int32).toInt64.toUInt64 &&& Int64.toUInt64 63)).toInt64)), (0, .ref h0), (1, .long x8)]) hx hb dX9_say8_22 rfl hl (by decide) rfl (fun ls hl => ?_)
    refine lv_goto (tgt := 2) hx hb dX9_say8_23 (by decide) ?_
    exact ih2 ((i + 1), ((y.toUInt64 >>> ((8 : Int32).toInt64.toUInt64 &&& Int64.toUInt64 63)).toInt64), wa2_15, fw2_15) _ _ ls ⟨hP.sub [0, 1] rfl, hD.sub [0, 1] (by decide) rfl, hS, lv_sub hl [0, 1, 2] rfl, ⟨by omega, by rw [show nb - (i + 1) = nb - i - 1 by omega]; exact hs8.2, hw⟩⟩ (by (try dsimp only); omega)

set_option maxHeartbeats 4000000 in
set_option maxRecDepth 100000 in
/-- sayNumber -/
theorem c_M_sayNumber (l : Launch) (D : va_G) (cy : Nat → ClassId) (e : Nat → Nat)  (h0 : Nat) (q : Nat → Nat) (i_size : Int32) (i_words : Int32) (i_next : Int32) (i_open : Int32) (i_stood : Int32) (i_nodes : Int32) (i_half : Int32) (i_made : Int32) (i_rows : Int32) (i_state : Int32) (i_tested : Int32) (x : Nat) (cap0 : Nat) (L : Nat) (wa : Nat) (fw : Nat → Int32) (sz : Nat) (hL : L + dgt x ≤ 16 * cap0) (hc0 : 1 ≤ cap0 ∧ cap0 ≤ 65536) (hfw : sb_Fit fw) (hx9 : x ≤ 3600) : Met l yX9_sayNumber wsX9_sayNumber ({ frames := 2, cells := ccA (L + dgt x) cap0 - ccA L cap0, slots := ssA (L + dgt x) cap0 - ssA L cap0, locals := 82 }) (va_Pc [.ref h0, .int (nI x)] (mt_B D cy e [(h0, .inr (10, [.ref (q 0), .int i_size, .ref (q 1), .ref (q 2), .int i_words, .int i_next, .int i_open, .int i_stood, .ref (q 3), .ref (q 4), .ref (q 5), .int i_nodes, .int i_half, .int i_made, .ref (q 6), .ref (q 7), .ref (q 8), .ref (q 9), .ref (q 10), .ref (q 11), .int i_rows, .ref (q 12), .ref (q 13), .ref (q 14), .int i_state, .ref (q 15), .ref (q 16), .ref (q 17), .int i_tested, .ref (q 18), .ref wa, .int (nI L)])), (wa, .inl (cy 0, capA L cap0, .inl fw))] sz)) (va_Qv (fun (u : Nat × (Nat → Int32)) => match u with | (wa2, fw2) => sb_Fit fw2) (mt_Q D (fun (u : Nat × (Nat → Int32)) => match u with | (wa2, fw2) => [(h0, .inr (10, [.ref (q 0), .int i_size, .ref (q 1), .ref (q 2), .int i_words, .int i_next, .int i_open, .int i_stood, .ref (q 3), .ref (q 4), .ref (q 5), .int i_nodes, .int i_half, .int i_made, .ref (q 6), .ref (q 7), .ref (q 8), .ref (q 9), .ref (q 10), .ref (q 11), .int i_rows, .ref (q 12), .ref (q 13), .ref (q 14), .int i_state, .ref (q 15), .ref (q 16), .ref (q 17), .int i_tested, .ref (q 18), .ref wa2, .int (nI (L + dgt x))])), (wa2, .inl (cy 0, capA (L + dgt x) cap0, .inl fw2))]) (va_A [(h0, .inr (10, [.ref (q 0), .int i_size, .ref (q 1), .ref (q 2), .int i_words, .int i_next, .int i_open, .int i_stood, .ref (q 3), .ref (q 4), .ref (q 5), .int i_nodes, .int i_half, .int i_made, .ref (q 6), .ref (q 7), .ref (q 8), .ref (q 9), .ref (q 10), .ref (q 11), .int i_rows, .ref (q 12), .ref (q 13), .ref (q 14), .int i_state, .ref (q 15), .ref (q 16), .ref (q 17), .int i_tested, .ref (q 18), .ref wa, .int (nI L)])), (wa, .inl (cy 0, capA L cap0, .inl fw))] sz)) (va_A [(h0, .inr (10, [.ref (q 0), .int i_size, .ref (q 1), .ref (q 2), .int i_words, .int i_next, .int i_open, .int i_stood, .ref (q 3), .ref (q 4), .ref (q 5), .int i_nodes, .int i_half, .int i_made, .ref (q 6), .ref (q 7), .ref (q 8), .ref (q 9), .ref (q 10), .ref (q 11), .int i_rows, .ref (q 12), .ref (q 13), .ref (q 14), .int i_state, .ref (q 15), .ref (q 16), .ref (q 17), .int i_tested, .ref (q 18), .ref wa, .int (nI L)])), (wa, .inl (cy 0, capA L cap0, .inl fw))] sz)) (ccA (L + dgt x) cap0 - ccA L cap0) (ssA (L + dgt x) cap0 - ssA L cap0) (va_A [(h0, .inr (10, [.ref (q 0), .int i_size, .ref (q 1), .ref (q 2), .int i_words, .int i_next, .int i_open, .int i_stood, .ref (q 3), .ref (q 4), .ref (q 5), .int i_nodes, .int i_half, .int i_made, .ref (q 6), .ref (q 7), .ref (q 8), .ref (q 9), .ref (q 10), .ref (q 11), .int i_rows, .ref (q 12), .ref (q 13), .ref (q 14), .int i_state, .ref (q 15), .ref (q 16), .ref (q 17), .int i_tested, .ref (q 18), .ref wa, .int (nI L)])), (wa, .inl (cy 0, capA L cap0, .inl fw))] sz) := by
  refine Met.ofW (cc := cX9_sayNumber) (maxL := 4) (ret := none) (by decide) rfl ?_
  intro p ev s m args below meth c s₁ B hml hv
  obtain ⟨rfl, hsz, hP, hK, hD0, hG⟩ := hv
  have hx := B.exec
  have hb := B.bytes
  have hr := B.returns
  have hts := atoms_spec (ws := wsX9_sayNumber) B.pre
  have hown : s.vm.findClass RX9 = some m.cls := findClass_of_methodNamed B.named
  have hlocks := B.notSynchronized
  subst hsz
  have hD := hD0.self (sz := s.heap.size)
  generalize hAe : va_A [(h0, .inr (10, [.ref (q 0), .int i_size, .ref (q 1), .ref (q 2), .int i_words, .int i_next, .int i_open, .int i_stood, .ref (q 3), .ref (q 4), .ref (q 5), .int i_nodes, .int i_half, .int i_made, .ref (q 6), .ref (q 7), .ref (q 8), .ref (q 9), .ref (q 10), .ref (q 11), .int i_rows, .ref (q 12), .ref (q 13), .ref (q 14), .int i_state, .ref (q 15), .ref (q 16), .ref (q 17), .int i_tested, .ref (q 18), .ref wa, .int (nI L)])), (wa, .inl (cy 0, capA L cap0, .inl fw))] s.heap.size = A at hD hG ⊢
  have hA : ∀ q : Nat, s.heap.size ≤ q → A q := fun q h => by rw [← hAe]; exact Or.inr h
  have hS : va_S A s.heap s.heap [] := va_S.rf
  have hP : va_P D vwCl [(h0, .inr (10, [.ref (q 0), .int i_size, .ref (q 1), .ref (q 2), .int i_words, .int i_next, .int i_open, .int i_stood, .ref (q 3), .ref (q 4), .ref (q 5), .int i_nodes, .int i_half, .int i_made, .ref (q 6), .ref (q 7), .ref (q 8), .ref (q 9), .ref (q 10), .ref (q 11), .int i_rows, .ref (q 12), .ref (q 13), .ref (q 14), .int i_state, .ref (q 15), .ref (q 16), .ref (q 17), .int i_tested, .ref (q 18), .ref wa, .int (nI L)])), (wa, .inl (cy 0, capA L cap0, .inl fw))] s.heap := hP
  have iX9 : ∀ w ∈ wsX90, w ∈ wsX9_sayNumber := fun w h => List.mem_cons_of_mem _ (List.mem_append_right _ h)
  have hl := lv_entry ([.ref h0, .int (nI x)]) (n := 4) (Nat.le_of_ble_eq_true rfl)
  rw [lg_entry_eq]
  generalize (lg_sl ([.ref h0, .int (nI x)]) ++ List.replicate (4 - (lg_sl ([.ref h0, .int (nI x)])).length) Slot.unset).toArray = ls at hl ⊢
  have hl : lv_has ls 4 [(0, .ref h0), (1, .int (nI x))] := hl
  refine W.widen (k := ccA (L) cap0 - ccA (L) cap0) (n := ssA (L) cap0 - ssA (L) cap0) (Nat.zero_le _) (Nat.zero_le _) ?_
  rcases dgt_cases x hx9 with ⟨hd, hr1⟩ | ⟨hd, hr0, hr1⟩ | ⟨hd, hr0, hr1⟩ | ⟨hd, hr0⟩
  · have hfw0 := hfw
    refine lv_iconst (v := 1) hx hb dX9_sayNumber_0 (by decide +kernel) ?_
    refine lv_istore_n (lv' := [(2, .int 1), (0, .ref h0), (1, .int (nI x))]) hx hb dX9_sayNumber_1 rfl hl (by decide) rfl (fun ls hl => ?_)
    refine lv_iload_n hx hb dX9_sayNumber_2 rfl (lv_at hl 2 rfl) ?_
    refine lv_iload_n hx hb dX9_sayNumber_3 rfl (lv_at hl 0 rfl) ?_
    refine lv_idiv hx hb dX9_sayNumber_4 (by decide) ?_
    refine lv_topi (fun x_1 ex_1 => ?_)
    obtain rfl : x_1 = nI (x / 1) := by rw [ex_1]; exact pk_div (d := 1) (by omega) (by decide) (by decide)
    refine lv_bipush (v := 10) hx hb dX9_sayNumber_5 (by decide +kernel) ?_
    refine lv_icmp_lt (tgt := 18) hx hb dX9_sayNumber_7 (by decide) (fun _ => ?_) (fun c7 => absurd (nI_lt (a := x / 1) (b := 10) (by omega) (by decide)) c7)
    refine lv_iload_n hx hb dX9_sayNumber_18 rfl (lv_at hl 0 rfl) ?_
    refine lv_istore_n (lv' := [(3, .int 1), (2, .int 1), (0, .ref h0), (1, .int (nI x))]) hx hb dX9_sayNumber_19 rfl hl (by decide) rfl (fun ls hl => ?_)
    refine lv_iload_n hx hb dX9_sayNumber_20 rfl (lv_at hl 0 rfl) ?_
    refine lv_if_le (tgt := 45) hx hb dX9_sayNumber_21 (by decide) (fun c21 => absurd c21 (by decide)) (fun _ => ?_)
    refine lv_aload_n hx hb dX9_sayNumber_24 rfl (lv_at hl 2 rfl) ?_
    refine lv_bipush (v := 48) hx hb dX9_sayNumber_25 (by decide +kernel) ?_
    refine lv_iload_n hx hb dX9_sayNumber_27 rfl (lv_at hl 3 rfl) ?_
    refine lv_iload_n hx hb dX9_sayNumber_28 rfl (lv_at hl 0 rfl) ?_
    refine lv_idiv hx hb dX9_sayNumber_29 (by decide) ?_
    refine lv_bipush (v := 10) hx hb dX9_sayNumber_30 (by decide +kernel) ?_
    refine lv_irem hx hb dX9_sayNumber_32 (by decide) ?_
    refine lv_iadd hx hb dX9_sayNumber_33 ?_
    refine mt_callv (wr := []) (va_runV (As := [.int (48 + (((nI x) / 1) - ((nI x) / 1) / 10 * 10))]) (rest := []) ⟨hx, hb, hml, hown, hts⟩ (c_M_say l D cy e h0 q i_size i_words i_next i_open i_stood i_nodes i_half i_made i_rows i_state i_tested (48 + (((nI x) / 1) - ((nI x) / 1) / 10 * 10)) cap0 L wa fw s.heap.size (by omega) hc0 hfw0) (cwV 1 hts gX9_sayNumber_X9_say rfl rfl rfl (by decide +kernel) ⟨Nat.le_of_ble_eq_true rfl, Nat.le_of_ble_eq_true rfl⟩) (mt_preV hP hD hK hS hA hG [0, 1] rfl (by decide) (q := (RX9, TX9, 32)) (ci := 10) (q0 := 0) rfl rfl) rfl rfl hl.1 rfl (lv_room (Nat.le_of_ble_eq_true rfl)) dX9_sayNumber_34 ⟨acc_c (by omega) (by omega) (by omega), acc_s (by omega) (by omega) (by omega)⟩) hP hD hS hA [0, 1] [] rfl rfl (by decide) (by decide) (fun u H locs hw hP hD hS => ?_)
    obtain ⟨wa2_34, fw2_34⟩ := u
    have hP : va_P D vwCl [(h0, .inr (10, [.ref (q 0), .int i_size, .ref (q 1), .ref (q 2), .int i_words, .int i_next, .int i_open, .int i_stood, .ref (q 3), .ref (q 4), .ref (q 5), .int i_nodes, .int i_half, .int i_made, .ref (q 6), .ref (q 7), .ref (q 8), .ref (q 9), .ref (q 10), .ref (q 11), .int i_rows, .ref (q 12), .ref (q 13), .ref (q 14), .int i_state, .ref (q 15), .ref (q 16), .ref (q 17), .int i_tested, .ref (q 18), .ref wa2_34, .int (nI (L + 1))])), (wa2_34, .inl (cy 0, capA (L + 1) cap0, .inl fw2_34))] H := hP
    have hD : va_D A [(h0, .inr (10, [.ref (q 0), .int i_size, .ref (q 1), .ref (q 2), .int i_words, .int i_next, .int i_open, .int i_stood, .ref (q 3), .ref (q 4), .ref (q 5), .int i_nodes, .int i_half, .int i_made, .ref (q 6), .ref (q 7), .ref (q 8), .ref (q 9), .ref (q 10), .ref (q 11), .int i_rows, .ref (q 12), .ref (q 13), .ref (q 14), .int i_state, .ref (q 15), .ref (q 16), .ref (q 17), .int i_tested, .ref (q 18), .ref wa2_34, .int (nI (L + 1))])), (wa2_34, .inl (cy 0, capA (L + 1) cap0, .inl fw2_34))] := hD
    replace hw : sb_Fit fw2_34 := hw
    refine W.widen (k := ccA (L + 1) cap0 - ccA (L) cap0) (n := ssA (L + 1) cap0 - ssA (L) cap0) (acc_c2 (by omega) (by omega)) (acc_s2 (by omega) (by omega)) ?_
    have hfw0 := hw
    refine lv_iload_n hx hb dX9_sayNumber_37 rfl (lv_at hl 0 rfl) ?_
    refine lv_bipush (v := 10) hx hb dX9_sayNumber_38 (by decide +kernel) ?_
    refine lv_idiv hx hb dX9_sayNumber_40 (by decide) ?_
    refine lv_topi (fun x_2 ex_2 => ?_)
    obtain rfl : x_2 = 0 := by rw [ex_2]; decide
    refine lv_istore_n (lv' := [(3, .int 0), (2, .int 1), (0, .ref h0), (1, .int (nI x))]) hx hb dX9_sayNumber_41 rfl hl (by decide) rfl (fun ls hl => ?_)
    refine lv_goto (tgt := 20) hx hb dX9_sayNumber_42 (by decide) ?_
    refine lv_iload_n hx hb dX9_sayNumber_20 rfl (lv_at hl 0 rfl) ?_
    refine lv_if_le (tgt := 45) hx hb dX9_sayNumber_21 (by decide) (fun _ => ?_) (fun c21 => absurd (by decide) c21)
    have hLe : L + 1 = L + dgt x := by omega
    rw [hLe] at hP hD
    have hP : va_P D vwCl [(h0, .inr (10, [.ref (q 0), .int i_size, .ref (q 1), .ref (q 2), .int i_words, .int i_next, .int i_open, .int i_stood, .ref (q 3), .ref (q 4), .ref (q 5), .int i_nodes, .int i_half, .int i_made, .ref (q 6), .ref (q 7), .ref (q 8), .ref (q 9), .ref (q 10), .ref (q 11), .int i_rows, .ref (q 12), .ref (q 13), .ref (q 14), .int i_state, .ref (q 15), .ref (q 16), .ref (q 17), .int i_tested, .ref (q 18), .ref wa2_34, .int (nI (L + dgt x))])), (wa2_34, .inl (cy 0, capA (L + dgt x) cap0, .inl fw2_34))] H := hP
    have hD : va_D A [(h0, .inr (10, [.ref (q 0), .int i_size, .ref (q 1), .ref (q 2), .int i_words, .int i_next, .int i_open, .int i_stood, .ref (q 3), .ref (q 4), .ref (q 5), .int i_nodes, .int i_half, .int i_made, .ref (q 6), .ref (q 7), .ref (q 8), .ref (q 9), .ref (q 10), .ref (q 11), .int i_rows, .ref (q 12), .ref (q 13), .ref (q 14), .int i_state, .ref (q 15), .ref (q 16), .ref (q 17), .int i_tested, .ref (q 18), .ref wa2_34, .int (nI (L + dgt x))])), (wa2_34, .inl (cy 0, capA (L + dgt x) cap0, .inl fw2_34))] := hD
    have hP9 : va_P D vwCl [(h0, .inr (10, [.ref (q 0), .int i_size, .ref (q 1), .ref (q 2), .int i_words, .int i_next, .int i_open, .int i_stood, .ref (q 3), .ref (q 4), .ref (q 5), .int i_nodes, .int i_half, .int i_made, .ref (q 6), .ref (q 7), .ref (q 8), .ref (q 9), .ref (q 10), .ref (q 11), .int i_rows, .ref (q 12), .ref (q 13), .ref (q 14), .int i_state, .ref (q 15), .ref (q 16), .ref (q 17), .int i_tested, .ref (q 18), .ref wa2_34, .int (nI (L + dgt x))])), (wa2_34, .inl (cy 0, capA (L + dgt x) cap0, .inl fw2_34))] H := hP.sub [0, 1] rfl
    have hD9 : va_D A [(h0, .inr (10, [.ref (q 0), .int i_size, .ref (q 1), .ref (q 2), .int i_words, .int i_next, .int i_open, .int i_stood, .ref (q 3), .ref (q 4), .ref (q 5), .int i_nodes, .int i_half, .int i_made, .ref (q 6), .ref (q 7), .ref (q 8), .ref (q 9), .ref (q 10), .ref (q 11), .int i_rows, .ref (q 12), .ref (q 13), .ref (q 14), .int i_state, .ref (q 15), .ref (q 16), .ref (q 17), .int i_tested, .ref (q 18), .ref wa2_34, .int (nI (L + dgt x))])), (wa2_34, .inl (cy 0, capA (L + dgt x) cap0, .inl fw2_34))] := hD.sub [0, 1] (by decide) rfl
    refine W.widen (k := ccA (L + dgt x) cap0 - ccA L cap0) (n := ssA (L + dgt x) cap0 - ssA L cap0) (Nat.le_of_eq (by rw [hLe])) (Nat.le_of_eq (by rw [hLe])) ?_
    exact W.vret hx hb hr (fun t ht hW => ⟨⟨(wa2_34, fw2_34), rfl, hfw0, by rw [ht]; exact hP9, hD9⟩, hS.F ht⟩) hS.2.2 dX9_sayNumber_45
  · have hfw0 := hfw
    refine lv_iconst (v := 1) hx hb dX9_sayNumber_0 (by decide +kernel) ?_
    refine lv_istore_n (lv' := [(2, .int 1), (0, .ref h0), (1, .int (nI x))]) hx hb dX9_sayNumber_1 rfl hl (by decide) rfl (fun ls hl => ?_)
    refine lv_iload_n hx hb dX9_sayNumber_2 rfl (lv_at hl 2 rfl) ?_
    refine lv_iload_n hx hb dX9_sayNumber_3 rfl (lv_at hl 0 rfl) ?_
    refine lv_idiv hx hb dX9_sayNumber_4 (by decide) ?_
    refine lv_topi (fun x_3 ex_3 => ?_)
    obtain rfl : x_3 = nI (x / 1) := by rw [ex_3]; exact pk_div (d := 1) (by omega) (by decide) (by decide)
    refine lv_bipush (v := 10) hx hb dX9_sayNumber_5 (by decide +kernel) ?_
    refine lv_icmp_lt (tgt := 18) hx hb dX9_sayNumber_7 (by decide) (fun c7 => absurd c7 (nI_nlt (a := x / 1) (b := 10) (by omega) (by omega))) (fun _ => ?_)
    refine lv_iload_n hx hb dX9_sayNumber_10 rfl (lv_at hl 0 rfl) ?_
    refine lv_bipush (v := 10) hx hb dX9_sayNumber_11 (by decide +kernel) ?_
    refine lv_imul hx hb dX9_sayNumber_13 ?_
    refine lv_topi (fun x_4 ex_4 => ?_)
    obtain rfl : x_4 = 10 := by rw [ex_4]; decide
    refine lv_istore_n (lv' := [(2, .int 10), (0, .ref h0), (1, .int (nI x))]) hx hb dX9_sayNumber_14 rfl hl (by decide) rfl (fun ls hl => ?_)
    refine lv_goto (tgt := 2) hx hb dX9_sayNumber_15 (by decide) ?_
    refine lv_iload_n hx hb dX9_sayNumber_2 rfl (lv_at hl 2 rfl) ?_
    refine lv_iload_n hx hb dX9_sayNumber_3 rfl (lv_at hl 0 rfl) ?_
    refine lv_idiv hx hb dX9_sayNumber_4 (by decide) ?_
    refine lv_topi (fun x_5 ex_5 => ?_)
    obtain rfl : x_5 = nI (x / 10) := by rw [ex_5]; exact pk_div (d := 10) (by omega) (by decide) (by decide)
    refine lv_bipush (v := 10) hx hb dX9_sayNumber_5 (by decide +kernel) ?_
    refine lv_icmp_lt (tgt := 18) hx hb dX9_sayNumber_7 (by decide) (fun _ => ?_) (fun c7 => absurd (nI_lt (a := x / 10) (b := 10) (by omega) (by decide)) c7)
    refine lv_iload_n hx hb dX9_sayNumber_18 rfl (lv_at hl 0 rfl) ?_
    refine lv_istore_n (lv' := [(3, .int 10), (2, .int 10), (0, .ref h0), (1, .int (nI x))]) hx hb dX9_sayNumber_19 rfl hl (by decide) rfl (fun ls hl => ?_)
    refine lv_iload_n hx hb dX9_sayNumber_20 rfl (lv_at hl 0 rfl) ?_
    refine lv_if_le (tgt := 45) hx hb dX9_sayNumber_21 (by decide) (fun c21 => absurd c21 (by decide)) (fun _ => ?_)
    refine lv_aload_n hx hb dX9_sayNumber_24 rfl (lv_at hl 2 rfl) ?_
    refine lv_bipush (v := 48) hx hb dX9_sayNumber_25 (by decide +kernel) ?_
    refine lv_iload_n hx hb dX9_sayNumber_27 rfl (lv_at hl 3 rfl) ?_
    refine lv_iload_n hx hb dX9_sayNumber_28 rfl (lv_at hl 0 rfl) ?_
    refine lv_idiv hx hb dX9_sayNumber_29 (by decide) ?_
    refine lv_bipush (v := 10) hx hb dX9_sayNumber_30 (by decide +kernel) ?_
    refine lv_irem hx hb dX9_sayNumber_32 (by decide) ?_
    refine lv_iadd hx hb dX9_sayNumber_33 ?_
    refine mt_callv (wr := []) (va_runV (As := [.int (48 + (((nI x) / 10) - ((nI x) / 10) / 10 * 10))]) (rest := []) ⟨hx, hb, hml, hown, hts⟩ (c_M_say l D cy e h0 q i_size i_words i_next i_open i_stood i_nodes i_half i_made i_rows i_state i_tested (48 + (((nI x) / 10) - ((nI x) / 10) / 10 * 10)) cap0 L wa fw s.heap.size (by omega) hc0 hfw0) (cwV 1 hts gX9_sayNumber_X9_say rfl rfl rfl (by decide +kernel) ⟨Nat.le_of_ble_eq_true rfl, Nat.le_of_ble_eq_true rfl⟩) (mt_preV hP hD hK hS hA hG [0, 1] rfl (by decide) (q := (RX9, TX9, 32)) (ci := 10) (q0 := 0) rfl rfl) rfl rfl hl.1 rfl (lv_room (Nat.le_of_ble_eq_true rfl)) dX9_sayNumber_34 ⟨acc_c (by omega) (by omega) (by omega), acc_s (by omega) (by omega) (by omega)⟩) hP hD hS hA [0, 1] [] rfl rfl (by decide) (by decide) (fun u H locs hw hP hD hS => ?_)
    obtain ⟨wa2_34, fw2_34⟩ := u
    have hP : va_P D vwCl [(h0, .inr (10, [.ref (q 0), .int i_size, .ref (q 1), .ref (q 2), .int i_words, .int i_next, .int i_open, .int i_stood, .ref (q 3), .ref (q 4), .ref (q 5), .int i_nodes, .int i_half, .int i_made, .ref (q 6), .ref (q 7), .ref (q 8), .ref (q 9), .ref (q 10), .ref (q 11), .int i_rows, .ref (q 12), .ref (q 13), .ref (q 14), .int i_state, .ref (q 15), .ref (q 16), .ref (q 17), .int i_tested, .ref (q 18), .ref wa2_34, .int (nI (L + 1))])), (wa2_34, .inl (cy 0, capA (L + 1) cap0, .inl fw2_34))] H := hP
    have hD : va_D A [(h0, .inr (10, [.ref (q 0), .int i_size, .ref (q 1), .ref (q 2), .int i_words, .int i_next, .int i_open, .int i_stood, .ref (q 3), .ref (q 4), .ref (q 5), .int i_nodes, .int i_half, .int i_made, .ref (q 6), .ref (q 7), .ref (q 8), .ref (q 9), .ref (q 10), .ref (q 11), .int i_rows, .ref (q 12), .ref (q 13), .ref (q 14), .int i_state, .ref (q 15), .ref (q 16), .ref (q 17), .int i_tested, .ref (q 18), .ref wa2_34, .int (nI (L + 1))])), (wa2_34, .inl (cy 0, capA (L + 1) cap0, .inl fw2_34))] := hD
    replace hw : sb_Fit fw2_34 := hw
    refine W.widen (k := ccA (L + 1) cap0 - ccA (L) cap0) (n := ssA (L + 1) cap0 - ssA (L) cap0) (acc_c2 (by omega) (by omega)) (acc_s2 (by omega) (by omega)) ?_
    have hfw0 := hw
    refine lv_iload_n hx hb dX9_sayNumber_37 rfl (lv_at hl 0 rfl) ?_
    refine lv_bipush (v := 10) hx hb dX9_sayNumber_38 (by decide +kernel) ?_
    refine lv_idiv hx hb dX9_sayNumber_40 (by decide) ?_
    refine lv_topi (fun x_6 ex_6 => ?_)
    obtain rfl : x_6 = 1 := by rw [ex_6]; decide
    refine lv_istore_n (lv' := [(3, .int 1), (2, .int 10), (0, .ref h0), (1, .int (nI x))]) hx hb dX9_sayNumber_41 rfl hl (by decide) rfl (fun ls hl => ?_)
    refine lv_goto (tgt := 20) hx hb dX9_sayNumber_42 (by decide) ?_
    refine lv_iload_n hx hb dX9_sayNumber_20 rfl (lv_at hl 0 rfl) ?_
    refine lv_if_le (tgt := 45) hx hb dX9_sayNumber_21 (by decide) (fun c21 => absurd c21 (by decide)) (fun _ => ?_)
    refine lv_aload_n hx hb dX9_sayNumber_24 rfl (lv_at hl 2 rfl) ?_
    refine lv_bipush (v := 48) hx hb dX9_sayNumber_25 (by decide +kernel) ?_
    refine lv_iload_n hx hb dX9_sayNumber_27 rfl (lv_at hl 3 rfl) ?_
    refine lv_iload_n hx hb dX9_sayNumber_28 rfl (lv_at hl 0 rfl) ?_
    refine lv_idiv hx hb dX9_sayNumber_29 (by decide) ?_
    refine lv_bipush (v := 10) hx hb dX9_sayNumber_30 (by decide +kernel) ?_
    refine lv_irem hx hb dX9_sayNumber_32 (by decide) ?_
    refine lv_iadd hx hb dX9_sayNumber_33 ?_
    refine mt_callv (wr := []) (va_runV (As := [.int (48 + (((nI x) / 1) - ((nI x) / 1) / 10 * 10))]) (rest := []) ⟨hx, hb, hml, hown, hts⟩ (c_M_say l D cy e h0 q i_size i_words i_next i_open i_stood i_nodes i_half i_made i_rows i_state i_tested (48 + (((nI x) / 1) - ((nI x) / 1) / 10 * 10)) cap0 (L + 1) wa2_34 fw2_34 H.size (by omega) hc0 hfw0) (cwV 1 hts gX9_sayNumber_X9_say rfl rfl rfl (by decide +kernel) ⟨Nat.le_of_ble_eq_true rfl, Nat.le_of_ble_eq_true rfl⟩) (mt_preV hP hD hK hS hA hG [0, 1] rfl (by decide) (q := (RX9, TX9, 32)) (ci := 10) (q0 := 0) rfl rfl) rfl rfl hl.1 rfl (lv_room (Nat.le_of_ble_eq_true rfl)) dX9_sayNumber_34 ⟨acc_c (by omega) (by omega) (by omega), acc_s (by omega) (by omega) (by omega)⟩) hP hD hS hA [0, 1] [] rfl rfl (by decide) (by decide) (fun u H locs hw hP hD hS => ?_)
    obtain ⟨wa2_34, fw2_34⟩ := u
    have hP : va_P D vwCl [(h0, .inr (10, [.ref (q 0), .int i_size, .ref (q 1), .ref (q 2), .int i_words, .int i_next, .int i_open, .int i_stood, .ref (q 3), .ref (q 4), .ref (q 5), .int i_nodes, .int i_half, .int i_made, .ref (q 6), .ref (q 7), .ref (q 8), .ref (q 9), .ref (q 10), .ref (q 11), .int i_rows, .ref (q 12), .ref (q 13), .ref (q 14), .int i_state, .ref (q 15), .ref (q 16), .ref (q 17), .int i_tested, .ref (q 18), .ref wa2_34, .int (nI (L + 1 + 1))])), (wa2_34, .inl (cy 0, capA (L + 1 + 1) cap0, .inl fw2_34))] H := hP
    have hD : va_D A [(h0, .inr (10, [.ref (q 0), .int i_size, .ref (q 1), .ref (q 2), .int i_words, .int i_next, .int i_open, .int i_stood, .ref (q 3), .ref (q 4), .ref (q 5), .int i_nodes, .int i_half, .int i_made, .ref (q 6), .ref (q 7), .ref (q 8), .ref (q 9), .ref (q 10), .ref (q 11), .int i_rows, .ref (q 12), .ref (q 13), .ref (q 14), .int i_state, .ref (q 15), .ref (q 16), .ref (q 17), .int i_tested, .ref (q 18), .ref wa2_34, .int (nI (L + 1 + 1))])), (wa2_34, .inl (cy 0, capA (L + 1 + 1) cap0, .inl fw2_34))] := hD
    replace hw : sb_Fit fw2_34 := hw
    refine W.widen (k := ccA (L + 1 + 1) cap0 - ccA (L) cap0) (n := ssA (L + 1 + 1) cap0 - ssA (L) cap0) (acc_c2 (by omega) (by omega)) (acc_s2 (by omega) (by omega)) ?_
    have hfw0 := hw
    refine lv_iload_n hx hb dX9_sayNumber_37 rfl (lv_at hl 0 rfl) ?_
    refine lv_bipush (v := 10) hx hb dX9_sayNumber_38 (by decide +kernel) ?_
    refine lv_idiv hx hb dX9_sayNumber_40 (by decide) ?_
    refine lv_topi (fun x_7 ex_7 => ?_)
    obtain rfl : x_7 = 0 := by rw [ex_7]; decide
    refine lv_istore_n (lv' := [(3, .int 0), (2, .int 10), (0, .ref h0), (1, .int (nI x))]) hx hb dX9_sayNumber_41 rfl hl (by decide) rfl (fun ls hl => ?_)
    refine lv_goto (tgt := 20) hx hb dX9_sayNumber_42 (by decide) ?_
    refine lv_iload_n hx hb dX9_sayNumber_20 rfl (lv_at hl 0 rfl) ?_
    refine lv_if_le (tgt := 45) hx hb dX9_sayNumber_21 (by decide) (fun _ => ?_) (fun c21 => absurd (by decide) c21)
    have hLe : L + 1 + 1 = L + dgt x := by omega
    rw [hLe] at hP hD
    have hP : va_P D vwCl [(h0, .inr (10, [.ref (q 0), .int i_size, .ref (q 1), .ref (q 2), .int i_words, .int i_next, .int i_open, .int i_stood, .ref (q 3), .ref (q 4), .ref (q 5), .int i_nodes, .int i_half, .int i_made, .ref (q 6), .ref (q 7), .ref (q 8), .ref (q 9), .ref (q 10), .ref (q 11), .int i_rows, .ref (q 12), .ref (q 13), .ref (q 14), .int i_state, .ref (q 15), .ref (q 16), .ref (q 17), .int i_tested, .ref (q 18), .ref wa2_34, .int (nI (L + dgt x))])), (wa2_34, .inl (cy 0, capA (L + dgt x) cap0, .inl fw2_34))] H := hP
    have hD : va_D A [(h0, .inr (10, [.ref (q 0), .int i_size, .ref (q 1), .ref (q 2), .int i_words, .int i_next, .int i_open, .int i_stood, .ref (q 3), .ref (q 4), .ref (q 5), .int i_nodes, .int i_half, .int i_made, .ref (q 6), .ref (q 7), .ref (q 8), .ref (q 9), .ref (q 10), .ref (q 11), .int i_rows, .ref (q 12), .ref (q 13), .ref (q 14), .int i_state, .ref (q 15), .ref (q 16), .ref (q 17), .int i_tested, .ref (q 18), .ref wa2_34, .int (nI (L + dgt x))])), (wa2_34, .inl (cy 0, capA (L + dgt x) cap0, .inl fw2_34))] := hD
    have hP9 : va_P D vwCl [(h0, .inr (10, [.ref (q 0), .int i_size, .ref (q 1), .ref (q 2), .int i_words, .int i_next, .int i_open, .int i_stood, .ref (q 3), .ref (q 4), .ref (q 5), .int i_nodes, .int i_half, .int i_made, .ref (q 6), .ref (q 7), .ref (q 8), .ref (q 9), .ref (q 10), .ref (q 11), .int i_rows, .ref (q 12), .ref (q 13), .ref (q 14), .int i_state, .ref (q 15), .ref (q 16), .ref (q 17), .int i_tested, .ref (q 18), .ref wa2_34, .int (nI (L + dgt x))])), (wa2_34, .inl (cy 0, capA (L + dgt x) cap0, .inl fw2_34))] H := hP.sub [0, 1] rfl
    have hD9 : va_D A [(h0, .inr (10, [.ref (q 0), .int i_size, .ref (q 1), .ref (q 2), .int i_words, .int i_next, .int i_open, .int i_stood, .ref (q 3), .ref (q 4), .ref (q 5), .int i_nodes, .int i_half, .int i_made, .ref (q 6), .ref (q 7), .ref (q 8), .ref (q 9), .ref (q 10), .ref (q 11), .int i_rows, .ref (q 12), .ref (q 13), .ref (q 14), .int i_state, .ref (q 15), .ref (q 16), .ref (q 17), .int i_tested, .ref (q 18), .ref wa2_34, .int (nI (L + dgt x))])), (wa2_34, .inl (cy 0, capA (L + dgt x) cap0, .inl fw2_34))] := hD.sub [0, 1] (by decide) rfl
    refine W.widen (k := ccA (L + dgt x) cap0 - ccA L cap0) (n := ssA (L + dgt x) cap0 - ssA L cap0) (Nat.le_of_eq (by rw [hLe])) (Nat.le_of_eq (by rw [hLe])) ?_
    exact W.vret hx hb hr (fun t ht hW => ⟨⟨(wa2_34, fw2_34), rfl, hfw0, by rw [ht]; exact hP9, hD9⟩, hS.F ht⟩) hS.2.2 dX9_sayNumber_45
  · have hfw0 := hfw
    refine lv_iconst (v := 1) hx hb dX9_sayNumber_0 (by decide +kernel) ?_
    refine lv_istore_n (lv' := [(2, .int 1), (0, .ref h0), (1, .int (nI x))]) hx hb dX9_sayNumber_1 rfl hl (by decide) rfl (fun ls hl => ?_)
    refine lv_iload_n hx hb dX9_sayNumber_2 rfl (lv_at hl 2 rfl) ?_
    refine lv_iload_n hx hb dX9_sayNumber_3 rfl (lv_at hl 0 rfl) ?_
    refine lv_idiv hx hb dX9_sayNumber_4 (by decide) ?_
    refine lv_topi (fun x_8 ex_8 => ?_)
    obtain rfl : x_8 = nI (x / 1) := by rw [ex_8]; exact pk_div (d := 1) (by omega) (by decide) (by decide)
    refine lv_bipush (v := 10) hx hb dX9_sayNumber_5 (by decide +kernel) ?_
    refine lv_icmp_lt (tgt := 18) hx hb dX9_sayNumber_7 (by decide) (fun c7 => absurd c7 (nI_nlt (a := x / 1) (b := 10) (by omega) (by omega))) (fun _ => ?_)
    refine lv_iload_n hx hb dX9_sayNumber_10 rfl (lv_at hl 0 rfl) ?_
    refine lv_bipush (v := 10) hx hb dX9_sayNumber_11 (by decide +kernel) ?_
    refine lv_imul hx hb dX9_sayNumber_13 ?_
    refine lv_topi (fun x_9 ex_9 => ?_)
    obtain rfl : x_9 = 10 := by rw [ex_9]; decide
    refine lv_istore_n (lv' := [(2, .int 10), (0, .ref h0), (1, .int (nI x))]) hx hb dX9_sayNumber_14 rfl hl (by decide) rfl (fun ls hl => ?_)
    refine lv_goto (tgt := 2) hx hb dX9_sayNumber_15 (by decide) ?_
    refine lv_iload_n hx hb dX9_sayNumber_2 rfl (lv_at hl 2 rfl) ?_
    refine lv_iload_n hx hb dX9_sayNumber_3 rfl (lv_at hl 0 rfl) ?_
    refine lv_idiv hx hb dX9_sayNumber_4 (by decide) ?_
    refine lv_topi (fun x_10 ex_10 => ?_)
    obtain rfl : x_10 = nI (x / 10) := by rw [ex_10]; exact pk_div (d := 10) (by omega) (by decide) (by decide)
    refine lv_bipush (v := 10) hx hb dX9_sayNumber_5 (by decide +kernel) ?_
    refine lv_icmp_lt (tgt := 18) hx hb dX9_sayNumber_7 (by decide) (fun c7 => absurd c7 (nI_nlt (a := x / 10) (b := 10) (by omega) (by omega))) (fun _ => ?_)
    refine lv_iload_n hx hb dX9_sayNumber_10 rfl (lv_at hl 0 rfl) ?_
    refine lv_bipush (v := 10) hx hb dX9_sayNumber_11 (by decide +kernel) ?_
    refine lv_imul hx hb dX9_sayNumber_13 ?_
    refine lv_topi (fun x_11 ex_11 => ?_)
    obtain rfl : x_11 = 100 := by rw [ex_11]; decide
    refine lv_istore_n (lv' := [(2, .int 100), (0, .ref h0), (1, .int (nI x))]) hx hb dX9_sayNumber_14 rfl hl (by decide) rfl (fun ls hl => ?_)
    refine lv_goto (tgt := 2) hx hb dX9_sayNumber_15 (by decide) ?_
    refine lv_iload_n hx hb dX9_sayNumber_2 rfl (lv_at hl 2 rfl) ?_
    refine lv_iload_n hx hb dX9_sayNumber_3 rfl (lv_at hl 0 rfl) ?_
    refine lv_idiv hx hb dX9_sayNumber_4 (by decide) ?_
    refine lv_topi (fun x_12 ex_12 => ?_)
    obtain rfl : x_12 = nI (x / 100) := by rw [ex_12]; exact pk_div (d := 100) (by omega) (by decide) (by decide)
    refine lv_bipush (v := 10) hx hb dX9_sayNumber_5 (by decide +kernel) ?_
    refine lv_icmp_lt (tgt := 18) hx hb dX9_sayNumber_7 (by decide) (fun _ => ?_) (fun c7 => absurd (nI_lt (a := x / 100) (b := 10) (by omega) (by decide)) c7)
    refine lv_iload_n hx hb dX9_sayNumber_18 rfl (lv_at hl 0 rfl) ?_
    refine lv_istore_n (lv' := [(3, .int 100), (2, .int 100), (0, .ref h0), (1, .int (nI x))]) hx hb dX9_sayNumber_19 rfl hl (by decide) rfl (fun ls hl => ?_)
    refine lv_iload_n hx hb dX9_sayNumber_20 rfl (lv_at hl 0 rfl) ?_
    refine lv_if_le (tgt := 45) hx hb dX9_sayNumber_21 (by decide) (fun c21 => absurd c21 (by decide)) (fun _ => ?_)
    refine lv_aload_n hx hb dX9_sayNumber_24 rfl (lv_at hl 2 rfl) ?_
    refine lv_bipush (v := 48) hx hb dX9_sayNumber_25 (by decide +kernel) ?_
    refine lv_iload_n hx hb dX9_sayNumber_27 rfl (lv_at hl 3 rfl) ?_
    refine lv_iload_n hx hb dX9_sayNumber_28 rfl (lv_at hl 0 rfl) ?_
    refine lv_idiv hx hb dX9_sayNumber_29 (by decide) ?_
    refine lv_bipush (v := 10) hx hb dX9_sayNumber_30 (by decide +kernel) ?_
    refine lv_irem hx hb dX9_sayNumber_32 (by decide) ?_
    refine lv_iadd hx hb dX9_sayNumber_33 ?_
    refine mt_callv (wr := []) (va_runV (As := [.int (48 + (((nI x) / 100) - ((nI x) / 100) / 10 * 10))]) (rest := []) ⟨hx, hb, hml, hown, hts⟩ (c_M_say l D cy e h0 q i_size i_words i_next i_open i_stood i_nodes i_half i_made i_rows i_state i_tested (48 + (((nI x) / 100) - ((nI x) / 100) / 10 * 10)) cap0 L wa fw s.heap.size (by omega) hc0 hfw0) (cwV 1 hts gX9_sayNumber_X9_say rfl rfl rfl (by decide +kernel) ⟨Nat.le_of_ble_eq_true rfl, Nat.le_of_ble_eq_true rfl⟩) (mt_preV hP hD hK hS hA hG [0, 1] rfl (by decide) (q := (RX9, TX9, 32)) (ci := 10) (q0 := 0) rfl rfl) rfl rfl hl.1 rfl (lv_room (Nat.le_of_ble_eq_true rfl)) dX9_sayNumber_34 ⟨acc_c (by omega) (by omega) (by omega), acc_s (by omega) (by omega) (by omega)⟩) hP hD hS hA [0, 1] [] rfl rfl (by decide) (by decide) (fun u H locs hw hP hD hS => ?_)
    obtain ⟨wa2_34, fw2_34⟩ := u
    have hP : va_P D vwCl [(h0, .inr (10, [.ref (q 0), .int i_size, .ref (q 1), .ref (q 2), .int i_words, .int i_next, .int i_open, .int i_stood, .ref (q 3), .ref (q 4), .ref (q 5), .int i_nodes, .int i_half, .int i_made, .ref (q 6), .ref (q 7), .ref (q 8), .ref (q 9), .ref (q 10), .ref (q 11), .int i_rows, .ref (q 12), .ref (q 13), .ref (q 14), .int i_state, .ref (q 15), .ref (q 16), .ref (q 17), .int i_tested, .ref (q 18), .ref wa2_34, .int (nI (L + 1))])), (wa2_34, .inl (cy 0, capA (L + 1) cap0, .inl fw2_34))] H := hP
    have hD : va_D A [(h0, .inr (10, [.ref (q 0), .int i_size, .ref (q 1), .ref (q 2), .int i_words, .int i_next, .int i_open, .int i_stood, .ref (q 3), .ref (q 4), .ref (q 5), .int i_nodes, .int i_half, .int i_made, .ref (q 6), .ref (q 7), .ref (q 8), .ref (q 9), .ref (q 10), .ref (q 11), .int i_rows, .ref (q 12), .ref (q 13), .ref (q 14), .int i_state, .ref (q 15), .ref (q 16), .ref (q 17), .int i_tested, .ref (q 18), .ref wa2_34, .int (nI (L + 1))])), (wa2_34, .inl (cy 0, capA (L + 1) cap0, .inl fw2_34))] := hD
    replace hw : sb_Fit fw2_34 := hw
    refine W.widen (k := ccA (L + 1) cap0 - ccA (L) cap0) (n := ssA (L + 1) cap0 - ssA (L) cap0) (acc_c2 (by omega) (by omega)) (acc_s2 (by omega) (by omega)) ?_
    have hfw0 := hw
    refine lv_iload_n hx hb dX9_sayNumber_37 rfl (lv_at hl 0 rfl) ?_
    refine lv_bipush (v := 10) hx hb dX9_sayNumber_38 (by decide +kernel) ?_
    refine lv_idiv hx hb dX9_sayNumber_40 (by decide) ?_
    refine lv_topi (fun x_13 ex_13 => ?_)
    obtain rfl : x_13 = 10 := by rw [ex_13]; decide
    refine lv_istore_n (lv' := [(3, .int 10), (2, .int 100), (0, .ref h0), (1, .int (nI x))]) hx hb dX9_sayNumber_41 rfl hl (by decide) rfl (fun ls hl => ?_)
    refine lv_goto (tgt := 20) hx hb dX9_sayNumber_42 (by decide) ?_
    refine lv_iload_n hx hb dX9_sayNumber_20 rfl (lv_at hl 0 rfl) ?_
    refine lv_if_le (tgt := 45) hx hb dX9_sayNumber_21 (by decide) (fun c21 => absurd c21 (by decide)) (fun _ => ?_)
    refine lv_aload_n hx hb dX9_sayNumber_24 rfl (lv_at hl 2 rfl) ?_
    refine lv_bipush (v := 48) hx hb dX9_sayNumber_25 (by decide +kernel) ?_
    refine lv_iload_n hx hb dX9_sayNumber_27 rfl (lv_at hl 3 rfl) ?_
    refine lv_iload_n hx hb dX9_sayNumber_28 rfl (lv_at hl 0 rfl) ?_
    refine lv_idiv hx hb dX9_sayNumber_29 (by decide) ?_
    refine lv_bipush (v := 10) hx hb dX9_sayNumber_30 (by decide +kernel) ?_
    refine lv_irem hx hb dX9_sayNumber_32 (by decide) ?_
    refine lv_iadd hx hb dX9_sayNumber_33 ?_
    refine mt_callv (wr := []) (va_runV (As := [.int (48 + (((nI x) / 10) - ((nI x) / 10) / 10 * 10))]) (rest := []) ⟨hx, hb, hml, hown, hts⟩ (c_M_say l D cy e h0 q i_size i_words i_next i_open i_stood i_nodes i_half i_made i_rows i_state i_tested (48 + (((nI x) / 10) - ((nI x) / 10) / 10 * 10)) cap0 (L + 1) wa2_34 fw2_34 H.size (by omega) hc0 hfw0) (cwV 1 hts gX9_sayNumber_X9_say rfl rfl rfl (by decide +kernel) ⟨Nat.le_of_ble_eq_true rfl, Nat.le_of_ble_eq_true rfl⟩) (mt_preV hP hD hK hS hA hG [0, 1] rfl (by decide) (q := (RX9, TX9, 32)) (ci := 10) (q0 := 0) rfl rfl) rfl rfl hl.1 rfl (lv_room (Nat.le_of_ble_eq_true rfl)) dX9_sayNumber_34 ⟨acc_c (by omega) (by omega) (by omega), acc_s (by omega) (by omega) (by omega)⟩) hP hD hS hA [0, 1] [] rfl rfl (by decide) (by decide) (fun u H locs hw hP hD hS => ?_)
    obtain ⟨wa2_34, fw2_34⟩ := u
    have hP : va_P D vwCl [(h0, .inr (10, [.ref (q 0), .int i_size, .ref (q 1), .ref (q 2), .int i_words, .int i_next, .int i_open, .int i_stood, .ref (q 3), .ref (q 4), .ref (q 5), .int i_nodes, .int i_half, .int i_made, .ref (q 6), .ref (q 7), .ref (q 8), .ref (q 9), .ref (q 10), .ref (q 11), .int i_rows, .ref (q 12), .ref (q 13), .ref (q 14), .int i_state, .ref (q 15), .ref (q 16), .ref (q 17), .int i_tested, .ref (q 18), .ref wa2_34, .int (nI (L + 1 + 1))])), (wa2_34, .inl (cy 0, capA (L + 1 + 1) cap0, .inl fw2_34))] H := hP
    have hD : va_D A [(h0, .inr (10, [.ref (q 0), .int i_size, .ref (q 1), .ref (q 2), .int i_words, .int i_next, .int i_open, .int i_stood, .ref (q 3), .ref (q 4), .ref (q 5), .int i_nodes, .int i_half, .int i_made, .ref (q 6), .ref (q 7), .ref (q 8), .ref (q 9), .ref (q 10), .ref (q 11), .int i_rows, .ref (q 12), .ref (q 13), .ref (q 14), .int i_state, .ref (q 15), .ref (q 16), .ref (q 17), .int i_tested, .ref (q 18), .ref wa2_34, .int (nI (L + 1 + 1))])), (wa2_34, .inl (cy 0, capA (L + 1 + 1) cap0, .inl fw2_34))] := hD
    replace hw : sb_Fit fw2_34 := hw
    refine W.widen (k := ccA (L + 1 + 1) cap0 - ccA (L) cap0) (n := ssA (L + 1 + 1) cap0 - ssA (L) cap0) (acc_c2 (by omega) (by omega)) (acc_s2 (by omega) (by omega)) ?_
    have hfw0 := hw
    refine lv_iload_n hx hb dX9_sayNumber_37 rfl (lv_at hl 0 rfl) ?_
    refine lv_bipush (v := 10) hx hb dX9_sayNumber_38 (by decide +kernel) ?_
    refine lv_idiv hx hb dX9_sayNumber_40 (by decide) ?_
    refine lv_topi (fun x_14 ex_14 => ?_)
    obtain rfl : x_14 = 1 := by rw [ex_14]; decide
    refine lv_istore_n (lv' := [(3, .int 1), (2, .int 100), (0, .ref h0), (1, .int (nI x))]) hx hb dX9_sayNumber_41 rfl hl (by decide) rfl (fun ls hl => ?_)
    refine lv_goto (tgt := 20) hx hb dX9_sayNumber_42 (by decide) ?_
    refine lv_iload_n hx hb dX9_sayNumber_20 rfl (lv_at hl 0 rfl) ?_
    refine lv_if_le (tgt := 45) hx hb dX9_sayNumber_21 (by decide) (fun c21 => absurd c21 (by decide)) (fun _ => ?_)
    refine lv_aload_n hx hb dX9_sayNumber_24 rfl (lv_at hl 2 rfl) ?_
    refine lv_bipush (v := 48) hx hb dX9_sayNumber_25 (by decide +kernel) ?_
    refine lv_iload_n hx hb dX9_sayNumber_27 rfl (lv_at hl 3 rfl) ?_
    refine lv_iload_n hx hb dX9_sayNumber_28 rfl (lv_at hl 0 rfl) ?_
    refine lv_idiv hx hb dX9_sayNumber_29 (by decide) ?_
    refine lv_bipush (v := 10) hx hb dX9_sayNumber_30 (by decide +kernel) ?_
    refine lv_irem hx hb dX9_sayNumber_32 (by decide) ?_
    refine lv_iadd hx hb dX9_sayNumber_33 ?_
    refine mt_callv (wr := []) (va_runV (As := [.int (48 + (((nI x) / 1) - ((nI x) / 1) / 10 * 10))]) (rest := []) ⟨hx, hb, hml, hown, hts⟩ (c_M_say l D cy e h0 q i_size i_words i_next i_open i_stood i_nodes i_half i_made i_rows i_state i_tested (48 + (((nI x) / 1) - ((nI x) / 1) / 10 * 10)) cap0 (L + 1 + 1) wa2_34 fw2_34 H.size (by omega) hc0 hfw0) (cwV 1 hts gX9_sayNumber_X9_say rfl rfl rfl (by decide +kernel) ⟨Nat.le_of_ble_eq_true rfl, Nat.le_of_ble_eq_true rfl⟩) (mt_preV hP hD hK hS hA hG [0, 1] rfl (by decide) (q := (RX9, TX9, 32)) (ci := 10) (q0 := 0) rfl rfl) rfl rfl hl.1 rfl (lv_room (Nat.le_of_ble_eq_true rfl)) dX9_sayNumber_34 ⟨acc_c (by omega) (by omega) (by omega), acc_s (by omega) (by omega) (by omega)⟩) hP hD hS hA [0, 1] [] rfl rfl (by decide) (by decide) (fun u H locs hw hP hD hS => ?_)
    obtain ⟨wa2_34, fw2_34⟩ := u
    have hP : va_P D vwCl [(h0, .inr (10, [.ref (q 0), .int i_size, .ref (q 1), .ref (q 2), .int i_words, .int i_next, .int i_open, .int i_stood, .ref (q 3), .ref (q 4), .ref (q 5), .int i_nodes, .int i_half, .int i_made, .ref (q 6), .ref (q 7), .ref (q 8), .ref (q 9), .ref (q 10), .ref (q 11), .int i_rows, .ref (q 12), .ref (q 13), .ref (q 14), .int i_state, .ref (q 15), .ref (q 16), .ref (q 17), .int i_tested, .ref (q 18), .ref wa2_34, .int (nI (L + 1 + 1 + 1))])), (wa2_34, .inl (cy 0, capA (L + 1 + 1 + 1) cap0, .inl fw2_34))] H := hP
    have hD : va_D A [(h0, .inr (10, [.ref (q 0), .int i_size, .ref (q 1), .ref (q 2), .int i_words, .int i_next, .int i_open, .int i_stood, .ref (q 3), .ref (q 4), .ref (q 5), .int i_nodes, .int i_half, .int i_made, .ref (q 6), .ref (q 7), .ref (q 8), .ref (q 9), .ref (q 10), .ref (q 11), .int i_rows, .ref (q 12), .ref (q 13), .ref (q 14), .int i_state, .ref (q 15), .ref (q 16), .ref (q 17), .int i_tested, .ref (q 18), .ref wa2_34, .int (nI (L + 1 + 1 + 1))])), (wa2_34, .inl (cy 0, capA (L + 1 + 1 + 1) cap0, .inl fw2_34))] := hD
    replace hw : sb_Fit fw2_34 := hw
    refine W.widen (k := ccA (L + 1 + 1 + 1) cap0 - ccA (L) cap0) (n := ssA (L + 1 + 1 + 1) cap0 - ssA (L) cap0) (acc_c2 (by omega) (by omega)) (acc_s2 (by omega) (by omega)) ?_
    have hfw0 := hw
    refine lv_iload_n hx hb dX9_sayNumber_37 rfl (lv_at hl 0 rfl) ?_
    refine lv_bipush (v := 10) hx hb dX9_sayNumber_38 (by decide +kernel) ?_
    refine lv_idiv hx hb dX9_sayNumber_40 (by decide) ?_
    refine lv_topi (fun x_15 ex_15 => ?_)
    obtain rfl : x_15 = 0 := by rw [ex_15]; decide
    refine lv_istore_n (lv' := [(3, .int 0), (2, .int 100), (0, .ref h0), (1, .int (nI x))]) hx hb dX9_sayNumber_41 rfl hl (by decide) rfl (fun ls hl => ?_)
    refine lv_goto (tgt := 20) hx hb dX9_sayNumber_42 (by decide) ?_
    refine lv_iload_n hx hb dX9_sayNumber_20 rfl (lv_at hl 0 rfl) ?_
    refine lv_if_le (tgt := 45) hx hb dX9_sayNumber_21 (by decide) (fun _ => ?_) (fun c21 => absurd (by decide) c21)
    have hLe : L + 1 + 1 + 1 = L + dgt x := by omega
    rw [hLe] at hP hD
    have hP : va_P D vwCl [(h0, .inr (10, [.ref (q 0), .int i_size, .ref (q 1), .ref (q 2), .int i_words, .int i_next, .int i_open, .int i_stood, .ref (q 3), .ref (q 4), .ref (q 5), .int i_nodes, .int i_half, .int i_made, .ref (q 6), .ref (q 7), .ref (q 8), .ref (q 9), .ref (q 10), .ref (q 11), .int i_rows, .ref (q 12), .ref (q 13), .ref (q 14), .int i_state, .ref (q 15), .ref (q 16), .ref (q 17), .int i_tested, .ref (q 18), .ref wa2_34, .int (nI (L + dgt x))])), (wa2_34, .inl (cy 0, capA (L + dgt x) cap0, .inl fw2_34))] H := hP
    have hD : va_D A [(h0, .inr (10, [.ref (q 0), .int i_size, .ref (q 1), .ref (q 2), .int i_words, .int i_next, .int i_open, .int i_stood, .ref (q 3), .ref (q 4), .ref (q 5), .int i_nodes, .int i_half, .int i_made, .ref (q 6), .ref (q 7), .ref (q 8), .ref (q 9), .ref (q 10), .ref (q 11), .int i_rows, .ref (q 12), .ref (q 13), .ref (q 14), .int i_state, .ref (q 15), .ref (q 16), .ref (q 17), .int i_tested, .ref (q 18), .ref wa2_34, .int (nI (L + dgt x))])), (wa2_34, .inl (cy 0, capA (L + dgt x) cap0, .inl fw2_34))] := hD
    have hP9 : va_P D vwCl [(h0, .inr (10, [.ref (q 0), .int i_size, .ref (q 1), .ref (q 2), .int i_words, .int i_next, .int i_open, .int i_stood, .ref (q 3), .ref (q 4), .ref (q 5), .int i_nodes, .int i_half, .int i_made, .ref (q 6), .ref (q 7), .ref (q 8), .ref (q 9), .ref (q 10), .ref (q 11), .int i_rows, .ref (q 12), .ref (q 13), .ref (q 14), .int i_state, .ref (q 15), .ref (q 16), .ref (q 17), .int i_tested, .ref (q 18), .ref wa2_34, .int (nI (L + dgt x))])), (wa2_34, .inl (cy 0, capA (L + dgt x) cap0, .inl fw2_34))] H := hP.sub [0, 1] rfl
    have hD9 : va_D A [(h0, .inr (10, [.ref (q 0), .int i_size, .ref (q 1), .ref (q 2), .int i_words, .int i_next, .int i_open, .int i_stood, .ref (q 3), .ref (q 4), .ref (q 5), .int i_nodes, .int i_half, .int i_made, .ref (q 6), .ref (q 7), .ref (q 8), .ref (q 9), .ref (q 10), .ref (q 11), .int i_rows, .ref (q 12), .ref (q 13), .ref (q 14), .int i_state, .ref (q 15), .ref (q 16), .ref (q 17), .int i_tested, .ref (q 18), .ref wa2_34, .int (nI (L + dgt x))])), (wa2_34, .inl (cy 0, capA (L + dgt x) cap0, .inl fw2_34))] := hD.sub [0, 1] (by decide) rfl
    refine W.widen (k := ccA (L + dgt x) cap0 - ccA L cap0) (n := ssA (L + dgt x) cap0 - ssA L cap0) (Nat.le_of_eq (by rw [hLe])) (Nat.le_of_eq (by rw [hLe])) ?_
    exact W.vret hx hb hr (fun t ht hW => ⟨⟨(wa2_34, fw2_34), rfl, hfw0, by rw [ht]; exact hP9, hD9⟩, hS.F ht⟩) hS.2.2 dX9_sayNumber_45
  · have hfw0 := hfw
    refine lv_iconst (v := 1) hx hb dX9_sayNumber_0 (by decide +kernel) ?_
    refine lv_istore_n (lv' := [(2, .int 1), (0, .ref h0), (1, .int (nI x))]) hx hb dX9_sayNumber_1 rfl hl (by decide) rfl (fun ls hl => ?_)
    refine lv_iload_n hx hb dX9_sayNumber_2 rfl (lv_at hl 2 rfl) ?_
    refine lv_iload_n hx hb dX9_sayNumber_3 rfl (lv_at hl 0 rfl) ?_
    refine lv_idiv hx hb dX9_sayNumber_4 (by decide) ?_
    refine lv_topi (fun x_16 ex_16 => ?_)
    obtain rfl : x_16 = nI (x / 1) := by rw [ex_16]; exact pk_div (d := 1) (by omega) (by decide) (by decide)
    refine lv_bipush (v := 10) hx hb dX9_sayNumber_5 (by decide +kernel) ?_
    refine lv_icmp_lt (tgt := 18) hx hb dX9_sayNumber_7 (by decide) (fun c7 => absurd c7 (nI_nlt (a := x / 1) (b := 10) (by omega) (by omega))) (fun _ => ?_)
    refine lv_iload_n hx hb dX9_sayNumber_10 rfl (lv_at hl 0 rfl) ?_
    refine lv_bipush (v := 10) hx hb dX9_sayNumber_11 (by decide +kernel) ?_
    refine lv_imul hx hb dX9_sayNumber_13 ?_
    refine lv_topi (fun x_17 ex_17 => ?_)
    obtain rfl : x_17 = 10 := by rw [ex_17]; decide
    refine lv_istore_n (lv' := [(2, .int 10), (0, .ref h0), (1, .int (nI x))]) hx hb dX9_sayNumber_14 rfl hl (by decide) rfl (fun ls hl => ?_)
    refine lv_goto (tgt := 2) hx hb dX9_sayNumber_15 (by decide) ?_
    refine lv_iload_n hx hb dX9_sayNumber_2 rfl (lv_at hl 2 rfl) ?_
    refine lv_iload_n hx hb dX9_sayNumber_3 rfl (lv_at hl 0 rfl) ?_
    refine lv_idiv hx hb dX9_sayNumber_4 (by decide) ?_
    refine lv_topi (fun x_18 ex_18 => ?_)
    obtain rfl : x_18 = nI (x / 10) := by rw [ex_18]; exact pk_div (d := 10) (by omega) (by decide) (by decide)
    refine lv_bipush (v := 10) hx hb dX9_sayNumber_5 (by decide +kernel) ?_
    refine lv_icmp_lt (tgt := 18) hx hb dX9_sayNumber_7 (by decide) (fun c7 => absurd c7 (nI_nlt (a := x / 10) (b := 10) (by omega) (by omega))) (fun _ => ?_)
    refine lv_iload_n hx hb dX9_sayNumber_10 rfl (lv_at hl 0 rfl) ?_
    refine lv_bipush (v := 10) hx hb dX9_sayNumber_11 (by decide +kernel) ?_
    refine lv_imul hx hb dX9_sayNumber_13 ?_
    refine lv_topi (fun x_19 ex_19 => ?_)
    obtain rfl : x_19 = 100 := by rw [ex_19]; decide
    refine lv_istore_n (lv' := [(2, .int 100), (0, .ref h0), (1, .int (nI x))]) hx hb dX9_sayNumber_14 rfl hl (by decide) rfl (fun ls hl => ?_)
    refine lv_goto (tgt := 2) hx hb dX9_sayNumber_15 (by decide) ?_
    refine lv_iload_n hx hb dX9_sayNumber_2 rfl (lv_at hl 2 rfl) ?_
    refine lv_iload_n hx hb dX9_sayNumber_3 rfl (lv_at hl 0 rfl) ?_
    refine lv_idiv hx hb dX9_sayNumber_4 (by decide) ?_
    refine lv_topi (fun x_20 ex_20 => ?_)
    obtain rfl : x_20 = nI (x / 100) := by rw [ex_20]; exact pk_div (d := 100) (by omega) (by decide) (by decide)
    refine lv_bipush (v := 10) hx hb dX9_sayNumber_5 (by decide +kernel) ?_
    refine lv_icmp_lt (tgt := 18) hx hb dX9_sayNumber_7 (by decide) (fun c7 => absurd c7 (nI_nlt (a := x / 100) (b := 10) (by omega) (by omega))) (fun _ => ?_)
    refine lv_iload_n hx hb dX9_sayNumber_10 rfl (lv_at hl 0 rfl) ?_
    refine lv_bipush (v := 10) hx hb dX9_sayNumber_11 (by decide +kernel) ?_
    refine lv_imul hx hb dX9_sayNumber_13 ?_
    refine lv_topi (fun x_21 ex_21 => ?_)
    obtain rfl : x_21 = 1000 := by rw [ex_21]; decide
    refine lv_istore_n (lv' := [(2, .int 1000), (0, .ref h0), (1, .int (nI x))]) hx hb dX9_sayNumber_14 rfl hl (by decide) rfl (fun ls hl => ?_)
    refine lv_goto (tgt := 2) hx hb dX9_sayNumber_15 (by decide) ?_
    refine lv_iload_n hx hb dX9_sayNumber_2 rfl (lv_at hl 2 rfl) ?_
    refine lv_iload_n hx hb dX9_sayNumber_3 rfl (lv_at hl 0 rfl) ?_
    refine lv_idiv hx hb dX9_sayNumber_4 (by decide) ?_
    refine lv_topi (fun x_22 ex_22 => ?_)
    obtain rfl : x_22 = nI (x / 1000) := by rw [ex_22]; exact pk_div (d := 1000) (by omega) (by decide) (by decide)
    refine lv_bipush (v := 10) hx hb dX9_sayNumber_5 (by decide +kernel) ?_
    refine lv_icmp_lt (tgt := 18) hx hb dX9_sayNumber_7 (by decide) (fun _ => ?_) (fun c7 => absurd (nI_lt (a := x / 1000) (b := 10) (by omega) (by decide)) c7)
    refine lv_iload_n hx hb dX9_sayNumber_18 rfl (lv_at hl 0 rfl) ?_
    refine lv_istore_n (lv' := [(3, .int 1000), (2, .int 1000), (0, .ref h0), (1, .int (nI x))]) hx hb dX9_sayNumber_19 rfl hl (by decide) rfl (fun ls hl => ?_)
    refine lv_iload_n hx hb dX9_sayNumber_20 rfl (lv_at hl 0 rfl) ?_
    refine lv_if_le (tgt := 45) hx hb dX9_sayNumber_21 (by decide) (fun c21 => absurd c21 (by decide)) (fun _ => ?_)
    refine lv_aload_n hx hb dX9_sayNumber_24 rfl (lv_at hl 2 rfl) ?_
    refine lv_bipush (v := 48) hx hb dX9_sayNumber_25 (by decide +kernel) ?_
    refine lv_iload_n hx hb dX9_sayNumber_27 rfl (lv_at hl 3 rfl) ?_
    refine lv_iload_n hx hb dX9_sayNumber_28 rfl (lv_at hl 0 rfl) ?_
    refine lv_idiv hx hb dX9_sayNumber_29 (by decide) ?_
    refine lv_bipush (v := 10) hx hb dX9_sayNumber_30 (by decide +kernel) ?_
    refine lv_irem hx hb dX9_sayNumber_32 (by decide) ?_
    refine lv_iadd hx hb dX9_sayNumber_33 ?_
    refine mt_callv (wr := []) (va_runV (As := [.int (48 + (((nI x) / 1000) - ((nI x) / 1000) / 10 * 10))]) (rest := []) ⟨hx, hb, hml, hown, hts⟩ (c_M_say l D cy e h0 q i_size i_words i_next i_open i_stood i_nodes i_half i_made i_rows i_state i_tested (48 + (((nI x) / 1000) - ((nI x) / 1000) / 10 * 10)) cap0 L wa fw s.heap.size (by omega) hc0 hfw0) (cwV 1 hts gX9_sayNumber_X9_say rfl rfl rfl (by decide +kernel) ⟨Nat.le_of_ble_eq_true rfl, Nat.le_of_ble_eq_true rfl⟩) (mt_preV hP hD hK hS hA hG [0, 1] rfl (by decide) (q := (RX9, TX9, 32)) (ci := 10) (q0 := 0) rfl rfl) rfl rfl hl.1 rfl (lv_room (Nat.le_of_ble_eq_true rfl)) dX9_sayNumber_34 ⟨acc_c (by omega) (by omega) (by omega), acc_s (by omega) (by omega) (by omega)⟩) hP hD hS hA [0, 1] [] rfl rfl (by decide) (by decide) (fun u H locs hw hP hD hS => ?_)
    obtain ⟨wa2_34, fw2_34⟩ := u
    have hP : va_P D vwCl [(h0, .inr (10, [.ref (q 0), .int i_size, .ref (q 1), .ref (q 2), .int i_words, .int i_next, .int i_open, .int i_stood, .ref (q 3), .ref (q 4), .ref (q 5), .int i_nodes, .int i_half, .int i_made, .ref (q 6), .ref (q 7), .ref (q 8), .ref (q 9), .ref (q 10), .ref (q 11), .int i_rows, .ref (q 12), .ref (q 13), .ref (q 14), .int i_state, .ref (q 15), .ref (q 16), .ref (q 17), .int i_tested, .ref (q 18), .ref wa2_34, .int (nI (L + 1))])), (wa2_34, .inl (cy 0, capA (L + 1) cap0, .inl fw2_34))] H := hP
    have hD : va_D A [(h0, .inr (10, [.ref (q 0), .int i_size, .ref (q 1), .ref (q 2), .int i_words, .int i_next, .int i_open, .int i_stood, .ref (q 3), .ref (q 4), .ref (q 5), .int i_nodes, .int i_half, .int i_made, .ref (q 6), .ref (q 7), .ref (q 8), .ref (q 9), .ref (q 10), .ref (q 11), .int i_rows, .ref (q 12), .ref (q 13), .ref (q 14), .int i_state, .ref (q 15), .ref (q 16), .ref (q 17), .int i_tested, .ref (q 18), .ref wa2_34, .int (nI (L + 1))])), (wa2_34, .inl (cy 0, capA (L + 1) cap0, .inl fw2_34))] := hD
    replace hw : sb_Fit fw2_34 := hw
    refine W.widen (k := ccA (L + 1) cap0 - ccA (L) cap0) (n := ssA (L + 1) cap0 - ssA (L) cap0) (acc_c2 (by omega) (by omega)) (acc_s2 (by omega) (by omega)) ?_
    have hfw0 := hw
    refine lv_iload_n hx hb dX9_sayNumber_37 rfl (lv_at hl 0 rfl) ?_
    refine lv_bipush (v := 10) hx hb dX9_sayNumber_38 (by decide +kernel) ?_
    refine lv_idiv hx hb dX9_sayNumber_40 (by decide) ?_
    refine lv_topi (fun x_23 ex_23 => ?_)
    obtain rfl : x_23 = 100 := by rw [ex_23]; decide
    refine lv_istore_n (lv' := [(3, .int 100), (2, .int 1000), (0, .ref h0), (1, .int (nI x))]) hx hb dX9_sayNumber_41 rfl hl (by decide) rfl (fun ls hl => ?_)
    refine lv_goto (tgt := 20) hx hb dX9_sayNumber_42 (by decide) ?_
    refine lv_iload_n hx hb dX9_sayNumber_20 rfl (lv_at hl 0 rfl) ?_
    refine lv_if_le (tgt := 45) hx hb dX9_sayNumber_21 (by decide) (fun c21 => absurd c21 (by decide)) (fun _ => ?_)
    refine lv_aload_n hx hb dX9_sayNumber_24 rfl (lv_at hl 2 rfl) ?_
    refine lv_bipush (v := 48) hx hb dX9_sayNumber_25 (by decide +kernel) ?_
    refine lv_iload_n hx hb dX9_sayNumber_27 rfl (lv_at hl 3 rfl) ?_
    refine lv_iload_n hx hb dX9_sayNumber_28 rfl (lv_at hl 0 rfl) ?_
    refine lv_idiv hx hb dX9_sayNumber_29 (by decide) ?_
    refine lv_bipush (v := 10) hx hb dX9_sayNumber_30 (by decide +kernel) ?_
    refine lv_irem hx hb dX9_sayNumber_32 (by decide) ?_
    refine lv_iadd hx hb dX9_sayNumber_33 ?_
    refine mt_callv (wr := []) (va_runV (As := [.int (48 + (((nI x) / 100) - ((nI x) / 100) / 10 * 10))]) (rest := []) ⟨hx, hb, hml, hown, hts⟩ (c_M_say l D cy e h0 q i_size i_words i_next i_open i_stood i_nodes i_half i_made i_rows i_state i_tested (48 + (((nI x) / 100) - ((nI x) / 100) / 10 * 10)) cap0 (L + 1) wa2_34 fw2_34 H.size (by omega) hc0 hfw0) (cwV 1 hts gX9_sayNumber_X9_say rfl rfl rfl (by decide +kernel) ⟨Nat.le_of_ble_eq_true rfl, Nat.le_of_ble_eq_true rfl⟩) (mt_preV hP hD hK hS hA hG [0, 1] rfl (by decide) (q := (RX9, TX9, 32)) (ci := 10) (q0 := 0) rfl rfl) rfl rfl hl.1 rfl (lv_room (Nat.le_of_ble_eq_true rfl)) dX9_sayNumber_34 ⟨acc_c (by omega) (by omega) (by omega), acc_s (by omega) (by omega) (by omega)⟩) hP hD hS hA [0, 1] [] rfl rfl (by decide) (by decide) (fun u H locs hw hP hD hS => ?_)
    obtain ⟨wa2_34, fw2_34⟩ := u
    have hP : va_P D vwCl [(h0, .inr (10, [.ref (q 0), .int i_size, .ref (q 1), .ref (q 2), .int i_words, .int i_next, .int i_open, .int i_stood, .ref (q 3), .ref (q 4), .ref (q 5), .int i_nodes, .int i_half, .int i_made, .ref (q 6), .ref (q 7), .ref (q 8), .ref (q 9), .ref (q 10), .ref (q 11), .int i_rows, .ref (q 12), .ref (q 13), .ref (q 14), .int i_state, .ref (q 15), .ref (q 16), .ref (q 17), .int i_tested, .ref (q 18), .ref wa2_34, .int (nI (L + 1 + 1))])), (wa2_34, .inl (cy 0, capA (L + 1 + 1) cap0, .inl fw2_34))] H := hP
    have hD : va_D A [(h0, .inr (10, [.ref (q 0), .int i_size, .ref (q 1), .ref (q 2), .int i_words, .int i_next, .int i_open, .int i_stood, .ref (q 3), .ref (q 4), .ref (q 5), .int i_nodes, .int i_half, .int i_made, .ref (q 6), .ref (q 7), .ref (q 8), .ref (q 9), .ref (q 10), .ref (q 11), .int i_rows, .ref (q 12), .ref (q 13), .ref (q 14), .int i_state, .ref (q 15), .ref (q 16), .ref (q 17), .int i_tested, .ref (q 18), .ref wa2_34, .int (nI (L + 1 + 1))])), (wa2_34, .inl (cy 0, capA (L + 1 + 1) cap0, .inl fw2_34))] := hD
    replace hw : sb_Fit fw2_34 := hw
    refine W.widen (k := ccA (L + 1 + 1) cap0 - ccA (L) cap0) (n := ssA (L + 1 + 1) cap0 - ssA (L) cap0) (acc_c2 (by omega) (by omega)) (acc_s2 (by omega) (by omega)) ?_
    have hfw0 := hw
    refine lv_iload_n hx hb dX9_sayNumber_37 rfl (lv_at hl 0 rfl) ?_
    refine lv_bipush (v := 10) hx hb dX9_sayNumber_38 (by decide +kernel) ?_
    refine lv_idiv hx hb dX9_sayNumber_40 (by decide) ?_
    refine lv_topi (fun x_24 ex_24 => ?_)
    obtain rfl : x_24 = 10 := by rw [ex_24]; decide
    refine lv_istore_n (lv' := [(3, .int 10), (2, .int 1000), (0, .ref h0), (1, .int (nI x))]) hx hb dX9_sayNumber_41 rfl hl (by decide) rfl (fun ls hl => ?_)
    refine lv_goto (tgt := 20) hx hb dX9_sayNumber_42 (by decide) ?_
    refine lv_iload_n hx hb dX9_sayNumber_20 rfl (lv_at hl 0 rfl) ?_
    refine lv_if_le (tgt := 45) hx hb dX9_sayNumber_21 (by decide) (fun c21 => absurd c21 (by decide)) (fun _ => ?_)
    refine lv_aload_n hx hb dX9_sayNumber_24 rfl (lv_at hl 2 rfl) ?_
    refine lv_bipush (v := 48) hx hb dX9_sayNumber_25 (by decide +kernel) ?_
    refine lv_iload_n hx hb dX9_sayNumber_27 rfl (lv_at hl 3 rfl) ?_
    refine lv_iload_n hx hb dX9_sayNumber_28 rfl (lv_at hl 0 rfl) ?_
    refine lv_idiv hx hb dX9_sayNumber_29 (by decide) ?_
    refine lv_bipush (v := 10) hx hb dX9_sayNumber_30 (by decide +kernel) ?_
    refine lv_irem hx hb dX9_sayNumber_32 (by decide) ?_
    refine lv_iadd hx hb dX9_sayNumber_33 ?_
    refine mt_callv (wr := []) (va_runV (As := [.int (48 + (((nI x) / 10) - ((nI x) / 10) / 10 * 10))]) (rest := []) ⟨hx, hb, hml, hown, hts⟩ (c_M_say l D cy e h0 q i_size i_words i_next i_open i_stood i_nodes i_half i_made i_rows i_state i_tested (48 + (((nI x) / 10) - ((nI x) / 10) / 10 * 10)) cap0 (L + 1 + 1) wa2_34 fw2_34 H.size (by omega) hc0 hfw0) (cwV 1 hts gX9_sayNumber_X9_say rfl rfl rfl (by decide +kernel) ⟨Nat.le_of_ble_eq_true rfl, Nat.le_of_ble_eq_true rfl⟩) (mt_preV hP hD hK hS hA hG [0, 1] rfl (by decide) (q := (RX9, TX9, 32)) (ci := 10) (q0 := 0) rfl rfl) rfl rfl hl.1 rfl (lv_room (Nat.le_of_ble_eq_true rfl)) dX9_sayNumber_34 ⟨acc_c (by omega) (by omega) (by omega), acc_s (by omega) (by omega) (by omega)⟩) hP hD hS hA [0, 1] [] rfl rfl (by decide) (by decide) (fun u H locs hw hP hD hS => ?_)
    obtain ⟨wa2_34, fw2_34⟩ := u
    have hP : va_P D vwCl [(h0, .inr (10, [.ref (q 0), .int i_size, .ref (q 1), .ref (q 2), .int i_words, .int i_next, .int i_open, .int i_stood, .ref (q 3), .ref (q 4), .ref (q 5), .int i_nodes, .int i_half, .int i_made, .ref (q 6), .ref (q 7), .ref (q 8), .ref (q 9), .ref (q 10), .ref (q 11), .int i_rows, .ref (q 12), .ref (q 13), .ref (q 14), .int i_state, .ref (q 15), .ref (q 16), .ref (q 17), .int i_tested, .ref (q 18), .ref wa2_34, .int (nI (L + 1 + 1 + 1))])), (wa2_34, .inl (cy 0, capA (L + 1 + 1 + 1) cap0, .inl fw2_34))] H := hP
    have hD : va_D A [(h0, .inr (10, [.ref (q 0), .int i_size, .ref (q 1), .ref (q 2), .int i_words, .int i_next, .int i_open, .int i_stood, .ref (q 3), .ref (q 4), .ref (q 5), .int i_nodes, .int i_half, .int i_made, .ref (q 6), .ref (q 7), .ref (q 8), .ref (q 9), .ref (q 10), .ref (q 11), .int i_rows, .ref (q 12), .ref (q 13), .ref (q 14), .int i_state, .ref (q 15), .ref (q 16), .ref (q 17), .int i_tested, .ref (q 18), .ref wa2_34, .int (nI (L + 1 + 1 + 1))])), (wa2_34, .inl (cy 0, capA (L + 1 + 1 + 1) cap0, .inl fw2_34))] := hD
    replace hw : sb_Fit fw2_34 := hw
    refine W.widen (k := ccA (L + 1 + 1 + 1) cap0 - ccA (L) cap0) (n := ssA (L + 1 + 1 + 1) cap0 - ssA (L) cap0) (acc_c2 (by omega) (by omega)) (acc_s2 (by omega) (by omega)) ?_
    have hfw0 := hw
    refine lv_iload_n hx hb dX9_sayNumber_37 rfl (lv_at hl 0 rfl) ?_
    refine lv_bipush (v := 10) hx hb dX9_sayNumber_38 (by decide +kernel) ?_
    refine lv_idiv hx hb dX9_sayNumber_40 (by decide) ?_
    refine lv_topi (fun x_25 ex_25 => ?_)
    obtain rfl : x_25 = 1 := by rw [ex_25]; decide
    refine lv_istore_n (lv' := [(3, .int 1), (2, .int 1000), (0, .ref h0), (1, .int (nI x))]) hx hb dX9_sayNumber_41 rfl hl (by decide) rfl (fun ls hl => ?_)
    refine lv_goto (tgt := 20) hx hb dX9_sayNumber_42 (by decide) ?_
    refine lv_iload_n hx hb dX9_sayNumber_20 rfl (lv_at hl 0 rfl) ?_
    refine lv_if_le (tgt := 45) hx hb dX9_sayNumber_21 (by decide) (fun c21 => absurd c21 (by decide)) (fun _ => ?_)
    refine lv_aload_n hx hb dX9_sayNumber_24 rfl (lv_at hl 2 rfl) ?_
    refine lv_bipush (v := 48) hx hb dX9_sayNumber_25 (by decide +kernel) ?_
    refine lv_iload_n hx hb dX9_sayNumber_27 rfl (lv_at hl 3 rfl) ?_
    refine lv_iload_n hx hb dX9_sayNumber_28 rfl (lv_at hl 0 rfl) ?_
    refine lv_idiv hx hb dX9_sayNumber_29 (by decide) ?_
    refine lv_bipush (v := 10) hx hb dX9_sayNumber_30 (by decide +kernel) ?_
    refine lv_irem hx hb dX9_sayNumber_32 (by decide) ?_
    refine lv_iadd hx hb dX9_sayNumber_33 ?_
    refine mt_callv (wr := []) (va_runV (As := [.int (48 + (((nI x) / 1) - ((nI x) / 1) / 10 * 10))]) (rest := []) ⟨hx, hb, hml, hown, hts⟩ (c_M_say l D cy e h0 q i_size i_words i_next i_open i_stood i_nodes i_half i_made i_rows i_state i_tested (48 + (((nI x) / 1) - ((nI x) / 1) / 10 * 10)) cap0 (L + 1 + 1 + 1) wa2_34 fw2_34 H.size (by omega) hc0 hfw0) (cwV 1 hts gX9_sayNumber_X9_say rfl rfl rfl (by decide +kernel) ⟨Nat.le_of_ble_eq_true rfl, Nat.le_of_ble_eq_true rfl⟩) (mt_preV hP hD hK hS hA hG [0, 1] rfl (by decide) (q := (RX9, TX9, 32)) (ci := 10) (q0 := 0) rfl rfl) rfl rfl hl.1 rfl (lv_room (Nat.le_of_ble_eq_true rfl)) dX9_sayNumber_34 ⟨acc_c (by omega) (by omega) (by omega), acc_s (by omega) (by omega) (by omega)⟩) hP hD hS hA [0, 1] [] rfl rfl (by decide) (by decide) (fun u H locs hw hP hD hS => ?_)
    obtain ⟨wa2_34, fw2_34⟩ := u
    have hP : va_P D vwCl [(h0, .inr (10, [.ref (q 0), .int i_size, .ref (q 1), .ref (q 2), .int i_words, .int i_next, .int i_open, .int i_stood, .ref (q 3), .ref (q 4), .ref (q 5), .int i_nodes, .int i_half, .int i_made, .ref (q 6), .ref (q 7), .ref (q 8), .ref (q 9), .ref (q 10), .ref (q 11), .int i_rows, .ref (q 12), .ref (q 13), .ref (q 14), .int i_state, .ref (q 15), .ref (q 16), .ref (q 17), .int i_tested, .ref (q 18), .ref wa2_34, .int (nI (L + 1 + 1 + 1 + 1))])), (wa2_34, .inl (cy 0, capA (L + 1 + 1 + 1 + 1) cap0, .inl fw2_34))] H := hP
    have hD : va_D A [(h0, .inr (10, [.ref (q 0), .int i_size, .ref (q 1), .ref (q 2), .int i_words, .int i_next, .int i_open, .int i_stood, .ref (q 3), .ref (q 4), .ref (q 5), .int i_nodes, .int i_half, .int i_made, .ref (q 6), .ref (q 7), .ref (q 8), .ref (q 9), .ref (q 10), .ref (q 11), .int i_rows, .ref (q 12), .ref (q 13), .ref (q 14), .int i_state, .ref (q 15), .ref (q 16), .ref (q 17), .int i_tested, .ref (q 18), .ref wa2_34, .int (nI (L + 1 + 1 + 1 + 1))])), (wa2_34, .inl (cy 0, capA (L + 1 + 1 + 1 + 1) cap0, .inl fw2_34))] := hD
    replace hw : sb_Fit fw2_34 := hw
    refine W.widen (k := ccA (L + 1 + 1 + 1 + 1) cap0 - ccA (L) cap0) (n := ssA (L + 1 + 1 + 1 + 1) cap0 - ssA (L) cap0) (acc_c2 (by omega) (by omega)) (acc_s2 (by omega) (by omega)) ?_
    have hfw0 := hw
    refine lv_iload_n hx hb dX9_sayNumber_37 rfl (lv_at hl 0 rfl) ?_
    refine lv_bipush (v := 10) hx hb dX9_sayNumber_38 (by decide +kernel) ?_
    refine lv_idiv hx hb dX9_sayNumber_40 (by decide) ?_
    refine lv_topi (fun x_26 ex_26 => ?_)
    obtain rfl : x_26 = 0 := by rw [ex_26]; decide
    refine lv_istore_n (lv' := [(3, .int 0), (2, .int 1000), (0, .ref h0), (1, .int (nI x))]) hx hb dX9_sayNumber_41 rfl hl (by decide) rfl (fun ls hl => ?_)
    refine lv_goto (tgt := 20) hx hb dX9_sayNumber_42 (by decide) ?_
    refine lv_iload_n hx hb dX9_sayNumber_20 rfl (lv_at hl 0 rfl) ?_
    refine lv_if_le (tgt := 45) hx hb dX9_sayNumber_21 (by decide) (fun _ => ?_) (fun c21 => absurd (by decide) c21)
    have hLe : L + 1 + 1 + 1 + 1 = L + dgt x := by omega
    rw [hLe] at hP hD
    have hP : va_P D vwCl [(h0, .inr (10, [.ref (q 0), .int i_size, .ref (q 1), .ref (q 2), .int i_words, .int i_next, .int i_open, .int i_stood, .ref (q 3), .ref (q 4), .ref (q 5), .int i_nodes, .int i_half, .int i_made, .ref (q 6), .ref (q 7), .ref (q 8), .ref (q 9), .ref (q 10), .ref (q 11), .int i_rows, .ref (q 12), .ref (q 13), .ref (q 14), .int i_state, .ref (q 15), .ref (q 16), .ref (q 17), .int i_tested, .ref (q 18), .ref wa2_34, .int (nI (L + dgt x))])), (wa2_34, .inl (cy 0, capA (L + dgt x) cap0, .inl fw2_34))] H := hP
    have hD : va_D A [(h0, .inr (10, [.ref (q 0), .int i_size, .ref (q 1), .ref (q 2), .int i_words, .int i_next, .int i_open, .int i_stood, .ref (q 3), .ref (q 4), .ref (q 5), .int i_nodes, .int i_half, .int i_made, .ref (q 6), .ref (q 7), .ref (q 8), .ref (q 9), .ref (q 10), .ref (q 11), .int i_rows, .ref (q 12), .ref (q 13), .ref (q 14), .int i_state, .ref (q 15), .ref (q 16), .ref (q 17), .int i_tested, .ref (q 18), .ref wa2_34, .int (nI (L + dgt x))])), (wa2_34, .inl (cy 0, capA (L + dgt x) cap0, .inl fw2_34))] := hD
    have hP9 : va_P D vwCl [(h0, .inr (10, [.ref (q 0), .int i_size, .ref (q 1), .ref (q 2), .int i_words, .int i_next, .int i_open, .int i_stood, .ref (q 3), .ref (q 4), .ref (q 5), .int i_nodes, .int i_half, .int i_made, .ref (q 6), .ref (q 7), .ref (q 8), .ref (q 9), .ref (q 10), .ref (q 11), .int i_rows, .ref (q 12), .ref (q 13), .ref (q 14), .int i_state, .ref (q 15), .ref (q 16), .ref (q 17), .int i_tested, .ref (q 18), .ref wa2_34, .int (nI (L + dgt x))])), (wa2_34, .inl (cy 0, capA (L + dgt x) cap0, .inl fw2_34))] H := hP.sub [0, 1] rfl
    have hD9 : va_D A [(h0, .inr (10, [.ref (q 0), .int i_size, .ref (q 1), .ref (q 2), .int i_words, .int i_next, .int i_open, .int i_stood, .ref (q 3), .ref (q 4), .ref (q 5), .int i_nodes, .int i_half, .int i_made, .ref (q 6), .ref (q 7), .ref (q 8), .ref (q 9), .ref (q 10), .ref (q 11), .int i_rows, .ref (q 12), .ref (q 13), .ref (q 14), .int i_state, .ref (q 15), .ref (q 16), .ref (q 17), .int i_tested, .ref (q 18), .ref wa2_34, .int (nI (L + dgt x))])), (wa2_34, .inl (cy 0, capA (L + dgt x) cap0, .inl fw2_34))] := hD.sub [0, 1] (by decide) rfl
    refine W.widen (k := ccA (L + dgt x) cap0 - ccA L cap0) (n := ssA (L + dgt x) cap0 - ssA L cap0) (Nat.le_of_eq (by rw [hLe])) (Nat.le_of_eq (by rw [hLe])) ?_
    exact W.vret hx hb hr (fun t ht hW => ⟨⟨(wa2_34, fw2_34), rfl, hfw0, by rw [ht]; exact hP9, hD9⟩, hS.F ht⟩) hS.2.2 dX9_sayNumber_45
