-- deps: 51 52

theorem sbs_len (k : Nat) (hk : k < 11) : (sbs.getD k []).length < 100 := by
  have h : ∀ k : Fin 11, (sbs.getD k.val []).length < 100 := by decide
  exact h ⟨k, hk⟩
theorem look3 {z : Int32} (h1 : ¬ z = 40) (h2 : ¬ z = 41) (h3 : ¬ z = 59) : Op.lookupswitch.offset (#[((40 : Int), (34 : Int)), (41, 36), (59, 38)]).toList 40 z.toInt = 40 := by
  have e1 : ¬ z.toInt = 40 := fun h => h1 (Int32.toInt_inj.mp (h.trans (by decide)))
  have e2 : ¬ z.toInt = 41 := fun h => h2 (Int32.toInt_inj.mp (h.trans (by decide)))
  have e3 : ¬ z.toInt = 59 := fun h => h3 (Int32.toInt_inj.mp (h.trans (by decide)))
  simp only [Op.lookupswitch.offset, List.find?]
  repeat' split
  all_goals simp_all
set_option maxHeartbeats 4000000 in
set_option maxRecDepth 100000 in
theorem c_isBlank (l : Launch) (D : va_G) (cy : Nat → ClassId) (e : Nat → Nat)  (b : Int32)  : Met l yX6_isBlank wsX6_isBlank ({ frames := 0, cells := 0, slots := 0, locals := 0 }) (va_Pc [.int b] (pu_B D cy e [])) (va_Qi (fun (r : Int32) (_ : Unit) => r = if b = 32 ∨ b = 10 then 1 else 0) (fun _ _ => True) (fun _ => False)) 0 0 (fun _ => False) := by
  refine Met.ofW (cc := cX6_isBlank) (maxL := 1) (ret := (some .boolean)) (by decide) rfl ?_
  intro p ev s m args below meth c s₁ B hml hv
  obtain ⟨rfl, hP, hK, hG⟩ := hv
  have hx := B.exec
  have hb := B.bytes
  have hr := B.returns
  have hts := atoms_spec (ws := wsX6_isBlank) B.pre
  have hown : s.vm.findClass RX6 = some m.cls := findClass_of_methodNamed B.named
  have hlocks := B.notSynchronized
  have hS : va_S (fun _ => False) s.heap s.heap [] := va_S.rf
  have hP : va_P D vwCl [] s.heap := hP
  have hl := lv_entry ([.int b]) (n := 1) (Nat.le_of_ble_eq_true rfl)
  rw [lg_entry_eq]
  generalize (lg_sl ([.int b]) ++ List.replicate (1 - (lg_sl ([.int b])).length) Slot.unset).toArray = ls at hl ⊢
  have hl : lv_has ls 1 [(0, .int b)] := hl
  refine lv_iload_n hx hb dX6_isBlank_0 rfl (lv_at hl 0 rfl) ?_
  refine lv_bipush (v := 32) hx hb dX6_isBlank_1 (by decide +kernel) ?_
  refine lv_icmp_eq (tgt := 12) hx hb dX6_isBlank_3 (by decide) (fun c3 => ?_) (fun c3 => ?_)
  · refine lv_iconst (v := 1) hx hb dX6_isBlank_12 (by decide +kernel) ?_
    refine lv_goto (tgt := 17) hx hb dX6_isBlank_13 (by decide) ?_
    exact W.zret hx hb hr rfl (fun t ht hW => ⟨⟨_, (), rfl, (if_pos (Or.inl c3)).symm, trivial⟩, hS.F ht⟩) hS.2.2 dX6_isBlank_17
  · refine lv_iload_n hx hb dX6_isBlank_6 rfl (lv_at hl 0 rfl) ?_
    refine lv_bipush (v := 10) hx hb dX6_isBlank_7 (by decide +kernel) ?_
    refine lv_icmp_ne (tgt := 16) hx hb dX6_isBlank_9 (by decide) (fun c9 => ?_) (fun c9 => ?_)
    · refine lv_iconst (v := 0) hx hb dX6_isBlank_16 (by decide +kernel) ?_
      exact W.zret hx hb hr rfl (fun t ht hW => ⟨⟨_, (), rfl, (if_neg (not_or.mpr ⟨c3, c9⟩)).symm, trivial⟩, hS.F ht⟩) hS.2.2 dX6_isBlank_17
    · refine lv_iconst (v := 1) hx hb dX6_isBlank_12 (by decide +kernel) ?_
      refine lv_goto (tgt := 17) hx hb dX6_isBlank_13 (by decide) ?_
      exact W.zret hx hb hr rfl (fun t ht hW => ⟨⟨_, (), rfl, (if_pos (Or.inr c9)).symm, trivial⟩, hS.F ht⟩) hS.2.2 dX6_isBlank_17

set_option maxHeartbeats 4000000 in
set_option maxRecDepth 100000 in
theorem c_isInner (l : Launch) (D : va_G) (cy : Nat → ClassId) (e : Nat → Nat)  (b : Int32)  : Met l yX6_isInner wsX6_isInner ({ frames := 1, cells := 0, slots := 0, locals := 20 }) (va_Pc [.int b] (pu_B D cy e [])) (va_Qi (fun (r : Int32) (_ : Unit) => r = if fp_in b then 1 else 0) (fun _ _ => True) (fun _ => False)) 0 0 (fun _ => False) := by
  refine Met.ofW (cc := cX6_isInner) (maxL := 1) (ret := (some .boolean)) (by decide) rfl ?_
  intro p ev s m args below meth c s₁ B hml hv
  obtain ⟨rfl, hP, hK, hG⟩ := hv
  have hx := B.exec
  have hb := B.bytes
  have hr := B.returns
  have hts := atoms_spec (ws := wsX6_isInner) B.pre
  have hown : s.vm.findClass RX6 = some m.cls := findClass_of_methodNamed B.named
  have hlocks := B.notSynchronized
  have hS : va_S (fun _ => False) s.heap s.heap [] := va_S.rf
  have hP : va_P D vwCl [] s.heap := hP
  have hl := lv_entry ([.int b]) (n := 1) (Nat.le_of_ble_eq_true rfl)
  rw [lg_entry_eq]
  generalize (lg_sl ([.int b]) ++ List.replicate (1 - (lg_sl ([.int b])).length) Slot.unset).toArray = ls at hl ⊢
  have hl : lv_has ls 1 [(0, .int b)] := hl
  refine lv_iload_n hx hb dX6_isInner_0 rfl (lv_at hl 0 rfl) ?_
  refine pu_calli (va_runS (As := [.int b]) (rest := []) ⟨hx, hb, hml, hown, hts⟩ (c_isBlank l D cy e b ) (va_cwS 1 hts gX6_isInner_X6_isBlank rfl rfl rfl (by decide +kernel) ⟨Nat.le_of_ble_eq_true rfl, Nat.le_of_ble_eq_true rfl⟩) (pu_preS hP hK hS hG [] rfl) rfl rfl hl.1 rfl (lv_room (Nat.le_of_ble_eq_true rfl)) dX6_isInner_1 ⟨(Nat.le_of_ble_eq_true rfl), (Nat.le_of_ble_eq_true rfl)⟩) hP hS (fun H locs hP hS => ?_)
  have hP : va_P D vwCl [] H := hP
  refine lv_if_ne (tgt := 29) hx hb dX6_isInner_4 (by decide) (fun c4 => ?_) (fun c4 => ?_)
  · refine lv_iconst (v := 0) hx hb dX6_isInner_29 (by decide +kernel) ?_
    exact W.zret hx hb hr rfl (fun t ht hW => ⟨⟨_, (), rfl, (if_neg (fun q9 => q9.1 (fp_bk_of c4))).symm, trivial⟩, hS.F ht⟩) hS.2.2 dX6_isInner_30
  · refine lv_iload_n hx hb dX6_isInner_7 rfl (lv_at hl 0 rfl) ?_
    refine lv_bipush (v := 40) hx hb dX6_isInner_8 (by decide +kernel) ?_
    refine lv_icmp_eq (tgt := 29) hx hb dX6_isInner_10 (by decide) (fun c10 => ?_) (fun c10 => ?_)
    · refine lv_iconst (v := 0) hx hb dX6_isInner_29 (by decide +kernel) ?_
      exact W.zret hx hb hr rfl (fun t ht hW => ⟨⟨_, (), rfl, (if_neg (fun q9 => q9.2 (Or.inl c10))).symm, trivial⟩, hS.F ht⟩) hS.2.2 dX6_isInner_30
    · refine lv_iload_n hx hb dX6_isInner_13 rfl (lv_at hl 0 rfl) ?_
      refine lv_bipush (v := 41) hx hb dX6_isInner_14 (by decide +kernel) ?_
      refine lv_icmp_eq (tgt := 29) hx hb dX6_isInner_16 (by decide) (fun c16 => ?_) (fun c16 => ?_)
      · refine lv_iconst (v := 0) hx hb dX6_isInner_29 (by decide +kernel) ?_
        exact W.zret hx hb hr rfl (fun t ht hW => ⟨⟨_, (), rfl, (if_neg (fun q9 => q9.2 (Or.inr (Or.inl c16)))).symm, trivial⟩, hS.F ht⟩) hS.2.2 dX6_isInner_30
      · refine lv_iload_n hx hb dX6_isInner_19 rfl (lv_at hl 0 rfl) ?_
        refine lv_bipush (v := 59) hx hb dX6_isInner_20 (by decide +kernel) ?_
        refine lv_icmp_eq (tgt := 29) hx hb dX6_isInner_22 (by decide) (fun c22 => ?_) (fun c22 => ?_)
        · refine lv_iconst (v := 0) hx hb dX6_isInner_29 (by decide +kernel) ?_
          exact W.zret hx hb hr rfl (fun t ht hW => ⟨⟨_, (), rfl, (if_neg (fun q9 => q9.2 (Or.inr (Or.inr c22)))).symm, trivial⟩, hS.F ht⟩) hS.2.2 dX6_isInner_30
        · refine lv_iconst (v := 1) hx hb dX6_isInner_25 (by decide +kernel) ?_
          refine lv_goto (tgt := 30) hx hb dX6_isInner_26 (by decide) ?_
          exact W.zret hx hb hr rfl (fun t ht hW => ⟨⟨_, (), rfl, (if_pos ⟨fp_bk_no c4, not_or.mpr ⟨c10, not_or.mpr ⟨c16, c22⟩⟩⟩).symm, trivial⟩, hS.F ht⟩) hS.2.2 dX6_isInner_30

set_option maxHeartbeats 4000000 in
set_option maxRecDepth 100000 in
/-- numberIn -/
theorem c_numberIn (l : Launch) (D : va_G) (cy : Nat → ClassId) (e : Nat → Nat)  (t : Nat) (lim : Int32) (rm : Nat) (len : Nat) (n : Nat) (f : Nat → Int32) (b : Nat) (a : Nat) (e0 : Nat) (mx : Nat) (hle : len ≤ n) (hn : n < 2 ^ 31) (hba : b + a ≤ e0) (he0 : e0 ≤ len) (hmx : mx ≤ 3600) (hft : sb_Fit f) : Met l yX6_numberIn wsX6_numberIn ({ frames := 1, cells := 0, slots := 0, locals := 21 }) (va_Pc [.ref t, .int (nI (b + a)), .int (nI e0), .int (nI mx)] (pu_B D cy e [(t, .inr (1, [.int lim, .ref rm, .int (nI len)])), (rm, .inl (cy 0, n, .inl f))])) (va_Qi (fun (r : Int32) (_ : Unit) => r = fp_nu (fp_wf f b e0) (e0 - b) a mx) (fun _ _ => True) (fun _ => False)) 0 0 (fun _ => False) := by
  refine Met.ofW (cc := cX6_numberIn) (maxL := 7) (ret := (some .int)) (by decide) rfl ?_
  intro p ev s m args below meth c s₁ B hml hv
  obtain ⟨rfl, hP, hK, hG⟩ := hv
  have hx := B.exec
  have hb := B.bytes
  have hr := B.returns
  have hts := atoms_spec (ws := wsX6_numberIn) B.pre
  have hown : s.vm.findClass RX6 = some m.cls := findClass_of_methodNamed B.named
  have hlocks := B.notSynchronized
  have hS : va_S (fun _ => False) s.heap s.heap [] := va_S.rf
  have hP : va_P D vwCl [(t, .inr (1, [.int lim, .ref rm, .int (nI len)])), (rm, .inl (cy 0, n, .inl f))] s.heap := hP
  have iX0 : ∀ w ∈ wsX00, w ∈ wsX6_numberIn := fun w h => List.mem_cons_of_mem _ (List.mem_append_right _ h)
  have hl := lv_entry ([.ref t, .int (nI (b + a)), .int (nI e0), .int (nI mx)]) (n := 7) (Nat.le_of_ble_eq_true rfl)
  rw [lg_entry_eq]
  generalize (lg_sl ([.ref t, .int (nI (b + a)), .int (nI e0), .int (nI mx)]) ++ List.replicate (7 - (lg_sl ([.ref t, .int (nI (b + a)), .int (nI e0), .int (nI mx)])).length) Slot.unset).toArray = ls at hl ⊢
  have hl : lv_has ls 7 [(0, .ref t), (1, .int (nI (b + a))), (2, .int (nI e0)), (3, .int (nI mx))] := hl
  refine lv_iload_n hx hb dX6_numberIn_0 rfl (lv_at hl 1 rfl) ?_
  refine lv_iload_n hx hb dX6_numberIn_1 rfl (lv_at hl 2 rfl) ?_
  refine lv_icmp_ge (tgt := 22) hx hb dX6_numberIn_2 (by decide) (fun c2 => ?_) (fun c2 => ?_)
  · have hge0 : e0 ≤ b + a := (nI_leI (by omega) (by omega)).mp c2
    refine lv_iconst (v := -1) hx hb dX6_numberIn_22 (by decide +kernel) ?_
    exact W.iret hx hb hr (fun t ht hW => ⟨⟨_, (), rfl, (fp_nu_0 (by omega)).symm, trivial⟩, hS.F ht⟩) hS.2.2 dX6_numberIn_23
  · have hlt0 : b + a < e0 := pk_nle (by omega) c2
    refine lv_aload_n hx hb dX6_numberIn_5 rfl (lv_at hl 0 rfl) ?_
    refine lv_iload_n hx hb dX6_numberIn_6 rfl (lv_at hl 1 rfl) ?_
    refine pu_calli (va_runV (As := [.int (nI (b + a))]) (rest := []) ⟨hx, hb, hml, hown, hts⟩ (c_Bytes_at l D cy e t lim rm len n f (nI (b + a)) hle hn) (cwV 1 hts gX6_numberIn_X0_at rfl rfl rfl (by decide +kernel) ⟨Nat.le_of_ble_eq_true rfl, Nat.le_of_ble_eq_true rfl⟩) (pu_preV hP hK hS hG [0, 1] rfl (q := (RX0, TX0, 3)) (ci := 1) (q0 := 0) rfl rfl) rfl rfl hl.1 rfl (lv_room (Nat.le_of_ble_eq_true rfl)) dX6_numberIn_7 ⟨(Nat.le_of_ble_eq_true rfl), (Nat.le_of_ble_eq_true rfl)⟩) hP hS (fun H locs hP hS => ?_)
    have hP : va_P D vwCl [(t, .inr (1, [.int lim, .ref rm, .int (nI len)])), (rm, .inl (cy 0, n, .inl f))] H := hP
    refine lv_topi (fun x_1 ex_1 => ?_)
    obtain rfl : x_1 = f (b + a) := by rw [ex_1]; exact fp_bat (by omega) (by omega)
    refine lv_bipush (v := 48) hx hb dX6_numberIn_10 (by decide +kernel) ?_
    refine lv_icmp_ne (tgt := 24) hx hb dX6_numberIn_12 (by decide) (fun c12 => ?_) (fun c12 => ?_)
    · refine lv_iconst (v := 0) hx hb dX6_numberIn_24 (by decide +kernel) ?_
      refine lv_topi (fun x_2 ex_2 => ?_)
      obtain rfl : x_2 = nI 0 := by rw [ex_2]; exact nI_0.symm
      refine lv_istore (lv' := [(4, .int (nI 0)), (0, .ref t), (1, .int (nI (b + a))), (2, .int (nI e0)), (3, .int (nI mx))]) hx hb dX6_numberIn_25 hl (by decide) rfl (fun ls hl => ?_)
      refine lv_iload_n hx hb dX6_numberIn_27 rfl (lv_at hl 2 rfl) ?_
      refine lv_istore (lv' := [(5, .int (nI (b + a))), (4, .int (nI 0)), (0, .ref t), (1, .int (nI (b + a))), (2, .int (nI e0)), (3, .int (nI mx))]) hx hb dX6_numberIn_28 hl (by decide) rfl (fun ls hl => ?_)
      have hnu0 : fp_nu (fp_wf f b e0) (e0 - b) a mx = fp_num (fp_wf f b e0) mx ((e0 - b) - a) a 0 := fp_nu_s (by omega) (fun q9 => c12 ((fp_wf_in hlt0).symm.trans q9.1))
      refine lp_W (σ := Nat × Nat) (Wf := fun H locs ls => W p l ev _ s m _ below meth c H locs (0) (0) _ (F0 m 30 ls [])) (fun zz9 H locs ls => match zz9 with | (i, x) => va_P D vwCl [(t, .inr (1, [.int lim, .ref rm, .int (nI len)])), (rm, .inl (cy 0, n, .inl f))] H ∧ va_S (fun _ => False) s.heap H locs ∧ lv_has ls 7 [(5, .int (nI (b + i))), (4, .int (nI x)), (0, .ref t), (1, .int (nI (b + a))), (2, .int (nI e0)), (3, .int (nI mx))] ∧ (b + i ≤ e0 ∧ x ≤ mx ∧ fp_nu (fp_wf f b e0) (e0 - b) a mx = fp_num (fp_wf f b e0) mx ((e0 - b) - i) i x)) (fun zz9 => match zz9 with | (i, x) => e0 - i) ?_ (a, 0) _ _ ls ⟨hP, hS, lv_sub hl [0, 1, 2, 3, 4, 5] rfl, ⟨by omega, Nat.zero_le _, hnu0⟩⟩
      intro zz9 H locs ls hI ih
      obtain ⟨i, x⟩ := zz9
      obtain ⟨hP, hS, hl, hI⟩ := hI
      have ih30 := ih
      have hI30 := hI
      have hP : va_P D vwCl [(t, .inr (1, [.int lim, .ref rm, .int (nI len)])), (rm, .inl (cy 0, n, .inl f))] H := hP
      have hl : lv_has ls 7 [(5, .int (nI (b + i))), (4, .int (nI x)), (0, .ref t), (1, .int (nI (b + a))), (2, .int (nI e0)), (3, .int (nI mx))] := hl
      obtain ⟨hI1, hI2, hI3⟩ := hI
      refine lv_iload hx hb dX6_numberIn_30 (lv_at hl 0 rfl) ?_
      refine lv_iload_n hx hb dX6_numberIn_32 rfl (lv_at hl 4 rfl) ?_
      refine lv_icmp_ge (tgt := 85) hx hb dX6_numberIn_33 (by decide) (fun c33 => ?_) (fun c33 => ?_)
      · have hge : e0 ≤ b + i := (nI_leI (by omega) (by omega)).mp c33
        refine lv_iload hx hb dX6_numberIn_85 (lv_at hl 1 rfl) ?_
        exact W.iret hx hb hr (fun t ht hW => ⟨⟨_, (), rfl, (hI3.trans (by rw [show (e0 - b) - i = 0 by omega, fp_num, if_pos hI2])).symm, trivial⟩, hS.F ht⟩) hS.2.2 dX6_numberIn_87
      · have hlt : b + i < e0 := pk_nle (by omega) c33
        have hli : (e0 - b) - i = ((e0 - b) - (i + 1)) + 1 := by omega
        have hfw : fp_wf f b e0 i = f (b + i) := fp_wf_in hlt
        refine lv_aload_n hx hb dX6_numberIn_36 rfl (lv_at hl 2 rfl) ?_
        refine lv_iload hx hb dX6_numberIn_37 (lv_at hl 0 rfl) ?_
        refine pu_calli (va_runV (As := [.int (nI (b + i))]) (rest := []) ⟨hx, hb, hml, hown, hts⟩ (c_Bytes_at l D cy e t lim rm len n f (nI (b + i)) hle hn) (cwV 1 hts gX6_numberIn_X0_at rfl rfl rfl (by decide +kernel) ⟨Nat.le_of_ble_eq_true rfl, Nat.le_of_ble_eq_true rfl⟩) (pu_preV hP hK hS hG [0, 1] rfl (q := (RX0, TX0, 3)) (ci := 1) (q0 := 0) rfl rfl) rfl rfl hl.1 rfl (lv_room (Nat.le_of_ble_eq_true rfl)) dX6_numberIn_39 ⟨(Nat.le_of_ble_eq_true rfl), (Nat.le_of_ble_eq_true rfl)⟩) hP hS (fun H locs hP hS => ?_)
        have hP : va_P D vwCl [(t, .inr (1, [.int lim, .ref rm, .int (nI len)])), (rm, .inl (cy 0, n, .inl f))] H := hP
        refine lv_topi (fun x_3 ex_3 => ?_)
        obtain rfl : x_3 = f (b + i) := by rw [ex_3]; exact fp_bat (by omega) (by omega)
        refine lv_bipush (v := 48) hx hb dX6_numberIn_42 (by decide +kernel) ?_
        refine lv_isub hx hb dX6_numberIn_44 ?_
        refine lv_istore (lv' := [(6, .int ((f (b + i)) - 48)), (5, .int (nI (b + i))), (4, .int (nI x)), (0, .ref t), (1, .int (nI (b + a))), (2, .int (nI e0)), (3, .int (nI mx))]) hx hb dX6_numberIn_45 hl (by decide) rfl (fun ls hl => ?_)
        refine lv_iload hx hb dX6_numberIn_47 (lv_at hl 0 rfl) ?_
        refine lv_if_lt (tgt := 59) hx hb dX6_numberIn_49 (by decide) (fun c49 => ?_) (fun c49 => ?_)
        · refine lv_iconst (v := -1) hx hb dX6_numberIn_59 (by decide +kernel) ?_
          exact W.iret hx hb hr (fun t ht hW => ⟨⟨_, (), rfl, (hI3.trans (by rw [hli]; exact fp_num_b (Or.inl (by rw [hfw]; exact fp_lo (hft _) c49)))).symm, trivial⟩, hS.F ht⟩) hS.2.2 dX6_numberIn_60
        · refine lv_iload hx hb dX6_numberIn_52 (lv_at hl 0 rfl) ?_
          refine lv_bipush (v := 9) hx hb dX6_numberIn_54 (by decide +kernel) ?_
          refine lv_icmp_le (tgt := 61) hx hb dX6_numberIn_56 (by decide) (fun c56 => ?_) (fun c56 => ?_)
          · obtain ⟨dd, hd1, hd2, hd3, hd4⟩ := fp_dg (hft (b + i)) c49 c56
            refine lv_bipush (v := 10) hx hb dX6_numberIn_61 (by decide +kernel) ?_
            refine lv_iload hx hb dX6_numberIn_63 (lv_at hl 2 rfl) ?_
            refine lv_imul hx hb dX6_numberIn_65 ?_
            refine lv_iload hx hb dX6_numberIn_66 (lv_at hl 0 rfl) ?_
            refine lv_iadd hx hb dX6_numberIn_68 ?_
            refine lv_topi (fun x_4 ex_4 => ?_)
            obtain rfl : x_4 = nI (10 * x + (dd - 48)) := by rw [ex_4]; rw [hd4]; exact fp_num10
            refine lv_istore (lv' := [(4, .int (nI (10 * x + (dd - 48)))), (6, .int ((f (b + i)) - 48)), (5, .int (nI (b + i))), (0, .ref t), (1, .int (nI (b + a))), (2, .int (nI e0)), (3, .int (nI mx))]) hx hb dX6_numberIn_69 hl (by decide) rfl (fun ls hl => ?_)
            refine lv_iload hx hb dX6_numberIn_71 (lv_at hl 0 rfl) ?_
            refine lv_iload_n hx hb dX6_numberIn_73 rfl (lv_at hl 6 rfl) ?_
            refine lv_icmp_le (tgt := 79) hx hb dX6_numberIn_74 (by decide) (fun c74 => ?_) (fun c74 => ?_)
            · refine lv_iinc (v := nI (b + (i + 1))) (lv' := [(5, .int (nI (b + (i + 1)))), (4, .int (nI (10 * x + (dd - 48)))), (6, .int ((f (b + i)) - 48)), (0, .ref t), (1, .int (nI (b + a))), (2, .int (nI e0)), (3, .int (nI mx))]) hx hb dX6_numberIn_79 hl (k := 2) rfl (nI_1 (b + i)) (by decide) rfl (fun ls hl => ?_)
              refine lv_goto (tgt := 30) hx hb dX6_numberIn_82 (by decide) ?_
              exact ih30 ((i + 1), (10 * x + (dd - 48))) _ _ ls ⟨hP.sub [0, 1] rfl, hS, lv_sub hl [0, 1, 3, 4, 5, 6] rfl, ⟨by omega, (nI_leI (by omega) (by omega)).mp c74, hI3.trans (by rw [hli]; exact fp_num_s (hfw.trans hd3) hd1 hd2)⟩⟩ (by (try dsimp only); omega)
            · refine lv_iconst (v := -1) hx hb dX6_numberIn_77 (by decide +kernel) ?_
              exact W.iret hx hb hr (fun t ht hW => ⟨⟨_, (), rfl, (hI3.trans (by rw [hli, fp_num_s (hfw.trans hd3) hd1 hd2]; exact fp_num_big _ _ _ (pk_nle (by omega) c74))).symm, trivial⟩, hS.F ht⟩) hS.2.2 dX6_numberIn_78
          · refine lv_iconst (v := -1) hx hb dX6_numberIn_59 (by decide +kernel) ?_
            exact W.iret hx hb hr (fun t ht hW => ⟨⟨_, (), rfl, (hI3.trans (by rw [hli]; exact fp_num_b (Or.inr (by rw [hfw]; exact fp_hi (hft _) c56)))).symm, trivial⟩, hS.F ht⟩) hS.2.2 dX6_numberIn_60
    · refine lv_iload_n hx hb dX6_numberIn_15 rfl (lv_at hl 2 rfl) ?_
      refine lv_iload_n hx hb dX6_numberIn_16 rfl (lv_at hl 1 rfl) ?_
      refine lv_isub hx hb dX6_numberIn_17 ?_
      refine lv_topi (fun x_5 ex_5 => ?_)
      obtain rfl : x_5 = nI (e0 - (b + a)) := by rw [ex_5]; exact pk_sub (by omega)
      refine lv_iconst (v := 1) hx hb dX6_numberIn_18 (by decide +kernel) ?_
      refine lv_icmp_le (tgt := 24) hx hb dX6_numberIn_19 (by decide) (fun c19 => ?_) (fun c19 => ?_)
      · refine lv_iconst (v := 0) hx hb dX6_numberIn_24 (by decide +kernel) ?_
        refine lv_topi (fun x_6 ex_6 => ?_)
        obtain rfl : x_6 = nI 0 := by rw [ex_6]; exact nI_0.symm
        refine lv_istore (lv' := [(4, .int (nI 0)), (0, .ref t), (1, .int (nI (b + a))), (2, .int (nI e0)), (3, .int (nI mx))]) hx hb dX6_numberIn_25 hl (by decide) rfl (fun ls hl => ?_)
        refine lv_iload_n hx hb dX6_numberIn_27 rfl (lv_at hl 2 rfl) ?_
        refine lv_istore (lv' := [(5, .int (nI (b + a))), (4, .int (nI 0)), (0, .ref t), (1, .int (nI (b + a))), (2, .int (nI e0)), (3, .int (nI mx))]) hx hb dX6_numberIn_28 hl (by decide) rfl (fun ls hl => ?_)
        have hnu0 : fp_nu (fp_wf f b e0) (e0 - b) a mx = fp_num (fp_wf f b e0) mx ((e0 - b) - a) a 0 := fp_nu_s (by omega) (fun q9 => by have o9 := (nI_leI (a := e0 - (b + a)) (b := 1) (by omega) (by decide)).mp c19; have o8 := q9.2; omega)
        refine lp_W (σ := Nat × Nat) (Wf := fun H locs ls => W p l ev _ s m _ below meth c H locs (0) (0) _ (F0 m 30 ls [])) (fun zz9 H locs ls => match zz9 with | (i, x) => va_P D vwCl [(t, .inr (1, [.int lim, .ref rm, .int (nI len)])), (rm, .inl (cy 0, n, .inl f))] H ∧ va_S (fun _ => False) s.heap H locs ∧ lv_has ls 7 [(5, .int (nI (b + i))), (4, .int (nI x)), (0, .ref t), (1, .int (nI (b + a))), (2, .int (nI e0)), (3, .int (nI mx))] ∧ (b + i ≤ e0 ∧ x ≤ mx ∧ fp_nu (fp_wf f b e0) (e0 - b) a mx = fp_num (fp_wf f b e0) mx ((e0 - b) - i) i x)) (fun zz9 => match zz9 with | (i, x) => e0 - i) ?_ (a, 0) _ _ ls ⟨hP, hS, lv_sub hl [0, 1, 2, 3, 4, 5] rfl, ⟨by omega, Nat.zero_le _, hnu0⟩⟩
        intro zz9 H locs ls hI ih
        obtain ⟨i, x⟩ := zz9
        obtain ⟨hP, hS, hl, hI⟩ := hI
        have ih30 := ih
        have hI30 := hI
        have hP : va_P D vwCl [(t, .inr (1, [.int lim, .ref rm, .int (nI len)])), (rm, .inl (cy 0, n, .inl f))] H := hP
        have hl : lv_has ls 7 [(5, .int (nI (b + i))), (4, .int (nI x)), (0, .ref t), (1, .int (nI (b + a))), (2, .int (nI e0)), (3, .int (nI mx))] := hl
        obtain ⟨hI1, hI2, hI3⟩ := hI
        refine lv_iload hx hb dX6_numberIn_30 (lv_at hl 0 rfl) ?_
        refine lv_iload_n hx hb dX6_numberIn_32 rfl (lv_at hl 4 rfl) ?_
        refine lv_icmp_ge (tgt := 85) hx hb dX6_numberIn_33 (by decide) (fun c33 => ?_) (fun c33 => ?_)
        · have hge : e0 ≤ b + i := (nI_leI (by omega) (by omega)).mp c33
          refine lv_iload hx hb dX6_numberIn_85 (lv_at hl 1 rfl) ?_
          exact W.iret hx hb hr (fun t ht hW => ⟨⟨_, (), rfl, (hI3.trans (by rw [show (e0 - b) - i = 0 by omega, fp_num, if_pos hI2])).symm, trivial⟩, hS.F ht⟩) hS.2.2 dX6_numberIn_87
        · have hlt : b + i < e0 := pk_nle (by omega) c33
          have hli : (e0 - b) - i = ((e0 - b) - (i + 1)) + 1 := by omega
          have hfw : fp_wf f b e0 i = f (b + i) := fp_wf_in hlt
          refine lv_aload_n hx hb dX6_numberIn_36 rfl (lv_at hl 2 rfl) ?_
          refine lv_iload hx hb dX6_numberIn_37 (lv_at hl 0 rfl) ?_
          refine pu_calli (va_runV (As := [.int (nI (b + i))]) (rest := []) ⟨hx, hb, hml, hown, hts⟩ (c_Bytes_at l D cy e t lim rm len n f (nI (b + i)) hle hn) (cwV 1 hts gX6_numberIn_X0_at rfl rfl rfl (by decide +kernel) ⟨Nat.le_of_ble_eq_true rfl, Nat.le_of_ble_eq_true rfl⟩) (pu_preV hP hK hS hG [0, 1] rfl (q := (RX0, TX0, 3)) (ci := 1) (q0 := 0) rfl rfl) rfl rfl hl.1 rfl (lv_room (Nat.le_of_ble_eq_true rfl)) dX6_numberIn_39 ⟨(Nat.le_of_ble_eq_true rfl), (Nat.le_of_ble_eq_true rfl)⟩) hP hS (fun H locs hP hS => ?_)
          have hP : va_P D vwCl [(t, .inr (1, [.int lim, .ref rm, .int (nI len)])), (rm, .inl (cy 0, n, .inl f))] H := hP
          refine lv_topi (fun x_7 ex_7 => ?_)
          obtain rfl : x_7 = f (b + i) := by rw [ex_7]; exact fp_bat (by omega) (by omega)
          refine lv_bipush (v := 48) hx hb dX6_numberIn_42 (by decide +kernel) ?_
          refine lv_isub hx hb dX6_numberIn_44 ?_
          refine lv_istore (lv' := [(6, .int ((f (b + i)) - 48)), (5, .int (nI (b + i))), (4, .int (nI x)), (0, .ref t), (1, .int (nI (b + a))), (2, .int (nI e0)), (3, .int (nI mx))]) hx hb dX6_numberIn_45 hl (by decide) rfl (fun ls hl => ?_)
          refine lv_iload hx hb dX6_numberIn_47 (lv_at hl 0 rfl) ?_
          refine lv_if_lt (tgt := 59) hx hb dX6_numberIn_49 (by decide) (fun c49 => ?_) (fun c49 => ?_)
          · refine lv_iconst (v := -1) hx hb dX6_numberIn_59 (by decide +kernel) ?_
            exact W.iret hx hb hr (fun t ht hW => ⟨⟨_, (), rfl, (hI3.trans (by rw [hli]; exact fp_num_b (Or.inl (by rw [hfw]; exact fp_lo (hft _) c49)))).symm, trivial⟩, hS.F ht⟩) hS.2.2 dX6_numberIn_60
          · refine lv_iload hx hb dX6_numberIn_52 (lv_at hl 0 rfl) ?_
            refine lv_bipush (v := 9) hx hb dX6_numberIn_54 (by decide +kernel) ?_
            refine lv_icmp_le (tgt := 61) hx hb dX6_numberIn_56 (by decide) (fun c56 => ?_) (fun c56 => ?_)
            · obtain ⟨dd, hd1, hd2, hd3, hd4⟩ := fp_dg (hft (b + i)) c49 c56
              refine lv_bipush (v := 10) hx hb dX6_numberIn_61 (by decide +kernel) ?_
              refine lv_iload hx hb dX6_numberIn_63 (lv_at hl 2 rfl) ?_
              refine lv_imul hx hb dX6_numberIn_65 ?_
              refine lv_iload hx hb dX6_numberIn_66 (lv_at hl 0 rfl) ?_
              refine lv_iadd hx hb dX6_numberIn_68 ?_
              refine lv_topi (fun x_8 ex_8 => ?_)
              obtain rfl : x_8 = nI (10 * x + (dd - 48)) := by rw [ex_8]; rw [hd4]; exact fp_num10
              refine lv_istore (lv' := [(4, .int (nI (10 * x + (dd - 48)))), (6, .int ((f (b + i)) - 48)), (5, .int (nI (b + i))), (0, .ref t), (1, .int (nI (b + a))), (2, .int (nI e0)), (3, .int (nI mx))]) hx hb dX6_numberIn_69 hl (by decide) rfl (fun ls hl => ?_)
              refine lv_iload hx hb dX6_numberIn_71 (lv_at hl 0 rfl) ?_
              refine lv_iload_n hx hb dX6_numberIn_73 rfl (lv_at hl 6 rfl) ?_
              refine lv_icmp_le (tgt := 79) hx hb dX6_numberIn_74 (by decide) (fun c74 => ?_) (fun c74 => ?_)
              · refine lv_iinc (v := nI (b + (i + 1))) (lv' := [(5, .int (nI (b + (i + 1)))), (4, .int (nI (10 * x + (dd - 48)))), (6, .int ((f (b + i)) - 48)), (0, .ref t), (1, .int (nI (b + a))), (2, .int (nI e0)), (3, .int (nI mx))]) hx hb dX6_numberIn_79 hl (k := 2) rfl (nI_1 (b + i)) (by decide) rfl (fun ls hl => ?_)
                refine lv_goto (tgt := 30) hx hb dX6_numberIn_82 (by decide) ?_
                exact ih30 ((i + 1), (10 * x + (dd - 48))) _ _ ls ⟨hP.sub [0, 1] rfl, hS, lv_sub hl [0, 1, 3, 4, 5, 6] rfl, ⟨by omega, (nI_leI (by omega) (by omega)).mp c74, hI3.trans (by rw [hli]; exact fp_num_s (hfw.trans hd3) hd1 hd2)⟩⟩ (by (try dsimp only); omega)
              · refine lv_iconst (v := -1) hx hb dX6_numberIn_77 (by decide +kernel) ?_
                exact W.iret hx hb hr (fun t ht hW => ⟨⟨_, (), rfl, (hI3.trans (by rw [hli, fp_num_s (hfw.trans hd3) hd1 hd2]; exact fp_num_big _ _ _ (pk_nle (by omega) c74))).symm, trivial⟩, hS.F ht⟩) hS.2.2 dX6_numberIn_78
            · refine lv_iconst (v := -1) hx hb dX6_numberIn_59 (by decide +kernel) ?_
              exact W.iret hx hb hr (fun t ht hW => ⟨⟨_, (), rfl, (hI3.trans (by rw [hli]; exact fp_num_b (Or.inr (by rw [hfw]; exact fp_hi (hft _) c56)))).symm, trivial⟩, hS.F ht⟩) hS.2.2 dX6_numberIn_60
      · refine lv_iconst (v := -1) hx hb dX6_numberIn_22 (by decide +kernel) ?_
        exact W.iret hx hb hr (fun t ht hW => ⟨⟨_, (), rfl, (fp_nu_z ((fp_wf_in hlt0).trans c12) (by have o9 := pk_nle (a := e0 - (b + a)) (b := 1) (by decide) c19; omega)).symm, trivial⟩, hS.F ht⟩) hS.2.2 dX6_numberIn_23

set_option maxHeartbeats 4000000 in
set_option maxRecDepth 100000 in
theorem c_isWord (l : Launch) (D : va_G) (cy : Nat → ClassId) (e : Nat → Nat)  (t : Nat) (lim : Int32) (rm : Nat) (len : Nat) (n : Nat) (f : Nat → Int32) (b : Nat) (e0 : Nat) (k : Nat) (hle : len ≤ n) (hn : n < 2 ^ 31) (hbe : b < e0) (he0 : e0 ≤ len) (hft : sb_Fit f) (hk : k < 11) : Met l yX6_isWord wsX6_isWord ({ frames := 4, cells := 0, slots := 0, locals := 85 }) (va_Pc [.ref t, .int (nI b), .int (nI e0), .ref (e (10 + k))] (pu_B D cy e [(t, .inr (1, [.int lim, .ref rm, .int (nI len)])), (rm, .inl (cy 0, n, .inl f))])) (va_Qi (fun (r : Int32) (_ : Unit) => r = fp_isw f b e0 (sbs.getD k [])) (fun _ _ => True) (fun _ => False)) 0 0 (fun _ => False) := by
  refine Met.ofW (cc := cX6_isWord) (maxL := 5) (ret := (some .boolean)) (by decide) rfl ?_
  intro p ev s m args below meth c s₁ B hml hv
  obtain ⟨rfl, hP, hK, hG⟩ := hv
  have hx := B.exec
  have hb := B.bytes
  have hr := B.returns
  have hts := atoms_spec (ws := wsX6_isWord) B.pre
  have hown : s.vm.findClass RX6 = some m.cls := findClass_of_methodNamed B.named
  have hlocks := B.notSynchronized
  have hS : va_S (fun _ => False) s.heap s.heap [] := va_S.rf
  have hP : va_P D vwCl [(t, .inr (1, [.int lim, .ref rm, .int (nI len)])), (rm, .inl (cy 0, n, .inl f))] s.heap := hP
  have iX0 : ∀ w ∈ wsX00, w ∈ wsX6_isWord := fun w h => List.mem_cons_of_mem _ (List.mem_append_right _ h)
  have hl := lv_entry ([.ref t, .int (nI b), .int (nI e0), .ref (e (10 + k))]) (n := 5) (Nat.le_of_ble_eq_true rfl)
  rw [lg_entry_eq]
  generalize (lg_sl ([.ref t, .int (nI b), .int (nI e0), .ref (e (10 + k))]) ++ List.replicate (5 - (lg_sl ([.ref t, .int (nI b), .int (nI e0), .ref (e (10 + k))])).length) Slot.unset).toArray = ls at hl ⊢
  have hl : lv_has ls 5 [(0, .ref t), (1, .int (nI b)), (2, .int (nI e0)), (3, .ref (e (10 + k)))] := hl
  refine lv_iload_n hx hb dX6_isWord_0 rfl (lv_at hl 2 rfl) ?_
  refine lv_iload_n hx hb dX6_isWord_1 rfl (lv_at hl 1 rfl) ?_
  refine lv_isub hx hb dX6_isWord_2 ?_
  refine lv_topi (fun x_1 ex_1 => ?_)
  obtain rfl : x_1 = nI (e0 - b) := by rw [ex_1]; exact pk_sub (by omega)
  refine lv_aload_n hx hb dX6_isWord_3 rfl (lv_at hl 3 rfl) ?_
  refine pu_calli (va_runV (As := []) (rest := [.int (nI (e0 - b))]) ⟨hx, hb, hml, hown, hts⟩ (c_Str_length l D cy e k (by first | assumption | omega | decide +kernel)) (cwV 0 hts gX6_isWord_J0_length_8abf5 rfl rfl rfl (by decide +kernel) ⟨Nat.le_of_ble_eq_true rfl, Nat.le_of_ble_eq_true rfl⟩) (pu_preVs hP hK hS hG [] rfl (hG.gX.1 k hk).1) rfl rfl hl.1 rfl (lv_room (Nat.le_of_ble_eq_true rfl)) dX6_isWord_4 ⟨(Nat.le_of_ble_eq_true rfl), (Nat.le_of_ble_eq_true rfl)⟩) hP hS (fun H locs hP hS => ?_)
  have hP : va_P D vwCl [(t, .inr (1, [.int lim, .ref rm, .int (nI len)])), (rm, .inl (cy 0, n, .inl f))] H := hP
  refine lv_icmp_eq (tgt := 12) hx hb dX6_isWord_7 (by decide) (fun c7 => ?_) (fun c7 => ?_)
  · refine lv_iconst (v := 0) hx hb dX6_isWord_12 (by decide +kernel) ?_
    refine lv_topi (fun x_2 ex_2 => ?_)
    obtain rfl : x_2 = nI 0 := by rw [ex_2]; exact nI_0.symm
    refine lv_istore (lv' := [(4, .int (nI 0)), (0, .ref t), (1, .int (nI b)), (2, .int (nI e0)), (3, .ref (e (10 + k)))]) hx hb dX6_isWord_13 hl (by decide) rfl (fun ls hl => ?_)
    have hl9 : (sbs.getD k []).length < 100 := sbs_len k hk
    have hl8 : e0 - b = (sbs.getD k []).length := (nI_eq (by omega) (by omega)).mp c7
    refine lp_W (σ := Nat) (Wf := fun H locs ls => W p l ev _ s m _ below meth c H locs (0) (0) _ (F0 m 15 ls [])) (fun i H locs ls => va_P D vwCl [(t, .inr (1, [.int lim, .ref rm, .int (nI len)])), (rm, .inl (cy 0, n, .inl f))] H ∧ va_S (fun _ => False) s.heap H locs ∧ lv_has ls 5 [(4, .int (nI i)), (0, .ref t), (1, .int (nI b)), (2, .int (nI e0)), (3, .ref (e (10 + k)))] ∧ (i ≤ (sbs.getD k []).length ∧ ∀ j, j < i → f (b + j) = (sbs.getD k []).getD j 0)) (fun i => (sbs.getD k []).length - i) ?_ 0 _ _ ls ⟨hP, hS, lv_sub hl [0, 1, 2, 3, 4] rfl, ⟨Nat.zero_le _, fun j hj => absurd hj (Nat.not_lt_zero _)⟩⟩
    intro zz9 H locs ls hI ih
    obtain ⟨i, rfl⟩ : ∃ z, z = zz9 := ⟨_, rfl⟩
    obtain ⟨hP, hS, hl, hI⟩ := hI
    have ih15 := ih
    have hI15 := hI
    have hP : va_P D vwCl [(t, .inr (1, [.int lim, .ref rm, .int (nI len)])), (rm, .inl (cy 0, n, .inl f))] H := hP
    have hl : lv_has ls 5 [(4, .int (nI i)), (0, .ref t), (1, .int (nI b)), (2, .int (nI e0)), (3, .ref (e (10 + k)))] := hl
    obtain ⟨hI1, hI2⟩ := hI
    refine lv_iload hx hb dX6_isWord_15 (lv_at hl 0 rfl) ?_
    refine lv_aload_n hx hb dX6_isWord_17 rfl (lv_at hl 4 rfl) ?_
    refine pu_calli (va_runV (As := []) (rest := [.int (nI i)]) ⟨hx, hb, hml, hown, hts⟩ (c_Str_length l D cy e k (by first | assumption | omega | decide +kernel)) (cwV 0 hts gX6_isWord_J0_length_8abf5 rfl rfl rfl (by decide +kernel) ⟨Nat.le_of_ble_eq_true rfl, Nat.le_of_ble_eq_true rfl⟩) (pu_preVs hP hK hS hG [] rfl (hG.gX.1 k hk).1) rfl rfl hl.1 rfl (lv_room (Nat.le_of_ble_eq_true rfl)) dX6_isWord_18 ⟨(Nat.le_of_ble_eq_true rfl), (Nat.le_of_ble_eq_true rfl)⟩) hP hS (fun H locs hP hS => ?_)
    have hP : va_P D vwCl [(t, .inr (1, [.int lim, .ref rm, .int (nI len)])), (rm, .inl (cy 0, n, .inl f))] H := hP
    refine lv_icmp_ge (tgt := 49) hx hb dX6_isWord_21 (by decide) (fun c21 => ?_) (fun c21 => ?_)
    · have hge : (sbs.getD k []).length ≤ i := (nI_leI (by omega) (by omega)).mp c21
      refine lv_iconst (v := 1) hx hb dX6_isWord_49 (by decide +kernel) ?_
      exact W.zret hx hb hr rfl (fun t ht hW => ⟨⟨_, (), rfl, (if_pos ⟨hl8, fun j9 h9 => hI2 j9 (by omega)⟩).symm, trivial⟩, hS.F ht⟩) hS.2.2 dX6_isWord_50
    · have hi : i < (sbs.getD k []).length := pk_nle (by omega) c21
      refine lv_aload_n hx hb dX6_isWord_24 rfl (lv_at hl 1 rfl) ?_
      refine lv_iload_n hx hb dX6_isWord_25 rfl (lv_at hl 2 rfl) ?_
      refine lv_iload hx hb dX6_isWord_26 (lv_at hl 0 rfl) ?_
      refine lv_iadd hx hb dX6_isWord_28 ?_
      refine lv_topi (fun x_3 ex_3 => ?_)
      obtain rfl : x_3 = nI (b + i) := by rw [ex_3]; exact nI_add b i
      refine pu_calli (va_runV (As := [.int (nI (b + i))]) (rest := []) ⟨hx, hb, hml, hown, hts⟩ (c_Bytes_at l D cy e t lim rm len n f (nI (b + i)) hle hn) (cwV 1 hts gX6_isWord_X0_at rfl rfl rfl (by decide +kernel) ⟨Nat.le_of_ble_eq_true rfl, Nat.le_of_ble_eq_true rfl⟩) (pu_preV hP hK hS hG [0, 1] rfl (q := (RX0, TX0, 3)) (ci := 1) (q0 := 0) rfl rfl) rfl rfl hl.1 rfl (lv_room (Nat.le_of_ble_eq_true rfl)) dX6_isWord_29 ⟨(Nat.le_of_ble_eq_true rfl), (Nat.le_of_ble_eq_true rfl)⟩) hP hS (fun H locs hP hS => ?_)
      have hP : va_P D vwCl [(t, .inr (1, [.int lim, .ref rm, .int (nI len)])), (rm, .inl (cy 0, n, .inl f))] H := hP
      refine lv_topi (fun x_4 ex_4 => ?_)
      obtain rfl : x_4 = f (b + i) := by rw [ex_4]; exact fp_bat (by omega) (by omega)
      refine lv_aload_n hx hb dX6_isWord_32 rfl (lv_at hl 4 rfl) ?_
      refine lv_iload hx hb dX6_isWord_33 (lv_at hl 0 rfl) ?_
      refine pu_callni (va_runV (As := [.int (nI i)]) (rest := [.int (f (b + i))]) ⟨hx, hb, hml, hown, hts⟩ (c_Str_charAt l D cy e k i (by first | assumption | omega | decide +kernel) hi hl9) (cwV 1 hts gX6_isWord_J0_charAt_5068e rfl rfl rfl (by decide +kernel) ⟨Nat.le_of_ble_eq_true rfl, Nat.le_of_ble_eq_true rfl⟩) (pu_preVs hP hK hS hG [] rfl (hG.gX.1 k hk).1) rfl rfl hl.1 rfl (lv_room (Nat.le_of_ble_eq_true rfl)) dX6_isWord_35 ⟨(Nat.le_of_ble_eq_true rfl), (Nat.le_of_ble_eq_true rfl)⟩) hP hS (fun r35 H locs hw hP hS => ?_)
      have hP : va_P D vwCl [(t, .inr (1, [.int lim, .ref rm, .int (nI len)])), (rm, .inl (cy 0, n, .inl f))] H := hP
      replace hw : narrow .char (.int r35) = .int r35 ∧ r35 = (sbs.getD k []).getD i 0 := hw
      have hw35 := hw
      refine lv_icmp_eq (tgt := 43) hx hb dX6_isWord_38 (by decide) (fun c38 => ?_) (fun c38 => ?_)
      · refine lv_iinc (v := nI (i + 1)) (lv' := [(4, .int (nI (i + 1))), (0, .ref t), (1, .int (nI b)), (2, .int (nI e0)), (3, .ref (e (10 + k)))]) hx hb dX6_isWord_43 hl (k := 0) rfl (nI_1 i) (by decide) rfl (fun ls hl => ?_)
        refine lv_goto (tgt := 15) hx hb dX6_isWord_46 (by decide) ?_
        exact ih15 (i + 1) _ _ ls ⟨hP.sub [0, 1] rfl, hS, lv_sub hl [0, 1, 2, 3, 4] rfl, ⟨by omega, fun j9 h9 => (Nat.lt_or_eq_of_le (Nat.le_of_lt_succ h9)).elim (fun q9 => hI2 j9 q9) (fun q9 => by rw [q9]; exact c38.trans hw35.2)⟩⟩ (by (try dsimp only); omega)
      · refine lv_iconst (v := 0) hx hb dX6_isWord_41 (by decide +kernel) ?_
        exact W.zret hx hb hr rfl (fun t ht hW => ⟨⟨_, (), rfl, (if_neg (fun q9 => c38 ((q9.2 i hi).trans hw35.2.symm))).symm, trivial⟩, hS.F ht⟩) hS.2.2 dX6_isWord_42
  · refine lv_iconst (v := 0) hx hb dX6_isWord_10 (by decide +kernel) ?_
    exact W.zret hx hb hr rfl (fun t ht hW => ⟨⟨_, (), rfl, (if_neg (fun q9 => c7 (by rw [q9.1]))).symm, trivial⟩, hS.F ht⟩) hS.2.2 dX6_isWord_11

set_option maxHeartbeats 4000000 in
set_option maxRecDepth 100000 in
theorem c_namedKind (l : Launch) (D : va_G) (cy : Nat → ClassId) (e : Nat → Nat)  (t : Nat) (lim : Int32) (rm : Nat) (len : Nat) (n : Nat) (f : Nat → Int32) (b : Nat) (e0 : Nat) (hle : len ≤ n) (hn : n < 2 ^ 31) (hbe : b < e0) (he0 : e0 ≤ len) (hft : sb_Fit f) : Met l yX6_namedKind wsX6_namedKind ({ frames := 5, cells := 0, slots := 0, locals := 109 }) (va_Pc [.ref t, .int (nI b), .int (nI e0)] (pu_B D cy e [(t, .inr (1, [.int lim, .ref rm, .int (nI len)])), (rm, .inl (cy 0, n, .inl f))])) (va_Qi (fun (r : Int32) (_ : Unit) => r = fp_nm (fp_wf f b e0) (e0 - b)) (fun _ _ => True) (fun _ => False)) 0 0 (fun _ => False) := by
  refine Met.ofW (cc := cX6_namedKind) (maxL := 3) (ret := (some .int)) (by decide) rfl ?_
  intro p ev s m args below meth c s₁ B hml hv
  obtain ⟨rfl, hP, hK, hG⟩ := hv
  have hx := B.exec
  have hb := B.bytes
  have hr := B.returns
  have hts := atoms_spec (ws := wsX6_namedKind) B.pre
  have hown : s.vm.findClass RX6 = some m.cls := findClass_of_methodNamed B.named
  have hlocks := B.notSynchronized
  have hS : va_S (fun _ => False) s.heap s.heap [] := va_S.rf
  have hP : va_P D vwCl [(t, .inr (1, [.int lim, .ref rm, .int (nI len)])), (rm, .inl (cy 0, n, .inl f))] s.heap := hP
  have iX0 : ∀ w ∈ wsX00, w ∈ wsX6_namedKind := fun w h => List.mem_cons_of_mem _ (List.mem_append_right _ h)
  have hl := lv_entry ([.ref t, .int (nI b), .int (nI e0)]) (n := 3) (Nat.le_of_ble_eq_true rfl)
  rw [lg_entry_eq]
  generalize (lg_sl ([.ref t, .int (nI b), .int (nI e0)]) ++ List.replicate (3 - (lg_sl ([.ref t, .int (nI b), .int (nI e0)])).length) Slot.unset).toArray = ls at hl ⊢
  have hl : lv_has ls 3 [(0, .ref t), (1, .int (nI b)), (2, .int (nI e0))] := hl
  refine lv_aload_n hx hb dX6_namedKind_0 rfl (lv_at hl 0 rfl) ?_
  refine lv_iload_n hx hb dX6_namedKind_1 rfl (lv_at hl 1 rfl) ?_
  refine lv_iload_n hx hb dX6_namedKind_2 rfl (lv_at hl 2 rfl) ?_
  refine va_ldcS (own := RX6) (tx := "bar") (q := e (10 + 0)) hx hb hown (hG.gX.ld 0 rfl) dX6_namedKind_3 ?_
  refine pu_calli (va_runS (As := [.ref t, .int (nI b), .int (nI e0), .ref (e (10 + 0))]) (rest := []) ⟨hx, hb, hml, hown, hts⟩ (c_isWord l D cy e t lim rm len n f b e0 0 (by first | assumption | omega | decide +kernel) (by first | assumption | omega | decide +kernel) (by first | assumption | omega | decide +kernel) (by first | assumption | omega | decide +kernel) (by first | assumption | omega | decide +kernel) (by decide)) (va_cwS 4 hts gX6_namedKind_X6_isWord rfl rfl rfl (by decide +kernel) ⟨Nat.le_of_ble_eq_true rfl, Nat.le_of_ble_eq_true rfl⟩) (pu_preS hP hK hS hG [0, 1] rfl) rfl rfl hl.1 rfl (lv_room (Nat.le_of_ble_eq_true rfl)) dX6_namedKind_5 ⟨(Nat.le_of_ble_eq_true rfl), (Nat.le_of_ble_eq_true rfl)⟩) hP hS (fun H locs hP hS => ?_)
  have hP : va_P D vwCl [(t, .inr (1, [.int lim, .ref rm, .int (nI len)])), (rm, .inl (cy 0, n, .inl f))] H := hP
  refine lv_topi (fun x_1 ex_1 => ?_)
  obtain rfl : x_1 = isv3 (fp_wf f b e0) (e0 - b) 98 97 114 := by rw [ex_1]; exact fp_isw3 (a1 := 98) (a2 := 97) (a3 := 114) (by omega)
  refine lv_if_eq (tgt := 13) hx hb dX6_namedKind_8 (by decide) (fun c8 => ?_) (fun c8 => ?_)
  · refine lv_aload_n hx hb dX6_namedKind_13 rfl (lv_at hl 0 rfl) ?_
    refine lv_iload_n hx hb dX6_namedKind_14 rfl (lv_at hl 1 rfl) ?_
    refine lv_iload_n hx hb dX6_namedKind_15 rfl (lv_at hl 2 rfl) ?_
    refine va_ldcS (own := RX6) (tx := "when") (q := e (10 + 1)) hx hb hown (hG.gX.ld 1 rfl) dX6_namedKind_16 ?_
    refine pu_calli (va_runS (As := [.ref t, .int (nI b), .int (nI e0), .ref (e (10 + 1))]) (rest := []) ⟨hx, hb, hml, hown, hts⟩ (c_isWord l D cy e t lim rm len n f b e0 1 (by first | assumption | omega | decide +kernel) (by first | assumption | omega | decide +kernel) (by first | assumption | omega | decide +kernel) (by first | assumption | omega | decide +kernel) (by first | assumption | omega | decide +kernel) (by decide)) (va_cwS 4 hts gX6_namedKind_X6_isWord rfl rfl rfl (by decide +kernel) ⟨Nat.le_of_ble_eq_true rfl, Nat.le_of_ble_eq_true rfl⟩) (pu_preS hP hK hS hG [0, 1] rfl) rfl rfl hl.1 rfl (lv_room (Nat.le_of_ble_eq_true rfl)) dX6_namedKind_18 ⟨(Nat.le_of_ble_eq_true rfl), (Nat.le_of_ble_eq_true rfl)⟩) hP hS (fun H locs hP hS => ?_)
    have hP : va_P D vwCl [(t, .inr (1, [.int lim, .ref rm, .int (nI len)])), (rm, .inl (cy 0, n, .inl f))] H := hP
    refine lv_topi (fun x_2 ex_2 => ?_)
    obtain rfl : x_2 = isv4 (fp_wf f b e0) (e0 - b) 119 104 101 110 := by rw [ex_2]; exact fp_isw4 (a1 := 119) (a2 := 104) (a3 := 101) (a4 := 110) (by omega)
    refine lv_if_eq (tgt := 27) hx hb dX6_namedKind_21 (by decide) (fun c21 => ?_) (fun c21 => ?_)
    · refine lv_aload_n hx hb dX6_namedKind_27 rfl (lv_at hl 0 rfl) ?_
      refine lv_iload_n hx hb dX6_namedKind_28 rfl (lv_at hl 1 rfl) ?_
      refine lv_iload_n hx hb dX6_namedKind_29 rfl (lv_at hl 2 rfl) ?_
      refine va_ldcS (own := RX6) (tx := "for") (q := e (10 + 2)) hx hb hown (hG.gX.ld 2 rfl) dX6_namedKind_30 ?_
      refine pu_calli (va_runS (As := [.ref t, .int (nI b), .int (nI e0), .ref (e (10 + 2))]) (rest := []) ⟨hx, hb, hml, hown, hts⟩ (c_isWord l D cy e t lim rm len n f b e0 2 (by first | assumption | omega | decide +kernel) (by first | assumption | omega | decide +kernel) (by first | assumption | omega | decide +kernel) (by first | assumption | omega | decide +kernel) (by first | assumption | omega | decide +kernel) (by decide)) (va_cwS 4 hts gX6_namedKind_X6_isWord rfl rfl rfl (by decide +kernel) ⟨Nat.le_of_ble_eq_true rfl, Nat.le_of_ble_eq_true rfl⟩) (pu_preS hP hK hS hG [0, 1] rfl) rfl rfl hl.1 rfl (lv_room (Nat.le_of_ble_eq_true rfl)) dX6_namedKind_32 ⟨(Nat.le_of_ble_eq_true rfl), (Nat.le_of_ble_eq_true rfl)⟩) hP hS (fun H locs hP hS => ?_)
      have hP : va_P D vwCl [(t, .inr (1, [.int lim, .ref rm, .int (nI len)])), (rm, .inl (cy 0, n, .inl f))] H := hP
      refine lv_topi (fun x_3 ex_3 => ?_)
      obtain rfl : x_3 = isv3 (fp_wf f b e0) (e0 - b) 102 111 114 := by rw [ex_3]; exact fp_isw3 (a1 := 102) (a2 := 111) (a3 := 114) (by omega)
      refine lv_if_eq (tgt := 41) hx hb dX6_namedKind_35 (by decide) (fun c35 => ?_) (fun c35 => ?_)
      · refine lv_aload_n hx hb dX6_namedKind_41 rfl (lv_at hl 0 rfl) ?_
        refine lv_iload_n hx hb dX6_namedKind_42 rfl (lv_at hl 1 rfl) ?_
        refine lv_iload_n hx hb dX6_namedKind_43 rfl (lv_at hl 2 rfl) ?_
        refine va_ldcS (own := RX6) (tx := "latched") (q := e (10 + 3)) hx hb hown (hG.gX.ld 3 rfl) dX6_namedKind_44 ?_
        refine pu_calli (va_runS (As := [.ref t, .int (nI b), .int (nI e0), .ref (e (10 + 3))]) (rest := []) ⟨hx, hb, hml, hown, hts⟩ (c_isWord l D cy e t lim rm len n f b e0 3 (by first | assumption | omega | decide +kernel) (by first | assumption | omega | decide +kernel) (by first | assumption | omega | decide +kernel) (by first | assumption | omega | decide +kernel) (by first | assumption | omega | decide +kernel) (by decide)) (va_cwS 4 hts gX6_namedKind_X6_isWord rfl rfl rfl (by decide +kernel) ⟨Nat.le_of_ble_eq_true rfl, Nat.le_of_ble_eq_true rfl⟩) (pu_preS hP hK hS hG [0, 1] rfl) rfl rfl hl.1 rfl (lv_room (Nat.le_of_ble_eq_true rfl)) dX6_namedKind_46 ⟨(Nat.le_of_ble_eq_true rfl), (Nat.le_of_ble_eq_true rfl)⟩) hP hS (fun H locs hP hS => ?_)
        have hP : va_P D vwCl [(t, .inr (1, [.int lim, .ref rm, .int (nI len)])), (rm, .inl (cy 0, n, .inl f))] H := hP
        refine lv_topi (fun x_4 ex_4 => ?_)
        obtain rfl : x_4 = isv7 (fp_wf f b e0) (e0 - b) 108 97 116 99 104 101 100 := by rw [ex_4]; exact fp_isw7 (a1 := 108) (a2 := 97) (a3 := 116) (a4 := 99) (a5 := 104) (a6 := 101) (a7 := 100) (by omega)
        refine lv_if_eq (tgt := 55) hx hb dX6_namedKind_49 (by decide) (fun c49 => ?_) (fun c49 => ?_)
        · refine lv_aload_n hx hb dX6_namedKind_55 rfl (lv_at hl 0 rfl) ?_
          refine lv_iload_n hx hb dX6_namedKind_56 rfl (lv_at hl 1 rfl) ?_
          refine lv_iload_n hx hb dX6_namedKind_57 rfl (lv_at hl 2 rfl) ?_
          refine va_ldcS (own := RX6) (tx := "or") (q := e (10 + 4)) hx hb hown (hG.gX.ld 4 rfl) dX6_namedKind_58 ?_
          refine pu_calli (va_runS (As := [.ref t, .int (nI b), .int (nI e0), .ref (e (10 + 4))]) (rest := []) ⟨hx, hb, hml, hown, hts⟩ (c_isWord l D cy e t lim rm len n f b e0 4 (by first | assumption | omega | decide +kernel) (by first | assumption | omega | decide +kernel) (by first | assumption | omega | decide +kernel) (by first | assumption | omega | decide +kernel) (by first | assumption | omega | decide +kernel) (by decide)) (va_cwS 4 hts gX6_namedKind_X6_isWord rfl rfl rfl (by decide +kernel) ⟨Nat.le_of_ble_eq_true rfl, Nat.le_of_ble_eq_true rfl⟩) (pu_preS hP hK hS hG [0, 1] rfl) rfl rfl hl.1 rfl (lv_room (Nat.le_of_ble_eq_true rfl)) dX6_namedKind_60 ⟨(Nat.le_of_ble_eq_true rfl), (Nat.le_of_ble_eq_true rfl)⟩) hP hS (fun H locs hP hS => ?_)
          have hP : va_P D vwCl [(t, .inr (1, [.int lim, .ref rm, .int (nI len)])), (rm, .inl (cy 0, n, .inl f))] H := hP
          refine lv_topi (fun x_5 ex_5 => ?_)
          obtain rfl : x_5 = isv2 (fp_wf f b e0) (e0 - b) 111 114 := by rw [ex_5]; exact fp_isw2 (a1 := 111) (a2 := 114) (by omega)
          refine lv_if_eq (tgt := 69) hx hb dX6_namedKind_63 (by decide) (fun c63 => ?_) (fun c63 => ?_)
          · refine lv_aload_n hx hb dX6_namedKind_69 rfl (lv_at hl 0 rfl) ?_
            refine lv_iload_n hx hb dX6_namedKind_70 rfl (lv_at hl 1 rfl) ?_
            refine lv_iload_n hx hb dX6_namedKind_71 rfl (lv_at hl 2 rfl) ?_
            refine va_ldcS (own := RX6) (tx := "and") (q := e (10 + 5)) hx hb hown (hG.gX.ld 5 rfl) dX6_namedKind_72 ?_
            refine pu_calli (va_runS (As := [.ref t, .int (nI b), .int (nI e0), .ref (e (10 + 5))]) (rest := []) ⟨hx, hb, hml, hown, hts⟩ (c_isWord l D cy e t lim rm len n f b e0 5 (by first | assumption | omega | decide +kernel) (by first | assumption | omega | decide +kernel) (by first | assumption | omega | decide +kernel) (by first | assumption | omega | decide +kernel) (by first | assumption | omega | decide +kernel) (by decide)) (va_cwS 4 hts gX6_namedKind_X6_isWord rfl rfl rfl (by decide +kernel) ⟨Nat.le_of_ble_eq_true rfl, Nat.le_of_ble_eq_true rfl⟩) (pu_preS hP hK hS hG [0, 1] rfl) rfl rfl hl.1 rfl (lv_room (Nat.le_of_ble_eq_true rfl)) dX6_namedKind_74 ⟨(Nat.le_of_ble_eq_true rfl), (Nat.le_of_ble_eq_true rfl)⟩) hP hS (fun H locs hP hS => ?_)
            have hP : va_P D vwCl [(t, .inr (1, [.int lim, .ref rm, .int (nI len)])), (rm, .inl (cy 0, n, .inl f))] H := hP
            refine lv_topi (fun x_6 ex_6 => ?_)
            obtain rfl : x_6 = isv3 (fp_wf f b e0) (e0 - b) 97 110 100 := by rw [ex_6]; exact fp_isw3 (a1 := 97) (a2 := 110) (a3 := 100) (by omega)
            refine lv_if_eq (tgt := 83) hx hb dX6_namedKind_77 (by decide) (fun c77 => ?_) (fun c77 => ?_)
            · refine lv_aload_n hx hb dX6_namedKind_83 rfl (lv_at hl 0 rfl) ?_
              refine lv_iload_n hx hb dX6_namedKind_84 rfl (lv_at hl 1 rfl) ?_
              refine lv_iload_n hx hb dX6_namedKind_85 rfl (lv_at hl 2 rfl) ?_
              refine va_ldcS (own := RX6) (tx := "not") (q := e (10 + 6)) hx hb hown (hG.gX.ld 6 rfl) dX6_namedKind_86 ?_
              refine pu_calli (va_runS (As := [.ref t, .int (nI b), .int (nI e0), .ref (e (10 + 6))]) (rest := []) ⟨hx, hb, hml, hown, hts⟩ (c_isWord l D cy e t lim rm len n f b e0 6 (by first | assumption | omega | decide +kernel) (by first | assumption | omega | decide +kernel) (by first | assumption | omega | decide +kernel) (by first | assumption | omega | decide +kernel) (by first | assumption | omega | decide +kernel) (by decide)) (va_cwS 4 hts gX6_namedKind_X6_isWord rfl rfl rfl (by decide +kernel) ⟨Nat.le_of_ble_eq_true rfl, Nat.le_of_ble_eq_true rfl⟩) (pu_preS hP hK hS hG [0, 1] rfl) rfl rfl hl.1 rfl (lv_room (Nat.le_of_ble_eq_true rfl)) dX6_namedKind_88 ⟨(Nat.le_of_ble_eq_true rfl), (Nat.le_of_ble_eq_true rfl)⟩) hP hS (fun H locs hP hS => ?_)
              have hP : va_P D vwCl [(t, .inr (1, [.int lim, .ref rm, .int (nI len)])), (rm, .inl (cy 0, n, .inl f))] H := hP
              refine lv_topi (fun x_7 ex_7 => ?_)
              obtain rfl : x_7 = isv3 (fp_wf f b e0) (e0 - b) 110 111 116 := by rw [ex_7]; exact fp_isw3 (a1 := 110) (a2 := 111) (a3 := 116) (by omega)
              refine lv_if_eq (tgt := 99) hx hb dX6_namedKind_91 (by decide) (fun c91 => ?_) (fun c91 => ?_)
              · refine lv_iconst (v := 1) hx hb dX6_namedKind_99 (by decide +kernel) ?_
                exact W.iret hx hb hr (fun t ht hW => ⟨⟨_, (), rfl, by unfold fp_nm; rw [if_neg (fp_ne1 c8), if_neg (fp_ne1 c21), if_neg (fp_ne1 c35), if_neg (fp_ne1 c49), if_neg (fp_ne1 c63), if_neg (fp_ne1 c77), if_neg (fp_ne1 c91)], trivial⟩, hS.F ht⟩) hS.2.2 dX6_namedKind_100
              · refine lv_bipush (v := 11) hx hb dX6_namedKind_94 (by decide +kernel) ?_
                refine lv_goto (tgt := 100) hx hb dX6_namedKind_96 (by decide) ?_
                exact W.iret hx hb hr (fun t ht hW => ⟨⟨_, (), rfl, by unfold fp_nm; rw [if_neg (fp_ne1 c8), if_neg (fp_ne1 c21), if_neg (fp_ne1 c35), if_neg (fp_ne1 c49), if_neg (fp_ne1 c63), if_neg (fp_ne1 c77), if_pos (fp_y3 c91)], trivial⟩, hS.F ht⟩) hS.2.2 dX6_namedKind_100
            · refine lv_bipush (v := 10) hx hb dX6_namedKind_80 (by decide +kernel) ?_
              exact W.iret hx hb hr (fun t ht hW => ⟨⟨_, (), rfl, by unfold fp_nm; rw [if_neg (fp_ne1 c8), if_neg (fp_ne1 c21), if_neg (fp_ne1 c35), if_neg (fp_ne1 c49), if_neg (fp_ne1 c63), if_pos (fp_y3 c77)], trivial⟩, hS.F ht⟩) hS.2.2 dX6_namedKind_82
          · refine lv_bipush (v := 9) hx hb dX6_namedKind_66 (by decide +kernel) ?_
            exact W.iret hx hb hr (fun t ht hW => ⟨⟨_, (), rfl, by unfold fp_nm; rw [if_neg (fp_ne1 c8), if_neg (fp_ne1 c21), if_neg (fp_ne1 c35), if_neg (fp_ne1 c49), if_pos (fp_y2 c63)], trivial⟩, hS.F ht⟩) hS.2.2 dX6_namedKind_68
        · refine lv_bipush (v := 8) hx hb dX6_namedKind_52 (by decide +kernel) ?_
          exact W.iret hx hb hr (fun t ht hW => ⟨⟨_, (), rfl, by unfold fp_nm; rw [if_neg (fp_ne1 c8), if_neg (fp_ne1 c21), if_neg (fp_ne1 c35), if_pos (fp_y7 c49)], trivial⟩, hS.F ht⟩) hS.2.2 dX6_namedKind_54
      · refine lv_bipush (v := 7) hx hb dX6_namedKind_38 (by decide +kernel) ?_
        exact W.iret hx hb hr (fun t ht hW => ⟨⟨_, (), rfl, by unfold fp_nm; rw [if_neg (fp_ne1 c8), if_neg (fp_ne1 c21), if_pos (fp_y3 c35)], trivial⟩, hS.F ht⟩) hS.2.2 dX6_namedKind_40
    · refine lv_bipush (v := 6) hx hb dX6_namedKind_24 (by decide +kernel) ?_
      exact W.iret hx hb hr (fun t ht hW => ⟨⟨_, (), rfl, by unfold fp_nm; rw [if_neg (fp_ne1 c8), if_pos (fp_y4 c21)], trivial⟩, hS.F ht⟩) hS.2.2 dX6_namedKind_26
  · refine lv_iconst (v := 5) hx hb dX6_namedKind_11 (by decide +kernel) ?_
    exact W.iret hx hb hr (fun t ht hW => ⟨⟨_, (), rfl, by unfold fp_nm; rw [if_pos (fp_y3 c8)], trivial⟩, hS.F ht⟩) hS.2.2 dX6_namedKind_12

set_option maxHeartbeats 4000000 in
set_option maxRecDepth 100000 in
theorem c_numberedKind (l : Launch) (D : va_G) (cy : Nat → ClassId) (e : Nat → Nat)  (h0 : Nat) (kd : Nat) (vl : Nat) (cnt : Int32) (ix : Int32) (va : Int32) (t : Nat) (lim : Int32) (rm : Nat) (len : Nat) (n : Nat) (f : Nat → Int32) (b : Nat) (e0 : Nat) (sz : Nat) (hle : len ≤ n) (hn : n < 2 ^ 31) (hbe : b < e0) (he0 : e0 ≤ len) (hft : sb_Fit f) : Met l yX6_numberedKind wsX6_numberedKind ({ frames := 2, cells := 0, slots := 0, locals := 47 }) (va_Pc [.ref h0, .ref t, .int (nI b), .int (nI e0)] (mt_B D cy e [(h0, .inr (7, [.ref kd, .ref vl, .int cnt, .int ix, .int va])), (t, .inr (1, [.int lim, .ref rm, .int (nI len)])), (rm, .inl (cy 0, n, .inl f))] sz)) (va_Qi (fun (r : Int32) (va2 : Int32) => r = fp_nk (fp_wf f b e0) (e0 - b) ∧ va2 = fp_nv (fp_wf f b e0) (e0 - b)) (mt_Q D (fun va2 => [(h0, .inr (7, [.ref kd, .ref vl, .int cnt, .int ix, .int va2])), (t, .inr (1, [.int lim, .ref rm, .int (nI len)])), (rm, .inl (cy 0, n, .inl f))]) (va_A [(h0, .inr (7, [.ref kd, .ref vl, .int cnt, .int ix, .int va])), (t, .inr (1, [.int lim, .ref rm, .int (nI len)])), (rm, .inl (cy 0, n, .inl f))] sz)) (va_A [(h0, .inr (7, [.ref kd, .ref vl, .int cnt, .int ix, .int va])), (t, .inr (1, [.int lim, .ref rm, .int (nI len)])), (rm, .inl (cy 0, n, .inl f))] sz)) (0) (0) (va_A [(h0, .inr (7, [.ref kd, .ref vl, .int cnt, .int ix, .int va])), (t, .inr (1, [.int lim, .ref rm, .int (nI len)])), (rm, .inl (cy 0, n, .inl f))] sz) := by
  refine Met.ofW (cc := cX6_numberedKind) (maxL := 5) (ret := (some .int)) (by decide) rfl ?_
  intro p ev s m args below meth c s₁ B hml hv
  obtain ⟨rfl, hsz, hP, hK, hD0, hG⟩ := hv
  have hx := B.exec
  have hb := B.bytes
  have hr := B.returns
  have hts := atoms_spec (ws := wsX6_numberedKind) B.pre
  have hown : s.vm.findClass RX6 = some m.cls := findClass_of_methodNamed B.named
  have hlocks := B.notSynchronized
  subst hsz
  have hD := hD0.self (sz := s.heap.size)
  generalize hAe : va_A [(h0, .inr (7, [.ref kd, .ref vl, .int cnt, .int ix, .int va])), (t, .inr (1, [.int lim, .ref rm, .int (nI len)])), (rm, .inl (cy 0, n, .inl f))] s.heap.size = A at hD hG ⊢
  have hA : ∀ q : Nat, s.heap.size ≤ q → A q := fun q h => by rw [← hAe]; exact Or.inr h
  have hS : va_S A s.heap s.heap [] := va_S.rf
  have hP : va_P D vwCl [(h0, .inr (7, [.ref kd, .ref vl, .int cnt, .int ix, .int va])), (t, .inr (1, [.int lim, .ref rm, .int (nI len)])), (rm, .inl (cy 0, n, .inl f))] s.heap := hP
  have iX6 : ∀ w ∈ wsX60, w ∈ wsX6_numberedKind := fun w h => List.mem_cons_of_mem _ (List.mem_append_left _ (List.mem_append_right _ h))
  have iX0 : ∀ w ∈ wsX00, w ∈ wsX6_numberedKind := fun w h => List.mem_cons_of_mem _ (List.mem_append_right _ h)
  have hl := lv_entry ([.ref h0, .ref t, .int (nI b), .int (nI e0)]) (n := 5) (Nat.le_of_ble_eq_true rfl)
  rw [lg_entry_eq]
  generalize (lg_sl ([.ref h0, .ref t, .int (nI b), .int (nI e0)]) ++ List.replicate (5 - (lg_sl ([.ref h0, .ref t, .int (nI b), .int (nI e0)])).length) Slot.unset).toArray = ls at hl ⊢
  have hl : lv_has ls 5 [(0, .ref h0), (1, .ref t), (2, .int (nI b)), (3, .int (nI e0))] := hl
  have hw0 : fp_wf f b e0 0 = f b := fp_wf_in (i := 0) (by omega)
  refine lv_bipush (v := 14) hx hb dX6_numberedKind_0 (by decide +kernel) ?_
  refine lv_istore (lv' := [(4, .int 14), (0, .ref h0), (1, .ref t), (2, .int (nI b)), (3, .int (nI e0))]) hx hb dX6_numberedKind_2 hl (by decide) rfl (fun ls hl => ?_)
  refine lv_aload_n hx hb dX6_numberedKind_4 rfl (lv_at hl 2 rfl) ?_
  refine lv_iload_n hx hb dX6_numberedKind_5 rfl (lv_at hl 3 rfl) ?_
  refine pu_calli (va_runV (As := [.int (nI b)]) (rest := []) ⟨hx, hb, hml, hown, hts⟩ (c_Bytes_at l D cy e t lim rm len n f (nI b) hle hn) (cwV 1 hts gX6_numberedKind_X0_at rfl rfl rfl (by decide +kernel) ⟨Nat.le_of_ble_eq_true rfl, Nat.le_of_ble_eq_true rfl⟩) (pu_preV hP hK hS hG [1, 2] rfl (q := (RX0, TX0, 3)) (ci := 1) (q0 := 1) rfl rfl) rfl rfl hl.1 rfl (lv_room (Nat.le_of_ble_eq_true rfl)) dX6_numberedKind_6 ⟨(Nat.le_of_ble_eq_true rfl), (Nat.le_of_ble_eq_true rfl)⟩) hP hS (fun H locs hP hS => ?_)
  have hP : va_P D vwCl [(h0, .inr (7, [.ref kd, .ref vl, .int cnt, .int ix, .int va])), (t, .inr (1, [.int lim, .ref rm, .int (nI len)])), (rm, .inl (cy 0, n, .inl f))] H := hP
  refine lv_topi (fun x_1 ex_1 => ?_)
  obtain rfl : x_1 = f b := by rw [ex_1]; exact fp_bat (by omega) (by omega)
  refine lv_bipush (v := 97) hx hb dX6_numberedKind_9 (by decide +kernel) ?_
  refine lv_icmp_ne (tgt := 35) hx hb dX6_numberedKind_11 (by decide) (fun c11 => ?_) (fun c11 => ?_)
  · have h97 : ¬ fp_wf f b e0 0 = 97 := fun q9 => c11 (hw0.symm.trans q9)
    refine lv_aload_n hx hb dX6_numberedKind_35 rfl (lv_at hl 2 rfl) ?_
    refine lv_iload_n hx hb dX6_numberedKind_36 rfl (lv_at hl 3 rfl) ?_
    refine pu_calli (va_runV (As := [.int (nI b)]) (rest := []) ⟨hx, hb, hml, hown, hts⟩ (c_Bytes_at l D cy e t lim rm len n f (nI b) hle hn) (cwV 1 hts gX6_numberedKind_X0_at rfl rfl rfl (by decide +kernel) ⟨Nat.le_of_ble_eq_true rfl, Nat.le_of_ble_eq_true rfl⟩) (pu_preV hP hK hS hG [1, 2] rfl (q := (RX0, TX0, 3)) (ci := 1) (q0 := 1) rfl rfl) rfl rfl hl.1 rfl (lv_room (Nat.le_of_ble_eq_true rfl)) dX6_numberedKind_37 ⟨(Nat.le_of_ble_eq_true rfl), (Nat.le_of_ble_eq_true rfl)⟩) hP hS (fun H locs hP hS => ?_)
    have hP : va_P D vwCl [(h0, .inr (7, [.ref kd, .ref vl, .int cnt, .int ix, .int va])), (t, .inr (1, [.int lim, .ref rm, .int (nI len)])), (rm, .inl (cy 0, n, .inl f))] H := hP
    refine lv_topi (fun x_2 ex_2 => ?_)
    obtain rfl : x_2 = f b := by rw [ex_2]; exact fp_bat (by omega) (by omega)
    refine lv_bipush (v := 99) hx hb dX6_numberedKind_40 (by decide +kernel) ?_
    refine lv_icmp_ne (tgt := 66) hx hb dX6_numberedKind_42 (by decide) (fun c42 => ?_) (fun c42 => ?_)
    · have h99 : ¬ fp_wf f b e0 0 = 99 := fun q9 => c42 (hw0.symm.trans q9)
      refine lv_aload_n hx hb dX6_numberedKind_66 rfl (lv_at hl 1 rfl) ?_
      refine lv_aload_n hx hb dX6_numberedKind_67 rfl (lv_at hl 2 rfl) ?_
      refine lv_iload_n hx hb dX6_numberedKind_68 rfl (lv_at hl 3 rfl) ?_
      refine lv_topi (fun x_3 ex_3 => ?_)
      obtain rfl : x_3 = nI (b + 0) := ex_3
      refine lv_iload_n hx hb dX6_numberedKind_69 rfl (lv_at hl 4 rfl) ?_
      refine lv_sipush (v := 3600) hx hb dX6_numberedKind_70 (by decide +kernel) ?_
      refine lv_topi (fun x_4 ex_4 => ?_)
      obtain rfl : x_4 = nI 3600 := ex_4
      refine pu_calli (va_runS (As := [.ref t, .int (nI (b + 0)), .int (nI e0), .int (nI 3600)]) (rest := [.ref h0]) ⟨hx, hb, hml, hown, hts⟩ (c_numberIn l D cy e t lim rm len n f b 0 e0 3600 hle hn (by omega) he0 (by decide) hft) (va_cwS 4 hts gX6_numberedKind_X6_numberIn rfl rfl rfl (by decide +kernel) ⟨Nat.le_of_ble_eq_true rfl, Nat.le_of_ble_eq_true rfl⟩) (pu_preS hP hK hS hG [1, 2] rfl) rfl rfl hl.1 rfl (lv_room (Nat.le_of_ble_eq_true rfl)) dX6_numberedKind_73 ⟨(Nat.le_of_ble_eq_true rfl), (Nat.le_of_ble_eq_true rfl)⟩) hP hS (fun H locs hP hS => ?_)
      have hP : va_P D vwCl [(h0, .inr (7, [.ref kd, .ref vl, .int cnt, .int ix, .int va])), (t, .inr (1, [.int lim, .ref rm, .int (nI len)])), (rm, .inl (cy 0, n, .inl f))] H := hP
      refine va_put (D := D) (ci := 7) (v := .int (fp_nu (fp_wf f b e0) (e0 - b) 0 3600)) (ty := .int) (C := RX6) (T := TX6) (N := 5) hx hb hts iX6 tyX6 tyX6_ok nmX6 hown hK hP hD hS 0 rfl rfl 4 (by decide) (hts (.fieldLink RX6 57 "InterlockTables$Words" "value" "I") (by decide +kernel)) (fun _ h9 => h9) rfl (by decide +kernel) rfl rfl (Nat.le_of_ble_eq_true rfl) dX6_numberedKind_76 (fun H locs hP hD hS => ?_)
      have hP : va_P D vwCl [(h0, .inr (7, [.ref kd, .ref vl, .int cnt, .int ix, .int (fp_nu (fp_wf f b e0) (e0 - b) 0 3600)])), (t, .inr (1, [.int lim, .ref rm, .int (nI len)])), (rm, .inl (cy 0, n, .inl f))] H := hP
      have hD : va_D A [(h0, .inr (7, [.ref kd, .ref vl, .int cnt, .int ix, .int (fp_nu (fp_wf f b e0) (e0 - b) 0 3600)])), (t, .inr (1, [.int lim, .ref rm, .int (nI len)])), (rm, .inl (cy 0, n, .inl f))] := hD
      refine lv_aload_n hx hb dX6_numberedKind_79 rfl (lv_at hl 1 rfl) ?_
      refine va_get (D := D) (ci := 7) (v := .int (fp_nu (fp_wf f b e0) (e0 - b) 0 3600)) (C := RX6) (T := TX6) (N := 5) hx hb hts iX6 hown hK hP 0 rfl rfl 4 (by decide) (hts (.fieldLink RX6 57 "InterlockTables$Words" "value" "I") (by decide +kernel)) (fun _ h9 => h9) rfl dX6_numberedKind_80 ?_
      refine lv_iconst (v := -1) hx hb dX6_numberedKind_83 (by decide +kernel) ?_
      refine lv_icmp_ne (tgt := 91) hx hb dX6_numberedKind_84 (by decide) (fun c84 => ?_) (fun c84 => ?_)
      · refine lv_iload hx hb dX6_numberedKind_91 (lv_at hl 0 rfl) ?_
        have hP9 : va_P D vwCl [(h0, .inr (7, [.ref kd, .ref vl, .int cnt, .int ix, .int (fp_nu (fp_wf f b e0) (e0 - b) 0 3600)])), (t, .inr (1, [.int lim, .ref rm, .int (nI len)])), (rm, .inl (cy 0, n, .inl f))] H := hP.sub [0, 1, 2] rfl
        have hD9 : va_D A [(h0, .inr (7, [.ref kd, .ref vl, .int cnt, .int ix, .int (fp_nu (fp_wf f b e0) (e0 - b) 0 3600)])), (t, .inr (1, [.int lim, .ref rm, .int (nI len)])), (rm, .inl (cy 0, n, .inl f))] := hD.sub [0, 1, 2] (by decide) rfl
        refine W.widen (k := 0) (n := 0) (by omega) (by omega) ?_
        exact W.iret hx hb hr (fun t ht hW => ⟨⟨_, (fp_nu (fp_wf f b e0) (e0 - b) 0 3600), rfl, ⟨by unfold fp_nk; rw [if_neg h97, if_neg h99, if_neg c84], by unfold fp_nv; rw [if_neg h97, if_neg h99]⟩, by rw [ht]; exact hP9, hD9⟩, hS.F ht⟩) hS.2.2 dX6_numberedKind_93
      · refine lv_iconst (v := 1) hx hb dX6_numberedKind_87 (by decide +kernel) ?_
        refine lv_goto (tgt := 93) hx hb dX6_numberedKind_88 (by decide) ?_
        have hP9 : va_P D vwCl [(h0, .inr (7, [.ref kd, .ref vl, .int cnt, .int ix, .int (fp_nu (fp_wf f b e0) (e0 - b) 0 3600)])), (t, .inr (1, [.int lim, .ref rm, .int (nI len)])), (rm, .inl (cy 0, n, .inl f))] H := hP.sub [0, 1, 2] rfl
        have hD9 : va_D A [(h0, .inr (7, [.ref kd, .ref vl, .int cnt, .int ix, .int (fp_nu (fp_wf f b e0) (e0 - b) 0 3600)])), (t, .inr (1, [.int lim, .ref rm, .int (nI len)])), (rm, .inl (cy 0, n, .inl f))] := hD.sub [0, 1, 2] (by decide) rfl
        refine W.widen (k := 0) (n := 0) (by omega) (by omega) ?_
        exact W.iret hx hb hr (fun t ht hW => ⟨⟨_, (fp_nu (fp_wf f b e0) (e0 - b) 0 3600), rfl, ⟨by unfold fp_nk; rw [if_neg h97, if_neg h99, if_pos c84], by unfold fp_nv; rw [if_neg h97, if_neg h99]⟩, by rw [ht]; exact hP9, hD9⟩, hS.F ht⟩) hS.2.2 dX6_numberedKind_93
    · have h99 : fp_wf f b e0 0 = 99 := hw0.trans c42
      refine lv_bipush (v := 13) hx hb dX6_numberedKind_45 (by decide +kernel) ?_
      refine lv_istore (lv' := [(4, .int 13), (0, .ref h0), (1, .ref t), (2, .int (nI b)), (3, .int (nI e0))]) hx hb dX6_numberedKind_47 hl (by decide) rfl (fun ls hl => ?_)
      refine lv_aload_n hx hb dX6_numberedKind_49 rfl (lv_at hl 1 rfl) ?_
      refine lv_aload_n hx hb dX6_numberedKind_50 rfl (lv_at hl 2 rfl) ?_
      refine lv_iload_n hx hb dX6_numberedKind_51 rfl (lv_at hl 3 rfl) ?_
      refine lv_iconst (v := 1) hx hb dX6_numberedKind_52 (by decide +kernel) ?_
      refine lv_iadd hx hb dX6_numberedKind_53 ?_
      refine lv_topi (fun x_5 ex_5 => ?_)
      obtain rfl : x_5 = nI (b + 1) := by rw [ex_5]; exact nI_1 b
      refine lv_iload_n hx hb dX6_numberedKind_54 rfl (lv_at hl 4 rfl) ?_
      refine lv_bipush (v := 15) hx hb dX6_numberedKind_55 (by decide +kernel) ?_
      refine lv_topi (fun x_6 ex_6 => ?_)
      obtain rfl : x_6 = nI 15 := ex_6
      refine pu_calli (va_runS (As := [.ref t, .int (nI (b + 1)), .int (nI e0), .int (nI 15)]) (rest := [.ref h0]) ⟨hx, hb, hml, hown, hts⟩ (c_numberIn l D cy e t lim rm len n f b 1 e0 15 hle hn (by omega) he0 (by decide) hft) (va_cwS 4 hts gX6_numberedKind_X6_numberIn rfl rfl rfl (by decide +kernel) ⟨Nat.le_of_ble_eq_true rfl, Nat.le_of_ble_eq_true rfl⟩) (pu_preS hP hK hS hG [1, 2] rfl) rfl rfl hl.1 rfl (lv_room (Nat.le_of_ble_eq_true rfl)) dX6_numberedKind_57 ⟨(Nat.le_of_ble_eq_true rfl), (Nat.le_of_ble_eq_true rfl)⟩) hP hS (fun H locs hP hS => ?_)
      have hP : va_P D vwCl [(h0, .inr (7, [.ref kd, .ref vl, .int cnt, .int ix, .int va])), (t, .inr (1, [.int lim, .ref rm, .int (nI len)])), (rm, .inl (cy 0, n, .inl f))] H := hP
      refine va_put (D := D) (ci := 7) (v := .int (fp_nu (fp_wf f b e0) (e0 - b) 1 15)) (ty := .int) (C := RX6) (T := TX6) (N := 5) hx hb hts iX6 tyX6 tyX6_ok nmX6 hown hK hP hD hS 0 rfl rfl 4 (by decide) (hts (.fieldLink RX6 57 "InterlockTables$Words" "value" "I") (by decide +kernel)) (fun _ h9 => h9) rfl (by decide +kernel) rfl rfl (Nat.le_of_ble_eq_true rfl) dX6_numberedKind_60 (fun H locs hP hD hS => ?_)
      have hP : va_P D vwCl [(h0, .inr (7, [.ref kd, .ref vl, .int cnt, .int ix, .int (fp_nu (fp_wf f b e0) (e0 - b) 1 15)])), (t, .inr (1, [.int lim, .ref rm, .int (nI len)])), (rm, .inl (cy 0, n, .inl f))] H := hP
      have hD : va_D A [(h0, .inr (7, [.ref kd, .ref vl, .int cnt, .int ix, .int (fp_nu (fp_wf f b e0) (e0 - b) 1 15)])), (t, .inr (1, [.int lim, .ref rm, .int (nI len)])), (rm, .inl (cy 0, n, .inl f))] := hD
      refine lv_goto (tgt := 79) hx hb dX6_numberedKind_63 (by decide) ?_
      refine lv_aload_n hx hb dX6_numberedKind_79 rfl (lv_at hl 1 rfl) ?_
      refine va_get (D := D) (ci := 7) (v := .int (fp_nu (fp_wf f b e0) (e0 - b) 1 15)) (C := RX6) (T := TX6) (N := 5) hx hb hts iX6 hown hK hP 0 rfl rfl 4 (by decide) (hts (.fieldLink RX6 57 "InterlockTables$Words" "value" "I") (by decide +kernel)) (fun _ h9 => h9) rfl dX6_numberedKind_80 ?_
      refine lv_iconst (v := -1) hx hb dX6_numberedKind_83 (by decide +kernel) ?_
      refine lv_icmp_ne (tgt := 91) hx hb dX6_numberedKind_84 (by decide) (fun c84 => ?_) (fun c84 => ?_)
      · refine lv_iload hx hb dX6_numberedKind_91 (lv_at hl 0 rfl) ?_
        have hP9 : va_P D vwCl [(h0, .inr (7, [.ref kd, .ref vl, .int cnt, .int ix, .int (fp_nu (fp_wf f b e0) (e0 - b) 1 15)])), (t, .inr (1, [.int lim, .ref rm, .int (nI len)])), (rm, .inl (cy 0, n, .inl f))] H := hP.sub [0, 1, 2] rfl
        have hD9 : va_D A [(h0, .inr (7, [.ref kd, .ref vl, .int cnt, .int ix, .int (fp_nu (fp_wf f b e0) (e0 - b) 1 15)])), (t, .inr (1, [.int lim, .ref rm, .int (nI len)])), (rm, .inl (cy 0, n, .inl f))] := hD.sub [0, 1, 2] (by decide) rfl
        refine W.widen (k := 0) (n := 0) (by omega) (by omega) ?_
        exact W.iret hx hb hr (fun t ht hW => ⟨⟨_, (fp_nu (fp_wf f b e0) (e0 - b) 1 15), rfl, ⟨by unfold fp_nk; rw [if_neg h97, if_pos h99, if_neg c84], by unfold fp_nv; rw [if_neg h97, if_pos h99]⟩, by rw [ht]; exact hP9, hD9⟩, hS.F ht⟩) hS.2.2 dX6_numberedKind_93
      · refine lv_iconst (v := 1) hx hb dX6_numberedKind_87 (by decide +kernel) ?_
        refine lv_goto (tgt := 93) hx hb dX6_numberedKind_88 (by decide) ?_
        have hP9 : va_P D vwCl [(h0, .inr (7, [.ref kd, .ref vl, .int cnt, .int ix, .int (fp_nu (fp_wf f b e0) (e0 - b) 1 15)])), (t, .inr (1, [.int lim, .ref rm, .int (nI len)])), (rm, .inl (cy 0, n, .inl f))] H := hP.sub [0, 1, 2] rfl
        have hD9 : va_D A [(h0, .inr (7, [.ref kd, .ref vl, .int cnt, .int ix, .int (fp_nu (fp_wf f b e0) (e0 - b) 1 15)])), (t, .inr (1, [.int lim, .ref rm, .int (nI len)])), (rm, .inl (cy 0, n, .inl f))] := hD.sub [0, 1, 2] (by decide) rfl
        refine W.widen (k := 0) (n := 0) (by omega) (by omega) ?_
        exact W.iret hx hb hr (fun t ht hW => ⟨⟨_, (fp_nu (fp_wf f b e0) (e0 - b) 1 15), rfl, ⟨by unfold fp_nk; rw [if_neg h97, if_pos h99, if_pos c84], by unfold fp_nv; rw [if_neg h97, if_pos h99]⟩, by rw [ht]; exact hP9, hD9⟩, hS.F ht⟩) hS.2.2 dX6_numberedKind_93
  · have h97 : fp_wf f b e0 0 = 97 := hw0.trans c11
    refine lv_bipush (v := 12) hx hb dX6_numberedKind_14 (by decide +kernel) ?_
    refine lv_istore (lv' := [(4, .int 12), (0, .ref h0), (1, .ref t), (2, .int (nI b)), (3, .int (nI e0))]) hx hb dX6_numberedKind_16 hl (by decide) rfl (fun ls hl => ?_)
    refine lv_aload_n hx hb dX6_numberedKind_18 rfl (lv_at hl 1 rfl) ?_
    refine lv_aload_n hx hb dX6_numberedKind_19 rfl (lv_at hl 2 rfl) ?_
    refine lv_iload_n hx hb dX6_numberedKind_20 rfl (lv_at hl 3 rfl) ?_
    refine lv_iconst (v := 1) hx hb dX6_numberedKind_21 (by decide +kernel) ?_
    refine lv_iadd hx hb dX6_numberedKind_22 ?_
    refine lv_topi (fun x_7 ex_7 => ?_)
    obtain rfl : x_7 = nI (b + 1) := by rw [ex_7]; exact nI_1 b
    refine lv_iload_n hx hb dX6_numberedKind_23 rfl (lv_at hl 4 rfl) ?_
    refine lv_bipush (v := 31) hx hb dX6_numberedKind_24 (by decide +kernel) ?_
    refine lv_topi (fun x_8 ex_8 => ?_)
    obtain rfl : x_8 = nI 31 := ex_8
    refine pu_calli (va_runS (As := [.ref t, .int (nI (b + 1)), .int (nI e0), .int (nI 31)]) (rest := [.ref h0]) ⟨hx, hb, hml, hown, hts⟩ (c_numberIn l D cy e t lim rm len n f b 1 e0 31 hle hn (by omega) he0 (by decide) hft) (va_cwS 4 hts gX6_numberedKind_X6_numberIn rfl rfl rfl (by decide +kernel) ⟨Nat.le_of_ble_eq_true rfl, Nat.le_of_ble_eq_true rfl⟩) (pu_preS hP hK hS hG [1, 2] rfl) rfl rfl hl.1 rfl (lv_room (Nat.le_of_ble_eq_true rfl)) dX6_numberedKind_26 ⟨(Nat.le_of_ble_eq_true rfl), (Nat.le_of_ble_eq_true rfl)⟩) hP hS (fun H locs hP hS => ?_)
    have hP : va_P D vwCl [(h0, .inr (7, [.ref kd, .ref vl, .int cnt, .int ix, .int va])), (t, .inr (1, [.int lim, .ref rm, .int (nI len)])), (rm, .inl (cy 0, n, .inl f))] H := hP
    refine va_put (D := D) (ci := 7) (v := .int (fp_nu (fp_wf f b e0) (e0 - b) 1 31)) (ty := .int) (C := RX6) (T := TX6) (N := 5) hx hb hts iX6 tyX6 tyX6_ok nmX6 hown hK hP hD hS 0 rfl rfl 4 (by decide) (hts (.fieldLink RX6 57 "InterlockTables$Words" "value" "I") (by decide +kernel)) (fun _ h9 => h9) rfl (by decide +kernel) rfl rfl (Nat.le_of_ble_eq_true rfl) dX6_numberedKind_29 (fun H locs hP hD hS => ?_)
    have hP : va_P D vwCl [(h0, .inr (7, [.ref kd, .ref vl, .int cnt, .int ix, .int (fp_nu (fp_wf f b e0) (e0 - b) 1 31)])), (t, .inr (1, [.int lim, .ref rm, .int (nI len)])), (rm, .inl (cy 0, n, .inl f))] H := hP
    have hD : va_D A [(h0, .inr (7, [.ref kd, .ref vl, .int cnt, .int ix, .int (fp_nu (fp_wf f b e0) (e0 - b) 1 31)])), (t, .inr (1, [.int lim, .ref rm, .int (nI len)])), (rm, .inl (cy 0, n, .inl f))] := hD
    refine lv_goto (tgt := 79) hx hb dX6_numberedKind_32 (by decide) ?_
    refine lv_aload_n hx hb dX6_numberedKind_79 rfl (lv_at hl 1 rfl) ?_
    refine va_get (D := D) (ci := 7) (v := .int (fp_nu (fp_wf f b e0) (e0 - b) 1 31)) (C := RX6) (T := TX6) (N := 5) hx hb hts iX6 hown hK hP 0 rfl rfl 4 (by decide) (hts (.fieldLink RX6 57 "InterlockTables$Words" "value" "I") (by decide +kernel)) (fun _ h9 => h9) rfl dX6_numberedKind_80 ?_
    refine lv_iconst (v := -1) hx hb dX6_numberedKind_83 (by decide +kernel) ?_
    refine lv_icmp_ne (tgt := 91) hx hb dX6_numberedKind_84 (by decide) (fun c84 => ?_) (fun c84 => ?_)
    · refine lv_iload hx hb dX6_numberedKind_91 (lv_at hl 0 rfl) ?_
      have hP9 : va_P D vwCl [(h0, .inr (7, [.ref kd, .ref vl, .int cnt, .int ix, .int (fp_nu (fp_wf f b e0) (e0 - b) 1 31)])), (t, .inr (1, [.int lim, .ref rm, .int (nI len)])), (rm, .inl (cy 0, n, .inl f))] H := hP.sub [0, 1, 2] rfl
      have hD9 : va_D A [(h0, .inr (7, [.ref kd, .ref vl, .int cnt, .int ix, .int (fp_nu (fp_wf f b e0) (e0 - b) 1 31)])), (t, .inr (1, [.int lim, .ref rm, .int (nI len)])), (rm, .inl (cy 0, n, .inl f))] := hD.sub [0, 1, 2] (by decide) rfl
      refine W.widen (k := 0) (n := 0) (by omega) (by omega) ?_
      exact W.iret hx hb hr (fun t ht hW => ⟨⟨_, (fp_nu (fp_wf f b e0) (e0 - b) 1 31), rfl, ⟨by unfold fp_nk; rw [if_pos h97, if_neg c84], by unfold fp_nv; rw [if_pos h97]⟩, by rw [ht]; exact hP9, hD9⟩, hS.F ht⟩) hS.2.2 dX6_numberedKind_93
    · refine lv_iconst (v := 1) hx hb dX6_numberedKind_87 (by decide +kernel) ?_
      refine lv_goto (tgt := 93) hx hb dX6_numberedKind_88 (by decide) ?_
      have hP9 : va_P D vwCl [(h0, .inr (7, [.ref kd, .ref vl, .int cnt, .int ix, .int (fp_nu (fp_wf f b e0) (e0 - b) 1 31)])), (t, .inr (1, [.int lim, .ref rm, .int (nI len)])), (rm, .inl (cy 0, n, .inl f))] H := hP.sub [0, 1, 2] rfl
      have hD9 : va_D A [(h0, .inr (7, [.ref kd, .ref vl, .int cnt, .int ix, .int (fp_nu (fp_wf f b e0) (e0 - b) 1 31)])), (t, .inr (1, [.int lim, .ref rm, .int (nI len)])), (rm, .inl (cy 0, n, .inl f))] := hD.sub [0, 1, 2] (by decide) rfl
      refine W.widen (k := 0) (n := 0) (by omega) (by omega) ?_
      exact W.iret hx hb hr (fun t ht hW => ⟨⟨_, (fp_nu (fp_wf f b e0) (e0 - b) 1 31), rfl, ⟨by unfold fp_nk; rw [if_pos h97, if_pos c84], by unfold fp_nv; rw [if_pos h97]⟩, by rw [ht]; exact hP9, hD9⟩, hS.F ht⟩) hS.2.2 dX6_numberedKind_93

set_option maxHeartbeats 4000000 in
set_option maxRecDepth 100000 in
theorem c_kindOf (l : Launch) (D : va_G) (cy : Nat → ClassId) (e : Nat → Nat)  (h0 : Nat) (kd : Nat) (vl : Nat) (cnt : Int32) (ix : Int32) (va : Int32) (t : Nat) (lim : Int32) (rm : Nat) (len : Nat) (n : Nat) (f : Nat → Int32) (b : Nat) (e0 : Nat) (sz : Nat) (hle : len ≤ n) (hn : n < 2 ^ 31) (hbe : b < e0) (he0 : e0 ≤ len) (hft : sb_Fit f) : Met l yX6_kindOf wsX6_kindOf ({ frames := 6, cells := 0, slots := 0, locals := 131 }) (va_Pc [.ref h0, .ref t, .int (nI b), .int (nI e0)] (mt_B D cy e [(h0, .inr (7, [.ref kd, .ref vl, .int cnt, .int ix, .int va])), (t, .inr (1, [.int lim, .ref rm, .int (nI len)])), (rm, .inl (cy 0, n, .inl f))] sz)) (va_Qi (fun (r : Int32) (va2 : Int32) => r = fp_k (fp_wf f b e0) (e0 - b) ∧ va2 = fp_v (fp_wf f b e0) (e0 - b)) (mt_Q D (fun va2 => [(h0, .inr (7, [.ref kd, .ref vl, .int cnt, .int ix, .int va2])), (t, .inr (1, [.int lim, .ref rm, .int (nI len)])), (rm, .inl (cy 0, n, .inl f))]) (va_A [(h0, .inr (7, [.ref kd, .ref vl, .int cnt, .int ix, .int va])), (t, .inr (1, [.int lim, .ref rm, .int (nI len)])), (rm, .inl (cy 0, n, .inl f))] sz)) (va_A [(h0, .inr (7, [.ref kd, .ref vl, .int cnt, .int ix, .int va])), (t, .inr (1, [.int lim, .ref rm, .int (nI len)])), (rm, .inl (cy 0, n, .inl f))] sz)) (0) (0) (va_A [(h0, .inr (7, [.ref kd, .ref vl, .int cnt, .int ix, .int va])), (t, .inr (1, [.int lim, .ref rm, .int (nI len)])), (rm, .inl (cy 0, n, .inl f))] sz) := by
  refine Met.ofW (cc := cX6_kindOf) (maxL := 5) (ret := (some .int)) (by decide) rfl ?_
  intro p ev s m args below meth c s₁ B hml hv
  obtain ⟨rfl, hsz, hP, hK, hD0, hG⟩ := hv
  have hx := B.exec
  have hb := B.bytes
  have hr := B.returns
  have hts := atoms_spec (ws := wsX6_kindOf) B.pre
  have hown : s.vm.findClass RX6 = some m.cls := findClass_of_methodNamed B.named
  have hlocks := B.notSynchronized
  subst hsz
  have hD := hD0.self (sz := s.heap.size)
  generalize hAe : va_A [(h0, .inr (7, [.ref kd, .ref vl, .int cnt, .int ix, .int va])), (t, .inr (1, [.int lim, .ref rm, .int (nI len)])), (rm, .inl (cy 0, n, .inl f))] s.heap.size = A at hD hG ⊢
  have hA : ∀ q : Nat, s.heap.size ≤ q → A q := fun q h => by rw [← hAe]; exact Or.inr h
  have hS : va_S A s.heap s.heap [] := va_S.rf
  have hP : va_P D vwCl [(h0, .inr (7, [.ref kd, .ref vl, .int cnt, .int ix, .int va])), (t, .inr (1, [.int lim, .ref rm, .int (nI len)])), (rm, .inl (cy 0, n, .inl f))] s.heap := hP
  have iX6 : ∀ w ∈ wsX60, w ∈ wsX6_kindOf := fun w h => List.mem_cons_of_mem _ (List.mem_append_left _ (List.mem_append_right _ h))
  have iX0 : ∀ w ∈ wsX00, w ∈ wsX6_kindOf := fun w h => List.mem_cons_of_mem _ (List.mem_append_right _ h)
  have hl := lv_entry ([.ref h0, .ref t, .int (nI b), .int (nI e0)]) (n := 5) (Nat.le_of_ble_eq_true rfl)
  rw [lg_entry_eq]
  generalize (lg_sl ([.ref h0, .ref t, .int (nI b), .int (nI e0)]) ++ List.replicate (5 - (lg_sl ([.ref h0, .ref t, .int (nI b), .int (nI e0)])).length) Slot.unset).toArray = ls at hl ⊢
  have hl : lv_has ls 5 [(0, .ref h0), (1, .ref t), (2, .int (nI b)), (3, .int (nI e0))] := hl
  have hw0 : fp_wf f b e0 0 = f b := fp_wf_in (i := 0) (by omega)
  have hl0 : ¬ e0 - b = 0 := by omega
  refine lv_aload_n hx hb dX6_kindOf_0 rfl (lv_at hl 0 rfl) ?_
  refine lv_iconst (v := -1) hx hb dX6_kindOf_1 (by decide +kernel) ?_
  refine va_put (D := D) (ci := 7) (v := .int (-1)) (ty := .int) (C := RX6) (T := TX6) (N := 5) hx hb hts iX6 tyX6 tyX6_ok nmX6 hown hK hP hD hS 0 rfl rfl 4 (by decide) (hts (.fieldLink RX6 57 "InterlockTables$Words" "value" "I") (by decide +kernel)) (fun _ h9 => h9) rfl (by decide +kernel) rfl rfl (Nat.le_of_ble_eq_true rfl) dX6_kindOf_2 (fun H locs hP hD hS => ?_)
  have hP : va_P D vwCl [(h0, .inr (7, [.ref kd, .ref vl, .int cnt, .int ix, .int (-1)])), (t, .inr (1, [.int lim, .ref rm, .int (nI len)])), (rm, .inl (cy 0, n, .inl f))] H := hP
  have hD : va_D A [(h0, .inr (7, [.ref kd, .ref vl, .int cnt, .int ix, .int (-1)])), (t, .inr (1, [.int lim, .ref rm, .int (nI len)])), (rm, .inl (cy 0, n, .inl f))] := hD
  refine lv_aload_n hx hb dX6_kindOf_5 rfl (lv_at hl 1 rfl) ?_
  refine lv_iload_n hx hb dX6_kindOf_6 rfl (lv_at hl 2 rfl) ?_
  refine pu_calli (va_runV (As := [.int (nI b)]) (rest := []) ⟨hx, hb, hml, hown, hts⟩ (c_Bytes_at l D cy e t lim rm len n f (nI b) hle hn) (cwV 1 hts gX6_kindOf_X0_at rfl rfl rfl (by decide +kernel) ⟨Nat.le_of_ble_eq_true rfl, Nat.le_of_ble_eq_true rfl⟩) (pu_preV hP hK hS hG [1, 2] rfl (q := (RX0, TX0, 3)) (ci := 1) (q0 := 1) rfl rfl) rfl rfl hl.1 rfl (lv_room (Nat.le_of_ble_eq_true rfl)) dX6_kindOf_7 ⟨(Nat.le_of_ble_eq_true rfl), (Nat.le_of_ble_eq_true rfl)⟩) hP hS (fun H locs hP hS => ?_)
  have hP : va_P D vwCl [(h0, .inr (7, [.ref kd, .ref vl, .int cnt, .int ix, .int (-1)])), (t, .inr (1, [.int lim, .ref rm, .int (nI len)])), (rm, .inl (cy 0, n, .inl f))] H := hP
  refine lv_topi (fun x_1 ex_1 => ?_)
  obtain rfl : x_1 = f b := by rw [ex_1]; exact fp_bat (by omega) (by omega)
  generalize hz9 : (f b) = z9
  by_cases k40 : z9 = 40
  · refine lv_lookup (tgt := 44) (off := 34) hx hb dX6_kindOf_10 (by decide) (by rw [k40]; decide) (by decide) ?_
    refine lv_iconst (v := 2) hx hb dX6_kindOf_44 (by decide +kernel) ?_
    have hP9 : va_P D vwCl [(h0, .inr (7, [.ref kd, .ref vl, .int cnt, .int ix, .int (-1)])), (t, .inr (1, [.int lim, .ref rm, .int (nI len)])), (rm, .inl (cy 0, n, .inl f))] H := hP.sub [0, 1, 2] rfl
    have hD9 : va_D A [(h0, .inr (7, [.ref kd, .ref vl, .int cnt, .int ix, .int (-1)])), (t, .inr (1, [.int lim, .ref rm, .int (nI len)])), (rm, .inl (cy 0, n, .inl f))] := hD.sub [0, 1, 2] (by decide) rfl
    refine W.widen (k := 0) (n := 0) (by omega) (by omega) ?_
    exact W.iret hx hb hr (fun t ht hW => ⟨⟨_, (-1), rfl, fp_kv2 hl0 (hw0.trans (hz9.trans k40)), by rw [ht]; exact hP9, hD9⟩, hS.F ht⟩) hS.2.2 dX6_kindOf_45
  by_cases k41 : z9 = 41
  · refine lv_lookup (tgt := 46) (off := 36) hx hb dX6_kindOf_10 (by decide) (by rw [k41]; decide) (by decide) ?_
    refine lv_iconst (v := 3) hx hb dX6_kindOf_46 (by decide +kernel) ?_
    have hP9 : va_P D vwCl [(h0, .inr (7, [.ref kd, .ref vl, .int cnt, .int ix, .int (-1)])), (t, .inr (1, [.int lim, .ref rm, .int (nI len)])), (rm, .inl (cy 0, n, .inl f))] H := hP.sub [0, 1, 2] rfl
    have hD9 : va_D A [(h0, .inr (7, [.ref kd, .ref vl, .int cnt, .int ix, .int (-1)])), (t, .inr (1, [.int lim, .ref rm, .int (nI len)])), (rm, .inl (cy 0, n, .inl f))] := hD.sub [0, 1, 2] (by decide) rfl
    refine W.widen (k := 0) (n := 0) (by omega) (by omega) ?_
    exact W.iret hx hb hr (fun t ht hW => ⟨⟨_, (-1), rfl, fp_kv3 hl0 (hw0.trans (hz9.trans k41)), by rw [ht]; exact hP9, hD9⟩, hS.F ht⟩) hS.2.2 dX6_kindOf_47
  by_cases k59 : z9 = 59
  · refine lv_lookup (tgt := 48) (off := 38) hx hb dX6_kindOf_10 (by decide) (by rw [k59]; decide) (by decide) ?_
    refine lv_iconst (v := 4) hx hb dX6_kindOf_48 (by decide +kernel) ?_
    have hP9 : va_P D vwCl [(h0, .inr (7, [.ref kd, .ref vl, .int cnt, .int ix, .int (-1)])), (t, .inr (1, [.int lim, .ref rm, .int (nI len)])), (rm, .inl (cy 0, n, .inl f))] H := hP.sub [0, 1, 2] rfl
    have hD9 : va_D A [(h0, .inr (7, [.ref kd, .ref vl, .int cnt, .int ix, .int (-1)])), (t, .inr (1, [.int lim, .ref rm, .int (nI len)])), (rm, .inl (cy 0, n, .inl f))] := hD.sub [0, 1, 2] (by decide) rfl
    refine W.widen (k := 0) (n := 0) (by omega) (by omega) ?_
    exact W.iret hx hb hr (fun t ht hW => ⟨⟨_, (-1), rfl, fp_kv4 hl0 (hw0.trans (hz9.trans k59)), by rw [ht]; exact hP9, hD9⟩, hS.F ht⟩) hS.2.2 dX6_kindOf_49
  refine lv_lookup (tgt := 50) (off := 40) hx hb dX6_kindOf_10 (by decide) (look3 k40 k41 k59) (by decide) ?_
  have n40 : ¬ fp_wf f b e0 0 = 40 := fun q9 => k40 (hz9.symm.trans (hw0.symm.trans q9))
  have n41 : ¬ fp_wf f b e0 0 = 41 := fun q9 => k41 (hz9.symm.trans (hw0.symm.trans q9))
  have n59 : ¬ fp_wf f b e0 0 = 59 := fun q9 => k59 (hz9.symm.trans (hw0.symm.trans q9))
  refine lv_aload_n hx hb dX6_kindOf_50 rfl (lv_at hl 1 rfl) ?_
  refine lv_iload_n hx hb dX6_kindOf_51 rfl (lv_at hl 2 rfl) ?_
  refine lv_iload_n hx hb dX6_kindOf_52 rfl (lv_at hl 3 rfl) ?_
  refine pu_calli (va_runS (As := [.ref t, .int (nI b), .int (nI e0)]) (rest := []) ⟨hx, hb, hml, hown, hts⟩ (c_namedKind l D cy e t lim rm len n f b e0 (by first | assumption | omega | decide +kernel) (by first | assumption | omega | decide +kernel) (by first | assumption | omega | decide +kernel) (by first | assumption | omega | decide +kernel) (by first | assumption | omega | decide +kernel)) (va_cwS 3 hts gX6_kindOf_X6_namedKind rfl rfl rfl (by decide +kernel) ⟨Nat.le_of_ble_eq_true rfl, Nat.le_of_ble_eq_true rfl⟩) (pu_preS hP hK hS hG [1, 2] rfl) rfl rfl hl.1 rfl (lv_room (Nat.le_of_ble_eq_true rfl)) dX6_kindOf_53 ⟨(Nat.le_of_ble_eq_true rfl), (Nat.le_of_ble_eq_true rfl)⟩) hP hS (fun H locs hP hS => ?_)
  have hP : va_P D vwCl [(h0, .inr (7, [.ref kd, .ref vl, .int cnt, .int ix, .int (-1)])), (t, .inr (1, [.int lim, .ref rm, .int (nI len)])), (rm, .inl (cy 0, n, .inl f))] H := hP
  refine lv_istore (lv' := [(4, .int (fp_nm (fp_wf f b e0) (e0 - b))), (0, .ref h0), (1, .ref t), (2, .int (nI b)), (3, .int (nI e0))]) hx hb dX6_kindOf_56 hl (by decide) rfl (fun ls hl => ?_)
  refine lv_iload hx hb dX6_kindOf_58 (lv_at hl 0 rfl) ?_
  refine lv_iconst (v := 1) hx hb dX6_kindOf_60 (by decide +kernel) ?_
  refine lv_icmp_ne (tgt := 74) hx hb dX6_kindOf_61 (by decide) (fun c61 => ?_) (fun c61 => ?_)
  · refine lv_iload hx hb dX6_kindOf_74 (lv_at hl 0 rfl) ?_
    have hP9 : va_P D vwCl [(h0, .inr (7, [.ref kd, .ref vl, .int cnt, .int ix, .int (-1)])), (t, .inr (1, [.int lim, .ref rm, .int (nI len)])), (rm, .inl (cy 0, n, .inl f))] H := hP.sub [0, 1, 2] rfl
    have hD9 : va_D A [(h0, .inr (7, [.ref kd, .ref vl, .int cnt, .int ix, .int (-1)])), (t, .inr (1, [.int lim, .ref rm, .int (nI len)])), (rm, .inl (cy 0, n, .inl f))] := hD.sub [0, 1, 2] (by decide) rfl
    refine W.widen (k := 0) (n := 0) (by omega) (by omega) ?_
    exact W.iret hx hb hr (fun t ht hW => ⟨⟨_, (-1), rfl, ⟨by rw [fp_k_split hl0 n40 n41 n59, if_neg c61], by rw [fp_v_split hl0 n40 n41 n59, if_neg c61]⟩, by rw [ht]; exact hP9, hD9⟩, hS.F ht⟩) hS.2.2 dX6_kindOf_76
  · refine lv_aload_n hx hb dX6_kindOf_64 rfl (lv_at hl 1 rfl) ?_
    refine lv_aload_n hx hb dX6_kindOf_65 rfl (lv_at hl 2 rfl) ?_
    refine lv_iload_n hx hb dX6_kindOf_66 rfl (lv_at hl 3 rfl) ?_
    refine lv_iload_n hx hb dX6_kindOf_67 rfl (lv_at hl 4 rfl) ?_
    refine mt_calli (wr := []) (va_runV (As := [.ref t, .int (nI b), .int (nI e0)]) (rest := []) ⟨hx, hb, hml, hown, hts⟩ (c_numberedKind l D cy e h0 kd vl cnt ix (-1) t lim rm len n f b e0 H.size (by first | assumption | omega | decide +kernel) (by first | assumption | omega | decide +kernel) (by first | assumption | omega | decide +kernel) (by first | assumption | omega | decide +kernel) (by first | assumption | omega | decide +kernel)) (cwV 3 hts gX6_kindOf_X6_numberedKind rfl rfl rfl (by decide +kernel) ⟨Nat.le_of_ble_eq_true rfl, Nat.le_of_ble_eq_true rfl⟩) (mt_preV hP hD hK hS hA hG [0, 1, 2] rfl (by decide) (q := (RX6, TX6, 5)) (ci := 7) (q0 := 0) rfl rfl) rfl rfl hl.1 rfl (lv_room (Nat.le_of_ble_eq_true rfl)) dX6_kindOf_68 ⟨(Nat.le_of_ble_eq_true rfl), (Nat.le_of_ble_eq_true rfl)⟩) hP hD hS hA [0, 1, 2] [] rfl rfl (by decide) (by decide) (fun r68 u H locs hw hP hD hS => ?_)
    obtain ⟨va2_68, rfl⟩ : ∃ z, z = u := ⟨_, rfl⟩
    have hP : va_P D vwCl [(h0, .inr (7, [.ref kd, .ref vl, .int cnt, .int ix, .int va2_68])), (t, .inr (1, [.int lim, .ref rm, .int (nI len)])), (rm, .inl (cy 0, n, .inl f))] H := hP
    have hD : va_D A [(h0, .inr (7, [.ref kd, .ref vl, .int cnt, .int ix, .int va2_68])), (t, .inr (1, [.int lim, .ref rm, .int (nI len)])), (rm, .inl (cy 0, n, .inl f))] := hD
    replace hw : r68 = fp_nk (fp_wf f b e0) (e0 - b) ∧ va2_68 = fp_nv (fp_wf f b e0) (e0 - b) := hw
    refine W.widen (k := 0) (n := 0) (by omega) (by omega) ?_
    have hw68 := hw
    refine lv_goto (tgt := 76) hx hb dX6_kindOf_71 (by decide) ?_
    have hP9 : va_P D vwCl [(h0, .inr (7, [.ref kd, .ref vl, .int cnt, .int ix, .int va2_68])), (t, .inr (1, [.int lim, .ref rm, .int (nI len)])), (rm, .inl (cy 0, n, .inl f))] H := hP.sub [0, 1, 2] rfl
    have hD9 : va_D A [(h0, .inr (7, [.ref kd, .ref vl, .int cnt, .int ix, .int va2_68])), (t, .inr (1, [.int lim, .ref rm, .int (nI len)])), (rm, .inl (cy 0, n, .inl f))] := hD.sub [0, 1, 2] (by decide) rfl
    refine W.widen (k := 0) (n := 0) (by omega) (by omega) ?_
    exact W.iret hx hb hr (fun t ht hW => ⟨⟨_, va2_68, rfl, ⟨by rw [fp_k_split hl0 n40 n41 n59, if_pos c61]; exact hw68.1, by rw [fp_v_split hl0 n40 n41 n59, if_pos c61]; exact hw68.2⟩, by rw [ht]; exact hP9, hD9⟩, hS.F ht⟩) hS.2.2 dX6_kindOf_76
