-- deps: 53 68a
set_option maxHeartbeats 4000000 in
set_option maxRecDepth 100000 in
/-- putWord -/
theorem c_putWord (l : Launch) (D : va_G) (cy : Nat → ClassId) (e : Nat → Nat)  (h0 : Nat) (xp : Nat) (ou : Nat) (bd : Int32) (k : Nat) (L : Nat) (rm : Nat) (fw : Nat → Int32) (sz : Nat) (hfw : sb_Fit fw) (hk : k < 11) : Met l yX7_putWord wsX7_putWord ({ frames := 4, cells := ccB (L + (bz bd + wln k)) - ccB L, slots := ssB (L + (bz bd + wln k)) - ssB L, locals := 103 }) (va_Pc [.ref h0, .ref (e (10 + k))] (mt_B D cy e [(h0, .inr (8, [.ref xp, .ref ou, .int bd])), (ou, .inr (1, [.int (nI 6000), .ref rm, .int (nI (mB L))])), (rm, .inl (cy 0, capB L, .inl fw))] sz)) (va_Qv (fun (u : Nat × (Nat → Int32)) => match u with | (rm2, fw2) => sb_Fit fw2) (mt_Q D (fun (u : Nat × (Nat → Int32)) => match u with | (rm2, fw2) => [(h0, .inr (8, [.ref xp, .ref ou, .int 1])), (ou, .inr (1, [.int (nI 6000), .ref rm2, .int (nI (mB (L + (bz bd + wln k))))])), (rm2, .inl (cy 0, capB (L + (bz bd + wln k)), .inl fw2))]) (va_A [(h0, .inr (8, [.ref xp, .ref ou, .int bd])), (ou, .inr (1, [.int (nI 6000), .ref rm, .int (nI (mB L))])), (rm, .inl (cy 0, capB L, .inl fw))] sz)) (va_A [(h0, .inr (8, [.ref xp, .ref ou, .int bd])), (ou, .inr (1, [.int (nI 6000), .ref rm, .int (nI (mB L))])), (rm, .inl (cy 0, capB L, .inl fw))] sz)) (ccB (L + (bz bd + wln k)) - ccB L) (ssB (L + (bz bd + wln k)) - ssB L) (va_A [(h0, .inr (8, [.ref xp, .ref ou, .int bd])), (ou, .inr (1, [.int (nI 6000), .ref rm, .int (nI (mB L))])), (rm, .inl (cy 0, capB L, .inl fw))] sz) := by
  refine Met.ofW (cc := cX7_putWord) (maxL := 3) (ret := none) (by decide) rfl ?_
  intro p ev s m args below meth c s₁ B hml hv
  obtain ⟨rfl, hsz, hP, hK, hD0, hG⟩ := hv
  have hx := B.exec
  have hb := B.bytes
  have hr := B.returns
  have hts := atoms_spec (ws := wsX7_putWord) B.pre
  have hown : s.vm.findClass RX7 = some m.cls := findClass_of_methodNamed B.named
  have hlocks := B.notSynchronized
  subst hsz
  have hD := hD0.self (sz := s.heap.size)
  generalize hAe : va_A [(h0, .inr (8, [.ref xp, .ref ou, .int bd])), (ou, .inr (1, [.int (nI 6000), .ref rm, .int (nI (mB L))])), (rm, .inl (cy 0, capB L, .inl fw))] s.heap.size = A at hD hG ⊢
  have hA : ∀ q : Nat, s.heap.size ≤ q → A q := fun q h => by rw [← hAe]; exact Or.inr h
  have hS : va_S A s.heap s.heap [] := va_S.rf
  have hP : va_P D vwCl [(h0, .inr (8, [.ref xp, .ref ou, .int bd])), (ou, .inr (1, [.int (nI 6000), .ref rm, .int (nI (mB L))])), (rm, .inl (cy 0, capB L, .inl fw))] s.heap := hP
  have iX7 : ∀ w ∈ wsX70, w ∈ wsX7_putWord := fun w h => List.mem_cons_of_mem _ (List.mem_append_left _ (List.mem_append_right _ h))
  have iX0 : ∀ w ∈ wsX00, w ∈ wsX7_putWord := fun w h => List.mem_cons_of_mem _ (List.mem_append_right _ h)
  have hl := lv_entry ([.ref h0, .ref (e (10 + k))]) (n := 3) (Nat.le_of_ble_eq_true rfl)
  rw [lg_entry_eq]
  generalize (lg_sl ([.ref h0, .ref (e (10 + k))]) ++ List.replicate (3 - (lg_sl ([.ref h0, .ref (e (10 + k))])).length) Slot.unset).toArray = ls at hl ⊢
  have hl : lv_has ls 3 [(0, .ref h0), (1, .ref (e (10 + k)))] := hl
  have hfw0 := hfw
  refine W.widen (k := ccB (L) - ccB (L)) (n := ssB (L) - ssB (L)) (Nat.zero_le _) (Nat.zero_le _) ?_
  refine lv_aload_n hx hb dX7_putWord_0 rfl (lv_at hl 0 rfl) ?_
  refine va_get (D := D) (ci := 8) (v := .int bd) (C := RX7) (T := TX7) (N := 3) hx hb hts iX7 hown hK hP 0 rfl rfl 2 (by decide) (hts (.fieldLink RX7 74 "InterlockTables$Writer" "blankDue" "Z") (by decide +kernel)) (fun _ h9 => h9) rfl dX7_putWord_1 ?_
  refine lv_if_eq (tgt := 17) hx hb dX7_putWord_4 (by decide) (fun c4 => ?_) (fun c4 => ?_)
  · have hbz := bz_0 (b := bd) c4
    refine lv_iconst (v := 0) hx hb dX7_putWord_17 (by decide +kernel) ?_
    refine lv_topi (fun x_1 ex_1 => ?_)
    obtain rfl : x_1 = nI 0 := by rw [ex_1]; exact nI_0.symm
    refine lv_istore_n (lv' := [(2, .int (nI 0)), (0, .ref h0), (1, .ref (e (10 + k)))]) hx hb dX7_putWord_18 rfl hl (by decide) rfl (fun ls hl => ?_)
    refine W.widen (k := ccB (L + 0) - ccB (L)) (n := ssB (L + 0) - ssB (L)) (Nat.le_of_eq rfl) (Nat.le_of_eq rfl) ?_
    have hl9 : (sbs.getD k []).length < 100 := sbs_len k hk
    have hLb : L = L + 0 := rfl
    rw [hLb] at hP hD
    have hP : va_P D vwCl [(h0, .inr (8, [.ref xp, .ref ou, .int bd])), (ou, .inr (1, [.int (nI 6000), .ref rm, .int (nI (mB (L + 0)))])), (rm, .inl (cy 0, capB (L + 0), .inl fw))] s.heap := hP
    have hD : va_D A [(h0, .inr (8, [.ref xp, .ref ou, .int bd])), (ou, .inr (1, [.int (nI 6000), .ref rm, .int (nI (mB (L + 0)))])), (rm, .inl (cy 0, capB (L + 0), .inl fw))] := hD
    refine lp_Wx (σ := Nat × Nat × (Nat → Int32)) (Wf := fun zz9 H locs ls => W p l ev _ s m _ below meth c H locs (ccB (L + zz9.1) - ccB (L)) (ssB (L + zz9.1) - ssB (L)) _ (F0 m 19 ls [])) (fun zz9 H locs ls => match zz9 with | (i, rm1, f1) => va_P D vwCl [(h0, .inr (8, [.ref xp, .ref ou, .int bd])), (ou, .inr (1, [.int (nI 6000), .ref rm1, .int (nI (mB (L + i)))])), (rm1, .inl (cy 0, capB (L + i), .inl f1))] H ∧ va_D A [(h0, .inr (8, [.ref xp, .ref ou, .int bd])), (ou, .inr (1, [.int (nI 6000), .ref rm1, .int (nI (mB (L + i)))])), (rm1, .inl (cy 0, capB (L + i), .inl f1))] ∧ va_S A s.heap H locs ∧ lv_has ls 3 [(2, .int (nI i)), (0, .ref h0), (1, .ref (e (10 + k)))] ∧ (i ≤ wln k ∧ sb_Fit f1)) (fun zz9 => match zz9 with | (i, rm1, f1) => wln k - i) ?_ (0, rm, fw) _ _ ls ⟨hP, hD, hS, lv_sub hl [0, 1, 2] rfl, ⟨Nat.zero_le _, hfw0⟩⟩
    intro zz9 H locs ls hI ih
    obtain ⟨i, rm1, f1⟩ := zz9
    obtain ⟨hP, hD, hS, hl, hI⟩ := hI
    dsimp only
    have ih19 := ih
    have hI19 := hI
    have hP : va_P D vwCl [(h0, .inr (8, [.ref xp, .ref ou, .int bd])), (ou, .inr (1, [.int (nI 6000), .ref rm1, .int (nI (mB (L + i)))])), (rm1, .inl (cy 0, capB (L + i), .inl f1))] H := hP
    have hD : va_D A [(h0, .inr (8, [.ref xp, .ref ou, .int bd])), (ou, .inr (1, [.int (nI 6000), .ref rm1, .int (nI (mB (L + i)))])), (rm1, .inl (cy 0, capB (L + i), .inl f1))] := hD
    have hl : lv_has ls 3 [(2, .int (nI i)), (0, .ref h0), (1, .ref (e (10 + k)))] := hl
    obtain ⟨hI1, hfw0⟩ := hI
    refine lv_iload_n hx hb dX7_putWord_19 rfl (lv_at hl 0 rfl) ?_
    refine lv_aload_n hx hb dX7_putWord_20 rfl (lv_at hl 2 rfl) ?_
    refine pu_calli (va_runV (As := []) (rest := [.int (nI i)]) ⟨hx, hb, hml, hown, hts⟩ (c_Str_length l D cy e k (by first | assumption | omega | decide +kernel)) (cwV 0 hts gX7_putWord_J0_length_8abf5 rfl rfl rfl (by decide +kernel) ⟨Nat.le_of_ble_eq_true rfl, Nat.le_of_ble_eq_true rfl⟩) (pu_preVs hP hK hS hG [] rfl (hG.gX.1 k hk).1) rfl rfl hl.1 rfl (lv_room (Nat.le_of_ble_eq_true rfl)) dX7_putWord_21 ⟨rmB_c (by omega), rmB_s (by omega)⟩) hP hS (fun H locs hP hS => ?_)
    have hP : va_P D vwCl [(h0, .inr (8, [.ref xp, .ref ou, .int bd])), (ou, .inr (1, [.int (nI 6000), .ref rm1, .int (nI (mB (L + i)))])), (rm1, .inl (cy 0, capB (L + i), .inl f1))] H := hP
    refine lv_icmp_ge (tgt := 46) hx hb dX7_putWord_24 (by decide) (fun c24 => ?_) (fun c24 => ?_)
    · have hi : i = wln k := by have h9 := (nI_leI (by omega) (by unfold wln at hI1; omega)).mp c24; unfold wln at hI1 ⊢; omega
      refine lv_aload_n hx hb dX7_putWord_46 rfl (lv_at hl 1 rfl) ?_
      refine lv_iconst (v := 1) hx hb dX7_putWord_47 (by decide +kernel) ?_
      refine va_put (D := D) (ci := 8) (v := .int 1) (ty := .boolean) (C := RX7) (T := TX7) (N := 3) hx hb hts iX7 tyX7 tyX7_ok nmX7 hown hK hP hD hS 0 rfl rfl 2 (by decide) (hts (.fieldLink RX7 74 "InterlockTables$Writer" "blankDue" "Z") (by decide +kernel)) (fun _ h9 => h9) rfl (by decide +kernel) rfl rfl (Nat.le_of_ble_eq_true rfl) dX7_putWord_48 (fun H locs hP hD hS => ?_)
      have hP : va_P D vwCl [(h0, .inr (8, [.ref xp, .ref ou, .int 1])), (ou, .inr (1, [.int (nI 6000), .ref rm1, .int (nI (mB (L + i)))])), (rm1, .inl (cy 0, capB (L + i), .inl f1))] H := hP
      have hD : va_D A [(h0, .inr (8, [.ref xp, .ref ou, .int 1])), (ou, .inr (1, [.int (nI 6000), .ref rm1, .int (nI (mB (L + i)))])), (rm1, .inl (cy 0, capB (L + i), .inl f1))] := hD
      have hLe : L + i = L + (bz bd + wln k) := by omega
      rw [hLe] at hP hD
      have hP : va_P D vwCl [(h0, .inr (8, [.ref xp, .ref ou, .int 1])), (ou, .inr (1, [.int (nI 6000), .ref rm1, .int (nI (mB (L + (bz bd + wln k))))])), (rm1, .inl (cy 0, capB (L + (bz bd + wln k)), .inl f1))] H := hP
      have hD : va_D A [(h0, .inr (8, [.ref xp, .ref ou, .int 1])), (ou, .inr (1, [.int (nI 6000), .ref rm1, .int (nI (mB (L + (bz bd + wln k))))])), (rm1, .inl (cy 0, capB (L + (bz bd + wln k)), .inl f1))] := hD
      have hP9 : va_P D vwCl [(h0, .inr (8, [.ref xp, .ref ou, .int 1])), (ou, .inr (1, [.int (nI 6000), .ref rm1, .int (nI (mB (L + (bz bd + wln k))))])), (rm1, .inl (cy 0, capB (L + (bz bd + wln k)), .inl f1))] H := hP.sub [0, 1, 2] rfl
      have hD9 : va_D A [(h0, .inr (8, [.ref xp, .ref ou, .int 1])), (ou, .inr (1, [.int (nI 6000), .ref rm1, .int (nI (mB (L + (bz bd + wln k))))])), (rm1, .inl (cy 0, capB (L + (bz bd + wln k)), .inl f1))] := hD.sub [0, 1, 2] (by decide) rfl
      refine W.widen (k := ccB (L + (bz bd + wln k)) - ccB L) (n := ssB (L + (bz bd + wln k)) - ssB L) (Nat.le_of_eq (by rw [hLe])) (Nat.le_of_eq (by rw [hLe])) ?_
      exact W.vret hx hb hr (fun t ht hW => ⟨⟨(rm1, f1), rfl, hfw0, by rw [ht]; exact hP9, hD9⟩, hS.F ht⟩) hS.2.2 dX7_putWord_51
    · have hi : i < wln k := pk_nle (by unfold wln at hI1; omega) c24
      refine lv_aload_n hx hb dX7_putWord_27 rfl (lv_at hl 1 rfl) ?_
      refine va_get (D := D) (ci := 8) (v := .ref ou) (C := RX7) (T := TX7) (N := 3) hx hb hts iX7 hown hK hP 0 rfl rfl 1 (by decide) (hts (.fieldLink RX7 14 "InterlockTables$Writer" "out" "LInterlockTables$Bytes;") (by decide +kernel)) (fun _ h9 => h9) rfl dX7_putWord_28 ?_
      refine lv_aload_n hx hb dX7_putWord_31 rfl (lv_at hl 2 rfl) ?_
      refine lv_iload_n hx hb dX7_putWord_32 rfl (lv_at hl 0 rfl) ?_
      refine pu_callni (va_runV (As := [.int (nI i)]) (rest := [.ref ou]) ⟨hx, hb, hml, hown, hts⟩ (c_Str_charAt l D cy e k i hk hi hl9) (cwV 1 hts gX7_putWord_J0_charAt_5068e rfl rfl rfl (by decide +kernel) ⟨Nat.le_of_ble_eq_true rfl, Nat.le_of_ble_eq_true rfl⟩) (pu_preVs hP hK hS hG [] rfl (hG.gX.1 k hk).1) rfl rfl hl.1 rfl (lv_room (Nat.le_of_ble_eq_true rfl)) dX7_putWord_33 ⟨rmB_c (by omega), rmB_s (by omega)⟩) hP hS (fun r33 H locs hw hP hS => ?_)
      have hP : va_P D vwCl [(h0, .inr (8, [.ref xp, .ref ou, .int bd])), (ou, .inr (1, [.int (nI 6000), .ref rm1, .int (nI (mB (L + i)))])), (rm1, .inl (cy 0, capB (L + i), .inl f1))] H := hP
      replace hw : narrow .char (.int r33) = .int r33 ∧ r33 = (sbs.getD k []).getD i 0 := hw
      clear hw
      refine mt_calli (wr := [(h0, .inr (8, [.ref xp, .ref ou, .int bd]))]) (va_runV (As := [.int r33]) (rest := []) ⟨hx, hb, hml, hown, hts⟩ (c_addL l D cy e ou r33 (L + i) rm1 f1 H.size hfw0) (cwV 1 hts gX7_putWord_X0_add rfl rfl rfl (by decide +kernel) ⟨Nat.le_of_ble_eq_true rfl, Nat.le_of_ble_eq_true rfl⟩) (mt_preV hP hD hK hS hA hG [1, 2] rfl (by decide) (q := (RX0, TX0, 3)) (ci := 1) (q0 := 1) rfl rfl) rfl rfl hl.1 rfl (lv_room (Nat.le_of_ble_eq_true rfl)) dX7_putWord_36 ⟨accB_c (by omega) (by omega) (by omega), accB_s (by omega) (by omega) (by omega)⟩) hP hD hS hA [1, 2] [0] rfl rfl (by decide) (by decide) (fun r36 u H locs hw hP hD hS => ?_)
      obtain ⟨rm2_36, fw2_36⟩ := u
      have hP : va_P D vwCl [(h0, .inr (8, [.ref xp, .ref ou, .int bd])), (ou, .inr (1, [.int (nI 6000), .ref rm2_36, .int (nI (mB (L + i + 1)))])), (rm2_36, .inl (cy 0, capB (L + i + 1), .inl fw2_36))] H := hP
      have hD : va_D A [(h0, .inr (8, [.ref xp, .ref ou, .int bd])), (ou, .inr (1, [.int (nI 6000), .ref rm2_36, .int (nI (mB (L + i + 1)))])), (rm2_36, .inl (cy 0, capB (L + i + 1), .inl fw2_36))] := hD
      replace hw : sb_Fit fw2_36 := hw
      refine W.widen (k := ccB (L + i + 1) - ccB (L)) (n := ssB (L + i + 1) - ssB (L)) (accB_c2 (by omega) (by omega)) (accB_s2 (by omega) (by omega)) ?_
      have hfw0 := hw
      refine lv_pop hx hb dX7_putWord_39 rfl ?_
      refine lv_iinc (v := nI (i + 1)) (lv' := [(2, .int (nI (i + 1))), (0, .ref h0), (1, .ref (e (10 + k)))]) hx hb dX7_putWord_40 hl (k := 0) rfl (nI_1 i) (by decide) rfl (fun ls hl => ?_)
      refine lv_goto (tgt := 19) hx hb dX7_putWord_43 (by decide) ?_
      exact ih19 ((i + 1), rm2_36, fw2_36) _ _ ls ⟨hP.sub [0, 1, 2] rfl, hD.sub [0, 1, 2] (by decide) rfl, hS, lv_sub hl [0, 1, 2] rfl, ⟨by omega, hfw0⟩⟩ (by (try dsimp only); omega)
  · have hbz := bz_1 (b := bd) c4
    refine lv_aload_n hx hb dX7_putWord_7 rfl (lv_at hl 0 rfl) ?_
    refine va_get (D := D) (ci := 8) (v := .ref ou) (C := RX7) (T := TX7) (N := 3) hx hb hts iX7 hown hK hP 0 rfl rfl 1 (by decide) (hts (.fieldLink RX7 14 "InterlockTables$Writer" "out" "LInterlockTables$Bytes;") (by decide +kernel)) (fun _ h9 => h9) rfl dX7_putWord_8 ?_
    refine lv_bipush (v := 32) hx hb dX7_putWord_11 (by decide +kernel) ?_
    refine mt_calli (wr := [(h0, .inr (8, [.ref xp, .ref ou, .int bd]))]) (va_runV (As := [.int 32]) (rest := []) ⟨hx, hb, hml, hown, hts⟩ (c_addL l D cy e ou 32 L rm fw s.heap.size hfw0) (cwV 1 hts gX7_putWord_X0_add rfl rfl rfl (by decide +kernel) ⟨Nat.le_of_ble_eq_true rfl, Nat.le_of_ble_eq_true rfl⟩) (mt_preV hP hD hK hS hA hG [1, 2] rfl (by decide) (q := (RX0, TX0, 3)) (ci := 1) (q0 := 1) rfl rfl) rfl rfl hl.1 rfl (lv_room (Nat.le_of_ble_eq_true rfl)) dX7_putWord_13 ⟨accB_c (by omega) (by omega) (by omega), accB_s (by omega) (by omega) (by omega)⟩) hP hD hS hA [1, 2] [0] rfl rfl (by decide) (by decide) (fun r13 u H locs hw hP hD hS => ?_)
    obtain ⟨rm2_13, fw2_13⟩ := u
    have hP : va_P D vwCl [(h0, .inr (8, [.ref xp, .ref ou, .int bd])), (ou, .inr (1, [.int (nI 6000), .ref rm2_13, .int (nI (mB (L + 1)))])), (rm2_13, .inl (cy 0, capB (L + 1), .inl fw2_13))] H := hP
    have hD : va_D A [(h0, .inr (8, [.ref xp, .ref ou, .int bd])), (ou, .inr (1, [.int (nI 6000), .ref rm2_13, .int (nI (mB (L + 1)))])), (rm2_13, .inl (cy 0, capB (L + 1), .inl fw2_13))] := hD
    replace hw : sb_Fit fw2_13 := hw
    refine W.widen (k := ccB (L + 1) - ccB (L)) (n := ssB (L + 1) - ssB (L)) (accB_c2 (by omega) (by omega)) (accB_s2 (by omega) (by omega)) ?_
    have hfw0 := hw
    refine lv_pop hx hb dX7_putWord_16 rfl ?_
    refine lv_iconst (v := 0) hx hb dX7_putWord_17 (by decide +kernel) ?_
    refine lv_topi (fun x_2 ex_2 => ?_)
    obtain rfl : x_2 = nI 0 := by rw [ex_2]; exact nI_0.symm
    refine lv_istore_n (lv' := [(2, .int (nI 0)), (0, .ref h0), (1, .ref (e (10 + k)))]) hx hb dX7_putWord_18 rfl hl (by decide) rfl (fun ls hl => ?_)
    refine W.widen (k := ccB (L + 1 + 0) - ccB (L)) (n := ssB (L + 1 + 0) - ssB (L)) (Nat.le_of_eq rfl) (Nat.le_of_eq rfl) ?_
    have hl9 : (sbs.getD k []).length < 100 := sbs_len k hk
    have hLb : L + 1 = L + 1 + 0 := rfl
    rw [hLb] at hP hD
    have hP : va_P D vwCl [(h0, .inr (8, [.ref xp, .ref ou, .int bd])), (ou, .inr (1, [.int (nI 6000), .ref rm2_13, .int (nI (mB (L + 1 + 0)))])), (rm2_13, .inl (cy 0, capB (L + 1 + 0), .inl fw2_13))] H := hP
    have hD : va_D A [(h0, .inr (8, [.ref xp, .ref ou, .int bd])), (ou, .inr (1, [.int (nI 6000), .ref rm2_13, .int (nI (mB (L + 1 + 0)))])), (rm2_13, .inl (cy 0, capB (L + 1 + 0), .inl fw2_13))] := hD
    refine lp_Wx (σ := Nat × Nat × (Nat → Int32)) (Wf := fun zz9 H locs ls => W p l ev _ s m _ below meth c H locs (ccB (L + 1 + zz9.1) - ccB (L)) (ssB (L + 1 + zz9.1) - ssB (L)) _ (F0 m 19 ls [])) (fun zz9 H locs ls => match zz9 with | (i, rm1, f1) => va_P D vwCl [(h0, .inr (8, [.ref xp, .ref ou, .int bd])), (ou, .inr (1, [.int (nI 6000), .ref rm1, .int (nI (mB (L + 1 + i)))])), (rm1, .inl (cy 0, capB (L + 1 + i), .inl f1))] H ∧ va_D A [(h0, .inr (8, [.ref xp, .ref ou, .int bd])), (ou, .inr (1, [.int (nI 6000), .ref rm1, .int (nI (mB (L + 1 + i)))])), (rm1, .inl (cy 0, capB (L + 1 + i), .inl f1))] ∧ va_S A s.heap H locs ∧ lv_has ls 3 [(2, .int (nI i)), (0, .ref h0), (1, .ref (e (10 + k)))] ∧ (i ≤ wln k ∧ sb_Fit f1)) (fun zz9 => match zz9 with | (i, rm1, f1) => wln k - i) ?_ (0, rm2_13, fw2_13) _ _ ls ⟨hP, hD, hS, lv_sub hl [0, 1, 2] rfl, ⟨Nat.zero_le _, hfw0⟩⟩
    intro zz9 H locs ls hI ih
    obtain ⟨i, rm1, f1⟩ := zz9
    obtain ⟨hP, hD, hS, hl, hI⟩ := hI
    dsimp only
    have ih19 := ih
    have hI19 := hI
    have hP : va_P D vwCl [(h0, .inr (8, [.ref xp, .ref ou, .int bd])), (ou, .inr (1, [.int (nI 6000), .ref rm1, .int (nI (mB (L + 1 + i)))])), (rm1, .inl (cy 0, capB (L + 1 + i), .inl f1))] H := hP
    have hD : va_D A [(h0, .inr (8, [.ref xp, .ref ou, .int bd])), (ou, .inr (1, [.int (nI 6000), .ref rm1, .int (nI (mB (L + 1 + i)))])), (rm1, .inl (cy 0, capB (L + 1 + i), .inl f1))] := hD
    have hl : lv_has ls 3 [(2, .int (nI i)), (0, .ref h0), (1, .ref (e (10 + k)))] := hl
    obtain ⟨hI1, hfw0⟩ := hI
    refine lv_iload_n hx hb dX7_putWord_19 rfl (lv_at hl 0 rfl) ?_
    refine lv_aload_n hx hb dX7_putWord_20 rfl (lv_at hl 2 rfl) ?_
    refine pu_calli (va_runV (As := []) (rest := [.int (nI i)]) ⟨hx, hb, hml, hown, hts⟩ (c_Str_length l D cy e k (by first | assumption | omega | decide +kernel)) (cwV 0 hts gX7_putWord_J0_length_8abf5 rfl rfl rfl (by decide +kernel) ⟨Nat.le_of_ble_eq_true rfl, Nat.le_of_ble_eq_true rfl⟩) (pu_preVs hP hK hS hG [] rfl (hG.gX.1 k hk).1) rfl rfl hl.1 rfl (lv_room (Nat.le_of_ble_eq_true rfl)) dX7_putWord_21 ⟨rmB_c (by omega), rmB_s (by omega)⟩) hP hS (fun H locs hP hS => ?_)
    have hP : va_P D vwCl [(h0, .inr (8, [.ref xp, .ref ou, .int bd])), (ou, .inr (1, [.int (nI 6000), .ref rm1, .int (nI (mB (L + 1 + i)))])), (rm1, .inl (cy 0, capB (L + 1 + i), .inl f1))] H := hP
    refine lv_icmp_ge (tgt := 46) hx hb dX7_putWord_24 (by decide) (fun c24 => ?_) (fun c24 => ?_)
    · have hi : i = wln k := by have h9 := (nI_leI (by omega) (by unfold wln at hI1; omega)).mp c24; unfold wln at hI1 ⊢; omega
      refine lv_aload_n hx hb dX7_putWord_46 rfl (lv_at hl 1 rfl) ?_
      refine lv_iconst (v := 1) hx hb dX7_putWord_47 (by decide +kernel) ?_
      refine va_put (D := D) (ci := 8) (v := .int 1) (ty := .boolean) (C := RX7) (T := TX7) (N := 3) hx hb hts iX7 tyX7 tyX7_ok nmX7 hown hK hP hD hS 0 rfl rfl 2 (by decide) (hts (.fieldLink RX7 74 "InterlockTables$Writer" "blankDue" "Z") (by decide +kernel)) (fun _ h9 => h9) rfl (by decide +kernel) rfl rfl (Nat.le_of_ble_eq_true rfl) dX7_putWord_48 (fun H locs hP hD hS => ?_)
      have hP : va_P D vwCl [(h0, .inr (8, [.ref xp, .ref ou, .int 1])), (ou, .inr (1, [.int (nI 6000), .ref rm1, .int (nI (mB (L + 1 + i)))])), (rm1, .inl (cy 0, capB (L + 1 + i), .inl f1))] H := hP
      have hD : va_D A [(h0, .inr (8, [.ref xp, .ref ou, .int 1])), (ou, .inr (1, [.int (nI 6000), .ref rm1, .int (nI (mB (L + 1 + i)))])), (rm1, .inl (cy 0, capB (L + 1 + i), .inl f1))] := hD
      have hLe : L + 1 + i = L + (bz bd + wln k) := by omega
      rw [hLe] at hP hD
      have hP : va_P D vwCl [(h0, .inr (8, [.ref xp, .ref ou, .int 1])), (ou, .inr (1, [.int (nI 6000), .ref rm1, .int (nI (mB (L + (bz bd + wln k))))])), (rm1, .inl (cy 0, capB (L + (bz bd + wln k)), .inl f1))] H := hP
      have hD : va_D A [(h0, .inr (8, [.ref xp, .ref ou, .int 1])), (ou, .inr (1, [.int (nI 6000), .ref rm1, .int (nI (mB (L + (bz bd + wln k))))])), (rm1, .inl (cy 0, capB (L + (bz bd + wln k)), .inl f1))] := hD
      have hP9 : va_P D vwCl [(h0, .inr (8, [.ref xp, .ref ou, .int 1])), (ou, .inr (1, [.int (nI 6000), .ref rm1, .int (nI (mB (L + (bz bd + wln k))))])), (rm1, .inl (cy 0, capB (L + (bz bd + wln k)), .inl f1))] H := hP.sub [0, 1, 2] rfl
      have hD9 : va_D A [(h0, .inr (8, [.ref xp, .ref ou, .int 1])), (ou, .inr (1, [.int (nI 6000), .ref rm1, .int (nI (mB (L + (bz bd + wln k))))])), (rm1, .inl (cy 0, capB (L + (bz bd + wln k)), .inl f1))] := hD.sub [0, 1, 2] (by decide) rfl
      refine W.widen (k := ccB (L + (bz bd + wln k)) - ccB L) (n := ssB (L + (bz bd + wln k)) - ssB L) (Nat.le_of_eq (by rw [hLe])) (Nat.le_of_eq (by rw [hLe])) ?_
      exact W.vret hx hb hr (fun t ht hW => ⟨⟨(rm1, f1), rfl, hfw0, by rw [ht]; exact hP9, hD9⟩, hS.F ht⟩) hS.2.2 dX7_putWord_51
    · have hi : i < wln k := pk_nle (by unfold wln at hI1; omega) c24
      refine lv_aload_n hx hb dX7_putWord_27 rfl (lv_at hl 1 rfl) ?_
      refine va_get (D := D) (ci := 8) (v := .ref ou) (C := RX7) (T := TX7) (N := 3) hx hb hts iX7 hown hK hP 0 rfl rfl 1 (by decide) (hts (.fieldLink RX7 14 "InterlockTables$Writer" "out" "LInterlockTables$Bytes;") (by decide +kernel)) (fun _ h9 => h9) rfl dX7_putWord_28 ?_
      refine lv_aload_n hx hb dX7_putWord_31 rfl (lv_at hl 2 rfl) ?_
      refine lv_iload_n hx hb dX7_putWord_32 rfl (lv_at hl 0 rfl) ?_
      refine pu_callni (va_runV (As := [.int (nI i)]) (rest := [.ref ou]) ⟨hx, hb, hml, hown, hts⟩ (c_Str_charAt l D cy e k i hk hi hl9) (cwV 1 hts gX7_putWord_J0_charAt_5068e rfl rfl rfl (by decide +kernel) ⟨Nat.le_of_ble_eq_true rfl, Nat.le_of_ble_eq_true rfl⟩) (pu_preVs hP hK hS hG [] rfl (hG.gX.1 k hk).1) rfl rfl hl.1 rfl (lv_room (Nat.le_of_ble_eq_true rfl)) dX7_putWord_33 ⟨rmB_c (by omega), rmB_s (by omega)⟩) hP hS (fun r33 H locs hw hP hS => ?_)
      have hP : va_P D vwCl [(h0, .inr (8, [.ref xp, .ref ou, .int bd])), (ou, .inr (1, [.int (nI 6000), .ref rm1, .int (nI (mB (L + 1 + i)))])), (rm1, .inl (cy 0, capB (L + 1 + i), .inl f1))] H := hP
      replace hw : narrow .char (.int r33) = .int r33 ∧ r33 = (sbs.getD k []).getD i 0 := hw
      clear hw
      refine mt_calli (wr := [(h0, .inr (8, [.ref xp, .ref ou, .int bd]))]) (va_runV (As := [.int r33]) (rest := []) ⟨hx, hb, hml, hown, hts⟩ (c_addL l D cy e ou r33 (L + 1 + i) rm1 f1 H.size hfw0) (cwV 1 hts gX7_putWord_X0_add rfl rfl rfl (by decide +kernel) ⟨Nat.le_of_ble_eq_true rfl, Nat.le_of_ble_eq_true rfl⟩) (mt_preV hP hD hK hS hA hG [1, 2] rfl (by decide) (q := (RX0, TX0, 3)) (ci := 1) (q0 := 1) rfl rfl) rfl rfl hl.1 rfl (lv_room (Nat.le_of_ble_eq_true rfl)) dX7_putWord_36 ⟨accB_c (by omega) (by omega) (by omega), accB_s (by omega) (by omega) (by omega)⟩) hP hD hS hA [1, 2] [0] rfl rfl (by decide) (by decide) (fun r36 u H locs hw hP hD hS => ?_)
      obtain ⟨rm2_36, fw2_36⟩ := u
      have hP : va_P D vwCl [(h0, .inr (8, [.ref xp, .ref ou, .int bd])), (ou, .inr (1, [.int (nI 6000), .ref rm2_36, .int (nI (mB (L + 1 + i + 1)))])), (rm2_36, .inl (cy 0, capB (L + 1 + i + 1), .inl fw2_36))] H := hP
      have hD : va_D A [(h0, .inr (8, [.ref xp, .ref ou, .int bd])), (ou, .inr (1, [.int (nI 6000), .ref rm2_36, .int (nI (mB (L + 1 + i + 1)))])), (rm2_36, .inl (cy 0, capB (L + 1 + i + 1), .inl fw2_36))] := hD
      replace hw : sb_Fit fw2_36 := hw
      refine W.widen (k := ccB (L + 1 + i + 1) - ccB (L)) (n := ssB (L + 1 + i + 1) - ssB (L)) (accB_c2 (by omega) (by omega)) (accB_s2 (by omega) (by omega)) ?_
      have hfw0 := hw
      refine lv_pop hx hb dX7_putWord_39 rfl ?_
      refine lv_iinc (v := nI (i + 1)) (lv' := [(2, .int (nI (i + 1))), (0, .ref h0), (1, .ref (e (10 + k)))]) hx hb dX7_putWord_40 hl (k := 0) rfl (nI_1 i) (by decide) rfl (fun ls hl => ?_)
      refine lv_goto (tgt := 19) hx hb dX7_putWord_43 (by decide) ?_
      exact ih19 ((i + 1), rm2_36, fw2_36) _ _ ls ⟨hP.sub [0, 1, 2] rfl, hD.sub [0, 1, 2] (by decide) rfl, hS, lv_sub hl [0, 1, 2] rfl, ⟨by omega, hfw0⟩⟩ (by (try dsimp only); omega)

set_option maxHeartbeats 4000000 in
set_option maxRecDepth 100000 in
/-- putDigits -/
theorem c_putDigits (l : Launch) (D : va_G) (cy : Nat → ClassId) (e : Nat → Nat)  (h0 : Nat) (xp : Nat) (ou : Nat) (bd : Int32) (x : Int32) (L : Nat) (rm : Nat) (fw : Nat → Int32) (sz : Nat) (hfw : sb_Fit fw) : Met l yX7_putDigits wsX7_putDigits ({ frames := 3, cells := ccB (L + (dg x)) - ccB L, slots := ssB (L + (dg x)) - ssB L, locals := 103 }) (va_Pc [.ref h0, .int x] (mt_B D cy e [(h0, .inr (8, [.ref xp, .ref ou, .int bd])), (ou, .inr (1, [.int (nI 6000), .ref rm, .int (nI (mB L))])), (rm, .inl (cy 0, capB L, .inl fw))] sz)) (va_Qv (fun (u : Nat × (Nat → Int32)) => match u with | (rm2, fw2) => sb_Fit fw2) (mt_Q D (fun (u : Nat × (Nat → Int32)) => match u with | (rm2, fw2) => [(h0, .inr (8, [.ref xp, .ref ou, .int bd])), (ou, .inr (1, [.int (nI 6000), .ref rm2, .int (nI (mB (L + (dg x))))])), (rm2, .inl (cy 0, capB (L + (dg x)), .inl fw2))]) (va_A [(h0, .inr (8, [.ref xp, .ref ou, .int bd])), (ou, .inr (1, [.int (nI 6000), .ref rm, .int (nI (mB L))])), (rm, .inl (cy 0, capB L, .inl fw))] sz)) (va_A [(h0, .inr (8, [.ref xp, .ref ou, .int bd])), (ou, .inr (1, [.int (nI 6000), .ref rm, .int (nI (mB L))])), (rm, .inl (cy 0, capB L, .inl fw))] sz)) (ccB (L + (dg x)) - ccB L) (ssB (L + (dg x)) - ssB L) (va_A [(h0, .inr (8, [.ref xp, .ref ou, .int bd])), (ou, .inr (1, [.int (nI 6000), .ref rm, .int (nI (mB L))])), (rm, .inl (cy 0, capB L, .inl fw))] sz) := by
  refine Met.ofW (cc := cX7_putDigits) (maxL := 3) (ret := none) (by decide) rfl ?_
  intro p ev s m args below meth c s₁ B hml hv
  obtain ⟨rfl, hsz, hP, hK, hD0, hG⟩ := hv
  have hx := B.exec
  have hb := B.bytes
  have hr := B.returns
  have hts := atoms_spec (ws := wsX7_putDigits) B.pre
  have hown : s.vm.findClass RX7 = some m.cls := findClass_of_methodNamed B.named
  have hlocks := B.notSynchronized
  subst hsz
  have hD := hD0.self (sz := s.heap.size)
  generalize hAe : va_A [(h0, .inr (8, [.ref xp, .ref ou, .int bd])), (ou, .inr (1, [.int (nI 6000), .ref rm, .int (nI (mB L))])), (rm, .inl (cy 0, capB L, .inl fw))] s.heap.size = A at hD hG ⊢
  have hA : ∀ q : Nat, s.heap.size ≤ q → A q := fun q h => by rw [← hAe]; exact Or.inr h
  have hS : va_S A s.heap s.heap [] := va_S.rf
  have hP : va_P D vwCl [(h0, .inr (8, [.ref xp, .ref ou, .int bd])), (ou, .inr (1, [.int (nI 6000), .ref rm, .int (nI (mB L))])), (rm, .inl (cy 0, capB L, .inl fw))] s.heap := hP
  have iX7 : ∀ w ∈ wsX70, w ∈ wsX7_putDigits := fun w h => List.mem_cons_of_mem _ (List.mem_append_left _ (List.mem_append_right _ h))
  have iX0 : ∀ w ∈ wsX00, w ∈ wsX7_putDigits := fun w h => List.mem_cons_of_mem _ (List.mem_append_right _ h)
  have hl := lv_entry ([.ref h0, .int x]) (n := 3) (Nat.le_of_ble_eq_true rfl)
  rw [lg_entry_eq]
  generalize (lg_sl ([.ref h0, .int x]) ++ List.replicate (3 - (lg_sl ([.ref h0, .int x])).length) Slot.unset).toArray = ls at hl ⊢
  have hl : lv_has ls 3 [(0, .ref h0), (1, .int x)] := hl
  have hfw0 := hfw
  refine W.widen (k := ccB (L) - ccB (L)) (n := ssB (L) - ssB (L)) (Nat.zero_le _) (Nat.zero_le _) ?_
  rcases dg_cases x with ⟨hdg, h1000, h100, h10⟩ | ⟨hdg, h1000, h100, h10⟩ | ⟨hdg, h1000, h100, h10⟩ | ⟨hdg, h1000, h100, h10⟩
  · skip
    refine lv_sipush (v := 1000) hx hb dX7_putDigits_0 (by decide +kernel) ?_
    refine lv_istore_n (lv' := [(2, .int 1000), (0, .ref h0), (1, .int x)]) hx hb dX7_putDigits_3 rfl hl (by decide) rfl (fun ls hl => ?_)
    refine lv_iload_n hx hb dX7_putDigits_4 rfl (lv_at hl 0 rfl) ?_
    refine lv_iconst (v := 1) hx hb dX7_putDigits_5 (by decide +kernel) ?_
    refine lv_icmp_lt (tgt := 44) hx hb dX7_putDigits_6 (by decide) (fun c6 => absurd c6 (by decide)) (fun _ => ?_)
    refine lv_iload_n hx hb dX7_putDigits_9 rfl (lv_at hl 2 rfl) ?_
    refine lv_iload_n hx hb dX7_putDigits_10 rfl (lv_at hl 0 rfl) ?_
    refine lv_icmp_ge (tgt := 19) hx hb dX7_putDigits_11 (by decide) (fun _ => ?_) (fun c11 => absurd h1000 c11)
    refine lv_aload_n hx hb dX7_putDigits_19 rfl (lv_at hl 1 rfl) ?_
    refine va_get (D := D) (ci := 8) (v := .ref ou) (C := RX7) (T := TX7) (N := 3) hx hb hts iX7 hown hK hP 0 rfl rfl 1 (by decide) (hts (.fieldLink RX7 14 "InterlockTables$Writer" "out" "LInterlockTables$Bytes;") (by decide +kernel)) (fun _ h9 => h9) rfl dX7_putDigits_20 ?_
    refine lv_bipush (v := 48) hx hb dX7_putDigits_23 (by decide +kernel) ?_
    refine lv_iload_n hx hb dX7_putDigits_25 rfl (lv_at hl 2 rfl) ?_
    refine lv_iload_n hx hb dX7_putDigits_26 rfl (lv_at hl 0 rfl) ?_
    refine lv_idiv hx hb dX7_putDigits_27 (by decide) ?_
    refine lv_bipush (v := 10) hx hb dX7_putDigits_28 (by decide +kernel) ?_
    refine lv_irem hx hb dX7_putDigits_30 (by decide) ?_
    refine lv_iadd hx hb dX7_putDigits_31 ?_
    refine mt_calli (wr := [(h0, .inr (8, [.ref xp, .ref ou, .int bd]))]) (va_runV (As := [.int (48 + ((x / 1000) - (x / 1000) / 10 * 10))]) (rest := []) ⟨hx, hb, hml, hown, hts⟩ (c_addL l D cy e ou (48 + ((x / 1000) - (x / 1000) / 10 * 10)) L rm fw s.heap.size hfw0) (cwV 1 hts gX7_putDigits_X0_add rfl rfl rfl (by decide +kernel) ⟨Nat.le_of_ble_eq_true rfl, Nat.le_of_ble_eq_true rfl⟩) (mt_preV hP hD hK hS hA hG [1, 2] rfl (by decide) (q := (RX0, TX0, 3)) (ci := 1) (q0 := 1) rfl rfl) rfl rfl hl.1 rfl (lv_room (Nat.le_of_ble_eq_true rfl)) dX7_putDigits_32 ⟨accB_c (by omega) (by omega) (by omega), accB_s (by omega) (by omega) (by omega)⟩) hP hD hS hA [1, 2] [0] rfl rfl (by decide) (by decide) (fun r32 u H locs hw hP hD hS => ?_)
    obtain ⟨rm2_32, fw2_32⟩ := u
    have hP : va_P D vwCl [(h0, .inr (8, [.ref xp, .ref ou, .int bd])), (ou, .inr (1, [.int (nI 6000), .ref rm2_32, .int (nI (mB (L + 1)))])), (rm2_32, .inl (cy 0, capB (L + 1), .inl fw2_32))] H := hP
    have hD : va_D A [(h0, .inr (8, [.ref xp, .ref ou, .int bd])), (ou, .inr (1, [.int (nI 6000), .ref rm2_32, .int (nI (mB (L + 1)))])), (rm2_32, .inl (cy 0, capB (L + 1), .inl fw2_32))] := hD
    replace hw : sb_Fit fw2_32 := hw
    refine W.widen (k := ccB (L + 1) - ccB (L)) (n := ssB (L + 1) - ssB (L)) (accB_c2 (by omega) (by omega)) (accB_s2 (by omega) (by omega)) ?_
    have hfw0 := hw
    refine lv_pop hx hb dX7_putDigits_35 rfl ?_
    refine lv_iload_n hx hb dX7_putDigits_36 rfl (lv_at hl 0 rfl) ?_
    refine lv_bipush (v := 10) hx hb dX7_putDigits_37 (by decide +kernel) ?_
    refine lv_idiv hx hb dX7_putDigits_39 (by decide) ?_
    refine lv_topi (fun x_1 ex_1 => ?_)
    obtain rfl : x_1 = 100 := by rw [ex_1]; decide
    refine lv_istore_n (lv' := [(2, .int 100), (0, .ref h0), (1, .int x)]) hx hb dX7_putDigits_40 rfl hl (by decide) rfl (fun ls hl => ?_)
    refine lv_goto (tgt := 4) hx hb dX7_putDigits_41 (by decide) ?_
    refine lv_iload_n hx hb dX7_putDigits_4 rfl (lv_at hl 0 rfl) ?_
    refine lv_iconst (v := 1) hx hb dX7_putDigits_5 (by decide +kernel) ?_
    refine lv_icmp_lt (tgt := 44) hx hb dX7_putDigits_6 (by decide) (fun c6 => absurd c6 (by decide)) (fun _ => ?_)
    refine lv_iload_n hx hb dX7_putDigits_9 rfl (lv_at hl 2 rfl) ?_
    refine lv_iload_n hx hb dX7_putDigits_10 rfl (lv_at hl 0 rfl) ?_
    refine lv_icmp_ge (tgt := 19) hx hb dX7_putDigits_11 (by decide) (fun _ => ?_) (fun c11 => absurd h100 c11)
    refine lv_aload_n hx hb dX7_putDigits_19 rfl (lv_at hl 1 rfl) ?_
    refine va_get (D := D) (ci := 8) (v := .ref ou) (C := RX7) (T := TX7) (N := 3) hx hb hts iX7 hown hK hP 0 rfl rfl 1 (by decide) (hts (.fieldLink RX7 14 "InterlockTables$Writer" "out" "LInterlockTables$Bytes;") (by decide +kernel)) (fun _ h9 => h9) rfl dX7_putDigits_20 ?_
    refine lv_bipush (v := 48) hx hb dX7_putDigits_23 (by decide +kernel) ?_
    refine lv_iload_n hx hb dX7_putDigits_25 rfl (lv_at hl 2 rfl) ?_
    refine lv_iload_n hx hb dX7_putDigits_26 rfl (lv_at hl 0 rfl) ?_
    refine lv_idiv hx hb dX7_putDigits_27 (by decide) ?_
    refine lv_bipush (v := 10) hx hb dX7_putDigits_28 (by decide +kernel) ?_
    refine lv_irem hx hb dX7_putDigits_30 (by decide) ?_
    refine lv_iadd hx hb dX7_putDigits_31 ?_
    refine mt_calli (wr := [(h0, .inr (8, [.ref xp, .ref ou, .int bd]))]) (va_runV (As := [.int (48 + ((x / 100) - (x / 100) / 10 * 10))]) (rest := []) ⟨hx, hb, hml, hown, hts⟩ (c_addL l D cy e ou (48 + ((x / 100) - (x / 100) / 10 * 10)) (L + 1) rm2_32 fw2_32 H.size hfw0) (cwV 1 hts gX7_putDigits_X0_add rfl rfl rfl (by decide +kernel) ⟨Nat.le_of_ble_eq_true rfl, Nat.le_of_ble_eq_true rfl⟩) (mt_preV hP hD hK hS hA hG [1, 2] rfl (by decide) (q := (RX0, TX0, 3)) (ci := 1) (q0 := 1) rfl rfl) rfl rfl hl.1 rfl (lv_room (Nat.le_of_ble_eq_true rfl)) dX7_putDigits_32 ⟨accB_c (by omega) (by omega) (by omega), accB_s (by omega) (by omega) (by omega)⟩) hP hD hS hA [1, 2] [0] rfl rfl (by decide) (by decide) (fun r32 u H locs hw hP hD hS => ?_)
    obtain ⟨rm2_32, fw2_32⟩ := u
    have hP : va_P D vwCl [(h0, .inr (8, [.ref xp, .ref ou, .int bd])), (ou, .inr (1, [.int (nI 6000), .ref rm2_32, .int (nI (mB (L + 1 + 1)))])), (rm2_32, .inl (cy 0, capB (L + 1 + 1), .inl fw2_32))] H := hP
    have hD : va_D A [(h0, .inr (8, [.ref xp, .ref ou, .int bd])), (ou, .inr (1, [.int (nI 6000), .ref rm2_32, .int (nI (mB (L + 1 + 1)))])), (rm2_32, .inl (cy 0, capB (L + 1 + 1), .inl fw2_32))] := hD
    replace hw : sb_Fit fw2_32 := hw
    refine W.widen (k := ccB (L + 1 + 1) - ccB (L)) (n := ssB (L + 1 + 1) - ssB (L)) (accB_c2 (by omega) (by omega)) (accB_s2 (by omega) (by omega)) ?_
    have hfw0 := hw
    refine lv_pop hx hb dX7_putDigits_35 rfl ?_
    refine lv_iload_n hx hb dX7_putDigits_36 rfl (lv_at hl 0 rfl) ?_
    refine lv_bipush (v := 10) hx hb dX7_putDigits_37 (by decide +kernel) ?_
    refine lv_idiv hx hb dX7_putDigits_39 (by decide) ?_
    refine lv_topi (fun x_2 ex_2 => ?_)
    obtain rfl : x_2 = 10 := by rw [ex_2]; decide
    refine lv_istore_n (lv' := [(2, .int 10), (0, .ref h0), (1, .int x)]) hx hb dX7_putDigits_40 rfl hl (by decide) rfl (fun ls hl => ?_)
    refine lv_goto (tgt := 4) hx hb dX7_putDigits_41 (by decide) ?_
    refine lv_iload_n hx hb dX7_putDigits_4 rfl (lv_at hl 0 rfl) ?_
    refine lv_iconst (v := 1) hx hb dX7_putDigits_5 (by decide +kernel) ?_
    refine lv_icmp_lt (tgt := 44) hx hb dX7_putDigits_6 (by decide) (fun c6 => absurd c6 (by decide)) (fun _ => ?_)
    refine lv_iload_n hx hb dX7_putDigits_9 rfl (lv_at hl 2 rfl) ?_
    refine lv_iload_n hx hb dX7_putDigits_10 rfl (lv_at hl 0 rfl) ?_
    refine lv_icmp_ge (tgt := 19) hx hb dX7_putDigits_11 (by decide) (fun _ => ?_) (fun c11 => absurd h10 c11)
    refine lv_aload_n hx hb dX7_putDigits_19 rfl (lv_at hl 1 rfl) ?_
    refine va_get (D := D) (ci := 8) (v := .ref ou) (C := RX7) (T := TX7) (N := 3) hx hb hts iX7 hown hK hP 0 rfl rfl 1 (by decide) (hts (.fieldLink RX7 14 "InterlockTables$Writer" "out" "LInterlockTables$Bytes;") (by decide +kernel)) (fun _ h9 => h9) rfl dX7_putDigits_20 ?_
    refine lv_bipush (v := 48) hx hb dX7_putDigits_23 (by decide +kernel) ?_
    refine lv_iload_n hx hb dX7_putDigits_25 rfl (lv_at hl 2 rfl) ?_
    refine lv_iload_n hx hb dX7_putDigits_26 rfl (lv_at hl 0 rfl) ?_
    refine lv_idiv hx hb dX7_putDigits_27 (by decide) ?_
    refine lv_bipush (v := 10) hx hb dX7_putDigits_28 (by decide +kernel) ?_
    refine lv_irem hx hb dX7_putDigits_30 (by decide) ?_
    refine lv_iadd hx hb dX7_putDigits_31 ?_
    refine mt_calli (wr := [(h0, .inr (8, [.ref xp, .ref ou, .int bd]))]) (va_runV (As := [.int (48 + ((x / 10) - (x / 10) / 10 * 10))]) (rest := []) ⟨hx, hb, hml, hown, hts⟩ (c_addL l D cy e ou (48 + ((x / 10) - (x / 10) / 10 * 10)) (L + 1 + 1) rm2_32 fw2_32 H.size hfw0) (cwV 1 hts gX7_putDigits_X0_add rfl rfl rfl (by decide +kernel) ⟨Nat.le_of_ble_eq_true rfl, Nat.le_of_ble_eq_true rfl⟩) (mt_preV hP hD hK hS hA hG [1, 2] rfl (by decide) (q := (RX0, TX0, 3)) (ci := 1) (q0 := 1) rfl rfl) rfl rfl hl.1 rfl (lv_room (Nat.le_of_ble_eq_true rfl)) dX7_putDigits_32 ⟨accB_c (by omega) (by omega) (by omega), accB_s (by omega) (by omega) (by omega)⟩) hP hD hS hA [1, 2] [0] rfl rfl (by decide) (by decide) (fun r32 u H locs hw hP hD hS => ?_)
    obtain ⟨rm2_32, fw2_32⟩ := u
    have hP : va_P D vwCl [(h0, .inr (8, [.ref xp, .ref ou, .int bd])), (ou, .inr (1, [.int (nI 6000), .ref rm2_32, .int (nI (mB (L + 1 + 1 + 1)))])), (rm2_32, .inl (cy 0, capB (L + 1 + 1 + 1), .inl fw2_32))] H := hP
    have hD : va_D A [(h0, .inr (8, [.ref xp, .ref ou, .int bd])), (ou, .inr (1, [.int (nI 6000), .ref rm2_32, .int (nI (mB (L + 1 + 1 + 1)))])), (rm2_32, .inl (cy 0, capB (L + 1 + 1 + 1), .inl fw2_32))] := hD
    replace hw : sb_Fit fw2_32 := hw
    refine W.widen (k := ccB (L + 1 + 1 + 1) - ccB (L)) (n := ssB (L + 1 + 1 + 1) - ssB (L)) (accB_c2 (by omega) (by omega)) (accB_s2 (by omega) (by omega)) ?_
    have hfw0 := hw
    refine lv_pop hx hb dX7_putDigits_35 rfl ?_
    refine lv_iload_n hx hb dX7_putDigits_36 rfl (lv_at hl 0 rfl) ?_
    refine lv_bipush (v := 10) hx hb dX7_putDigits_37 (by decide +kernel) ?_
    refine lv_idiv hx hb dX7_putDigits_39 (by decide) ?_
    refine lv_topi (fun x_3 ex_3 => ?_)
    obtain rfl : x_3 = 1 := by rw [ex_3]; decide
    refine lv_istore_n (lv' := [(2, .int 1), (0, .ref h0), (1, .int x)]) hx hb dX7_putDigits_40 rfl hl (by decide) rfl (fun ls hl => ?_)
    refine lv_goto (tgt := 4) hx hb dX7_putDigits_41 (by decide) ?_
    refine lv_iload_n hx hb dX7_putDigits_4 rfl (lv_at hl 0 rfl) ?_
    refine lv_iconst (v := 1) hx hb dX7_putDigits_5 (by decide +kernel) ?_
    refine lv_icmp_lt (tgt := 44) hx hb dX7_putDigits_6 (by decide) (fun c6 => absurd c6 (by decide)) (fun _ => ?_)
    refine lv_iload_n hx hb dX7_putDigits_9 rfl (lv_at hl 2 rfl) ?_
    refine lv_iload_n hx hb dX7_putDigits_10 rfl (lv_at hl 0 rfl) ?_
    refine lv_icmp_ge (tgt := 19) hx hb dX7_putDigits_11 (by decide) (fun c11 => ?_) (fun c11 => ?_)
    · refine lv_aload_n hx hb dX7_putDigits_19 rfl (lv_at hl 1 rfl) ?_
      refine va_get (D := D) (ci := 8) (v := .ref ou) (C := RX7) (T := TX7) (N := 3) hx hb hts iX7 hown hK hP 0 rfl rfl 1 (by decide) (hts (.fieldLink RX7 14 "InterlockTables$Writer" "out" "LInterlockTables$Bytes;") (by decide +kernel)) (fun _ h9 => h9) rfl dX7_putDigits_20 ?_
      refine lv_bipush (v := 48) hx hb dX7_putDigits_23 (by decide +kernel) ?_
      refine lv_iload_n hx hb dX7_putDigits_25 rfl (lv_at hl 2 rfl) ?_
      refine lv_iload_n hx hb dX7_putDigits_26 rfl (lv_at hl 0 rfl) ?_
      refine lv_idiv hx hb dX7_putDigits_27 (by decide) ?_
      refine lv_bipush (v := 10) hx hb dX7_putDigits_28 (by decide +kernel) ?_
      refine lv_irem hx hb dX7_putDigits_30 (by decide) ?_
      refine lv_iadd hx hb dX7_putDigits_31 ?_
      refine mt_calli (wr := [(h0, .inr (8, [.ref xp, .ref ou, .int bd]))]) (va_runV (As := [.int (48 + ((x / 1) - (x / 1) / 10 * 10))]) (rest := []) ⟨hx, hb, hml, hown, hts⟩ (c_addL l D cy e ou (48 + ((x / 1) - (x / 1) / 10 * 10)) (L + 1 + 1 + 1) rm2_32 fw2_32 H.size hfw0) (cwV 1 hts gX7_putDigits_X0_add rfl rfl rfl (by decide +kernel) ⟨Nat.le_of_ble_eq_true rfl, Nat.le_of_ble_eq_true rfl⟩) (mt_preV hP hD hK hS hA hG [1, 2] rfl (by decide) (q := (RX0, TX0, 3)) (ci := 1) (q0 := 1) rfl rfl) rfl rfl hl.1 rfl (lv_room (Nat.le_of_ble_eq_true rfl)) dX7_putDigits_32 ⟨accB_c (by omega) (by omega) (by omega), accB_s (by omega) (by omega) (by omega)⟩) hP hD hS hA [1, 2] [0] rfl rfl (by decide) (by decide) (fun r32 u H locs hw hP hD hS => ?_)
      obtain ⟨rm2_32, fw2_32⟩ := u
      have hP : va_P D vwCl [(h0, .inr (8, [.ref xp, .ref ou, .int bd])), (ou, .inr (1, [.int (nI 6000), .ref rm2_32, .int (nI (mB (L + 1 + 1 + 1 + 1)))])), (rm2_32, .inl (cy 0, capB (L + 1 + 1 + 1 + 1), .inl fw2_32))] H := hP
      have hD : va_D A [(h0, .inr (8, [.ref xp, .ref ou, .int bd])), (ou, .inr (1, [.int (nI 6000), .ref rm2_32, .int (nI (mB (L + 1 + 1 + 1 + 1)))])), (rm2_32, .inl (cy 0, capB (L + 1 + 1 + 1 + 1), .inl fw2_32))] := hD
      replace hw : sb_Fit fw2_32 := hw
      refine W.widen (k := ccB (L + 1 + 1 + 1 + 1) - ccB (L)) (n := ssB (L + 1 + 1 + 1 + 1) - ssB (L)) (accB_c2 (by omega) (by omega)) (accB_s2 (by omega) (by omega)) ?_
      have hfw0 := hw
      refine lv_pop hx hb dX7_putDigits_35 rfl ?_
      refine lv_iload_n hx hb dX7_putDigits_36 rfl (lv_at hl 0 rfl) ?_
      refine lv_bipush (v := 10) hx hb dX7_putDigits_37 (by decide +kernel) ?_
      refine lv_idiv hx hb dX7_putDigits_39 (by decide) ?_
      refine lv_topi (fun x_4 ex_4 => ?_)
      obtain rfl : x_4 = 0 := by rw [ex_4]; decide
      refine lv_istore_n (lv' := [(2, .int 0), (0, .ref h0), (1, .int x)]) hx hb dX7_putDigits_40 rfl hl (by decide) rfl (fun ls hl => ?_)
      refine lv_goto (tgt := 4) hx hb dX7_putDigits_41 (by decide) ?_
      refine lv_iload_n hx hb dX7_putDigits_4 rfl (lv_at hl 0 rfl) ?_
      refine lv_iconst (v := 1) hx hb dX7_putDigits_5 (by decide +kernel) ?_
      refine lv_icmp_lt (tgt := 44) hx hb dX7_putDigits_6 (by decide) (fun _ => ?_) (fun c6 => absurd (by decide) c6)
      have hLe : L + 1 + 1 + 1 + 1 = L + (dg x) := by omega
      rw [hLe] at hP hD
      have hP : va_P D vwCl [(h0, .inr (8, [.ref xp, .ref ou, .int bd])), (ou, .inr (1, [.int (nI 6000), .ref rm2_32, .int (nI (mB (L + (dg x))))])), (rm2_32, .inl (cy 0, capB (L + (dg x)), .inl fw2_32))] H := hP
      have hD : va_D A [(h0, .inr (8, [.ref xp, .ref ou, .int bd])), (ou, .inr (1, [.int (nI 6000), .ref rm2_32, .int (nI (mB (L + (dg x))))])), (rm2_32, .inl (cy 0, capB (L + (dg x)), .inl fw2_32))] := hD
      have hP9 : va_P D vwCl [(h0, .inr (8, [.ref xp, .ref ou, .int bd])), (ou, .inr (1, [.int (nI 6000), .ref rm2_32, .int (nI (mB (L + (dg x))))])), (rm2_32, .inl (cy 0, capB (L + (dg x)), .inl fw2_32))] H := hP.sub [0, 1, 2] rfl
      have hD9 : va_D A [(h0, .inr (8, [.ref xp, .ref ou, .int bd])), (ou, .inr (1, [.int (nI 6000), .ref rm2_32, .int (nI (mB (L + (dg x))))])), (rm2_32, .inl (cy 0, capB (L + (dg x)), .inl fw2_32))] := hD.sub [0, 1, 2] (by decide) rfl
      refine W.widen (k := ccB (L + (dg x)) - ccB L) (n := ssB (L + (dg x)) - ssB L) (Nat.le_of_eq (by rw [hLe])) (Nat.le_of_eq (by rw [hLe])) ?_
      exact W.vret hx hb hr (fun t ht hW => ⟨⟨(rm2_32, fw2_32), rfl, hfw0, by rw [ht]; exact hP9, hD9⟩, hS.F ht⟩) hS.2.2 dX7_putDigits_44
    · refine lv_iload_n hx hb dX7_putDigits_14 rfl (lv_at hl 0 rfl) ?_
      refine lv_iconst (v := 1) hx hb dX7_putDigits_15 (by decide +kernel) ?_
      refine lv_icmp_ne (tgt := 36) hx hb dX7_putDigits_16 (by decide) (fun c16 => absurd rfl c16) (fun _ => ?_)
      refine lv_aload_n hx hb dX7_putDigits_19 rfl (lv_at hl 1 rfl) ?_
      refine va_get (D := D) (ci := 8) (v := .ref ou) (C := RX7) (T := TX7) (N := 3) hx hb hts iX7 hown hK hP 0 rfl rfl 1 (by decide) (hts (.fieldLink RX7 14 "InterlockTables$Writer" "out" "LInterlockTables$Bytes;") (by decide +kernel)) (fun _ h9 => h9) rfl dX7_putDigits_20 ?_
      refine lv_bipush (v := 48) hx hb dX7_putDigits_23 (by decide +kernel) ?_
      refine lv_iload_n hx hb dX7_putDigits_25 rfl (lv_at hl 2 rfl) ?_
      refine lv_iload_n hx hb dX7_putDigits_26 rfl (lv_at hl 0 rfl) ?_
      refine lv_idiv hx hb dX7_putDigits_27 (by decide) ?_
      refine lv_bipush (v := 10) hx hb dX7_putDigits_28 (by decide +kernel) ?_
      refine lv_irem hx hb dX7_putDigits_30 (by decide) ?_
      refine lv_iadd hx hb dX7_putDigits_31 ?_
      refine mt_calli (wr := [(h0, .inr (8, [.ref xp, .ref ou, .int bd]))]) (va_runV (As := [.int (48 + ((x / 1) - (x / 1) / 10 * 10))]) (rest := []) ⟨hx, hb, hml, hown, hts⟩ (c_addL l D cy e ou (48 + ((x / 1) - (x / 1) / 10 * 10)) (L + 1 + 1 + 1) rm2_32 fw2_32 H.size hfw0) (cwV 1 hts gX7_putDigits_X0_add rfl rfl rfl (by decide +kernel) ⟨Nat.le_of_ble_eq_true rfl, Nat.le_of_ble_eq_true rfl⟩) (mt_preV hP hD hK hS hA hG [1, 2] rfl (by decide) (q := (RX0, TX0, 3)) (ci := 1) (q0 := 1) rfl rfl) rfl rfl hl.1 rfl (lv_room (Nat.le_of_ble_eq_true rfl)) dX7_putDigits_32 ⟨accB_c (by omega) (by omega) (by omega), accB_s (by omega) (by omega) (by omega)⟩) hP hD hS hA [1, 2] [0] rfl rfl (by decide) (by decide) (fun r32 u H locs hw hP hD hS => ?_)
      obtain ⟨rm2_32, fw2_32⟩ := u
      have hP : va_P D vwCl [(h0, .inr (8, [.ref xp, .ref ou, .int bd])), (ou, .inr (1, [.int (nI 6000), .ref rm2_32, .int (nI (mB (L + 1 + 1 + 1 + 1)))])), (rm2_32, .inl (cy 0, capB (L + 1 + 1 + 1 + 1), .inl fw2_32))] H := hP
      have hD : va_D A [(h0, .inr (8, [.ref xp, .ref ou, .int bd])), (ou, .inr (1, [.int (nI 6000), .ref rm2_32, .int (nI (mB (L + 1 + 1 + 1 + 1)))])), (rm2_32, .inl (cy 0, capB (L + 1 + 1 + 1 + 1), .inl fw2_32))] := hD
      replace hw : sb_Fit fw2_32 := hw
      refine W.widen (k := ccB (L + 1 + 1 + 1 + 1) - ccB (L)) (n := ssB (L + 1 + 1 + 1 + 1) - ssB (L)) (accB_c2 (by omega) (by omega)) (accB_s2 (by omega) (by omega)) ?_
      have hfw0 := hw
      refine lv_pop hx hb dX7_putDigits_35 rfl ?_
      refine lv_iload_n hx hb dX7_putDigits_36 rfl (lv_at hl 0 rfl) ?_
      refine lv_bipush (v := 10) hx hb dX7_putDigits_37 (by decide +kernel) ?_
      refine lv_idiv hx hb dX7_putDigits_39 (by decide) ?_
      refine lv_topi (fun x_5 ex_5 => ?_)
      obtain rfl : x_5 = 0 := by rw [ex_5]; decide
      refine lv_istore_n (lv' := [(2, .int 0), (0, .ref h0), (1, .int x)]) hx hb dX7_putDigits_40 rfl hl (by decide) rfl (fun ls hl => ?_)
      refine lv_goto (tgt := 4) hx hb dX7_putDigits_41 (by decide) ?_
      refine lv_iload_n hx hb dX7_putDigits_4 rfl (lv_at hl 0 rfl) ?_
      refine lv_iconst (v := 1) hx hb dX7_putDigits_5 (by decide +kernel) ?_
      refine lv_icmp_lt (tgt := 44) hx hb dX7_putDigits_6 (by decide) (fun _ => ?_) (fun c6 => absurd (by decide) c6)
      have hLe : L + 1 + 1 + 1 + 1 = L + (dg x) := by omega
      rw [hLe] at hP hD
      have hP : va_P D vwCl [(h0, .inr (8, [.ref xp, .ref ou, .int bd])), (ou, .inr (1, [.int (nI 6000), .ref rm2_32, .int (nI (mB (L + (dg x))))])), (rm2_32, .inl (cy 0, capB (L + (dg x)), .inl fw2_32))] H := hP
      have hD : va_D A [(h0, .inr (8, [.ref xp, .ref ou, .int bd])), (ou, .inr (1, [.int (nI 6000), .ref rm2_32, .int (nI (mB (L + (dg x))))])), (rm2_32, .inl (cy 0, capB (L + (dg x)), .inl fw2_32))] := hD
      have hP9 : va_P D vwCl [(h0, .inr (8, [.ref xp, .ref ou, .int bd])), (ou, .inr (1, [.int (nI 6000), .ref rm2_32, .int (nI (mB (L + (dg x))))])), (rm2_32, .inl (cy 0, capB (L + (dg x)), .inl fw2_32))] H := hP.sub [0, 1, 2] rfl
      have hD9 : va_D A [(h0, .inr (8, [.ref xp, .ref ou, .int bd])), (ou, .inr (1, [.int (nI 6000), .ref rm2_32, .int (nI (mB (L + (dg x))))])), (rm2_32, .inl (cy 0, capB (L + (dg x)), .inl fw2_32))] := hD.sub [0, 1, 2] (by decide) rfl
      refine W.widen (k := ccB (L + (dg x)) - ccB L) (n := ssB (L + (dg x)) - ssB L) (Nat.le_of_eq (by rw [hLe])) (Nat.le_of_eq (by rw [hLe])) ?_
      exact W.vret hx hb hr (fun t ht hW => ⟨⟨(rm2_32, fw2_32), rfl, hfw0, by rw [ht]; exact hP9, hD9⟩, hS.F ht⟩) hS.2.2 dX7_putDigits_44
  · skip
    refine lv_sipush (v := 1000) hx hb dX7_putDigits_0 (by decide +kernel) ?_
    refine lv_istore_n (lv' := [(2, .int 1000), (0, .ref h0), (1, .int x)]) hx hb dX7_putDigits_3 rfl hl (by decide) rfl (fun ls hl => ?_)
    refine lv_iload_n hx hb dX7_putDigits_4 rfl (lv_at hl 0 rfl) ?_
    refine lv_iconst (v := 1) hx hb dX7_putDigits_5 (by decide +kernel) ?_
    refine lv_icmp_lt (tgt := 44) hx hb dX7_putDigits_6 (by decide) (fun c6 => absurd c6 (by decide)) (fun _ => ?_)
    refine lv_iload_n hx hb dX7_putDigits_9 rfl (lv_at hl 2 rfl) ?_
    refine lv_iload_n hx hb dX7_putDigits_10 rfl (lv_at hl 0 rfl) ?_
    refine lv_icmp_ge (tgt := 19) hx hb dX7_putDigits_11 (by decide) (fun c11 => absurd c11 h1000) (fun _ => ?_)
    refine lv_iload_n hx hb dX7_putDigits_14 rfl (lv_at hl 0 rfl) ?_
    refine lv_iconst (v := 1) hx hb dX7_putDigits_15 (by decide +kernel) ?_
    refine lv_icmp_ne (tgt := 36) hx hb dX7_putDigits_16 (by decide) (fun _ => ?_) (fun c16 => absurd c16 (by decide))
    refine lv_iload_n hx hb dX7_putDigits_36 rfl (lv_at hl 0 rfl) ?_
    refine lv_bipush (v := 10) hx hb dX7_putDigits_37 (by decide +kernel) ?_
    refine lv_idiv hx hb dX7_putDigits_39 (by decide) ?_
    refine lv_topi (fun x_6 ex_6 => ?_)
    obtain rfl : x_6 = 100 := by rw [ex_6]; decide
    refine lv_istore_n (lv' := [(2, .int 100), (0, .ref h0), (1, .int x)]) hx hb dX7_putDigits_40 rfl hl (by decide) rfl (fun ls hl => ?_)
    refine lv_goto (tgt := 4) hx hb dX7_putDigits_41 (by decide) ?_
    refine lv_iload_n hx hb dX7_putDigits_4 rfl (lv_at hl 0 rfl) ?_
    refine lv_iconst (v := 1) hx hb dX7_putDigits_5 (by decide +kernel) ?_
    refine lv_icmp_lt (tgt := 44) hx hb dX7_putDigits_6 (by decide) (fun c6 => absurd c6 (by decide)) (fun _ => ?_)
    refine lv_iload_n hx hb dX7_putDigits_9 rfl (lv_at hl 2 rfl) ?_
    refine lv_iload_n hx hb dX7_putDigits_10 rfl (lv_at hl 0 rfl) ?_
    refine lv_icmp_ge (tgt := 19) hx hb dX7_putDigits_11 (by decide) (fun _ => ?_) (fun c11 => absurd h100 c11)
    refine lv_aload_n hx hb dX7_putDigits_19 rfl (lv_at hl 1 rfl) ?_
    refine va_get (D := D) (ci := 8) (v := .ref ou) (C := RX7) (T := TX7) (N := 3) hx hb hts iX7 hown hK hP 0 rfl rfl 1 (by decide) (hts (.fieldLink RX7 14 "InterlockTables$Writer" "out" "LInterlockTables$Bytes;") (by decide +kernel)) (fun _ h9 => h9) rfl dX7_putDigits_20 ?_
    refine lv_bipush (v := 48) hx hb dX7_putDigits_23 (by decide +kernel) ?_
    refine lv_iload_n hx hb dX7_putDigits_25 rfl (lv_at hl 2 rfl) ?_
    refine lv_iload_n hx hb dX7_putDigits_26 rfl (lv_at hl 0 rfl) ?_
    refine lv_idiv hx hb dX7_putDigits_27 (by decide) ?_
    refine lv_bipush (v := 10) hx hb dX7_putDigits_28 (by decide +kernel) ?_
    refine lv_irem hx hb dX7_putDigits_30 (by decide) ?_
    refine lv_iadd hx hb dX7_putDigits_31 ?_
    refine mt_calli (wr := [(h0, .inr (8, [.ref xp, .ref ou, .int bd]))]) (va_runV (As := [.int (48 + ((x / 100) - (x / 100) / 10 * 10))]) (rest := []) ⟨hx, hb, hml, hown, hts⟩ (c_addL l D cy e ou (48 + ((x / 100) - (x / 100) / 10 * 10)) L rm fw s.heap.size hfw0) (cwV 1 hts gX7_putDigits_X0_add rfl rfl rfl (by decide +kernel) ⟨Nat.le_of_ble_eq_true rfl, Nat.le_of_ble_eq_true rfl⟩) (mt_preV hP hD hK hS hA hG [1, 2] rfl (by decide) (q := (RX0, TX0, 3)) (ci := 1) (q0 := 1) rfl rfl) rfl rfl hl.1 rfl (lv_room (Nat.le_of_ble_eq_true rfl)) dX7_putDigits_32 ⟨accB_c (by omega) (by omega) (by omega), accB_s (by omega) (by omega) (by omega)⟩) hP hD hS hA [1, 2] [0] rfl rfl (by decide) (by decide) (fun r32 u H locs hw hP hD hS => ?_)
    obtain ⟨rm2_32, fw2_32⟩ := u
    have hP : va_P D vwCl [(h0, .inr (8, [.ref xp, .ref ou, .int bd])), (ou, .inr (1, [.int (nI 6000), .ref rm2_32, .int (nI (mB (L + 1)))])), (rm2_32, .inl (cy 0, capB (L + 1), .inl fw2_32))] H := hP
    have hD : va_D A [(h0, .inr (8, [.ref xp, .ref ou, .int bd])), (ou, .inr (1, [.int (nI 6000), .ref rm2_32, .int (nI (mB (L + 1)))])), (rm2_32, .inl (cy 0, capB (L + 1), .inl fw2_32))] := hD
    replace hw : sb_Fit fw2_32 := hw
    refine W.widen (k := ccB (L + 1) - ccB (L)) (n := ssB (L + 1) - ssB (L)) (accB_c2 (by omega) (by omega)) (accB_s2 (by omega) (by omega)) ?_
    have hfw0 := hw
    refine lv_pop hx hb dX7_putDigits_35 rfl ?_
    refine lv_iload_n hx hb dX7_putDigits_36 rfl (lv_at hl 0 rfl) ?_
    refine lv_bipush (v := 10) hx hb dX7_putDigits_37 (by decide +kernel) ?_
    refine lv_idiv hx hb dX7_putDigits_39 (by decide) ?_
    refine lv_topi (fun x_7 ex_7 => ?_)
    obtain rfl : x_7 = 10 := by rw [ex_7]; decide
    refine lv_istore_n (lv' := [(2, .int 10), (0, .ref h0), (1, .int x)]) hx hb dX7_putDigits_40 rfl hl (by decide) rfl (fun ls hl => ?_)
    refine lv_goto (tgt := 4) hx hb dX7_putDigits_41 (by decide) ?_
    refine lv_iload_n hx hb dX7_putDigits_4 rfl (lv_at hl 0 rfl) ?_
    refine lv_iconst (v := 1) hx hb dX7_putDigits_5 (by decide +kernel) ?_
    refine lv_icmp_lt (tgt := 44) hx hb dX7_putDigits_6 (by decide) (fun c6 => absurd c6 (by decide)) (fun _ => ?_)
    refine lv_iload_n hx hb dX7_putDigits_9 rfl (lv_at hl 2 rfl) ?_
    refine lv_iload_n hx hb dX7_putDigits_10 rfl (lv_at hl 0 rfl) ?_
    refine lv_icmp_ge (tgt := 19) hx hb dX7_putDigits_11 (by decide) (fun _ => ?_) (fun c11 => absurd h10 c11)
    refine lv_aload_n hx hb dX7_putDigits_19 rfl (lv_at hl 1 rfl) ?_
    refine va_get (D := D) (ci := 8) (v := .ref ou) (C := RX7) (T := TX7) (N := 3) hx hb hts iX7 hown hK hP 0 rfl rfl 1 (by decide) (hts (.fieldLink RX7 14 "InterlockTables$Writer" "out" "LInterlockTables$Bytes;") (by decide +kernel)) (fun _ h9 => h9) rfl dX7_putDigits_20 ?_
    refine lv_bipush (v := 48) hx hb dX7_putDigits_23 (by decide +kernel) ?_
    refine lv_iload_n hx hb dX7_putDigits_25 rfl (lv_at hl 2 rfl) ?_
    refine lv_iload_n hx hb dX7_putDigits_26 rfl (lv_at hl 0 rfl) ?_
    refine lv_idiv hx hb dX7_putDigits_27 (by decide) ?_
    refine lv_bipush (v := 10) hx hb dX7_putDigits_28 (by decide +kernel) ?_
    refine lv_irem hx hb dX7_putDigits_30 (by decide) ?_
    refine lv_iadd hx hb dX7_putDigits_31 ?_
    refine mt_calli (wr := [(h0, .inr (8, [.ref xp, .ref ou, .int bd]))]) (va_runV (As := [.int (48 + ((x / 10) - (x / 10) / 10 * 10))]) (rest := []) ⟨hx, hb, hml, hown, hts⟩ (c_addL l D cy e ou (48 + ((x / 10) - (x / 10) / 10 * 10)) (L + 1) rm2_32 fw2_32 H.size hfw0) (cwV 1 hts gX7_putDigits_X0_add rfl rfl rfl (by decide +kernel) ⟨Nat.le_of_ble_eq_true rfl, Nat.le_of_ble_eq_true rfl⟩) (mt_preV hP hD hK hS hA hG [1, 2] rfl (by decide) (q := (RX0, TX0, 3)) (ci := 1) (q0 := 1) rfl rfl) rfl rfl hl.1 rfl (lv_room (Nat.le_of_ble_eq_true rfl)) dX7_putDigits_32 ⟨accB_c (by omega) (by omega) (by omega), accB_s (by omega) (by omega) (by omega)⟩) hP hD hS hA [1, 2] [0] rfl rfl (by decide) (by decide) (fun r32 u H locs hw hP hD hS => ?_)
    obtain ⟨rm2_32, fw2_32⟩ := u
    have hP : va_P D vwCl [(h0, .inr (8, [.ref xp, .ref ou, .int bd])), (ou, .inr (1, [.int (nI 6000), .ref rm2_32, .int (nI (mB (L + 1 + 1)))])), (rm2_32, .inl (cy 0, capB (L + 1 + 1), .inl fw2_32))] H := hP
    have hD : va_D A [(h0, .inr (8, [.ref xp, .ref ou, .int bd])), (ou, .inr (1, [.int (nI 6000), .ref rm2_32, .int (nI (mB (L + 1 + 1)))])), (rm2_32, .inl (cy 0, capB (L + 1 + 1), .inl fw2_32))] := hD
    replace hw : sb_Fit fw2_32 := hw
    refine W.widen (k := ccB (L + 1 + 1) - ccB (L)) (n := ssB (L + 1 + 1) - ssB (L)) (accB_c2 (by omega) (by omega)) (accB_s2 (by omega) (by omega)) ?_
    have hfw0 := hw
    refine lv_pop hx hb dX7_putDigits_35 rfl ?_
    refine lv_iload_n hx hb dX7_putDigits_36 rfl (lv_at hl 0 rfl) ?_
    refine lv_bipush (v := 10) hx hb dX7_putDigits_37 (by decide +kernel) ?_
    refine lv_idiv hx hb dX7_putDigits_39 (by decide) ?_
    refine lv_topi (fun x_8 ex_8 => ?_)
    obtain rfl : x_8 = 1 := by rw [ex_8]; decide
    refine lv_istore_n (lv' := [(2, .int 1), (0, .ref h0), (1, .int x)]) hx hb dX7_putDigits_40 rfl hl (by decide) rfl (fun ls hl => ?_)
    refine lv_goto (tgt := 4) hx hb dX7_putDigits_41 (by decide) ?_
    refine lv_iload_n hx hb dX7_putDigits_4 rfl (lv_at hl 0 rfl) ?_
    refine lv_iconst (v := 1) hx hb dX7_putDigits_5 (by decide +kernel) ?_
    refine lv_icmp_lt (tgt := 44) hx hb dX7_putDigits_6 (by decide) (fun c6 => absurd c6 (by decide)) (fun _ => ?_)
    refine lv_iload_n hx hb dX7_putDigits_9 rfl (lv_at hl 2 rfl) ?_
    refine lv_iload_n hx hb dX7_putDigits_10 rfl (lv_at hl 0 rfl) ?_
    refine lv_icmp_ge (tgt := 19) hx hb dX7_putDigits_11 (by decide) (fun c11 => ?_) (fun c11 => ?_)
    · refine lv_aload_n hx hb dX7_putDigits_19 rfl (lv_at hl 1 rfl) ?_
      refine va_get (D := D) (ci := 8) (v := .ref ou) (C := RX7) (T := TX7) (N := 3) hx hb hts iX7 hown hK hP 0 rfl rfl 1 (by decide) (hts (.fieldLink RX7 14 "InterlockTables$Writer" "out" "LInterlockTables$Bytes;") (by decide +kernel)) (fun _ h9 => h9) rfl dX7_putDigits_20 ?_
      refine lv_bipush (v := 48) hx hb dX7_putDigits_23 (by decide +kernel) ?_
      refine lv_iload_n hx hb dX7_putDigits_25 rfl (lv_at hl 2 rfl) ?_
      refine lv_iload_n hx hb dX7_putDigits_26 rfl (lv_at hl 0 rfl) ?_
      refine lv_idiv hx hb dX7_putDigits_27 (by decide) ?_
      refine lv_bipush (v := 10) hx hb dX7_putDigits_28 (by decide +kernel) ?_
      refine lv_irem hx hb dX7_putDigits_30 (by decide) ?_
      refine lv_iadd hx hb dX7_putDigits_31 ?_
      refine mt_calli (wr := [(h0, .inr (8, [.ref xp, .ref ou, .int bd]))]) (va_runV (As := [.int (48 + ((x / 1) - (x / 1) / 10 * 10))]) (rest := []) ⟨hx, hb, hml, hown, hts⟩ (c_addL l D cy e ou (48 + ((x / 1) - (x / 1) / 10 * 10)) (L + 1 + 1) rm2_32 fw2_32 H.size hfw0) (cwV 1 hts gX7_putDigits_X0_add rfl rfl rfl (by decide +kernel) ⟨Nat.le_of_ble_eq_true rfl, Nat.le_of_ble_eq_true rfl⟩) (mt_preV hP hD hK hS hA hG [1, 2] rfl (by decide) (q := (RX0, TX0, 3)) (ci := 1) (q0 := 1) rfl rfl) rfl rfl hl.1 rfl (lv_room (Nat.le_of_ble_eq_true rfl)) dX7_putDigits_32 ⟨accB_c (by omega) (by omega) (by omega), accB_s (by omega) (by omega) (by omega)⟩) hP hD hS hA [1, 2] [0] rfl rfl (by decide) (by decide) (fun r32 u H locs hw hP hD hS => ?_)
      obtain ⟨rm2_32, fw2_32⟩ := u
      have hP : va_P D vwCl [(h0, .inr (8, [.ref xp, .ref ou, .int bd])), (ou, .inr (1, [.int (nI 6000), .ref rm2_32, .int (nI (mB (L + 1 + 1 + 1)))])), (rm2_32, .inl (cy 0, capB (L + 1 + 1 + 1), .inl fw2_32))] H := hP
      have hD : va_D A [(h0, .inr (8, [.ref xp, .ref ou, .int bd])), (ou, .inr (1, [.int (nI 6000), .ref rm2_32, .int (nI (mB (L + 1 + 1 + 1)))])), (rm2_32, .inl (cy 0, capB (L + 1 + 1 + 1), .inl fw2_32))] := hD
      replace hw : sb_Fit fw2_32 := hw
      refine W.widen (k := ccB (L + 1 + 1 + 1) - ccB (L)) (n := ssB (L + 1 + 1 + 1) - ssB (L)) (accB_c2 (by omega) (by omega)) (accB_s2 (by omega) (by omega)) ?_
      have hfw0 := hw
      refine lv_pop hx hb dX7_putDigits_35 rfl ?_
      refine lv_iload_n hx hb dX7_putDigits_36 rfl (lv_at hl 0 rfl) ?_
      refine lv_bipush (v := 10) hx hb dX7_putDigits_37 (by decide +kernel) ?_
      refine lv_idiv hx hb dX7_putDigits_39 (by decide) ?_
      refine lv_topi (fun x_9 ex_9 => ?_)
      obtain rfl : x_9 = 0 := by rw [ex_9]; decide
      refine lv_istore_n (lv' := [(2, .int 0), (0, .ref h0), (1, .int x)]) hx hb dX7_putDigits_40 rfl hl (by decide) rfl (fun ls hl => ?_)
      refine lv_goto (tgt := 4) hx hb dX7_putDigits_41 (by decide) ?_
      refine lv_iload_n hx hb dX7_putDigits_4 rfl (lv_at hl 0 rfl) ?_
      refine lv_iconst (v := 1) hx hb dX7_putDigits_5 (by decide +kernel) ?_
      refine lv_icmp_lt (tgt := 44) hx hb dX7_putDigits_6 (by decide) (fun _ => ?_) (fun c6 => absurd (by decide) c6)
      have hLe : L + 1 + 1 + 1 = L + (dg x) := by omega
      rw [hLe] at hP hD
      have hP : va_P D vwCl [(h0, .inr (8, [.ref xp, .ref ou, .int bd])), (ou, .inr (1, [.int (nI 6000), .ref rm2_32, .int (nI (mB (L + (dg x))))])), (rm2_32, .inl (cy 0, capB (L + (dg x)), .inl fw2_32))] H := hP
      have hD : va_D A [(h0, .inr (8, [.ref xp, .ref ou, .int bd])), (ou, .inr (1, [.int (nI 6000), .ref rm2_32, .int (nI (mB (L + (dg x))))])), (rm2_32, .inl (cy 0, capB (L + (dg x)), .inl fw2_32))] := hD
      have hP9 : va_P D vwCl [(h0, .inr (8, [.ref xp, .ref ou, .int bd])), (ou, .inr (1, [.int (nI 6000), .ref rm2_32, .int (nI (mB (L + (dg x))))])), (rm2_32, .inl (cy 0, capB (L + (dg x)), .inl fw2_32))] H := hP.sub [0, 1, 2] rfl
      have hD9 : va_D A [(h0, .inr (8, [.ref xp, .ref ou, .int bd])), (ou, .inr (1, [.int (nI 6000), .ref rm2_32, .int (nI (mB (L + (dg x))))])), (rm2_32, .inl (cy 0, capB (L + (dg x)), .inl fw2_32))] := hD.sub [0, 1, 2] (by decide) rfl
      refine W.widen (k := ccB (L + (dg x)) - ccB L) (n := ssB (L + (dg x)) - ssB L) (Nat.le_of_eq (by rw [hLe])) (Nat.le_of_eq (by rw [hLe])) ?_
      exact W.vret hx hb hr (fun t ht hW => ⟨⟨(rm2_32, fw2_32), rfl, hfw0, by rw [ht]; exact hP9, hD9⟩, hS.F ht⟩) hS.2.2 dX7_putDigits_44
    · refine lv_iload_n hx hb dX7_putDigits_14 rfl (lv_at hl 0 rfl) ?_
      refine lv_iconst (v := 1) hx hb dX7_putDigits_15 (by decide +kernel) ?_
      refine lv_icmp_ne (tgt := 36) hx hb dX7_putDigits_16 (by decide) (fun c16 => absurd rfl c16) (fun _ => ?_)
      refine lv_aload_n hx hb dX7_putDigits_19 rfl (lv_at hl 1 rfl) ?_
      refine va_get (D := D) (ci := 8) (v := .ref ou) (C := RX7) (T := TX7) (N := 3) hx hb hts iX7 hown hK hP 0 rfl rfl 1 (by decide) (hts (.fieldLink RX7 14 "InterlockTables$Writer" "out" "LInterlockTables$Bytes;") (by decide +kernel)) (fun _ h9 => h9) rfl dX7_putDigits_20 ?_
      refine lv_bipush (v := 48) hx hb dX7_putDigits_23 (by decide +kernel) ?_
      refine lv_iload_n hx hb dX7_putDigits_25 rfl (lv_at hl 2 rfl) ?_
      refine lv_iload_n hx hb dX7_putDigits_26 rfl (lv_at hl 0 rfl) ?_
      refine lv_idiv hx hb dX7_putDigits_27 (by decide) ?_
      refine lv_bipush (v := 10) hx hb dX7_putDigits_28 (by decide +kernel) ?_
      refine lv_irem hx hb dX7_putDigits_30 (by decide) ?_
      refine lv_iadd hx hb dX7_putDigits_31 ?_
      refine mt_calli (wr := [(h0, .inr (8, [.ref xp, .ref ou, .int bd]))]) (va_runV (As := [.int (48 + ((x / 1) - (x / 1) / 10 * 10))]) (rest := []) ⟨hx, hb, hml, hown, hts⟩ (c_addL l D cy e ou (48 + ((x / 1) - (x / 1) / 10 * 10)) (L + 1 + 1) rm2_32 fw2_32 H.size hfw0) (cwV 1 hts gX7_putDigits_X0_add rfl rfl rfl (by decide +kernel) ⟨Nat.le_of_ble_eq_true rfl, Nat.le_of_ble_eq_true rfl⟩) (mt_preV hP hD hK hS hA hG [1, 2] rfl (by decide) (q := (RX0, TX0, 3)) (ci := 1) (q0 := 1) rfl rfl) rfl rfl hl.1 rfl (lv_room (Nat.le_of_ble_eq_true rfl)) dX7_putDigits_32 ⟨accB_c (by omega) (by omega) (by omega), accB_s (by omega) (by omega) (by omega)⟩) hP hD hS hA [1, 2] [0] rfl rfl (by decide) (by decide) (fun r32 u H locs hw hP hD hS => ?_)
      obtain ⟨rm2_32, fw2_32⟩ := u
      have hP : va_P D vwCl [(h0, .inr (8, [.ref xp, .ref ou, .int bd])), (ou, .inr (1, [.int (nI 6000), .ref rm2_32, .int (nI (mB (L + 1 + 1 + 1)))])), (rm2_32, .inl (cy 0, capB (L + 1 + 1 + 1), .inl fw2_32))] H := hP
      have hD : va_D A [(h0, .inr (8, [.ref xp, .ref ou, .int bd])), (ou, .inr (1, [.int (nI 6000), .ref rm2_32, .int (nI (mB (L + 1 + 1 + 1)))])), (rm2_32, .inl (cy 0, capB (L + 1 + 1 + 1), .inl fw2_32))] := hD
      replace hw : sb_Fit fw2_32 := hw
      refine W.widen (k := ccB (L + 1 + 1 + 1) - ccB (L)) (n := ssB (L + 1 + 1 + 1) - ssB (L)) (accB_c2 (by omega) (by omega)) (accB_s2 (by omega) (by omega)) ?_
      have hfw0 := hw
      refine lv_pop hx hb dX7_putDigits_35 rfl ?_
      refine lv_iload_n hx hb dX7_putDigits_36 rfl (lv_at hl 0 rfl) ?_
      refine lv_bipush (v := 10) hx hb dX7_putDigits_37 (by decide +kernel) ?_
      refine lv_idiv hx hb dX7_putDigits_39 (by decide) ?_
      refine lv_topi (fun x_10 ex_10 => ?_)
      obtain rfl : x_10 = 0 := by rw [ex_10]; decide
      refine lv_istore_n (lv' := [(2, .int 0), (0, .ref h0), (1, .int x)]) hx hb dX7_putDigits_40 rfl hl (by decide) rfl (fun ls hl => ?_)
      refine lv_goto (tgt := 4) hx hb dX7_putDigits_41 (by decide) ?_
      refine lv_iload_n hx hb dX7_putDigits_4 rfl (lv_at hl 0 rfl) ?_
      refine lv_iconst (v := 1) hx hb dX7_putDigits_5 (by decide +kernel) ?_
      refine lv_icmp_lt (tgt := 44) hx hb dX7_putDigits_6 (by decide) (fun _ => ?_) (fun c6 => absurd (by decide) c6)
      have hLe : L + 1 + 1 + 1 = L + (dg x) := by omega
      rw [hLe] at hP hD
      have hP : va_P D vwCl [(h0, .inr (8, [.ref xp, .ref ou, .int bd])), (ou, .inr (1, [.int (nI 6000), .ref rm2_32, .int (nI (mB (L + (dg x))))])), (rm2_32, .inl (cy 0, capB (L + (dg x)), .inl fw2_32))] H := hP
      have hD : va_D A [(h0, .inr (8, [.ref xp, .ref ou, .int bd])), (ou, .inr (1, [.int (nI 6000), .ref rm2_32, .int (nI (mB (L + (dg x))))])), (rm2_32, .inl (cy 0, capB (L + (dg x)), .inl fw2_32))] := hD
      have hP9 : va_P D vwCl [(h0, .inr (8, [.ref xp, .ref ou, .int bd])), (ou, .inr (1, [.int (nI 6000), .ref rm2_32, .int (nI (mB (L + (dg x))))])), (rm2_32, .inl (cy 0, capB (L + (dg x)), .inl fw2_32))] H := hP.sub [0, 1, 2] rfl
      have hD9 : va_D A [(h0, .inr (8, [.ref xp, .ref ou, .int bd])), (ou, .inr (1, [.int (nI 6000), .ref rm2_32, .int (nI (mB (L + (dg x))))])), (rm2_32, .inl (cy 0, capB (L + (dg x)), .inl fw2_32))] := hD.sub [0, 1, 2] (by decide) rfl
      refine W.widen (k := ccB (L + (dg x)) - ccB L) (n := ssB (L + (dg x)) - ssB L) (Nat.le_of_eq (by rw [hLe])) (Nat.le_of_eq (by rw [hLe])) ?_
      exact W.vret hx hb hr (fun t ht hW => ⟨⟨(rm2_32, fw2_32), rfl, hfw0, by rw [ht]; exact hP9, hD9⟩, hS.F ht⟩) hS.2.2 dX7_putDigits_44
  · skip
    refine lv_sipush (v := 1000) hx hb dX7_putDigits_0 (by decide +kernel) ?_
    refine lv_istore_n (lv' := [(2, .int 1000), (0, .ref h0), (1, .int x)]) hx hb dX7_putDigits_3 rfl hl (by decide) rfl (fun ls hl => ?_)
    refine lv_iload_n hx hb dX7_putDigits_4 rfl (lv_at hl 0 rfl) ?_
    refine lv_iconst (v := 1) hx hb dX7_putDigits_5 (by decide +kernel) ?_
    refine lv_icmp_lt (tgt := 44) hx hb dX7_putDigits_6 (by decide) (fun c6 => absurd c6 (by decide)) (fun _ => ?_)
    refine lv_iload_n hx hb dX7_putDigits_9 rfl (lv_at hl 2 rfl) ?_
    refine lv_iload_n hx hb dX7_putDigits_10 rfl (lv_at hl 0 rfl) ?_
    refine lv_icmp_ge (tgt := 19) hx hb dX7_putDigits_11 (by decide) (fun c11 => absurd c11 h1000) (fun _ => ?_)
    refine lv_iload_n hx hb dX7_putDigits_14 rfl (lv_at hl 0 rfl) ?_
    refine lv_iconst (v := 1) hx hb dX7_putDigits_15 (by decide +kernel) ?_
    refine lv_icmp_ne (tgt := 36) hx hb dX7_putDigits_16 (by decide) (fun _ => ?_) (fun c16 => absurd c16 (by decide))
    refine lv_iload_n hx hb dX7_putDigits_36 rfl (lv_at hl 0 rfl) ?_
    refine lv_bipush (v := 10) hx hb dX7_putDigits_37 (by decide +kernel) ?_
    refine lv_idiv hx hb dX7_putDigits_39 (by decide) ?_
    refine lv_topi (fun x_11 ex_11 => ?_)
    obtain rfl : x_11 = 100 := by rw [ex_11]; decide
    refine lv_istore_n (lv' := [(2, .int 100), (0, .ref h0), (1, .int x)]) hx hb dX7_putDigits_40 rfl hl (by decide) rfl (fun ls hl => ?_)
    refine lv_goto (tgt := 4) hx hb dX7_putDigits_41 (by decide) ?_
    refine lv_iload_n hx hb dX7_putDigits_4 rfl (lv_at hl 0 rfl) ?_
    refine lv_iconst (v := 1) hx hb dX7_putDigits_5 (by decide +kernel) ?_
    refine lv_icmp_lt (tgt := 44) hx hb dX7_putDigits_6 (by decide) (fun c6 => absurd c6 (by decide)) (fun _ => ?_)
    refine lv_iload_n hx hb dX7_putDigits_9 rfl (lv_at hl 2 rfl) ?_
    refine lv_iload_n hx hb dX7_putDigits_10 rfl (lv_at hl 0 rfl) ?_
    refine lv_icmp_ge (tgt := 19) hx hb dX7_putDigits_11 (by decide) (fun c11 => absurd c11 h100) (fun _ => ?_)
    refine lv_iload_n hx hb dX7_putDigits_14 rfl (lv_at hl 0 rfl) ?_
    refine lv_iconst (v := 1) hx hb dX7_putDigits_15 (by decide +kernel) ?_
    refine lv_icmp_ne (tgt := 36) hx hb dX7_putDigits_16 (by decide) (fun _ => ?_) (fun c16 => absurd c16 (by decide))
    refine lv_iload_n hx hb dX7_putDigits_36 rfl (lv_at hl 0 rfl) ?_
    refine lv_bipush (v := 10) hx hb dX7_putDigits_37 (by decide +kernel) ?_
    refine lv_idiv hx hb dX7_putDigits_39 (by decide) ?_
    refine lv_topi (fun x_12 ex_12 => ?_)
    obtain rfl : x_12 = 10 := by rw [ex_12]; decide
    refine lv_istore_n (lv' := [(2, .int 10), (0, .ref h0), (1, .int x)]) hx hb dX7_putDigits_40 rfl hl (by decide) rfl (fun ls hl => ?_)
    refine lv_goto (tgt := 4) hx hb dX7_putDigits_41 (by decide) ?_
    refine lv_iload_n hx hb dX7_putDigits_4 rfl (lv_at hl 0 rfl) ?_
    refine lv_iconst (v := 1) hx hb dX7_putDigits_5 (by decide +kernel) ?_
    refine lv_icmp_lt (tgt := 44) hx hb dX7_putDigits_6 (by decide) (fun c6 => absurd c6 (by decide)) (fun _ => ?_)
    refine lv_iload_n hx hb dX7_putDigits_9 rfl (lv_at hl 2 rfl) ?_
    refine lv_iload_n hx hb dX7_putDigits_10 rfl (lv_at hl 0 rfl) ?_
    refine lv_icmp_ge (tgt := 19) hx hb dX7_putDigits_11 (by decide) (fun _ => ?_) (fun c11 => absurd h10 c11)
    refine lv_aload_n hx hb dX7_putDigits_19 rfl (lv_at hl 1 rfl) ?_
    refine va_get (D := D) (ci := 8) (v := .ref ou) (C := RX7) (T := TX7) (N := 3) hx hb hts iX7 hown hK hP 0 rfl rfl 1 (by decide) (hts (.fieldLink RX7 14 "InterlockTables$Writer" "out" "LInterlockTables$Bytes;") (by decide +kernel)) (fun _ h9 => h9) rfl dX7_putDigits_20 ?_
    refine lv_bipush (v := 48) hx hb dX7_putDigits_23 (by decide +kernel) ?_
    refine lv_iload_n hx hb dX7_putDigits_25 rfl (lv_at hl 2 rfl) ?_
    refine lv_iload_n hx hb dX7_putDigits_26 rfl (lv_at hl 0 rfl) ?_
    refine lv_idiv hx hb dX7_putDigits_27 (by decide) ?_
    refine lv_bipush (v := 10) hx hb dX7_putDigits_28 (by decide +kernel) ?_
    refine lv_irem hx hb dX7_putDigits_30 (by decide) ?_
    refine lv_iadd hx hb dX7_putDigits_31 ?_
    refine mt_calli (wr := [(h0, .inr (8, [.ref xp, .ref ou, .int bd]))]) (va_runV (As := [.int (48 + ((x / 10) - (x / 10) / 10 * 10))]) (rest := []) ⟨hx, hb, hml, hown, hts⟩ (c_addL l D cy e ou (48 + ((x / 10) - (x / 10) / 10 * 10)) L rm fw s.heap.size hfw0) (cwV 1 hts gX7_putDigits_X0_add rfl rfl rfl (by decide +kernel) ⟨Nat.le_of_ble_eq_true rfl, Nat.le_of_ble_eq_true rfl⟩) (mt_preV hP hD hK hS hA hG [1, 2] rfl (by decide) (q := (RX0, TX0, 3)) (ci := 1) (q0 := 1) rfl rfl) rfl rfl hl.1 rfl (lv_room (Nat.le_of_ble_eq_true rfl)) dX7_putDigits_32 ⟨accB_c (by omega) (by omega) (by omega), accB_s (by omega) (by omega) (by omega)⟩) hP hD hS hA [1, 2] [0] rfl rfl (by decide) (by decide) (fun r32 u H locs hw hP hD hS => ?_)
    obtain ⟨rm2_32, fw2_32⟩ := u
    have hP : va_P D vwCl [(h0, .inr (8, [.ref xp, .ref ou, .int bd])), (ou, .inr (1, [.int (nI 6000), .ref rm2_32, .int (nI (mB (L + 1)))])), (rm2_32, .inl (cy 0, capB (L + 1), .inl fw2_32))] H := hP
    have hD : va_D A [(h0, .inr (8, [.ref xp, .ref ou, .int bd])), (ou, .inr (1, [.int (nI 6000), .ref rm2_32, .int (nI (mB (L + 1)))])), (rm2_32, .inl (cy 0, capB (L + 1), .inl fw2_32))] := hD
    replace hw : sb_Fit fw2_32 := hw
    refine W.widen (k := ccB (L + 1) - ccB (L)) (n := ssB (L + 1) - ssB (L)) (accB_c2 (by omega) (by omega)) (accB_s2 (by omega) (by omega)) ?_
    have hfw0 := hw
    refine lv_pop hx hb dX7_putDigits_35 rfl ?_
    refine lv_iload_n hx hb dX7_putDigits_36 rfl (lv_at hl 0 rfl) ?_
    refine lv_bipush (v := 10) hx hb dX7_putDigits_37 (by decide +kernel) ?_
    refine lv_idiv hx hb dX7_putDigits_39 (by decide) ?_
    refine lv_topi (fun x_13 ex_13 => ?_)
    obtain rfl : x_13 = 1 := by rw [ex_13]; decide
    refine lv_istore_n (lv' := [(2, .int 1), (0, .ref h0), (1, .int x)]) hx hb dX7_putDigits_40 rfl hl (by decide) rfl (fun ls hl => ?_)
    refine lv_goto (tgt := 4) hx hb dX7_putDigits_41 (by decide) ?_
    refine lv_iload_n hx hb dX7_putDigits_4 rfl (lv_at hl 0 rfl) ?_
    refine lv_iconst (v := 1) hx hb dX7_putDigits_5 (by decide +kernel) ?_
    refine lv_icmp_lt (tgt := 44) hx hb dX7_putDigits_6 (by decide) (fun c6 => absurd c6 (by decide)) (fun _ => ?_)
    refine lv_iload_n hx hb dX7_putDigits_9 rfl (lv_at hl 2 rfl) ?_
    refine lv_iload_n hx hb dX7_putDigits_10 rfl (lv_at hl 0 rfl) ?_
    refine lv_icmp_ge (tgt := 19) hx hb dX7_putDigits_11 (by decide) (fun c11 => ?_) (fun c11 => ?_)
    · refine lv_aload_n hx hb dX7_putDigits_19 rfl (lv_at hl 1 rfl) ?_
      refine va_get (D := D) (ci := 8) (v := .ref ou) (C := RX7) (T := TX7) (N := 3) hx hb hts iX7 hown hK hP 0 rfl rfl 1 (by decide) (hts (.fieldLink RX7 14 "InterlockTables$Writer" "out" "LInterlockTables$Bytes;") (by decide +kernel)) (fun _ h9 => h9) rfl dX7_putDigits_20 ?_
      refine lv_bipush (v := 48) hx hb dX7_putDigits_23 (by decide +kernel) ?_
      refine lv_iload_n hx hb dX7_putDigits_25 rfl (lv_at hl 2 rfl) ?_
      refine lv_iload_n hx hb dX7_putDigits_26 rfl (lv_at hl 0 rfl) ?_
      refine lv_idiv hx hb dX7_putDigits_27 (by decide) ?_
      refine lv_bipush (v := 10) hx hb dX7_putDigits_28 (by decide +kernel) ?_
      refine lv_irem hx hb dX7_putDigits_30 (by decide) ?_
      refine lv_iadd hx hb dX7_putDigits_31 ?_
      refine mt_calli (wr := [(h0, .inr (8, [.ref xp, .ref ou, .int bd]))]) (va_runV (As := [.int (48 + ((x / 1) - (x / 1) / 10 * 10))]) (rest := []) ⟨hx, hb, hml, hown, hts⟩ (c_addL l D cy e ou (48 + ((x / 1) - (x / 1) / 10 * 10)) (L + 1) rm2_32 fw2_32 H.size hfw0) (cwV 1 hts gX7_putDigits_X0_add rfl rfl rfl (by decide +kernel) ⟨Nat.le_of_ble_eq_true rfl, Nat.le_of_ble_eq_true rfl⟩) (mt_preV hP hD hK hS hA hG [1, 2] rfl (by decide) (q := (RX0, TX0, 3)) (ci := 1) (q0 := 1) rfl rfl) rfl rfl hl.1 rfl (lv_room (Nat.le_of_ble_eq_true rfl)) dX7_putDigits_32 ⟨accB_c (by omega) (by omega) (by omega), accB_s (by omega) (by omega) (by omega)⟩) hP hD hS hA [1, 2] [0] rfl rfl (by decide) (by decide) (fun r32 u H locs hw hP hD hS => ?_)
      obtain ⟨rm2_32, fw2_32⟩ := u
      have hP : va_P D vwCl [(h0, .inr (8, [.ref xp, .ref ou, .int bd])), (ou, .inr (1, [.int (nI 6000), .ref rm2_32, .int (nI (mB (L + 1 + 1)))])), (rm2_32, .inl (cy 0, capB (L + 1 + 1), .inl fw2_32))] H := hP
      have hD : va_D A [(h0, .inr (8, [.ref xp, .ref ou, .int bd])), (ou, .inr (1, [.int (nI 6000), .ref rm2_32, .int (nI (mB (L + 1 + 1)))])), (rm2_32, .inl (cy 0, capB (L + 1 + 1), .inl fw2_32))] := hD
      replace hw : sb_Fit fw2_32 := hw
      refine W.widen (k := ccB (L + 1 + 1) - ccB (L)) (n := ssB (L + 1 + 1) - ssB (L)) (accB_c2 (by omega) (by omega)) (accB_s2 (by omega) (by omega)) ?_
      have hfw0 := hw
      refine lv_pop hx hb dX7_putDigits_35 rfl ?_
      refine lv_iload_n hx hb dX7_putDigits_36 rfl (lv_at hl 0 rfl) ?_
      refine lv_bipush (v := 10) hx hb dX7_putDigits_37 (by decide +kernel) ?_
      refine lv_idiv hx hb dX7_putDigits_39 (by decide) ?_
      refine lv_topi (fun x_14 ex_14 => ?_)
      obtain rfl : x_14 = 0 := by rw [ex_14]; decide
      refine lv_istore_n (lv' := [(2, .int 0), (0, .ref h0), (1, .int x)]) hx hb dX7_putDigits_40 rfl hl (by decide) rfl (fun ls hl => ?_)
      refine lv_goto (tgt := 4) hx hb dX7_putDigits_41 (by decide) ?_
      refine lv_iload_n hx hb dX7_putDigits_4 rfl (lv_at hl 0 rfl) ?_
      refine lv_iconst (v := 1) hx hb dX7_putDigits_5 (by decide +kernel) ?_
      refine lv_icmp_lt (tgt := 44) hx hb dX7_putDigits_6 (by decide) (fun _ => ?_) (fun c6 => absurd (by decide) c6)
      have hLe : L + 1 + 1 = L + (dg x) := by omega
      rw [hLe] at hP hD
      have hP : va_P D vwCl [(h0, .inr (8, [.ref xp, .ref ou, .int bd])), (ou, .inr (1, [.int (nI 6000), .ref rm2_32, .int (nI (mB (L + (dg x))))])), (rm2_32, .inl (cy 0, capB (L + (dg x)), .inl fw2_32))] H := hP
      have hD : va_D A [(h0, .inr (8, [.ref xp, .ref ou, .int bd])), (ou, .inr (1, [.int (nI 6000), .ref rm2_32, .int (nI (mB (L + (dg x))))])), (rm2_32, .inl (cy 0, capB (L + (dg x)), .inl fw2_32))] := hD
      have hP9 : va_P D vwCl [(h0, .inr (8, [.ref xp, .ref ou, .int bd])), (ou, .inr (1, [.int (nI 6000), .ref rm2_32, .int (nI (mB (L + (dg x))))])), (rm2_32, .inl (cy 0, capB (L + (dg x)), .inl fw2_32))] H := hP.sub [0, 1, 2] rfl
      have hD9 : va_D A [(h0, .inr (8, [.ref xp, .ref ou, .int bd])), (ou, .inr (1, [.int (nI 6000), .ref rm2_32, .int (nI (mB (L + (dg x))))])), (rm2_32, .inl (cy 0, capB (L + (dg x)), .inl fw2_32))] := hD.sub [0, 1, 2] (by decide) rfl
      refine W.widen (k := ccB (L + (dg x)) - ccB L) (n := ssB (L + (dg x)) - ssB L) (Nat.le_of_eq (by rw [hLe])) (Nat.le_of_eq (by rw [hLe])) ?_
      exact W.vret hx hb hr (fun t ht hW => ⟨⟨(rm2_32, fw2_32), rfl, hfw0, by rw [ht]; exact hP9, hD9⟩, hS.F ht⟩) hS.2.2 dX7_putDigits_44
    · refine lv_iload_n hx hb dX7_putDigits_14 rfl (lv_at hl 0 rfl) ?_
      refine lv_iconst (v := 1) hx hb dX7_putDigits_15 (by decide +kernel) ?_
      refine lv_icmp_ne (tgt := 36) hx hb dX7_putDigits_16 (by decide) (fun c16 => absurd rfl c16) (fun _ => ?_)
      refine lv_aload_n hx hb dX7_putDigits_19 rfl (lv_at hl 1 rfl) ?_
      refine va_get (D := D) (ci := 8) (v := .ref ou) (C := RX7) (T := TX7) (N := 3) hx hb hts iX7 hown hK hP 0 rfl rfl 1 (by decide) (hts (.fieldLink RX7 14 "InterlockTables$Writer" "out" "LInterlockTables$Bytes;") (by decide +kernel)) (fun _ h9 => h9) rfl dX7_putDigits_20 ?_
      refine lv_bipush (v := 48) hx hb dX7_putDigits_23 (by decide +kernel) ?_
      refine lv_iload_n hx hb dX7_putDigits_25 rfl (lv_at hl 2 rfl) ?_
      refine lv_iload_n hx hb dX7_putDigits_26 rfl (lv_at hl 0 rfl) ?_
      refine lv_idiv hx hb dX7_putDigits_27 (by decide) ?_
      refine lv_bipush (v := 10) hx hb dX7_putDigits_28 (by decide +kernel) ?_
      refine lv_irem hx hb dX7_putDigits_30 (by decide) ?_
      refine lv_iadd hx hb dX7_putDigits_31 ?_
      refine mt_calli (wr := [(h0, .inr (8, [.ref xp, .ref ou, .int bd]))]) (va_runV (As := [.int (48 + ((x / 1) - (x / 1) / 10 * 10))]) (rest := []) ⟨hx, hb, hml, hown, hts⟩ (c_addL l D cy e ou (48 + ((x / 1) - (x / 1) / 10 * 10)) (L + 1) rm2_32 fw2_32 H.size hfw0) (cwV 1 hts gX7_putDigits_X0_add rfl rfl rfl (by decide +kernel) ⟨Nat.le_of_ble_eq_true rfl, Nat.le_of_ble_eq_true rfl⟩) (mt_preV hP hD hK hS hA hG [1, 2] rfl (by decide) (q := (RX0, TX0, 3)) (ci := 1) (q0 := 1) rfl rfl) rfl rfl hl.1 rfl (lv_room (Nat.le_of_ble_eq_true rfl)) dX7_putDigits_32 ⟨accB_c (by omega) (by omega) (by omega), accB_s (by omega) (by omega) (by omega)⟩) hP hD hS hA [1, 2] [0] rfl rfl (by decide) (by decide) (fun r32 u H locs hw hP hD hS => ?_)
      obtain ⟨rm2_32, fw2_32⟩ := u
      have hP : va_P D vwCl [(h0, .inr (8, [.ref xp, .ref ou, .int bd])), (ou, .inr (1, [.int (nI 6000), .ref rm2_32, .int (nI (mB (L + 1 + 1)))])), (rm2_32, .inl (cy 0, capB (L + 1 + 1), .inl fw2_32))] H := hP
      have hD : va_D A [(h0, .inr (8, [.ref xp, .ref ou, .int bd])), (ou, .inr (1, [.int (nI 6000), .ref rm2_32, .int (nI (mB (L + 1 + 1)))])), (rm2_32, .inl (cy 0, capB (L + 1 + 1), .inl fw2_32))] := hD
      replace hw : sb_Fit fw2_32 := hw
      refine W.widen (k := ccB (L + 1 + 1) - ccB (L)) (n := ssB (L + 1 + 1) - ssB (L)) (accB_c2 (by omega) (by omega)) (accB_s2 (by omega) (by omega)) ?_
      have hfw0 := hw
      refine lv_pop hx hb dX7_putDigits_35 rfl ?_
      refine lv_iload_n hx hb dX7_putDigits_36 rfl (lv_at hl 0 rfl) ?_
      refine lv_bipush (v := 10) hx hb dX7_putDigits_37 (by decide +kernel) ?_
      refine lv_idiv hx hb dX7_putDigits_39 (by decide) ?_
      refine lv_topi (fun x_15 ex_15 => ?_)
      obtain rfl : x_15 = 0 := by rw [ex_15]; decide
      refine lv_istore_n (lv' := [(2, .int 0), (0, .ref h0), (1, .int x)]) hx hb dX7_putDigits_40 rfl hl (by decide) rfl (fun ls hl => ?_)
      refine lv_goto (tgt := 4) hx hb dX7_putDigits_41 (by decide) ?_
      refine lv_iload_n hx hb dX7_putDigits_4 rfl (lv_at hl 0 rfl) ?_
      refine lv_iconst (v := 1) hx hb dX7_putDigits_5 (by decide +kernel) ?_
      refine lv_icmp_lt (tgt := 44) hx hb dX7_putDigits_6 (by decide) (fun _ => ?_) (fun c6 => absurd (by decide) c6)
      have hLe : L + 1 + 1 = L + (dg x) := by omega
      rw [hLe] at hP hD
      have hP : va_P D vwCl [(h0, .inr (8, [.ref xp, .ref ou, .int bd])), (ou, .inr (1, [.int (nI 6000), .ref rm2_32, .int (nI (mB (L + (dg x))))])), (rm2_32, .inl (cy 0, capB (L + (dg x)), .inl fw2_32))] H := hP
      have hD : va_D A [(h0, .inr (8, [.ref xp, .ref ou, .int bd])), (ou, .inr (1, [.int (nI 6000), .ref rm2_32, .int (nI (mB (L + (dg x))))])), (rm2_32, .inl (cy 0, capB (L + (dg x)), .inl fw2_32))] := hD
      have hP9 : va_P D vwCl [(h0, .inr (8, [.ref xp, .ref ou, .int bd])), (ou, .inr (1, [.int (nI 6000), .ref rm2_32, .int (nI (mB (L + (dg x))))])), (rm2_32, .inl (cy 0, capB (L + (dg x)), .inl fw2_32))] H := hP.sub [0, 1, 2] rfl
      have hD9 : va_D A [(h0, .inr (8, [.ref xp, .ref ou, .int bd])), (ou, .inr (1, [.int (nI 6000), .ref rm2_32, .int (nI (mB (L + (dg x))))])), (rm2_32, .inl (cy 0, capB (L + (dg x)), .inl fw2_32))] := hD.sub [0, 1, 2] (by decide) rfl
      refine W.widen (k := ccB (L + (dg x)) - ccB L) (n := ssB (L + (dg x)) - ssB L) (Nat.le_of_eq (by rw [hLe])) (Nat.le_of_eq (by rw [hLe])) ?_
      exact W.vret hx hb hr (fun t ht hW => ⟨⟨(rm2_32, fw2_32), rfl, hfw0, by rw [ht]; exact hP9, hD9⟩, hS.F ht⟩) hS.2.2 dX7_putDigits_44
  · skip
    refine lv_sipush (v := 1000) hx hb dX7_putDigits_0 (by decide +kernel) ?_
    refine lv_istore_n (lv' := [(2, .int 1000), (0, .ref h0), (1, .int x)]) hx hb dX7_putDigits_3 rfl hl (by decide) rfl (fun ls hl => ?_)
    refine lv_iload_n hx hb dX7_putDigits_4 rfl (lv_at hl 0 rfl) ?_
    refine lv_iconst (v := 1) hx hb dX7_putDigits_5 (by decide +kernel) ?_
    refine lv_icmp_lt (tgt := 44) hx hb dX7_putDigits_6 (by decide) (fun c6 => absurd c6 (by decide)) (fun _ => ?_)
    refine lv_iload_n hx hb dX7_putDigits_9 rfl (lv_at hl 2 rfl) ?_
    refine lv_iload_n hx hb dX7_putDigits_10 rfl (lv_at hl 0 rfl) ?_
    refine lv_icmp_ge (tgt := 19) hx hb dX7_putDigits_11 (by decide) (fun c11 => absurd c11 h1000) (fun _ => ?_)
    refine lv_iload_n hx hb dX7_putDigits_14 rfl (lv_at hl 0 rfl) ?_
    refine lv_iconst (v := 1) hx hb dX7_putDigits_15 (by decide +kernel) ?_
    refine lv_icmp_ne (tgt := 36) hx hb dX7_putDigits_16 (by decide) (fun _ => ?_) (fun c16 => absurd c16 (by decide))
    refine lv_iload_n hx hb dX7_putDigits_36 rfl (lv_at hl 0 rfl) ?_
    refine lv_bipush (v := 10) hx hb dX7_putDigits_37 (by decide +kernel) ?_
    refine lv_idiv hx hb dX7_putDigits_39 (by decide) ?_
    refine lv_topi (fun x_16 ex_16 => ?_)
    obtain rfl : x_16 = 100 := by rw [ex_16]; decide
    refine lv_istore_n (lv' := [(2, .int 100), (0, .ref h0), (1, .int x)]) hx hb dX7_putDigits_40 rfl hl (by decide) rfl (fun ls hl => ?_)
    refine lv_goto (tgt := 4) hx hb dX7_putDigits_41 (by decide) ?_
    refine lv_iload_n hx hb dX7_putDigits_4 rfl (lv_at hl 0 rfl) ?_
    refine lv_iconst (v := 1) hx hb dX7_putDigits_5 (by decide +kernel) ?_
    refine lv_icmp_lt (tgt := 44) hx hb dX7_putDigits_6 (by decide) (fun c6 => absurd c6 (by decide)) (fun _ => ?_)
    refine lv_iload_n hx hb dX7_putDigits_9 rfl (lv_at hl 2 rfl) ?_
    refine lv_iload_n hx hb dX7_putDigits_10 rfl (lv_at hl 0 rfl) ?_
    refine lv_icmp_ge (tgt := 19) hx hb dX7_putDigits_11 (by decide) (fun c11 => absurd c11 h100) (fun _ => ?_)
    refine lv_iload_n hx hb dX7_putDigits_14 rfl (lv_at hl 0 rfl) ?_
    refine lv_iconst (v := 1) hx hb dX7_putDigits_15 (by decide +kernel) ?_
    refine lv_icmp_ne (tgt := 36) hx hb dX7_putDigits_16 (by decide) (fun _ => ?_) (fun c16 => absurd c16 (by decide))
    refine lv_iload_n hx hb dX7_putDigits_36 rfl (lv_at hl 0 rfl) ?_
    refine lv_bipush (v := 10) hx hb dX7_putDigits_37 (by decide +kernel) ?_
    refine lv_idiv hx hb dX7_putDigits_39 (by decide) ?_
    refine lv_topi (fun x_17 ex_17 => ?_)
    obtain rfl : x_17 = 10 := by rw [ex_17]; decide
    refine lv_istore_n (lv' := [(2, .int 10), (0, .ref h0), (1, .int x)]) hx hb dX7_putDigits_40 rfl hl (by decide) rfl (fun ls hl => ?_)
    refine lv_goto (tgt := 4) hx hb dX7_putDigits_41 (by decide) ?_
    refine lv_iload_n hx hb dX7_putDigits_4 rfl (lv_at hl 0 rfl) ?_
    refine lv_iconst (v := 1) hx hb dX7_putDigits_5 (by decide +kernel) ?_
    refine lv_icmp_lt (tgt := 44) hx hb dX7_putDigits_6 (by decide) (fun c6 => absurd c6 (by decide)) (fun _ => ?_)
    refine lv_iload_n hx hb dX7_putDigits_9 rfl (lv_at hl 2 rfl) ?_
    refine lv_iload_n hx hb dX7_putDigits_10 rfl (lv_at hl 0 rfl) ?_
    refine lv_icmp_ge (tgt := 19) hx hb dX7_putDigits_11 (by decide) (fun c11 => absurd c11 h10) (fun _ => ?_)
    refine lv_iload_n hx hb dX7_putDigits_14 rfl (lv_at hl 0 rfl) ?_
    refine lv_iconst (v := 1) hx hb dX7_putDigits_15 (by decide +kernel) ?_
    refine lv_icmp_ne (tgt := 36) hx hb dX7_putDigits_16 (by decide) (fun _ => ?_) (fun c16 => absurd c16 (by decide))
    refine lv_iload_n hx hb dX7_putDigits_36 rfl (lv_at hl 0 rfl) ?_
    refine lv_bipush (v := 10) hx hb dX7_putDigits_37 (by decide +kernel) ?_
    refine lv_idiv hx hb dX7_putDigits_39 (by decide) ?_
    refine lv_topi (fun x_18 ex_18 => ?_)
    obtain rfl : x_18 = 1 := by rw [ex_18]; decide
    refine lv_istore_n (lv' := [(2, .int 1), (0, .ref h0), (1, .int x)]) hx hb dX7_putDigits_40 rfl hl (by decide) rfl (fun ls hl => ?_)
    refine lv_goto (tgt := 4) hx hb dX7_putDigits_41 (by decide) ?_
    refine lv_iload_n hx hb dX7_putDigits_4 rfl (lv_at hl 0 rfl) ?_
    refine lv_iconst (v := 1) hx hb dX7_putDigits_5 (by decide +kernel) ?_
    refine lv_icmp_lt (tgt := 44) hx hb dX7_putDigits_6 (by decide) (fun c6 => absurd c6 (by decide)) (fun _ => ?_)
    refine lv_iload_n hx hb dX7_putDigits_9 rfl (lv_at hl 2 rfl) ?_
    refine lv_iload_n hx hb dX7_putDigits_10 rfl (lv_at hl 0 rfl) ?_
    refine lv_icmp_ge (tgt := 19) hx hb dX7_putDigits_11 (by decide) (fun c11 => ?_) (fun c11 => ?_)
    · refine lv_aload_n hx hb dX7_putDigits_19 rfl (lv_at hl 1 rfl) ?_
      refine va_get (D := D) (ci := 8) (v := .ref ou) (C := RX7) (T := TX7) (N := 3) hx hb hts iX7 hown hK hP 0 rfl rfl 1 (by decide) (hts (.fieldLink RX7 14 "InterlockTables$Writer" "out" "LInterlockTables$Bytes;") (by decide +kernel)) (fun _ h9 => h9) rfl dX7_putDigits_20 ?_
      refine lv_bipush (v := 48) hx hb dX7_putDigits_23 (by decide +kernel) ?_
      refine lv_iload_n hx hb dX7_putDigits_25 rfl (lv_at hl 2 rfl) ?_
      refine lv_iload_n hx hb dX7_putDigits_26 rfl (lv_at hl 0 rfl) ?_
      refine lv_idiv hx hb dX7_putDigits_27 (by decide) ?_
      refine lv_bipush (v := 10) hx hb dX7_putDigits_28 (by decide +kernel) ?_
      refine lv_irem hx hb dX7_putDigits_30 (by decide) ?_
      refine lv_iadd hx hb dX7_putDigits_31 ?_
      refine mt_calli (wr := [(h0, .inr (8, [.ref xp, .ref ou, .int bd]))]) (va_runV (As := [.int (48 + ((x / 1) - (x / 1) / 10 * 10))]) (rest := []) ⟨hx, hb, hml, hown, hts⟩ (c_addL l D cy e ou (48 + ((x / 1) - (x / 1) / 10 * 10)) L rm fw s.heap.size hfw0) (cwV 1 hts gX7_putDigits_X0_add rfl rfl rfl (by decide +kernel) ⟨Nat.le_of_ble_eq_true rfl, Nat.le_of_ble_eq_true rfl⟩) (mt_preV hP hD hK hS hA hG [1, 2] rfl (by decide) (q := (RX0, TX0, 3)) (ci := 1) (q0 := 1) rfl rfl) rfl rfl hl.1 rfl (lv_room (Nat.le_of_ble_eq_true rfl)) dX7_putDigits_32 ⟨accB_c (by omega) (by omega) (by omega), accB_s (by omega) (by omega) (by omega)⟩) hP hD hS hA [1, 2] [0] rfl rfl (by decide) (by decide) (fun r32 u H locs hw hP hD hS => ?_)
      obtain ⟨rm2_32, fw2_32⟩ := u
      have hP : va_P D vwCl [(h0, .inr (8, [.ref xp, .ref ou, .int bd])), (ou, .inr (1, [.int (nI 6000), .ref rm2_32, .int (nI (mB (L + 1)))])), (rm2_32, .inl (cy 0, capB (L + 1), .inl fw2_32))] H := hP
      have hD : va_D A [(h0, .inr (8, [.ref xp, .ref ou, .int bd])), (ou, .inr (1, [.int (nI 6000), .ref rm2_32, .int (nI (mB (L + 1)))])), (rm2_32, .inl (cy 0, capB (L + 1), .inl fw2_32))] := hD
      replace hw : sb_Fit fw2_32 := hw
      refine W.widen (k := ccB (L + 1) - ccB (L)) (n := ssB (L + 1) - ssB (L)) (accB_c2 (by omega) (by omega)) (accB_s2 (by omega) (by omega)) ?_
      have hfw0 := hw
      refine lv_pop hx hb dX7_putDigits_35 rfl ?_
      refine lv_iload_n hx hb dX7_putDigits_36 rfl (lv_at hl 0 rfl) ?_
      refine lv_bipush (v := 10) hx hb dX7_putDigits_37 (by decide +kernel) ?_
      refine lv_idiv hx hb dX7_putDigits_39 (by decide) ?_
      refine lv_topi (fun x_19 ex_19 => ?_)
      obtain rfl : x_19 = 0 := by rw [ex_19]; decide
      refine lv_istore_n (lv' := [(2, .int 0), (0, .ref h0), (1, .int x)]) hx hb dX7_putDigits_40 rfl hl (by decide) rfl (fun ls hl => ?_)
      refine lv_goto (tgt := 4) hx hb dX7_putDigits_41 (by decide) ?_
      refine lv_iload_n hx hb dX7_putDigits_4 rfl (lv_at hl 0 rfl) ?_
      refine lv_iconst (v := 1) hx hb dX7_putDigits_5 (by decide +kernel) ?_
      refine lv_icmp_lt (tgt := 44) hx hb dX7_putDigits_6 (by decide) (fun _ => ?_) (fun c6 => absurd (by decide) c6)
      have hLe : L + 1 = L + (dg x) := by omega
      rw [hLe] at hP hD
      have hP : va_P D vwCl [(h0, .inr (8, [.ref xp, .ref ou, .int bd])), (ou, .inr (1, [.int (nI 6000), .ref rm2_32, .int (nI (mB (L + (dg x))))])), (rm2_32, .inl (cy 0, capB (L + (dg x)), .inl fw2_32))] H := hP
      have hD : va_D A [(h0, .inr (8, [.ref xp, .ref ou, .int bd])), (ou, .inr (1, [.int (nI 6000), .ref rm2_32, .int (nI (mB (L + (dg x))))])), (rm2_32, .inl (cy 0, capB (L + (dg x)), .inl fw2_32))] := hD
      have hP9 : va_P D vwCl [(h0, .inr (8, [.ref xp, .ref ou, .int bd])), (ou, .inr (1, [.int (nI 6000), .ref rm2_32, .int (nI (mB (L + (dg x))))])), (rm2_32, .inl (cy 0, capB (L + (dg x)), .inl fw2_32))] H := hP.sub [0, 1, 2] rfl
      have hD9 : va_D A [(h0, .inr (8, [.ref xp, .ref ou, .int bd])), (ou, .inr (1, [.int (nI 6000), .ref rm2_32, .int (nI (mB (L + (dg x))))])), (rm2_32, .inl (cy 0, capB (L + (dg x)), .inl fw2_32))] := hD.sub [0, 1, 2] (by decide) rfl
      refine W.widen (k := ccB (L + (dg x)) - ccB L) (n := ssB (L + (dg x)) - ssB L) (Nat.le_of_eq (by rw [hLe])) (Nat.le_of_eq (by rw [hLe])) ?_
      exact W.vret hx hb hr (fun t ht hW => ⟨⟨(rm2_32, fw2_32), rfl, hfw0, by rw [ht]; exact hP9, hD9⟩, hS.F ht⟩) hS.2.2 dX7_putDigits_44
    · refine lv_iload_n hx hb dX7_putDigits_14 rfl (lv_at hl 0 rfl) ?_
      refine lv_iconst (v := 1) hx hb dX7_putDigits_15 (by decide +kernel) ?_
      refine lv_icmp_ne (tgt := 36) hx hb dX7_putDigits_16 (by decide) (fun c16 => absurd rfl c16) (fun _ => ?_)
      refine lv_aload_n hx hb dX7_putDigits_19 rfl (lv_at hl 1 rfl) ?_
      refine va_get (D := D) (ci := 8) (v := .ref ou) (C := RX7) (T := TX7) (N := 3) hx hb hts iX7 hown hK hP 0 rfl rfl 1 (by decide) (hts (.fieldLink RX7 14 "InterlockTables$Writer" "out" "LInterlockTables$Bytes;") (by decide +kernel)) (fun _ h9 => h9) rfl dX7_putDigits_20 ?_
      refine lv_bipush (v := 48) hx hb dX7_putDigits_23 (by decide +kernel) ?_
      refine lv_iload_n hx hb dX7_putDigits_25 rfl (lv_at hl 2 rfl) ?_
      refine lv_iload_n hx hb dX7_putDigits_26 rfl (lv_at hl 0 rfl) ?_
      refine lv_idiv hx hb dX7_putDigits_27 (by decide) ?_
      refine lv_bipush (v := 10) hx hb dX7_putDigits_28 (by decide +kernel) ?_
      refine lv_irem hx hb dX7_putDigits_30 (by decide) ?_
      refine lv_iadd hx hb dX7_putDigits_31 ?_
      refine mt_calli (wr := [(h0, .inr (8, [.ref xp, .ref ou, .int bd]))]) (va_runV (As := [.int (48 + ((x / 1) - (x / 1) / 10 * 10))]) (rest := []) ⟨hx, hb, hml, hown, hts⟩ (c_addL l D cy e ou (48 + ((x / 1) - (x / 1) / 10 * 10)) L rm fw s.heap.size hfw0) (cwV 1 hts gX7_putDigits_X0_add rfl rfl rfl (by decide +kernel) ⟨Nat.le_of_ble_eq_true rfl, Nat.le_of_ble_eq_true rfl⟩) (mt_preV hP hD hK hS hA hG [1, 2] rfl (by decide) (q := (RX0, TX0, 3)) (ci := 1) (q0 := 1) rfl rfl) rfl rfl hl.1 rfl (lv_room (Nat.le_of_ble_eq_true rfl)) dX7_putDigits_32 ⟨accB_c (by omega) (by omega) (by omega), accB_s (by omega) (by omega) (by omega)⟩) hP hD hS hA [1, 2] [0] rfl rfl (by decide) (by decide) (fun r32 u H locs hw hP hD hS => ?_)
      obtain ⟨rm2_32, fw2_32⟩ := u
      have hP : va_P D vwCl [(h0, .inr (8, [.ref xp, .ref ou, .int bd])), (ou, .inr (1, [.int (nI 6000), .ref rm2_32, .int (nI (mB (L + 1)))])), (rm2_32, .inl (cy 0, capB (L + 1), .inl fw2_32))] H := hP
      have hD : va_D A [(h0, .inr (8, [.ref xp, .ref ou, .int bd])), (ou, .inr (1, [.int (nI 6000), .ref rm2_32, .int (nI (mB (L + 1)))])), (rm2_32, .inl (cy 0, capB (L + 1), .inl fw2_32))] := hD
      replace hw : sb_Fit fw2_32 := hw
      refine W.widen (k := ccB (L + 1) - ccB (L)) (n := ssB (L + 1) - ssB (L)) (accB_c2 (by omega) (by omega)) (accB_s2 (by omega) (by omega)) ?_
      have hfw0 := hw
      refine lv_pop hx hb dX7_putDigits_35 rfl ?_
      refine lv_iload_n hx hb dX7_putDigits_36 rfl (lv_at hl 0 rfl) ?_
      refine lv_bipush (v := 10) hx hb dX7_putDigits_37 (by decide +kernel) ?_
      refine lv_idiv hx hb dX7_putDigits_39 (by decide) ?_
      refine lv_topi (fun x_20 ex_20 => ?_)
      obtain rfl : x_20 = 0 := by rw [ex_20]; decide
      refine lv_istore_n (lv' := [(2, .int 0), (0, .ref h0), (1, .int x)]) hx hb dX7_putDigits_40 rfl hl (by decide) rfl (fun ls hl => ?_)
      refine lv_goto (tgt := 4) hx hb dX7_putDigits_41 (by decide) ?_
      refine lv_iload_n hx hb dX7_putDigits_4 rfl (lv_at hl 0 rfl) ?_
      refine lv_iconst (v := 1) hx hb dX7_putDigits_5 (by decide +kernel) ?_
      refine lv_icmp_lt (tgt := 44) hx hb dX7_putDigits_6 (by decide) (fun _ => ?_) (fun c6 => absurd (by decide) c6)
      have hLe : L + 1 = L + (dg x) := by omega
      rw [hLe] at hP hD
      have hP : va_P D vwCl [(h0, .inr (8, [.ref xp, .ref ou, .int bd])), (ou, .inr (1, [.int (nI 6000), .ref rm2_32, .int (nI (mB (L + (dg x))))])), (rm2_32, .inl (cy 0, capB (L + (dg x)), .inl fw2_32))] H := hP
      have hD : va_D A [(h0, .inr (8, [.ref xp, .ref ou, .int bd])), (ou, .inr (1, [.int (nI 6000), .ref rm2_32, .int (nI (mB (L + (dg x))))])), (rm2_32, .inl (cy 0, capB (L + (dg x)), .inl fw2_32))] := hD
      have hP9 : va_P D vwCl [(h0, .inr (8, [.ref xp, .ref ou, .int bd])), (ou, .inr (1, [.int (nI 6000), .ref rm2_32, .int (nI (mB (L + (dg x))))])), (rm2_32, .inl (cy 0, capB (L + (dg x)), .inl fw2_32))] H := hP.sub [0, 1, 2] rfl
      have hD9 : va_D A [(h0, .inr (8, [.ref xp, .ref ou, .int bd])), (ou, .inr (1, [.int (nI 6000), .ref rm2_32, .int (nI (mB (L + (dg x))))])), (rm2_32, .inl (cy 0, capB (L + (dg x)), .inl fw2_32))] := hD.sub [0, 1, 2] (by decide) rfl
      refine W.widen (k := ccB (L + (dg x)) - ccB L) (n := ssB (L + (dg x)) - ssB L) (Nat.le_of_eq (by rw [hLe])) (Nat.le_of_eq (by rw [hLe])) ?_
      exact W.vret hx hb hr (fun t ht hW => ⟨⟨(rm2_32, fw2_32), rfl, hfw0, by rw [ht]; exact hP9, hD9⟩, hS.F ht⟩) hS.2.2 dX7_putDigits_44
