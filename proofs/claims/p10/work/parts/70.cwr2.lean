-- deps: 68
set_option maxHeartbeats 4000000 in
set_option maxRecDepth 100000 in
theorem c_isOr (l : Launch) (D : va_G) (cy : Nat → ClassId) (e : Nat → Nat)  (h0 : Nat) (xp : Nat) (ou : Nat) (bd : Int32) (cd : Nat) (sz0 : Nat) (st : Nat) (n1 : Nat) (fc : Nat → Int32) (i : Int32) (hsz : sz0 ≤ n1) (hn1 : n1 < 65536) : Met l yX7_isOr wsX7_isOr ({ frames := 1, cells := 0, slots := 0, locals := 21 }) (va_Pc [.ref h0, .int i] (pu_B D cy e [(h0, .inr (8, [.ref xp, .ref ou, .int bd])), (xp, .inr (2, [.ref cd, .int (nI sz0), .ref st])), (cd, .inl (cy 0, n1, .inl fc))])) (va_Qi (fun (r : Int32) (_ : Unit) => r = ior fc sz0 i) (fun _ _ => True) (fun _ => False)) 0 0 (fun _ => False) := by
  refine Met.ofW (cc := cX7_isOr) (maxL := 2) (ret := (some .boolean)) (by decide) rfl ?_
  intro p ev s m args below meth c s₁ B hml hv
  obtain ⟨rfl, hP, hK, hG⟩ := hv
  have hx := B.exec
  have hb := B.bytes
  have hr := B.returns
  have hts := atoms_spec (ws := wsX7_isOr) B.pre
  have hown : s.vm.findClass RX7 = some m.cls := findClass_of_methodNamed B.named
  have hlocks := B.notSynchronized
  have hS : va_S (fun _ => False) s.heap s.heap [] := va_S.rf
  have hP : va_P D vwCl [(h0, .inr (8, [.ref xp, .ref ou, .int bd])), (xp, .inr (2, [.ref cd, .int (nI sz0), .ref st])), (cd, .inl (cy 0, n1, .inl fc))] s.heap := hP
  have iX7 : ∀ w ∈ wsX70, w ∈ wsX7_isOr := fun w h => List.mem_cons_of_mem _ (List.mem_append_left _ (List.mem_append_right _ h))
  have iX1 : ∀ w ∈ wsX10, w ∈ wsX7_isOr := fun w h => List.mem_cons_of_mem _ (List.mem_append_right _ h)
  have hl := lv_entry ([.ref h0, .int i]) (n := 2) (Nat.le_of_ble_eq_true rfl)
  rw [lg_entry_eq]
  generalize (lg_sl ([.ref h0, .int i]) ++ List.replicate (2 - (lg_sl ([.ref h0, .int i])).length) Slot.unset).toArray = ls at hl ⊢
  have hl : lv_has ls 2 [(0, .ref h0), (1, .int i)] := hl
  refine lv_aload_n hx hb dX7_isOr_0 rfl (lv_at hl 0 rfl) ?_
  refine va_get (D := D) (ci := 8) (v := .ref xp) (C := RX7) (T := TX7) (N := 3) hx hb hts iX7 hown hK hP 0 rfl rfl 0 (by decide) (hts (.fieldLink RX7 20 "InterlockTables$Writer" "expressions" "LInterlockTables$Expressions;") (by decide +kernel)) (fun _ h9 => h9) rfl dX7_isOr_1 ?_
  refine lv_iload_n hx hb dX7_isOr_4 rfl (lv_at hl 1 rfl) ?_
  refine pu_calli (va_runV (As := [.int i]) (rest := []) ⟨hx, hb, hml, hown, hts⟩ (c_Expr_at l D cy e xp cd sz0 st n1 fc i hsz hn1) (cwV 1 hts gX7_isOr_X1_at rfl rfl rfl (by decide +kernel) ⟨Nat.le_of_ble_eq_true rfl, Nat.le_of_ble_eq_true rfl⟩) (pu_preV hP hK hS hG [1, 2] rfl (q := (RX1, TX1, 3)) (ci := 2) (q0 := 1) rfl rfl) rfl rfl hl.1 rfl (lv_room (Nat.le_of_ble_eq_true rfl)) dX7_isOr_5 ⟨(Nat.le_of_ble_eq_true rfl), (Nat.le_of_ble_eq_true rfl)⟩) hP hS (fun H locs hP hS => ?_)
  have hP : va_P D vwCl [(h0, .inr (8, [.ref xp, .ref ou, .int bd])), (xp, .inr (2, [.ref cd, .int (nI sz0), .ref st])), (cd, .inl (cy 0, n1, .inl fc))] H := hP
  refine lv_bipush (v := 18) hx hb dX7_isOr_8 (by decide +kernel) ?_
  refine lv_icmp_ne (tgt := 17) hx hb dX7_isOr_10 (by decide) (fun c10 => ?_) (fun c10 => ?_)
  · refine lv_iconst (v := 0) hx hb dX7_isOr_17 (by decide +kernel) ?_
    exact W.zret hx hb hr rfl (fun t ht hW => ⟨⟨_, (), rfl, by unfold ior; simp [c10], trivial⟩, hS.F ht⟩) hS.2.2 dX7_isOr_18
  · refine lv_iconst (v := 1) hx hb dX7_isOr_13 (by decide +kernel) ?_
    refine lv_goto (tgt := 18) hx hb dX7_isOr_14 (by decide) ?_
    exact W.zret hx hb hr rfl (fun t ht hW => ⟨⟨_, (), rfl, by unfold ior; simp [c10], trivial⟩, hS.F ht⟩) hS.2.2 dX7_isOr_18

set_option maxHeartbeats 4000000 in
set_option maxRecDepth 100000 in
theorem c_isJoin (l : Launch) (D : va_G) (cy : Nat → ClassId) (e : Nat → Nat)  (h0 : Nat) (xp : Nat) (ou : Nat) (bd : Int32) (cd : Nat) (sz0 : Nat) (st : Nat) (n1 : Nat) (fc : Nat → Int32) (i : Int32) (hsz : sz0 ≤ n1) (hn1 : n1 < 65536) : Met l yX7_isJoin wsX7_isJoin ({ frames := 2, cells := 0, slots := 0, locals := 42 }) (va_Pc [.ref h0, .int i] (pu_B D cy e [(h0, .inr (8, [.ref xp, .ref ou, .int bd])), (xp, .inr (2, [.ref cd, .int (nI sz0), .ref st])), (cd, .inl (cy 0, n1, .inl fc))])) (va_Qi (fun (r : Int32) (_ : Unit) => r = ijn fc sz0 i) (fun _ _ => True) (fun _ => False)) 0 0 (fun _ => False) := by
  refine Met.ofW (cc := cX7_isJoin) (maxL := 2) (ret := (some .boolean)) (by decide) rfl ?_
  intro p ev s m args below meth c s₁ B hml hv
  obtain ⟨rfl, hP, hK, hG⟩ := hv
  have hx := B.exec
  have hb := B.bytes
  have hr := B.returns
  have hts := atoms_spec (ws := wsX7_isJoin) B.pre
  have hown : s.vm.findClass RX7 = some m.cls := findClass_of_methodNamed B.named
  have hlocks := B.notSynchronized
  have hS : va_S (fun _ => False) s.heap s.heap [] := va_S.rf
  have hP : va_P D vwCl [(h0, .inr (8, [.ref xp, .ref ou, .int bd])), (xp, .inr (2, [.ref cd, .int (nI sz0), .ref st])), (cd, .inl (cy 0, n1, .inl fc))] s.heap := hP
  have iX7 : ∀ w ∈ wsX70, w ∈ wsX7_isJoin := fun w h => List.mem_cons_of_mem _ (List.mem_append_left _ (List.mem_append_right _ h))
  have iX1 : ∀ w ∈ wsX10, w ∈ wsX7_isJoin := fun w h => List.mem_cons_of_mem _ (List.mem_append_right _ h)
  have hl := lv_entry ([.ref h0, .int i]) (n := 2) (Nat.le_of_ble_eq_true rfl)
  rw [lg_entry_eq]
  generalize (lg_sl ([.ref h0, .int i]) ++ List.replicate (2 - (lg_sl ([.ref h0, .int i])).length) Slot.unset).toArray = ls at hl ⊢
  have hl : lv_has ls 2 [(0, .ref h0), (1, .int i)] := hl
  refine lv_aload_n hx hb dX7_isJoin_0 rfl (lv_at hl 0 rfl) ?_
  refine va_get (D := D) (ci := 8) (v := .ref xp) (C := RX7) (T := TX7) (N := 3) hx hb hts iX7 hown hK hP 0 rfl rfl 0 (by decide) (hts (.fieldLink RX7 20 "InterlockTables$Writer" "expressions" "LInterlockTables$Expressions;") (by decide +kernel)) (fun _ h9 => h9) rfl dX7_isJoin_1 ?_
  refine lv_iload_n hx hb dX7_isJoin_4 rfl (lv_at hl 1 rfl) ?_
  refine pu_calli (va_runV (As := [.int i]) (rest := []) ⟨hx, hb, hml, hown, hts⟩ (c_Expr_at l D cy e xp cd sz0 st n1 fc i hsz hn1) (cwV 1 hts gX7_isJoin_X1_at rfl rfl rfl (by decide +kernel) ⟨Nat.le_of_ble_eq_true rfl, Nat.le_of_ble_eq_true rfl⟩) (pu_preV hP hK hS hG [1, 2] rfl (q := (RX1, TX1, 3)) (ci := 2) (q0 := 1) rfl rfl) rfl rfl hl.1 rfl (lv_room (Nat.le_of_ble_eq_true rfl)) dX7_isJoin_5 ⟨(Nat.le_of_ble_eq_true rfl), (Nat.le_of_ble_eq_true rfl)⟩) hP hS (fun H locs hP hS => ?_)
  have hP : va_P D vwCl [(h0, .inr (8, [.ref xp, .ref ou, .int bd])), (xp, .inr (2, [.ref cd, .int (nI sz0), .ref st])), (cd, .inl (cy 0, n1, .inl fc))] H := hP
  refine lv_bipush (v := 17) hx hb dX7_isJoin_8 (by decide +kernel) ?_
  refine lv_icmp_eq (tgt := 21) hx hb dX7_isJoin_10 (by decide) (fun c10 => ?_) (fun c10 => ?_)
  · refine lv_iconst (v := 1) hx hb dX7_isJoin_21 (by decide +kernel) ?_
    refine lv_goto (tgt := 26) hx hb dX7_isJoin_22 (by decide) ?_
    exact W.zret hx hb hr rfl (fun t ht hW => ⟨⟨_, (), rfl, by unfold ijn; simp [c10], trivial⟩, hS.F ht⟩) hS.2.2 dX7_isJoin_26
  · refine lv_aload_n hx hb dX7_isJoin_13 rfl (lv_at hl 0 rfl) ?_
    refine lv_iload_n hx hb dX7_isJoin_14 rfl (lv_at hl 1 rfl) ?_
    refine pu_calli (va_runV (As := [.int i]) (rest := []) ⟨hx, hb, hml, hown, hts⟩ (c_isOr l D cy e h0 xp ou bd cd sz0 st n1 fc i hsz hn1) (cwV 1 hts gX7_isJoin_X7_isOr rfl rfl rfl (by decide +kernel) ⟨Nat.le_of_ble_eq_true rfl, Nat.le_of_ble_eq_true rfl⟩) (pu_preV hP hK hS hG [0, 1, 2] rfl (q := (RX7, TX7, 3)) (ci := 8) (q0 := 0) rfl rfl) rfl rfl hl.1 rfl (lv_room (Nat.le_of_ble_eq_true rfl)) dX7_isJoin_15 ⟨(Nat.le_of_ble_eq_true rfl), (Nat.le_of_ble_eq_true rfl)⟩) hP hS (fun H locs hP hS => ?_)
    have hP : va_P D vwCl [(h0, .inr (8, [.ref xp, .ref ou, .int bd])), (xp, .inr (2, [.ref cd, .int (nI sz0), .ref st])), (cd, .inl (cy 0, n1, .inl fc))] H := hP
    refine lv_if_eq (tgt := 25) hx hb dX7_isJoin_18 (by decide) (fun c18 => ?_) (fun c18 => ?_)
    · refine lv_iconst (v := 0) hx hb dX7_isJoin_25 (by decide +kernel) ?_
      exact W.zret hx hb hr rfl (fun t ht hW => ⟨⟨_, (), rfl, by unfold ijn; simp [c10, c18], trivial⟩, hS.F ht⟩) hS.2.2 dX7_isJoin_26
    · refine lv_iconst (v := 1) hx hb dX7_isJoin_21 (by decide +kernel) ?_
      refine lv_goto (tgt := 26) hx hb dX7_isJoin_22 (by decide) ?_
      exact W.zret hx hb hr rfl (fun t ht hW => ⟨⟨_, (), rfl, by unfold ijn; simp [c10, c18], trivial⟩, hS.F ht⟩) hS.2.2 dX7_isJoin_26

set_option maxHeartbeats 4000000 in
set_option maxRecDepth 100000 in
theorem c_leftOf (l : Launch) (D : va_G) (cy : Nat → ClassId) (e : Nat → Nat)  (h0 : Nat) (cd : Nat) (sz0 : Nat) (st : Nat) (n : Nat) (f : Nat → Int32) (op : Int32) (hsz : sz0 ≤ n) (hn : n < 65536) : Met l yX1_leftOf wsX1_leftOf ({ frames := 1, cells := 0, slots := 0, locals := 21 }) (va_Pc [.ref h0, .int op] (pu_B D cy e [(h0, .inr (2, [.ref cd, .int (nI sz0), .ref st])), (cd, .inl (cy 0, n, .inl f))])) (va_Qi (fun (r : Int32) (_ : Unit) => r = lfo f sz0 op) (fun _ _ => True) (fun _ => False)) 0 0 (fun _ => False) := by
  refine Met.ofW (cc := cX1_leftOf) (maxL := 4) (ret := (some .int)) (by decide) rfl ?_
  intro p ev s m args below meth c s₁ B hml hv
  obtain ⟨rfl, hP, hK, hG⟩ := hv
  have hx := B.exec
  have hb := B.bytes
  have hr := B.returns
  have hts := atoms_spec (ws := wsX1_leftOf) B.pre
  have hown : s.vm.findClass RX1 = some m.cls := findClass_of_methodNamed B.named
  have hlocks := B.notSynchronized
  have hS : va_S (fun _ => False) s.heap s.heap [] := va_S.rf
  have hP : va_P D vwCl [(h0, .inr (2, [.ref cd, .int (nI sz0), .ref st])), (cd, .inl (cy 0, n, .inl f))] s.heap := hP
  have iX1 : ∀ w ∈ wsX10, w ∈ wsX1_leftOf := fun w h => List.mem_cons_of_mem _ (List.mem_append_right _ h)
  have hl := lv_entry ([.ref h0, .int op]) (n := 4) (Nat.le_of_ble_eq_true rfl)
  rw [lg_entry_eq]
  generalize (lg_sl ([.ref h0, .int op]) ++ List.replicate (4 - (lg_sl ([.ref h0, .int op])).length) Slot.unset).toArray = ls at hl ⊢
  have hl : lv_has ls 4 [(0, .ref h0), (1, .int op)] := hl
  refine lv_iconst (v := 1) hx hb dX1_leftOf_0 (by decide +kernel) ?_
  refine lv_istore_n (lv' := [(2, .int 1), (0, .ref h0), (1, .int op)]) hx hb dX1_leftOf_1 rfl hl (by decide) rfl (fun ls hl => ?_)
  refine lv_iload_n hx hb dX1_leftOf_2 rfl (lv_at hl 2 rfl) ?_
  refine lv_iconst (v := 1) hx hb dX1_leftOf_3 (by decide +kernel) ?_
  refine lv_isub hx hb dX1_leftOf_4 ?_
  refine lv_istore_n (lv' := [(3, .int (op - 1)), (2, .int 1), (0, .ref h0), (1, .int op)]) hx hb dX1_leftOf_5 rfl hl (by decide) rfl (fun ls hl => ?_)
  refine lp_W (σ := Nat × Int32 × Int32) (Wf := fun H locs ls => W p l ev _ s m _ below meth c H locs (0) (0) _ (F0 m 6 ls [])) (fun zz9 H locs ls => match zz9 with | (n9, ms, i) => va_P D vwCl [(h0, .inr (2, [.ref cd, .int (nI sz0), .ref st])), (cd, .inl (cy 0, n, .inl f))] H ∧ va_S (fun _ => False) s.heap H locs ∧ lv_has ls 4 [(3, .int i), (2, .int ms), (0, .ref h0), (1, .int op)] ∧ (i.toInt < n9 ∧ lfr f sz0 n9 ms i = lfo f sz0 op)) (fun zz9 => match zz9 with | (n9, ms, i) => n9) ?_ (((op - 1).toNatClampNeg + 1), 1, (op - 1)) _ _ ls ⟨hP, hS, lv_sub hl [0, 1, 2, 3] rfl, ⟨lf_st _, rfl⟩⟩
  intro zz9 H locs ls hI ih
  obtain ⟨n9, ms, i⟩ := zz9
  obtain ⟨hP, hS, hl, hI⟩ := hI
  have ih6 := ih
  have hI6 := hI
  have hP : va_P D vwCl [(h0, .inr (2, [.ref cd, .int (nI sz0), .ref st])), (cd, .inl (cy 0, n, .inl f))] H := hP
  have hl : lv_has ls 4 [(3, .int i), (2, .int ms), (0, .ref h0), (1, .int op)] := hl
  obtain ⟨hI1, hI2⟩ := hI
  refine lv_iload_n hx hb dX1_leftOf_6 rfl (lv_at hl 0 rfl) ?_
  refine lv_if_lt (tgt := 50) hx hb dX1_leftOf_7 (by decide) (fun c7 => ?_) (fun c7 => ?_)
  · have hout := lfr_out (f := f) (sz := sz0) (n := n9) (ms := ms) (i := i) (Or.inl c7)
    refine lv_iload_n hx hb dX1_leftOf_50 rfl (lv_at hl 0 rfl) ?_
    exact W.iret hx hb hr (fun t ht hW => ⟨⟨_, (), rfl, hout.symm.trans hI2, trivial⟩, hS.F ht⟩) hS.2.2 dX1_leftOf_51
  · refine lv_iload_n hx hb dX1_leftOf_10 rfl (lv_at hl 1 rfl) ?_
    refine lv_if_le (tgt := 50) hx hb dX1_leftOf_11 (by decide) (fun c11 => ?_) (fun c11 => ?_)
    · have hout := lfr_out (f := f) (sz := sz0) (n := n9) (ms := ms) (i := i) (Or.inr c11)
      refine lv_iload_n hx hb dX1_leftOf_50 rfl (lv_at hl 0 rfl) ?_
      exact W.iret hx hb hr (fun t ht hW => ⟨⟨_, (), rfl, hout.symm.trans hI2, trivial⟩, hS.F ht⟩) hS.2.2 dX1_leftOf_51
    · obtain ⟨n1_, hn2, hn3, hn4⟩ := lfr_in (f := f) (sz := sz0) c7 c11 hI1
      refine lv_aload_n hx hb dX1_leftOf_14 rfl (lv_at hl 2 rfl) ?_
      refine lv_iload_n hx hb dX1_leftOf_15 rfl (lv_at hl 0 rfl) ?_
      refine pu_calli (va_runV (As := [.int i]) (rest := []) ⟨hx, hb, hml, hown, hts⟩ (c_Expr_at l D cy e h0 cd sz0 st n f i hsz hn) (cwV 1 hts gX1_leftOf_X1_at rfl rfl rfl (by decide +kernel) ⟨Nat.le_of_ble_eq_true rfl, Nat.le_of_ble_eq_true rfl⟩) (pu_preV hP hK hS hG [0, 1] rfl (q := (RX1, TX1, 3)) (ci := 2) (q0 := 0) rfl rfl) rfl rfl hl.1 rfl (lv_room (Nat.le_of_ble_eq_true rfl)) dX1_leftOf_16 ⟨(Nat.le_of_ble_eq_true rfl), (Nat.le_of_ble_eq_true rfl)⟩) hP hS (fun H locs hP hS => ?_)
      have hP : va_P D vwCl [(h0, .inr (2, [.ref cd, .int (nI sz0), .ref st])), (cd, .inl (cy 0, n, .inl f))] H := hP
      refine pu_calli (va_runS (As := [.int (eat f sz0 i)]) (rest := []) ⟨hx, hb, hml, hown, hts⟩ (c_isCondition l D cy e (eat f sz0 i) ) (va_cwS 1 hts gX1_leftOf_X1_isCondition rfl rfl rfl (by decide +kernel) ⟨Nat.le_of_ble_eq_true rfl, Nat.le_of_ble_eq_true rfl⟩) (pu_preS hP hK hS hG [] rfl) rfl rfl hl.1 rfl (lv_room (Nat.le_of_ble_eq_true rfl)) dX1_leftOf_19 ⟨(Nat.le_of_ble_eq_true rfl), (Nat.le_of_ble_eq_true rfl)⟩) hP hS (fun H locs hP hS => ?_)
      have hP : va_P D vwCl [(h0, .inr (2, [.ref cd, .int (nI sz0), .ref st])), (cd, .inl (cy 0, n, .inl f))] H := hP
      refine lv_if_eq (tgt := 31) hx hb dX1_leftOf_22 (by decide) (fun c22 => ?_) (fun c22 => ?_)
      · refine lv_aload_n hx hb dX1_leftOf_31 rfl (lv_at hl 2 rfl) ?_
        refine lv_iload_n hx hb dX1_leftOf_32 rfl (lv_at hl 0 rfl) ?_
        refine pu_calli (va_runV (As := [.int i]) (rest := []) ⟨hx, hb, hml, hown, hts⟩ (c_Expr_at l D cy e h0 cd sz0 st n f i hsz hn) (cwV 1 hts gX1_leftOf_X1_at rfl rfl rfl (by decide +kernel) ⟨Nat.le_of_ble_eq_true rfl, Nat.le_of_ble_eq_true rfl⟩) (pu_preV hP hK hS hG [0, 1] rfl (q := (RX1, TX1, 3)) (ci := 2) (q0 := 0) rfl rfl) rfl rfl hl.1 rfl (lv_room (Nat.le_of_ble_eq_true rfl)) dX1_leftOf_33 ⟨(Nat.le_of_ble_eq_true rfl), (Nat.le_of_ble_eq_true rfl)⟩) hP hS (fun H locs hP hS => ?_)
        have hP : va_P D vwCl [(h0, .inr (2, [.ref cd, .int (nI sz0), .ref st])), (cd, .inl (cy 0, n, .inl f))] H := hP
        refine lv_bipush (v := 16) hx hb dX1_leftOf_36 (by decide +kernel) ?_
        refine lv_icmp_eq (tgt := 44) hx hb dX1_leftOf_38 (by decide) (fun c38 => ?_) (fun c38 => ?_)
        · refine lv_iinc (v := i + -1) (lv' := [(3, .int (i + -1)), (2, .int ms), (0, .ref h0), (1, .int op)]) hx hb dX1_leftOf_44 hl (k := 0) rfl (rfl) (by decide) rfl (fun ls hl => ?_)
          refine lv_goto (tgt := 6) hx hb dX1_leftOf_47 (by decide) ?_
          rw [if_pos c22, if_pos c38] at hn4
          exact ih6 (n1_, ms, (i + -1)) _ _ ls ⟨hP.sub [0, 1] rfl, hS, lv_sub hl [0, 1, 2, 3] rfl, ⟨hn3, hn4.symm.trans hI2⟩⟩ (by (try dsimp only); omega)
        · refine lv_iinc (v := ms + 1) (lv' := [(2, .int (ms + 1)), (3, .int i), (0, .ref h0), (1, .int op)]) hx hb dX1_leftOf_41 hl (k := 1) rfl (rfl) (by decide) rfl (fun ls hl => ?_)
          refine lv_iinc (v := i + -1) (lv' := [(3, .int (i + -1)), (2, .int (ms + 1)), (0, .ref h0), (1, .int op)]) hx hb dX1_leftOf_44 hl (k := 1) rfl (rfl) (by decide) rfl (fun ls hl => ?_)
          refine lv_goto (tgt := 6) hx hb dX1_leftOf_47 (by decide) ?_
          rw [if_pos c22, if_neg c38] at hn4
          exact ih6 (n1_, (ms + 1), (i + -1)) _ _ ls ⟨hP.sub [0, 1] rfl, hS, lv_sub hl [0, 1, 2, 3] rfl, ⟨hn3, hn4.symm.trans hI2⟩⟩ (by (try dsimp only); omega)
      · refine lv_iinc (v := ms + -1) (lv' := [(2, .int (ms + -1)), (3, .int i), (0, .ref h0), (1, .int op)]) hx hb dX1_leftOf_25 hl (k := 1) rfl (rfl) (by decide) rfl (fun ls hl => ?_)
        refine lv_goto (tgt := 44) hx hb dX1_leftOf_28 (by decide) ?_
        refine lv_iinc (v := i + -1) (lv' := [(3, .int (i + -1)), (2, .int (ms + -1)), (0, .ref h0), (1, .int op)]) hx hb dX1_leftOf_44 hl (k := 1) rfl (rfl) (by decide) rfl (fun ls hl => ?_)
        refine lv_goto (tgt := 6) hx hb dX1_leftOf_47 (by decide) ?_
        rw [if_neg c22] at hn4
        exact ih6 (n1_, (ms + -1), (i + -1)) _ _ ls ⟨hP.sub [0, 1] rfl, hS, lv_sub hl [0, 1, 2, 3] rfl, ⟨hn3, hn4.symm.trans hI2⟩⟩ (by (try dsimp only); omega)
