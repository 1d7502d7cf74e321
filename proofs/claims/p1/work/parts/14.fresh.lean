set_option maxHeartbeats 4000000 in
set_option maxRecDepth 100000 in
/-- Survey(table) -/
theorem c_Survey_init (l : Launch) (D : va_G) (cy : Nat → ClassId) (e : Nat → Nat) (h0 : Nat) (tb : Nat) (sz : Nat)  : Met l yX4_init wsX4_init ({ frames := 1, cells := 3, slots := 64, locals := 12 }) (va_Pc [.ref h0, .ref tb] (mt_B D cy e [(h0, .inr (5, [.null, .null, .int 0, .null, .null]))] sz)) (va_Qv (fun (u : Nat × Nat × Nat) => match u with | (us, se, co) => True) (mt_Q D (fun (u : Nat × Nat × Nat) => match u with | (us, se, co) => [(h0, .inr (5, [.ref tb, .ref us, .int 0, .ref se, .ref co])), (us, .inl (cy 1, 16, .inl (fun _ => 0))), (se, .inl (cy 2, 16, .inr (.inl (fun _ => 0)))), (co, .inl (cy 2, 32, .inr (.inl (fun _ => 0))))]) (va_A [(h0, .inr (5, [.null, .null, .int 0, .null, .null]))] sz)) (va_A [(h0, .inr (5, [.null, .null, .int 0, .null, .null]))] sz)) (3) (64) (va_A [(h0, .inr (5, [.null, .null, .int 0, .null, .null]))] sz) := by
  refine Met.ofW (cc := cX4_init) (maxL := 2) (ret := none) (by decide) rfl ?_
  intro p ev s m args below meth c s₁ B hml hv
  obtain ⟨rfl, hsz, hP, hK, hD0, hG⟩ := hv
  have hx := B.exec
  have hb := B.bytes
  have hr := B.returns
  have hts := atoms_spec (ws := wsX4_init) B.pre
  have hown : s.vm.findClass RX4 = some m.cls := findClass_of_methodNamed B.named
  have hlocks := B.notSynchronized
  have hin : meth.name = "<init>" := (name_of_methodNamed B.named B.method).1
  subst hsz
  have hD := hD0.self (sz := s.heap.size)
  generalize hAe : va_A [(h0, .inr (5, [.null, .null, .int 0, .null, .null]))] s.heap.size = A at hD hG ⊢
  have hA : ∀ q : Nat, s.heap.size ≤ q → A q := fun q h => by rw [← hAe]; exact Or.inr h
  have hS : va_S A s.heap s.heap [] := va_S.rf
  have hP : va_P D vwCl [(h0, .inr (5, [.null, .null, .int 0, .null, .null]))] s.heap := hP
  have iX4 : ∀ w ∈ wsX40, w ∈ wsX4_init := fun w h => List.mem_cons_of_mem _ (List.mem_append_right _ h)
  have hl := lv_entry ([.ref h0, .ref tb]) (n := 2) (Nat.le_of_ble_eq_true rfl)
  rw [lg_entry_eq]
  generalize (lg_sl ([.ref h0, .ref tb]) ++ List.replicate (2 - (lg_sl ([.ref h0, .ref tb])).length) Slot.unset).toArray = ls at hl ⊢
  have hl : lv_has ls 2 [(0, .ref h0), (1, .ref tb)] := hl
  refine lv_aload_n hx hb dX4_init_0 rfl (lv_at hl 0 rfl) ?_
  refine W.objInit hx hb hown (hts (.methodLink RX4 3 objectInit) (by decide +kernel)) (hts (.instanceMethod objectInit) (by decide +kernel)) (hts (.code objectInit ⟨#[0xb1]⟩ 1 none) (by decide +kernel)) rfl (by rw [hml]; exact hl.1) rfl dX4_init_1 (Nat.le_of_ble_eq_true rfl) (Nat.le_of_ble_eq_true rfl) ?_
  refine W.eq (g2 := F0 m 4 ls []) rfl ?_
  refine lv_aload_n hx hb dX4_init_4 rfl (lv_at hl 0 rfl) ?_
  refine lv_bipush (v := 16) hx hb dX4_init_5 (by decide +kernel) ?_
  refine na_new (atype := .int) (ty := .int) (a0 := (16, .inl (fun _ => 0))) (N' := 16) hx hb (hts (.arrayClass .int) (by decide +kernel)) rfl 1 rfl hK hP hD hS hA (fun _ => rfl) (by decide +kernel) (by decide +kernel) (by decide +kernel) (Nat.le_of_ble_eq_true rfl) (Nat.le_of_ble_eq_true rfl) dX4_init_7 (fun a7 H hP hD hS => ?_)
  have hP : va_P D vwCl [(h0, .inr (5, [.null, .null, .int 0, .null, .null])), (a7, .inl (cy 1, 16, .inl (fun _ => 0)))] H := hP
  have hD : va_D A [(h0, .inr (5, [.null, .null, .int 0, .null, .null])), (a7, .inl (cy 1, 16, .inl (fun _ => 0)))] := hD
  refine W.widen (k := 1) (n := 16) (by omega) (by omega) ?_
  refine va_putF (D := D) (ci := 5) (v := .ref a7) (ty := (.array .int)) (C := RX4) (T := TX4) (N := 5) hx hb hts iX4 tyX4 tyX4_ok nmX4 hown hK hP hD hS 0 rfl rfl 1 (by decide) (hts (.fieldLink RX4 9 "InterlockTables$Survey" "used" "[I") (by decide +kernel)) (fun _ h9 => h9) rfl hin rfl (by decide +kernel) rfl rfl (Nat.le_of_ble_eq_true rfl) dX4_init_9 (fun H locs hP hD hS => ?_)
  have hP : va_P D vwCl [(h0, .inr (5, [.null, .ref a7, .int 0, .null, .null])), (a7, .inl (cy 1, 16, .inl (fun _ => 0)))] H := hP
  have hD : va_D A [(h0, .inr (5, [.null, .ref a7, .int 0, .null, .null])), (a7, .inl (cy 1, 16, .inl (fun _ => 0)))] := hD
  refine lv_aload_n hx hb dX4_init_12 rfl (lv_at hl 0 rfl) ?_
  refine lv_bipush (v := 16) hx hb dX4_init_13 (by decide +kernel) ?_
  refine na_new (atype := .long) (ty := .long) (a0 := (16, .inr (.inl (fun _ => 0)))) (N' := 16) hx hb (hts (.arrayClass .long) (by decide +kernel)) rfl 2 rfl hK hP hD hS hA (fun _ => rfl) (by decide +kernel) (by decide +kernel) (by decide +kernel) (Nat.le_of_ble_eq_true rfl) (Nat.le_of_ble_eq_true rfl) dX4_init_15 (fun a15 H hP hD hS => ?_)
  have hP : va_P D vwCl [(h0, .inr (5, [.null, .ref a7, .int 0, .null, .null])), (a7, .inl (cy 1, 16, .inl (fun _ => 0))), (a15, .inl (cy 2, 16, .inr (.inl (fun _ => 0))))] H := hP
  have hD : va_D A [(h0, .inr (5, [.null, .ref a7, .int 0, .null, .null])), (a7, .inl (cy 1, 16, .inl (fun _ => 0))), (a15, .inl (cy 2, 16, .inr (.inl (fun _ => 0))))] := hD
  refine W.widen (k := 2) (n := 32) (by omega) (by omega) ?_
  refine va_putF (D := D) (ci := 5) (v := .ref a15) (ty := (.array .long)) (C := RX4) (T := TX4) (N := 5) hx hb hts iX4 tyX4 tyX4_ok nmX4 hown hK hP hD hS 0 rfl rfl 3 (by decide) (hts (.fieldLink RX4 15 "InterlockTables$Survey" "settings" "[J") (by decide +kernel)) (fun _ h9 => h9) rfl hin rfl (by decide +kernel) rfl rfl (Nat.le_of_ble_eq_true rfl) dX4_init_17 (fun H locs hP hD hS => ?_)
  have hP : va_P D vwCl [(h0, .inr (5, [.null, .ref a7, .int 0, .ref a15, .null])), (a7, .inl (cy 1, 16, .inl (fun _ => 0))), (a15, .inl (cy 2, 16, .inr (.inl (fun _ => 0))))] H := hP
  have hD : va_D A [(h0, .inr (5, [.null, .ref a7, .int 0, .ref a15, .null])), (a7, .inl (cy 1, 16, .inl (fun _ => 0))), (a15, .inl (cy 2, 16, .inr (.inl (fun _ => 0))))] := hD
  refine lv_aload_n hx hb dX4_init_20 rfl (lv_at hl 0 rfl) ?_
  refine lv_bipush (v := 32) hx hb dX4_init_21 (by decide +kernel) ?_
  refine na_new (atype := .long) (ty := .long) (a0 := (32, .inr (.inl (fun _ => 0)))) (N' := 32) hx hb (hts (.arrayClass .long) (by decide +kernel)) rfl 2 rfl hK hP hD hS hA (fun _ => rfl) (by decide +kernel) (by decide +kernel) (by decide +kernel) (Nat.le_of_ble_eq_true rfl) (Nat.le_of_ble_eq_true rfl) dX4_init_23 (fun a23 H hP hD hS => ?_)
  have hP : va_P D vwCl [(h0, .inr (5, [.null, .ref a7, .int 0, .ref a15, .null])), (a7, .inl (cy 1, 16, .inl (fun _ => 0))), (a15, .inl (cy 2, 16, .inr (.inl (fun _ => 0)))), (a23, .inl (cy 2, 32, .inr (.inl (fun _ => 0))))] H := hP
  have hD : va_D A [(h0, .inr (5, [.null, .ref a7, .int 0, .ref a15, .null])), (a7, .inl (cy 1, 16, .inl (fun _ => 0))), (a15, .inl (cy 2, 16, .inr (.inl (fun _ => 0)))), (a23, .inl (cy 2, 32, .inr (.inl (fun _ => 0))))] := hD
  refine W.widen (k := 3) (n := 64) (by omega) (by omega) ?_
  refine va_putF (D := D) (ci := 5) (v := .ref a23) (ty := (.array .long)) (C := RX4) (T := TX4) (N := 5) hx hb hts iX4 tyX4 tyX4_ok nmX4 hown hK hP hD hS 0 rfl rfl 4 (by decide) (hts (.fieldLink RX4 19 "InterlockTables$Survey" "covered" "[J") (by decide +kernel)) (fun _ h9 => h9) rfl hin rfl (by decide +kernel) rfl rfl (Nat.le_of_ble_eq_true rfl) dX4_init_25 (fun H locs hP hD hS => ?_)
  have hP : va_P D vwCl [(h0, .inr (5, [.null, .ref a7, .int 0, .ref a15, .ref a23])), (a7, .inl (cy 1, 16, .inl (fun _ => 0))), (a15, .inl (cy 2, 16, .inr (.inl (fun _ => 0)))), (a23, .inl (cy 2, 32, .inr (.inl (fun _ => 0))))] H := hP
  have hD : va_D A [(h0, .inr (5, [.null, .ref a7, .int 0, .ref a15, .ref a23])), (a7, .inl (cy 1, 16, .inl (fun _ => 0))), (a15, .inl (cy 2, 16, .inr (.inl (fun _ => 0)))), (a23, .inl (cy 2, 32, .inr (.inl (fun _ => 0))))] := hD
  refine lv_aload_n hx hb dX4_init_28 rfl (lv_at hl 0 rfl) ?_
  refine lv_aload_n hx hb dX4_init_29 rfl (lv_at hl 1 rfl) ?_
  refine va_putF (D := D) (ci := 5) (v := .ref tb) (ty := (.object "InterlockTables$Table")) (C := RX4) (T := TX4) (N := 5) hx hb hts iX4 tyX4 tyX4_ok nmX4 hown hK hP hD hS 0 rfl rfl 0 (by decide) (hts (.fieldLink RX4 22 "InterlockTables$Survey" "table" "LInterlockTables$Table;") (by decide +kernel)) (fun _ h9 => h9) rfl hin rfl (by decide +kernel) rfl rfl (Nat.le_of_ble_eq_true rfl) dX4_init_30 (fun H locs hP hD hS => ?_)
  have hP : va_P D vwCl [(h0, .inr (5, [.ref tb, .ref a7, .int 0, .ref a15, .ref a23])), (a7, .inl (cy 1, 16, .inl (fun _ => 0))), (a15, .inl (cy 2, 16, .inr (.inl (fun _ => 0)))), (a23, .inl (cy 2, 32, .inr (.inl (fun _ => 0))))] H := hP
  have hD : va_D A [(h0, .inr (5, [.ref tb, .ref a7, .int 0, .ref a15, .ref a23])), (a7, .inl (cy 1, 16, .inl (fun _ => 0))), (a15, .inl (cy 2, 16, .inr (.inl (fun _ => 0)))), (a23, .inl (cy 2, 32, .inr (.inl (fun _ => 0))))] := hD
  have hP9 : va_P D vwCl [(h0, .inr (5, [.ref tb, .ref a7, .int 0, .ref a15, .ref a23])), (a7, .inl (cy 1, 16, .inl (fun _ => 0))), (a15, .inl (cy 2, 16, .inr (.inl (fun _ => 0)))), (a23, .inl (cy 2, 32, .inr (.inl (fun _ => 0))))] H := hP.sub [0, 1, 2, 3] rfl
  have hD9 : va_D A [(h0, .inr (5, [.ref tb, .ref a7, .int 0, .ref a15, .ref a23])), (a7, .inl (cy 1, 16, .inl (fun _ => 0))), (a15, .inl (cy 2, 16, .inr (.inl (fun _ => 0)))), (a23, .inl (cy 2, 32, .inr (.inl (fun _ => 0))))] := hD.sub [0, 1, 2, 3] (by decide) rfl
  refine W.widen (k := 3) (n := 64) (by omega) (by omega) ?_
  exact W.vret hx hb hr (fun t ht hW => ⟨⟨(a7, a15, a23), rfl, trivial, by rw [ht]; exact hP9, hD9⟩, hS.F ht⟩) hS.2.2 dX4_init_33

set_option maxHeartbeats 4000000 in
set_option maxRecDepth 100000 in
/-- findUsed: no code, no condition -/
theorem c_Survey_findUsed0 (l : Launch) (D : va_G) (cy : Nat → ClassId) (e : Nat → Nat) (h0 : Nat) (tb : Nat) (us : Nat) (uc : Int32) (se : Nat) (co : Nat) (ro : Nat) (xp : Nat) (wr : Value) (sv : Int32) (cd : Nat) (st : Nat)  : Met l yX4_findUsed wsX4_findUsed ({ frames := 1, cells := 0, slots := 0, locals := 20 }) (va_Pc [.ref h0] (pu_B D cy e [(h0, .inr (5, [.ref tb, .ref us, .int uc, .ref se, .ref co])), (tb, .inr (6, [.ref ro, .ref xp, wr, .int sv])), (xp, .inr (2, [.ref cd, .int (nI 0), .ref st]))])) (va_Qv (fun (_ : Unit) => True) (fun _ _ => True) (fun _ => False)) 0 0 (fun _ => False) := by
  refine Met.ofW (cc := cX4_findUsed) (maxL := 5) (ret := none) (by decide) rfl ?_
  intro p ev s m args below meth c s₁ B hml hv
  obtain ⟨rfl, hP, hK, hG⟩ := hv
  have hx := B.exec
  have hb := B.bytes
  have hr := B.returns
  have hts := atoms_spec (ws := wsX4_findUsed) B.pre
  have hown : s.vm.findClass RX4 = some m.cls := findClass_of_methodNamed B.named
  have hlocks := B.notSynchronized
  have hS : va_S (fun _ => False) s.heap s.heap [] := va_S.rf
  have hP : va_P D vwCl [(h0, .inr (5, [.ref tb, .ref us, .int uc, .ref se, .ref co])), (tb, .inr (6, [.ref ro, .ref xp, wr, .int sv])), (xp, .inr (2, [.ref cd, .int (nI 0), .ref st]))] s.heap := hP
  have iX4 : ∀ w ∈ wsX40, w ∈ wsX4_findUsed := fun w h => List.mem_cons_of_mem _ (List.mem_append_left _ (List.mem_append_left _ (List.mem_append_right _ h)))
  have iX5 : ∀ w ∈ wsX50, w ∈ wsX4_findUsed := fun w h => List.mem_cons_of_mem _ (List.mem_append_left _ (List.mem_append_right _ h))
  have iX1 : ∀ w ∈ wsX10, w ∈ wsX4_findUsed := fun w h => List.mem_cons_of_mem _ (List.mem_append_right _ h)
  have hl := lv_entry ([.ref h0]) (n := 5) (Nat.le_of_ble_eq_true rfl)
  rw [lg_entry_eq]
  generalize (lg_sl ([.ref h0]) ++ List.replicate (5 - (lg_sl ([.ref h0])).length) Slot.unset).toArray = ls at hl ⊢
  have hl : lv_has ls 5 [(0, .ref h0)] := hl
  refine lv_iconst (v := 0) hx hb dX4_findUsed_0 (by decide +kernel) ?_
  refine lv_istore_n (lv' := [(1, .int 0), (0, .ref h0)]) hx hb dX4_findUsed_1 rfl hl (by decide) rfl (fun ls hl => ?_)
  refine lv_aload_n hx hb dX4_findUsed_2 rfl (lv_at hl 1 rfl) ?_
  refine va_get (D := D) (ci := 5) (v := .ref tb) (C := RX4) (T := TX4) (N := 5) hx hb hts iX4 hown hK hP 0 rfl rfl 0 (by decide) (hts (.fieldLink RX4 22 "InterlockTables$Survey" "table" "LInterlockTables$Table;") (by decide +kernel)) (fun _ h9 => h9) rfl dX4_findUsed_3 ?_
  refine va_getN (D := D) (ci := 6) (v := .ref xp) (C := RX5) (T := TX5) (N := 4) hx hb hts iX5 hown hK hP 1 rfl rfl 1 (by decide) (gl_N.f hG.2.2.2 3 rfl) (fun _ h9 => h9) rfl dX4_findUsed_6 ?_
  refine lv_astore_n (lv' := [(2, .ref xp), (1, .int 0), (0, .ref h0)]) hx hb dX4_findUsed_9 rfl hl (by decide) rfl (fun ls hl => ?_)
  refine lv_iconst (v := 0) hx hb dX4_findUsed_10 (by decide +kernel) ?_
  refine lv_istore_n (lv' := [(3, .int 0), (2, .ref xp), (1, .int 0), (0, .ref h0)]) hx hb dX4_findUsed_11 rfl hl (by decide) rfl (fun ls hl => ?_)
  refine lv_iload_n hx hb dX4_findUsed_12 rfl (lv_at hl 0 rfl) ?_
  refine lv_aload_n hx hb dX4_findUsed_13 rfl (lv_at hl 1 rfl) ?_
  refine pu_calli (va_runV (As := []) (rest := [.int 0]) ⟨hx, hb, hml, hown, hts⟩ (c_Expr_size l D cy e xp cd (nI 0) st ) (cwV 0 hts gX4_findUsed_X1_size rfl rfl rfl (by decide +kernel) ⟨Nat.le_of_ble_eq_true rfl, Nat.le_of_ble_eq_true rfl⟩) (pu_preV hP hK hS hG [2] rfl (q := (RX1, TX1, 3)) (ci := 2) (q0 := 2) rfl rfl) rfl rfl hl.1 rfl (lv_room (Nat.le_of_ble_eq_true rfl)) dX4_findUsed_14 ⟨(Nat.le_of_ble_eq_true rfl), (Nat.le_of_ble_eq_true rfl)⟩) hP hS (fun H locs hP hS => ?_)
  have hP : va_P D vwCl [(h0, .inr (5, [.ref tb, .ref us, .int uc, .ref se, .ref co])), (tb, .inr (6, [.ref ro, .ref xp, wr, .int sv])), (xp, .inr (2, [.ref cd, .int (nI 0), .ref st]))] H := hP
  refine lv_icmp_ge (tgt := 48) hx hb dX4_findUsed_17 (by decide) (fun _ => ?_) (fun c17 => absurd (by decide) c17)
  refine lv_iconst (v := 0) hx hb dX4_findUsed_48 (by decide +kernel) ?_
  refine lv_istore_n (lv' := [(3, .int 0), (2, .ref xp), (1, .int 0), (0, .ref h0)]) hx hb dX4_findUsed_49 rfl hl (by decide) rfl (fun ls hl => ?_)
  refine lp_W (σ := Nat) (Wf := fun H locs ls => W p l ev _ s m _ below meth c H locs 0 0 _ (F0 m 50 ls [])) (fun k H locs ls => va_P D vwCl [(h0, .inr (5, [.ref tb, .ref us, .int uc, .ref se, .ref co])), (tb, .inr (6, [.ref ro, .ref xp, wr, .int sv])), (xp, .inr (2, [.ref cd, .int (nI 0), .ref st]))] H ∧ va_S (fun _ => False) s.heap H locs ∧ lv_has ls 5 [(3, .int (nI k)), (2, .ref xp), (1, .int 0), (0, .ref h0)] ∧ (k ≤ 16)) (fun k => 16 - k) ?_ 0 _ _ ls ⟨hP, hS, lv_sub hl [0, 1, 2, 3] rfl, by decide⟩
  intro x H locs ls hI ih
  obtain ⟨k, rfl⟩ : ∃ z, z = x := ⟨_, rfl⟩
  obtain ⟨hP, hS, hl, hI⟩ := hI
  have hP : va_P D vwCl [(h0, .inr (5, [.ref tb, .ref us, .int uc, .ref se, .ref co])), (tb, .inr (6, [.ref ro, .ref xp, wr, .int sv])), (xp, .inr (2, [.ref cd, .int (nI 0), .ref st]))] H := hP
  have hl : lv_has ls 5 [(3, .int (nI k)), (2, .ref xp), (1, .int 0), (0, .ref h0)] := hl
  refine lv_iload_n hx hb dX4_findUsed_50 rfl (lv_at hl 0 rfl) ?_
  refine lv_bipush (v := 16) hx hb dX4_findUsed_51 (by decide +kernel) ?_
  refine lv_icmp_ge (tgt := 102) hx hb dX4_findUsed_53 (by decide) (fun c53 => ?_) (fun c53 => ?_)
  · exact W.vret hx hb hr (fun t ht hW => ⟨⟨(), rfl, trivial, trivial⟩, hS.F ht⟩) hS.2.2 dX4_findUsed_102
  · refine lv_iload_n hx hb dX4_findUsed_56 rfl (lv_at hl 2 rfl) ?_
    refine lv_iload_n hx hb dX4_findUsed_57 rfl (lv_at hl 0 rfl) ?_
    refine lv_iushr (v := 0) hx hb dX4_findUsed_58 (pk_ushr0 _) ?_
    refine lv_iconst (v := 1) hx hb dX4_findUsed_59 (by decide +kernel) ?_
    refine lv_iand hx hb dX4_findUsed_60 ?_
    refine lv_if_eq (tgt := 96) hx hb dX4_findUsed_61 (by decide) (fun _ => ?_) (fun c61 => absurd (by decide) c61)
    refine lv_iinc (v := nI (k + 1)) (lv' := [(3, .int (nI (k + 1))), (2, .ref xp), (1, .int 0), (0, .ref h0)]) hx hb dX4_findUsed_96 hl (k := 0) rfl (nI_1 k) (by decide) rfl (fun ls hl => ?_)
    refine lv_goto (tgt := 50) hx hb dX4_findUsed_99 (by decide) ?_
    exact ih (k + 1) _ _ ls ⟨hP.sub [0, 1, 2] rfl, hS, lv_sub hl [0, 1, 2, 3] rfl, by have := pk_nle (a := 16) (by omega) c53; omega⟩ (by have := pk_nle (a := 16) (by omega) c53; omega)

set_option maxHeartbeats 4000000 in
set_option maxRecDepth 100000 in
/-- markRows: no rows, none marked -/
theorem c_Survey_markRows0 (l : Launch) (D : va_G) (cy : Nat → ClassId) (e : Nat → Nat) (h0 : Nat) (tb : Nat) (us : Nat) (uc : Int32) (se : Nat) (co : Nat) (ro : Nat) (xp : Nat) (wr : Value) (sv : Int32) (cd : Nat) (st : Nat) (mod : Int32) (el : Value) (huc : uc = 0) : Met l yX4_markRows wsX4_markRows ({ frames := 2, cells := 0, slots := 0, locals := 44 }) (va_Pc [.ref h0] (pu_B D cy e [(h0, .inr (5, [.ref tb, .ref us, .int uc, .ref se, .ref co])), (tb, .inr (6, [.ref ro, .ref xp, wr, .int sv])), (xp, .inr (2, [.ref cd, .int (nI 0), .ref st])), (ro, .inr (0, [.int mod, el, .int (nI 0)]))])) (va_Qv (fun (_ : Unit) => True) (fun _ _ => True) (fun _ => False)) 0 0 (fun _ => False) := by
  refine Met.ofW (cc := cX4_markRows) (maxL := 4) (ret := none) (by decide) rfl ?_
  intro p ev s m args below meth c s₁ B hml hv
  obtain ⟨rfl, hP, hK, hG⟩ := hv
  have hx := B.exec
  have hb := B.bytes
  have hr := B.returns
  have hts := atoms_spec (ws := wsX4_markRows) B.pre
  have hown : s.vm.findClass RX4 = some m.cls := findClass_of_methodNamed B.named
  have hlocks := B.notSynchronized
  have hS : va_S (fun _ => False) s.heap s.heap [] := va_S.rf
  have hP : va_P D vwCl [(h0, .inr (5, [.ref tb, .ref us, .int uc, .ref se, .ref co])), (tb, .inr (6, [.ref ro, .ref xp, wr, .int sv])), (xp, .inr (2, [.ref cd, .int (nI 0), .ref st])), (ro, .inr (0, [.int mod, el, .int (nI 0)]))] s.heap := hP
  have iX4 : ∀ w ∈ wsX40, w ∈ wsX4_markRows := fun w h => List.mem_cons_of_mem _ (List.mem_append_left _ (List.mem_append_left _ (List.mem_append_left _ (List.mem_append_left _ (List.mem_append_right _ h)))))
  have iX5 : ∀ w ∈ wsX50, w ∈ wsX4_markRows := fun w h => List.mem_cons_of_mem _ (List.mem_append_left _ (List.mem_append_left _ (List.mem_append_left _ (List.mem_append_right _ h))))
  have iX1 : ∀ w ∈ wsX10, w ∈ wsX4_markRows := fun w h => List.mem_cons_of_mem _ (List.mem_append_left _ (List.mem_append_left _ (List.mem_append_right _ h)))
  have iJx4a65c : ∀ w ∈ wsJx4a65c0, w ∈ wsX4_markRows := fun w h => List.mem_cons_of_mem _ (List.mem_append_left _ (List.mem_append_right _ h))
  have iX3 : ∀ w ∈ wsX30, w ∈ wsX4_markRows := fun w h => List.mem_cons_of_mem _ (List.mem_append_right _ h)
  have hl := lv_entry ([.ref h0]) (n := 4) (Nat.le_of_ble_eq_true rfl)
  rw [lg_entry_eq]
  generalize (lg_sl ([.ref h0]) ++ List.replicate (4 - (lg_sl ([.ref h0])).length) Slot.unset).toArray = ls at hl ⊢
  have hl : lv_has ls 4 [(0, .ref h0)] := hl
  refine lv_aload_n hx hb dX4_markRows_0 rfl (lv_at hl 0 rfl) ?_
  refine pu_callv (va_runV (As := []) (rest := []) ⟨hx, hb, hml, hown, hts⟩ (c_Survey_findUsed0 l D cy e h0 tb us uc se co ro xp wr sv cd st ) (cwV 0 hts gX4_markRows_X4_findUsed rfl rfl rfl (by decide +kernel) ⟨Nat.le_of_ble_eq_true rfl, Nat.le_of_ble_eq_true rfl⟩) (pu_preV hP hK hS hG [0, 1, 2] rfl (q := (RX4, TX4, 5)) (ci := 5) (q0 := 0) rfl rfl) rfl rfl hl.1 rfl (lv_room (Nat.le_of_ble_eq_true rfl)) dX4_markRows_1 ⟨(Nat.le_of_ble_eq_true rfl), (Nat.le_of_ble_eq_true rfl)⟩) hP hS (fun H locs hP hS => ?_)
  have hP : va_P D vwCl [(h0, .inr (5, [.ref tb, .ref us, .int uc, .ref se, .ref co])), (tb, .inr (6, [.ref ro, .ref xp, wr, .int sv])), (xp, .inr (2, [.ref cd, .int (nI 0), .ref st])), (ro, .inr (0, [.int mod, el, .int (nI 0)]))] H := hP
  refine lv_iconst (v := 1) hx hb dX4_markRows_4 (by decide +kernel) ?_
  refine lv_iconst (v := 0) hx hb dX4_markRows_5 (by decide +kernel) ?_
  refine lv_aload_n hx hb dX4_markRows_6 rfl (lv_at hl 0 rfl) ?_
  refine va_get (D := D) (ci := 5) (v := .int uc) (C := RX4) (T := TX4) (N := 5) hx hb hts iX4 hown hK hP 0 rfl rfl 2 (by decide) (hts (.fieldLink RX4 29 "InterlockTables$Survey" "usedCount" "I") (by decide +kernel)) (fun _ h9 => h9) rfl dX4_markRows_7 ?_
  refine va_getsN (v := .ref (e 1)) hx hb hG.2.1 hS hown (gl_N.f hG.2.2.2 29 rfl) (fun _ h9 => h9) dX4_markRows_10 ?_
  refine va_tlen hx hb hG.2.2.1 hS (v := 6) (by decide +kernel) dX4_markRows_13 ?_
  refine lv_isub hx hb dX4_markRows_14 ?_
  refine va_mmax hx hb (by rw [hml]; exact hl.1.symm) hown (hts (.methodLink RX4 36 Lib.Math.max.name) (by decide +kernel)) (hts (.static Lib.Math.max.name) (by decide +kernel)) (hts (.initialized "java/lang/Math") (by decide +kernel)) (hts (.code Lib.Math.max.name Lib.Math.max.code 2 (some .int)) (by decide +kernel)) (Nat.le_of_ble_eq_true rfl) (Nat.le_of_ble_eq_true rfl) (Nat.le_of_ble_eq_true rfl) (Nat.le_of_ble_eq_true rfl) dX4_markRows_15 ?_
  refine lv_topi (fun x_1 ex_1 => ?_)
  obtain rfl : x_1 = 0 := by rw [ex_1]; subst huc; decide
  refine lv_ishl hx hb dX4_markRows_18 ?_
  refine lv_istore_n (lv' := [(1, .int ((1 : Int32) <<< ((0 : Int32) &&& 31))), (0, .ref h0)]) hx hb dX4_markRows_19 rfl hl (by decide) rfl (fun ls hl => ?_)
  refine lv_aload_n hx hb dX4_markRows_20 rfl (lv_at hl 1 rfl) ?_
  refine va_get (D := D) (ci := 5) (v := .ref tb) (C := RX4) (T := TX4) (N := 5) hx hb hts iX4 hown hK hP 0 rfl rfl 0 (by decide) (hts (.fieldLink RX4 22 "InterlockTables$Survey" "table" "LInterlockTables$Table;") (by decide +kernel)) (fun _ h9 => h9) rfl dX4_markRows_21 ?_
  refine pu_calli (va_runV (As := []) (rest := []) ⟨hx, hb, hml, hown, hts⟩ (c_Table_size l D cy e tb ro xp wr sv mod el (nI 0) ) (cwV 0 hts gX4_markRows_X5_size rfl rfl rfl (by decide +kernel) ⟨Nat.le_of_ble_eq_true rfl, Nat.le_of_ble_eq_true rfl⟩) (pu_preV hP hK hS hG [1, 3] rfl (q := (RX5, TX5, 4)) (ci := 6) (q0 := 1) rfl rfl) rfl rfl hl.1 rfl (lv_room (Nat.le_of_ble_eq_true rfl)) dX4_markRows_24 ⟨(Nat.le_of_ble_eq_true rfl), (Nat.le_of_ble_eq_true rfl)⟩) hP hS (fun H locs hP hS => ?_)
  have hP : va_P D vwCl [(h0, .inr (5, [.ref tb, .ref us, .int uc, .ref se, .ref co])), (tb, .inr (6, [.ref ro, .ref xp, wr, .int sv])), (xp, .inr (2, [.ref cd, .int (nI 0), .ref st])), (ro, .inr (0, [.int mod, el, .int (nI 0)]))] H := hP
  refine lv_istore_n (lv' := [(2, .int (nI 0)), (1, .int ((1 : Int32) <<< ((0 : Int32) &&& 31))), (0, .ref h0)]) hx hb dX4_markRows_27 rfl hl (by decide) rfl (fun ls hl => ?_)
  refine lv_iconst (v := 0) hx hb dX4_markRows_28 (by decide +kernel) ?_
  refine lv_istore_n (lv' := [(3, .int 0), (2, .int (nI 0)), (1, .int ((1 : Int32) <<< ((0 : Int32) &&& 31))), (0, .ref h0)]) hx hb dX4_markRows_29 rfl hl (by decide) rfl (fun ls hl => ?_)
  refine lv_iload_n hx hb dX4_markRows_30 rfl (lv_at hl 0 rfl) ?_
  refine lv_iload_n hx hb dX4_markRows_31 rfl (lv_at hl 2 rfl) ?_
  refine lv_icmp_ge (tgt := 57) hx hb dX4_markRows_32 (by decide) (fun c32 => ?_) (fun c32 => ?_)
  · exact W.vret hx hb hr (fun t ht hW => ⟨⟨(), rfl, trivial, trivial⟩, hS.F ht⟩) hS.2.2 dX4_markRows_57
  · refine lv_iload_n hx hb dX4_markRows_35 rfl (lv_at hl 1 rfl) ?_
    refine lv_if_le (tgt := 57) hx hb dX4_markRows_36 (by decide) (fun _ => ?_) (fun c36 => absurd (by decide) c36)
    exact W.vret hx hb hr (fun t ht hW => ⟨⟨(), rfl, trivial, trivial⟩, hS.F ht⟩) hS.2.2 dX4_markRows_57

set_option maxHeartbeats 4000000 in
set_option maxRecDepth 100000 in
/-- idleRow: no rows, none -/
theorem c_Table_idleRow0 (l : Launch) (D : va_G) (cy : Nat → ClassId) (e : Nat → Nat) (h0 : Nat) (ro : Nat) (xp : Nat) (wr : Value) (mod : Int32) (el : Value) (cd : Nat) (st : Nat) (i : Int32) (sz : Nat)  : Met l yX5_idleRow wsX5_idleRow ({ frames := 3, cells := 4, slots := 69, locals := 67 }) (va_Pc [.ref h0, .int i] (mt_B D cy e [(h0, .inr (6, [.ref ro, .ref xp, wr, .int 0])), (ro, .inr (0, [.int mod, el, .int (nI 0)])), (xp, .inr (2, [.ref cd, .int (nI 0), .ref st]))] sz)) (va_Qi (fun (r : Int32) (_ : Unit) => r = -1) (mt_Q D (fun (_ : Unit) => []) (va_A [(h0, .inr (6, [.ref ro, .ref xp, wr, .int 0])), (ro, .inr (0, [.int mod, el, .int (nI 0)])), (xp, .inr (2, [.ref cd, .int (nI 0), .ref st]))] sz)) (va_A [(h0, .inr (6, [.ref ro, .ref xp, wr, .int 0])), (ro, .inr (0, [.int mod, el, .int (nI 0)])), (xp, .inr (2, [.ref cd, .int (nI 0), .ref st]))] sz)) (4) (69) (va_A [(h0, .inr (6, [.ref ro, .ref xp, wr, .int 0])), (ro, .inr (0, [.int mod, el, .int (nI 0)])), (xp, .inr (2, [.ref cd, .int (nI 0), .ref st]))] sz) := by
  refine Met.ofW (cc := cX5_idleRow) (maxL := 2) (ret := (some .int)) (by decide) rfl ?_
  intro p ev s m args below meth c s₁ B hml hv
  obtain ⟨rfl, hsz, hP, hK, hD0, hG⟩ := hv
  have hx := B.exec
  have hb := B.bytes
  have hr := B.returns
  have hts := atoms_spec (ws := wsX5_idleRow) B.pre
  have hown : s.vm.findClass RX5 = some m.cls := findClass_of_methodNamed B.named
  have hlocks := B.notSynchronized
  subst hsz
  have hD := hD0.self (sz := s.heap.size)
  generalize hAe : va_A [(h0, .inr (6, [.ref ro, .ref xp, wr, .int 0])), (ro, .inr (0, [.int mod, el, .int (nI 0)])), (xp, .inr (2, [.ref cd, .int (nI 0), .ref st]))] s.heap.size = A at hD hG ⊢
  have hA : ∀ q : Nat, s.heap.size ≤ q → A q := fun q h => by rw [← hAe]; exact Or.inr h
  have hS : va_S A s.heap s.heap [] := va_S.rf
  have hP : va_P D vwCl [(h0, .inr (6, [.ref ro, .ref xp, wr, .int 0])), (ro, .inr (0, [.int mod, el, .int (nI 0)])), (xp, .inr (2, [.ref cd, .int (nI 0), .ref st]))] s.heap := hP
  have iX5 : ∀ w ∈ wsX50, w ∈ wsX5_idleRow := fun w h => List.mem_cons_of_mem _ (List.mem_append_left _ (List.mem_append_left _ (List.mem_append_left _ (List.mem_append_left _ (List.mem_append_right _ h)))))
  have iX4 : ∀ w ∈ wsX40, w ∈ wsX5_idleRow := fun w h => List.mem_cons_of_mem _ (List.mem_append_left _ (List.mem_append_left _ (List.mem_append_left _ (List.mem_append_right _ h))))
  have iX1 : ∀ w ∈ wsX10, w ∈ wsX5_idleRow := fun w h => List.mem_cons_of_mem _ (List.mem_append_left _ (List.mem_append_left _ (List.mem_append_right _ h)))
  have iJx4a65c : ∀ w ∈ wsJx4a65c0, w ∈ wsX5_idleRow := fun w h => List.mem_cons_of_mem _ (List.mem_append_left _ (List.mem_append_right _ h))
  have iX3 : ∀ w ∈ wsX30, w ∈ wsX5_idleRow := fun w h => List.mem_cons_of_mem _ (List.mem_append_right _ h)
  have hl := lv_entry ([.ref h0, .int i]) (n := 2) (Nat.le_of_ble_eq_true rfl)
  rw [lg_entry_eq]
  generalize (lg_sl ([.ref h0, .int i]) ++ List.replicate (2 - (lg_sl ([.ref h0, .int i])).length) Slot.unset).toArray = ls at hl ⊢
  have hl : lv_has ls 2 [(0, .ref h0), (1, .int i)] := hl
  refine lv_aload_n hx hb dX5_idleRow_0 rfl (lv_at hl 0 rfl) ?_
  refine va_get (D := D) (ci := 6) (v := .int 0) (C := RX5) (T := TX5) (N := 4) hx hb hts iX5 hown hK hP 0 rfl rfl 3 (by decide) (hts (.fieldLink RX5 71 "InterlockTables$Table" "surveyed" "Z") (by decide +kernel)) (fun _ h9 => h9) rfl dX5_idleRow_1 ?_
  refine lv_if_ne (tgt := 23) hx hb dX5_idleRow_4 (by decide) (fun c4 => absurd rfl c4) (fun _ => ?_)
  refine va_new (ci := 5) (fs := [.null, .null, .int 0, .null, .null]) (C := RX4) (T := TX4) (N := 5) hx hb hts iX4 tyX4 tyX4_ok hown (hts (.classLink RX5 75 RX4) (by decide +kernel)) (hts (.instantiable RX4 5) (by decide +kernel)) (hts (.initialized RX4) (by decide +kernel)) hK hP hD hS hA rfl (by decide +kernel) (Nat.le_of_ble_eq_true rfl) (Nat.le_of_ble_eq_true rfl) dX5_idleRow_7 (fun a7 H hP hD hS => ?_)
  have hP : va_P D vwCl [(h0, .inr (6, [.ref ro, .ref xp, wr, .int 0])), (ro, .inr (0, [.int mod, el, .int (nI 0)])), (xp, .inr (2, [.ref cd, .int (nI 0), .ref st])), (a7, .inr (5, [.null, .null, .int 0, .null, .null]))] H := hP
  have hD : va_D A [(h0, .inr (6, [.ref ro, .ref xp, wr, .int 0])), (ro, .inr (0, [.int mod, el, .int (nI 0)])), (xp, .inr (2, [.ref cd, .int (nI 0), .ref st])), (a7, .inr (5, [.null, .null, .int 0, .null, .null]))] := hD
  refine W.widen (k := 1) (n := 5) (by omega) (by omega) ?_
  refine lv_dup hx hb dX5_idleRow_10 rfl ?_
  refine lv_aload_n hx hb dX5_idleRow_11 rfl (lv_at hl 0 rfl) ?_
  refine mt_callv (wr := [(h0, .inr (6, [.ref ro, .ref xp, wr, .int 0])), (ro, .inr (0, [.int mod, el, .int (nI 0)])), (xp, .inr (2, [.ref cd, .int (nI 0), .ref st]))]) (va_runI (As := [.ref h0]) (rest := [.ref a7]) ⟨hx, hb, hml, hown, hts⟩ (c_Survey_init l D cy e a7 h0 H.size ) (cwI 1 hts gX5_idleRow_X4_init rfl rfl rfl (hts (.initialized RX4) (by decide +kernel)) (hts (.methodLink RX5 77 yX4_init) (by decide +kernel)) (hts (.instanceMethod yX4_init) (by decide +kernel)) rfl (by decide +kernel) ⟨Nat.le_of_ble_eq_true rfl, Nat.le_of_ble_eq_true rfl⟩) (mt_preS hP hD hK hS hA hG [3] rfl (by decide)) rfl rfl hl.1 rfl (lv_room (Nat.le_of_ble_eq_true rfl)) dX5_idleRow_12 ⟨(Nat.le_of_ble_eq_true rfl), (Nat.le_of_ble_eq_true rfl)⟩) hP hD hS hA [3] [0, 1, 2] rfl rfl (by decide) (by decide) (fun u H locs hw hP hD hS => ?_)
  obtain ⟨us_12, se_12, co_12⟩ := u
  have hP : va_P D vwCl [(h0, .inr (6, [.ref ro, .ref xp, wr, .int 0])), (ro, .inr (0, [.int mod, el, .int (nI 0)])), (xp, .inr (2, [.ref cd, .int (nI 0), .ref st])), (a7, .inr (5, [.ref h0, .ref us_12, .int 0, .ref se_12, .ref co_12])), (us_12, .inl (cy 1, 16, .inl (fun _ => 0))), (se_12, .inl (cy 2, 16, .inr (.inl (fun _ => 0)))), (co_12, .inl (cy 2, 32, .inr (.inl (fun _ => 0))))] H := hP
  have hD : va_D A [(h0, .inr (6, [.ref ro, .ref xp, wr, .int 0])), (ro, .inr (0, [.int mod, el, .int (nI 0)])), (xp, .inr (2, [.ref cd, .int (nI 0), .ref st])), (a7, .inr (5, [.ref h0, .ref us_12, .int 0, .ref se_12, .ref co_12])), (us_12, .inl (cy 1, 16, .inl (fun _ => 0))), (se_12, .inl (cy 2, 16, .inr (.inl (fun _ => 0)))), (co_12, .inl (cy 2, 32, .inr (.inl (fun _ => 0))))] := hD
  replace hw : True := hw
  refine W.widen (k := 4) (n := 69) (by omega) (by omega) ?_
  refine pu_callv (va_runV (As := []) (rest := []) ⟨hx, hb, hml, hown, hts⟩ (c_Survey_markRows0 l D cy e a7 h0 us_12 0 se_12 co_12 ro xp wr 0 cd st mod el rfl) (cwV 0 hts gX5_idleRow_X4_markRows rfl rfl rfl (by decide +kernel) ⟨Nat.le_of_ble_eq_true rfl, Nat.le_of_ble_eq_true rfl⟩) (pu_preV hP hK hS hG [3, 0, 2, 1] rfl (q := (RX4, TX4, 5)) (ci := 5) (q0 := 3) rfl rfl) rfl rfl hl.1 rfl (lv_room (Nat.le_of_ble_eq_true rfl)) dX5_idleRow_15 ⟨(Nat.le_of_ble_eq_true rfl), (Nat.le_of_ble_eq_true rfl)⟩) hP hS (fun H locs hP hS => ?_)
  have hP : va_P D vwCl [(h0, .inr (6, [.ref ro, .ref xp, wr, .int 0])), (ro, .inr (0, [.int mod, el, .int (nI 0)])), (xp, .inr (2, [.ref cd, .int (nI 0), .ref st])), (a7, .inr (5, [.ref h0, .ref us_12, .int 0, .ref se_12, .ref co_12])), (us_12, .inl (cy 1, 16, .inl (fun _ => 0))), (se_12, .inl (cy 2, 16, .inr (.inl (fun _ => 0)))), (co_12, .inl (cy 2, 32, .inr (.inl (fun _ => 0))))] H := hP
  refine lv_aload_n hx hb dX5_idleRow_18 rfl (lv_at hl 0 rfl) ?_
  refine lv_iconst (v := 1) hx hb dX5_idleRow_19 (by decide +kernel) ?_
  refine va_put (D := D) (ci := 6) (v := .int 1) (ty := .boolean) (C := RX5) (T := TX5) (N := 4) hx hb hts iX5 tyX5 tyX5_ok nmX5 hown hK hP hD hS 0 rfl rfl 3 (by decide) (hts (.fieldLink RX5 71 "InterlockTables$Table" "surveyed" "Z") (by decide +kernel)) (fun _ h9 => h9) rfl (by decide +kernel) rfl rfl (Nat.le_of_ble_eq_true rfl) dX5_idleRow_20 (fun H locs hP hD hS => ?_)
  have hP : va_P D vwCl [(h0, .inr (6, [.ref ro, .ref xp, wr, .int 1])), (ro, .inr (0, [.int mod, el, .int (nI 0)])), (xp, .inr (2, [.ref cd, .int (nI 0), .ref st])), (a7, .inr (5, [.ref h0, .ref us_12, .int 0, .ref se_12, .ref co_12])), (us_12, .inl (cy 1, 16, .inl (fun _ => 0))), (se_12, .inl (cy 2, 16, .inr (.inl (fun _ => 0)))), (co_12, .inl (cy 2, 32, .inr (.inl (fun _ => 0))))] H := hP
  have hD : va_D A [(h0, .inr (6, [.ref ro, .ref xp, wr, .int 1])), (ro, .inr (0, [.int mod, el, .int (nI 0)])), (xp, .inr (2, [.ref cd, .int (nI 0), .ref st])), (a7, .inr (5, [.ref h0, .ref us_12, .int 0, .ref se_12, .ref co_12])), (us_12, .inl (cy 1, 16, .inl (fun _ => 0))), (se_12, .inl (cy 2, 16, .inr (.inl (fun _ => 0)))), (co_12, .inl (cy 2, 32, .inr (.inl (fun _ => 0))))] := hD
  refine lv_aload_n hx hb dX5_idleRow_23 rfl (lv_at hl 0 rfl) ?_
  refine lv_iload_n hx hb dX5_idleRow_24 rfl (lv_at hl 1 rfl) ?_
  refine lv_iconst (v := 0) hx hb dX5_idleRow_25 (by decide +kernel) ?_
  refine pu_calli (va_runV (As := [.int i, .int 0]) (rest := []) ⟨hx, hb, hml, hown, hts⟩ (c_Table_pick0 l D cy e h0 ro xp wr 1 mod el i 0 ) (cwV 2 hts gX5_idleRow_X5_pick rfl rfl rfl (by decide +kernel) ⟨Nat.le_of_ble_eq_true rfl, Nat.le_of_ble_eq_true rfl⟩) (pu_preV hP hK hS hG [0, 1] rfl (q := (RX5, TX5, 4)) (ci := 6) (q0 := 0) rfl rfl) rfl rfl hl.1 rfl (lv_room (Nat.le_of_ble_eq_true rfl)) dX5_idleRow_26 ⟨(Nat.le_of_ble_eq_true rfl), (Nat.le_of_ble_eq_true rfl)⟩) hP hS (fun H locs hP hS => ?_)
  have hP : va_P D vwCl [(h0, .inr (6, [.ref ro, .ref xp, wr, .int 1])), (ro, .inr (0, [.int mod, el, .int (nI 0)])), (xp, .inr (2, [.ref cd, .int (nI 0), .ref st])), (a7, .inr (5, [.ref h0, .ref us_12, .int 0, .ref se_12, .ref co_12])), (us_12, .inl (cy 1, 16, .inl (fun _ => 0))), (se_12, .inl (cy 2, 16, .inr (.inl (fun _ => 0)))), (co_12, .inl (cy 2, 32, .inr (.inl (fun _ => 0))))] H := hP
  have hP9 : va_P D vwCl [] H := hP.sub [] rfl
  have hD9 : va_D A [] := hD.sub [] (by decide) rfl
  refine W.widen (k := 4) (n := 69) (by omega) (by omega) ?_
  exact W.iret hx hb hr (fun t ht hW => ⟨⟨_, (), rfl, rfl, by rw [ht]; exact hP9, hD9⟩, hS.F ht⟩) hS.2.2 dX5_idleRow_29

set_option maxHeartbeats 4000000 in
set_option maxRecDepth 100000 in
/-- Writer(expressions) -/
theorem c_Writer_init (l : Launch) (D : va_G) (cy : Nat → ClassId) (e : Nat → Nat) (h0 : Nat) (xp : Nat) (sz : Nat)  : Met l yX7_init wsX7_init ({ frames := 2, cells := 2, slots := 67, locals := 33 }) (va_Pc [.ref h0, .ref xp] (mt_B D cy e [(h0, .inr (8, [.null, .null, .int 0]))] sz)) (va_Qv (fun (u : Nat × Nat) => match u with | (ou, rm) => True) (mt_Q D (fun (u : Nat × Nat) => match u with | (ou, rm) => [(h0, .inr (8, [.ref xp, .ref ou, .int 0])), (ou, .inr (1, [.int (nI 6000), .ref rm, .int (nI 0)])), (rm, .inl (cy 0, 64, .inl (fun _ => 0)))]) (va_A [(h0, .inr (8, [.null, .null, .int 0]))] sz)) (va_A [(h0, .inr (8, [.null, .null, .int 0]))] sz)) (2) (67) (va_A [(h0, .inr (8, [.null, .null, .int 0]))] sz) := by
  refine Met.ofW (cc := cX7_init) (maxL := 2) (ret := none) (by decide) rfl ?_
  intro p ev s m args below meth c s₁ B hml hv
  obtain ⟨rfl, hsz, hP, hK, hD0, hG⟩ := hv
  have hx := B.exec
  have hb := B.bytes
  have hr := B.returns
  have hts := atoms_spec (ws := wsX7_init) B.pre
  have hown : s.vm.findClass RX7 = some m.cls := findClass_of_methodNamed B.named
  have hlocks := B.notSynchronized
  have hin : meth.name = "<init>" := (name_of_methodNamed B.named B.method).1
  subst hsz
  have hD := hD0.self (sz := s.heap.size)
  generalize hAe : va_A [(h0, .inr (8, [.null, .null, .int 0]))] s.heap.size = A at hD hG ⊢
  have hA : ∀ q : Nat, s.heap.size ≤ q → A q := fun q h => by rw [← hAe]; exact Or.inr h
  have hS : va_S A s.heap s.heap [] := va_S.rf
  have hP : va_P D vwCl [(h0, .inr (8, [.null, .null, .int 0]))] s.heap := hP
  have iX0 : ∀ w ∈ wsX00, w ∈ wsX7_init := fun w h => List.mem_cons_of_mem _ (List.mem_append_left _ (List.mem_append_right _ h))
  have iX7 : ∀ w ∈ wsX70, w ∈ wsX7_init := fun w h => List.mem_cons_of_mem _ (List.mem_append_right _ h)
  have hl := lv_entry ([.ref h0, .ref xp]) (n := 2) (Nat.le_of_ble_eq_true rfl)
  rw [lg_entry_eq]
  generalize (lg_sl ([.ref h0, .ref xp]) ++ List.replicate (2 - (lg_sl ([.ref h0, .ref xp])).length) Slot.unset).toArray = ls at hl ⊢
  have hl : lv_has ls 2 [(0, .ref h0), (1, .ref xp)] := hl
  refine lv_aload_n hx hb dX7_init_0 rfl (lv_at hl 0 rfl) ?_
  refine W.objInit hx hb hown (hts (.methodLink RX7 3 objectInit) (by decide +kernel)) (hts (.instanceMethod objectInit) (by decide +kernel)) (hts (.code objectInit ⟨#[0xb1]⟩ 1 none) (by decide +kernel)) rfl (by rw [hml]; exact hl.1) rfl dX7_init_1 (Nat.le_of_ble_eq_true rfl) (Nat.le_of_ble_eq_true rfl) ?_
  refine W.eq (g2 := F0 m 4 ls []) rfl ?_
  refine lv_aload_n hx hb dX7_init_4 rfl (lv_at hl 0 rfl) ?_
  refine va_new (ci := 1) (fs := [.int 0, .null, .int 0]) (C := RX0) (T := TX0) (N := 3) hx hb hts iX0 tyX0 tyX0_ok hown (hts (.classLink RX7 9 RX0) (by decide +kernel)) (hts (.instantiable RX0 3) (by decide +kernel)) (hts (.initialized RX0) (by decide +kernel)) hK hP hD hS hA rfl (by decide +kernel) (Nat.le_of_ble_eq_true rfl) (Nat.le_of_ble_eq_true rfl) dX7_init_5 (fun a5 H hP hD hS => ?_)
  have hP : va_P D vwCl [(h0, .inr (8, [.null, .null, .int 0])), (a5, .inr (1, [.int 0, .null, .int 0]))] H := hP
  have hD : va_D A [(h0, .inr (8, [.null, .null, .int 0])), (a5, .inr (1, [.int 0, .null, .int 0]))] := hD
  refine W.widen (k := 1) (n := 3) (by omega) (by omega) ?_
  refine lv_dup hx hb dX7_init_8 rfl ?_
  refine lv_sipush (v := 6000) hx hb dX7_init_9 (by decide +kernel) ?_
  refine lv_topi (fun x_1 ex_1 => ?_)
  obtain rfl : x_1 = nI 6000 := ex_1
  refine mt_callv (wr := [(h0, .inr (8, [.null, .null, .int 0]))]) (va_runI (As := [.int (nI 6000)]) (rest := [.ref a5, .ref h0]) ⟨hx, hb, hml, hown, hts⟩ (c_Bytes_init l D cy e a5 6000 H.size ) (cwI 1 hts gX7_init_X0_init rfl rfl rfl (hts (.initialized RX0) (by decide +kernel)) (hts (.methodLink RX7 11 yX0_init) (by decide +kernel)) (hts (.instanceMethod yX0_init) (by decide +kernel)) rfl (by decide +kernel) ⟨Nat.le_of_ble_eq_true rfl, Nat.le_of_ble_eq_true rfl⟩) (mt_preS hP hD hK hS hA hG [1] rfl (by decide)) rfl rfl hl.1 rfl (lv_room (Nat.le_of_ble_eq_true rfl)) dX7_init_12 ⟨(Nat.le_of_ble_eq_true rfl), (Nat.le_of_ble_eq_true rfl)⟩) hP hD hS hA [1] [0] rfl rfl (by decide) (by decide) (fun u H locs hw hP hD hS => ?_)
  obtain ⟨rm_12, rfl⟩ : ∃ z, z = u := ⟨_, rfl⟩
  have hP : va_P D vwCl [(h0, .inr (8, [.null, .null, .int 0])), (a5, .inr (1, [.int (nI 6000), .ref rm_12, .int (nI 0)])), (rm_12, .inl (cy 0, 64, .inl (fun _ => 0)))] H := hP
  have hD : va_D A [(h0, .inr (8, [.null, .null, .int 0])), (a5, .inr (1, [.int (nI 6000), .ref rm_12, .int (nI 0)])), (rm_12, .inl (cy 0, 64, .inl (fun _ => 0)))] := hD
  replace hw : True := hw
  refine W.widen (k := 2) (n := 67) (by omega) (by omega) ?_
  refine va_putF (D := D) (ci := 8) (v := .ref a5) (ty := (.object "InterlockTables$Bytes")) (C := RX7) (T := TX7) (N := 3) hx hb hts iX7 tyX7 tyX7_ok nmX7 hown hK hP hD hS 0 rfl rfl 1 (by decide) (hts (.fieldLink RX7 14 "InterlockTables$Writer" "out" "LInterlockTables$Bytes;") (by decide +kernel)) (fun _ h9 => h9) rfl hin rfl (by decide +kernel) rfl rfl (Nat.le_of_ble_eq_true rfl) dX7_init_15 (fun H locs hP hD hS => ?_)
  have hP : va_P D vwCl [(h0, .inr (8, [.null, .ref a5, .int 0])), (a5, .inr (1, [.int (nI 6000), .ref rm_12, .int (nI 0)])), (rm_12, .inl (cy 0, 64, .inl (fun _ => 0)))] H := hP
  have hD : va_D A [(h0, .inr (8, [.null, .ref a5, .int 0])), (a5, .inr (1, [.int (nI 6000), .ref rm_12, .int (nI 0)])), (rm_12, .inl (cy 0, 64, .inl (fun _ => 0)))] := hD
  refine lv_aload_n hx hb dX7_init_18 rfl (lv_at hl 0 rfl) ?_
  refine lv_aload_n hx hb dX7_init_19 rfl (lv_at hl 1 rfl) ?_
  refine va_putF (D := D) (ci := 8) (v := .ref xp) (ty := (.object "InterlockTables$Expressions")) (C := RX7) (T := TX7) (N := 3) hx hb hts iX7 tyX7 tyX7_ok nmX7 hown hK hP hD hS 0 rfl rfl 0 (by decide) (hts (.fieldLink RX7 20 "InterlockTables$Writer" "expressions" "LInterlockTables$Expressions;") (by decide +kernel)) (fun _ h9 => h9) rfl hin rfl (by decide +kernel) rfl rfl (Nat.le_of_ble_eq_true rfl) dX7_init_20 (fun H locs hP hD hS => ?_)
  have hP : va_P D vwCl [(h0, .inr (8, [.ref xp, .ref a5, .int 0])), (a5, .inr (1, [.int (nI 6000), .ref rm_12, .int (nI 0)])), (rm_12, .inl (cy 0, 64, .inl (fun _ => 0)))] H := hP
  have hD : va_D A [(h0, .inr (8, [.ref xp, .ref a5, .int 0])), (a5, .inr (1, [.int (nI 6000), .ref rm_12, .int (nI 0)])), (rm_12, .inl (cy 0, 64, .inl (fun _ => 0)))] := hD
  have hP9 : va_P D vwCl [(h0, .inr (8, [.ref xp, .ref a5, .int 0])), (a5, .inr (1, [.int (nI 6000), .ref rm_12, .int (nI 0)])), (rm_12, .inl (cy 0, 64, .inl (fun _ => 0)))] H := hP.sub [0, 1, 2] rfl
  have hD9 : va_D A [(h0, .inr (8, [.ref xp, .ref a5, .int 0])), (a5, .inr (1, [.int (nI 6000), .ref rm_12, .int (nI 0)])), (rm_12, .inl (cy 0, 64, .inl (fun _ => 0)))] := hD.sub [0, 1, 2] (by decide) rfl
  refine W.widen (k := 2) (n := 67) (by omega) (by omega) ?_
  exact W.vret hx hb hr (fun t ht hW => ⟨⟨(a5, rm_12), rfl, trivial, by rw [ht]; exact hP9, hD9⟩, hS.F ht⟩) hS.2.2 dX7_init_23

set_option maxHeartbeats 4000000 in
set_option maxRecDepth 100000 in
/-- written: no rows, no bytes -/
theorem c_Table_written0 (l : Launch) (D : va_G) (cy : Nat → ClassId) (e : Nat → Nat) (h0 : Nat) (ro : Nat) (xp : Nat) (sv : Int32) (mod : Int32) (el : Value) (sz : Nat)  : Met l yX5_written wsX5_written ({ frames := 3, cells := 3, slots := 70, locals := 54 }) (va_Pc [.ref h0] (mt_B D cy e [(h0, .inr (6, [.ref ro, .ref xp, .null, .int sv])), (ro, .inr (0, [.int mod, el, .int (nI 0)]))] sz)) (va_Qq (fun (r : Option Nat) (u : Nat × Nat) => match u with | (ou, rm) => r = some ou) (mt_Q D (fun (u : Nat × Nat) => match u with | (ou, rm) => [(ou, .inr (1, [.int (nI 6000), .ref rm, .int (nI 0)])), (rm, .inl (cy 0, 64, .inl (fun _ => 0)))]) (va_A [(h0, .inr (6, [.ref ro, .ref xp, .null, .int sv])), (ro, .inr (0, [.int mod, el, .int (nI 0)]))] sz)) (va_A [(h0, .inr (6, [.ref ro, .ref xp, .null, .int sv])), (ro, .inr (0, [.int mod, el, .int (nI 0)]))] sz)) (3) (70) (va_A [(h0, .inr (6, [.ref ro, .ref xp, .null, .int sv])), (ro, .inr (0, [.int mod, el, .int (nI 0)]))] sz) := by
  refine Met.ofW (cc := cX5_written) (maxL := 3) (ret := (some (.object "InterlockTables$Bytes"))) (by decide) rfl ?_
  intro p ev s m args below meth c s₁ B hml hv
  obtain ⟨rfl, hsz, hP, hK, hD0, hG⟩ := hv
  have hx := B.exec
  have hb := B.bytes
  have hr := B.returns
  have hts := atoms_spec (ws := wsX5_written) B.pre
  have hown : s.vm.findClass RX5 = some m.cls := findClass_of_methodNamed B.named
  have hlocks := B.notSynchronized
  subst hsz
  have hD := hD0.self (sz := s.heap.size)
  generalize hAe : va_A [(h0, .inr (6, [.ref ro, .ref xp, .null, .int sv])), (ro, .inr (0, [.int mod, el, .int (nI 0)]))] s.heap.size = A at hD hG ⊢
  have hA : ∀ q : Nat, s.heap.size ≤ q → A q := fun q h => by rw [← hAe]; exact Or.inr h
  have hS : va_S A s.heap s.heap [] := va_S.rf
  have hP : va_P D vwCl [(h0, .inr (6, [.ref ro, .ref xp, .null, .int sv])), (ro, .inr (0, [.int mod, el, .int (nI 0)]))] s.heap := hP
  have iX5 : ∀ w ∈ wsX50, w ∈ wsX5_written := fun w h => List.mem_cons_of_mem _ (List.mem_append_left _ (List.mem_append_left _ (List.mem_append_left _ (List.mem_append_left _ (List.mem_append_left _ (List.mem_append_right _ h))))))
  have iX7 : ∀ w ∈ wsX70, w ∈ wsX5_written := fun w h => List.mem_cons_of_mem _ (List.mem_append_left _ (List.mem_append_left _ (List.mem_append_left _ (List.mem_append_left _ (List.mem_append_right _ h)))))
  have iX0 : ∀ w ∈ wsX00, w ∈ wsX5_written := fun w h => List.mem_cons_of_mem _ (List.mem_append_left _ (List.mem_append_left _ (List.mem_append_left _ (List.mem_append_right _ h))))
  have iJx4a65c : ∀ w ∈ wsJx4a65c0, w ∈ wsX5_written := fun w h => List.mem_cons_of_mem _ (List.mem_append_left _ (List.mem_append_left _ (List.mem_append_right _ h)))
  have iX3 : ∀ w ∈ wsX30, w ∈ wsX5_written := fun w h => List.mem_cons_of_mem _ (List.mem_append_left _ (List.mem_append_right _ h))
  have iX1 : ∀ w ∈ wsX10, w ∈ wsX5_written := fun w h => List.mem_cons_of_mem _ (List.mem_append_right _ h)
  have hl := lv_entry ([.ref h0]) (n := 3) (Nat.le_of_ble_eq_true rfl)
  rw [lg_entry_eq]
  generalize (lg_sl ([.ref h0]) ++ List.replicate (3 - (lg_sl ([.ref h0])).length) Slot.unset).toArray = ls at hl ⊢
  have hl : lv_has ls 3 [(0, .ref h0)] := hl
  refine lv_aload_n hx hb dX5_written_0 rfl (lv_at hl 0 rfl) ?_
  refine va_get (D := D) (ci := 6) (v := .null) (C := RX5) (T := TX5) (N := 4) hx hb hts iX5 hown hK hP 0 rfl rfl 2 (by decide) (hts (.fieldLink RX5 89 "InterlockTables$Table" "written" "LInterlockTables$Bytes;") (by decide +kernel)) (fun _ h9 => h9) rfl dX5_written_1 ?_
  refine lv_ifnonnullN hx hb dX5_written_4 ?_
  refine va_new (ci := 8) (fs := [.null, .null, .int 0]) (C := RX7) (T := TX7) (N := 3) hx hb hts iX7 tyX7 tyX7_ok hown (hts (.classLink RX5 93 RX7) (by decide +kernel)) (hts (.instantiable RX7 3) (by decide +kernel)) (hts (.initialized RX7) (by decide +kernel)) hK hP hD hS hA rfl (by decide +kernel) (Nat.le_of_ble_eq_true rfl) (Nat.le_of_ble_eq_true rfl) dX5_written_7 (fun a7 H hP hD hS => ?_)
  have hP : va_P D vwCl [(h0, .inr (6, [.ref ro, .ref xp, .null, .int sv])), (ro, .inr (0, [.int mod, el, .int (nI 0)])), (a7, .inr (8, [.null, .null, .int 0]))] H := hP
  have hD : va_D A [(h0, .inr (6, [.ref ro, .ref xp, .null, .int sv])), (ro, .inr (0, [.int mod, el, .int (nI 0)])), (a7, .inr (8, [.null, .null, .int 0]))] := hD
  refine W.widen (k := 1) (n := 3) (by omega) (by omega) ?_
  refine lv_dup hx hb dX5_written_10 rfl ?_
  refine lv_aload_n hx hb dX5_written_11 rfl (lv_at hl 0 rfl) ?_
  refine va_get (D := D) (ci := 6) (v := .ref xp) (C := RX5) (T := TX5) (N := 4) hx hb hts iX5 hown hK hP 0 rfl rfl 1 (by decide) (hts (.fieldLink RX5 23 "InterlockTables$Table" "expressions" "LInterlockTables$Expressions;") (by decide +kernel)) (fun _ h9 => h9) rfl dX5_written_12 ?_
  refine mt_callv (wr := [(h0, .inr (6, [.ref ro, .ref xp, .null, .int sv])), (ro, .inr (0, [.int mod, el, .int (nI 0)]))]) (va_runI (As := [.ref xp]) (rest := [.ref a7]) ⟨hx, hb, hml, hown, hts⟩ (c_Writer_init l D cy e a7 xp H.size ) (cwI 1 hts gX5_written_X7_init rfl rfl rfl (hts (.initialized RX7) (by decide +kernel)) (hts (.methodLink RX5 95 yX7_init) (by decide +kernel)) (hts (.instanceMethod yX7_init) (by decide +kernel)) rfl (by decide +kernel) ⟨Nat.le_of_ble_eq_true rfl, Nat.le_of_ble_eq_true rfl⟩) (mt_preS hP hD hK hS hA hG [2] rfl (by decide)) rfl rfl hl.1 rfl (lv_room (Nat.le_of_ble_eq_true rfl)) dX5_written_15 ⟨(Nat.le_of_ble_eq_true rfl), (Nat.le_of_ble_eq_true rfl)⟩) hP hD hS hA [2] [0, 1] rfl rfl (by decide) (by decide) (fun u H locs hw hP hD hS => ?_)
  obtain ⟨ou_15, rm_15⟩ := u
  have hP : va_P D vwCl [(h0, .inr (6, [.ref ro, .ref xp, .null, .int sv])), (ro, .inr (0, [.int mod, el, .int (nI 0)])), (a7, .inr (8, [.ref xp, .ref ou_15, .int 0])), (ou_15, .inr (1, [.int (nI 6000), .ref rm_15, .int (nI 0)])), (rm_15, .inl (cy 0, 64, .inl (fun _ => 0)))] H := hP
  have hD : va_D A [(h0, .inr (6, [.ref ro, .ref xp, .null, .int sv])), (ro, .inr (0, [.int mod, el, .int (nI 0)])), (a7, .inr (8, [.ref xp, .ref ou_15, .int 0])), (ou_15, .inr (1, [.int (nI 6000), .ref rm_15, .int (nI 0)])), (rm_15, .inl (cy 0, 64, .inl (fun _ => 0)))] := hD
  replace hw : True := hw
  refine W.widen (k := 3) (n := 70) (by omega) (by omega) ?_
  refine lv_astore_n (lv' := [(1, .ref a7), (0, .ref h0)]) hx hb dX5_written_18 rfl hl (by decide) rfl (fun ls hl => ?_)
  refine lv_iconst (v := 0) hx hb dX5_written_19 (by decide +kernel) ?_
  refine lv_istore_n (lv' := [(2, .int 0), (1, .ref a7), (0, .ref h0)]) hx hb dX5_written_20 rfl hl (by decide) rfl (fun ls hl => ?_)
  refine lv_iload_n hx hb dX5_written_21 rfl (lv_at hl 0 rfl) ?_
  refine lv_aload_n hx hb dX5_written_22 rfl (lv_at hl 2 rfl) ?_
  refine va_get (D := D) (ci := 6) (v := .ref ro) (C := RX5) (T := TX5) (N := 4) hx hb hts iX5 hown hK hP 0 rfl rfl 0 (by decide) (hts (.fieldLink RX5 12 "InterlockTables$Table" "rows" "Ljava/util/ArrayList;") (by decide +kernel)) (fun _ h9 => h9) rfl dX5_written_23 ?_
  refine pu_calli (va_runV (As := []) (rest := [.int 0]) ⟨hx, hb, hml, hown, hts⟩ (c_AL_size l D cy e ro mod el (nI 0) ) (cwV 0 hts gX5_written_Jx4a65c_size_8abf5 rfl rfl rfl (by decide +kernel) ⟨Nat.le_of_ble_eq_true rfl, Nat.le_of_ble_eq_true rfl⟩) (pu_preV hP hK hS hG [1] rfl (q := (RJx4a65c, TJx4a65c, 3)) (ci := 0) (q0 := 1) rfl rfl) rfl rfl hl.1 rfl (lv_room (Nat.le_of_ble_eq_true rfl)) dX5_written_26 ⟨(Nat.le_of_ble_eq_true rfl), (Nat.le_of_ble_eq_true rfl)⟩) hP hS (fun H locs hP hS => ?_)
  have hP : va_P D vwCl [(h0, .inr (6, [.ref ro, .ref xp, .null, .int sv])), (ro, .inr (0, [.int mod, el, .int (nI 0)])), (a7, .inr (8, [.ref xp, .ref ou_15, .int 0])), (ou_15, .inr (1, [.int (nI 6000), .ref rm_15, .int (nI 0)])), (rm_15, .inl (cy 0, 64, .inl (fun _ => 0)))] H := hP
  refine lv_icmp_ge (tgt := 53) hx hb dX5_written_29 (by decide) (fun _ => ?_) (fun c29 => absurd (by decide) c29)
  refine lv_aload_n hx hb dX5_written_53 rfl (lv_at hl 2 rfl) ?_
  refine lv_aload_n hx hb dX5_written_54 rfl (lv_at hl 1 rfl) ?_
  refine va_getN (D := D) (ci := 8) (v := .ref ou_15) (C := RX7) (T := TX7) (N := 3) hx hb hts iX7 hown hK hP 2 rfl rfl 1 (by decide) (gl_N.f hG.2.2.2 30 rfl) (fun _ h9 => h9) rfl dX5_written_55 ?_
  refine va_put (D := D) (ci := 6) (v := .ref ou_15) (ty := (.object "InterlockTables$Bytes")) (C := RX5) (T := TX5) (N := 4) hx hb hts iX5 tyX5 tyX5_ok nmX5 hown hK hP hD hS 0 rfl rfl 2 (by decide) (hts (.fieldLink RX5 89 "InterlockTables$Table" "written" "LInterlockTables$Bytes;") (by decide +kernel)) (fun _ h9 => h9) rfl (by decide +kernel) rfl rfl (Nat.le_of_ble_eq_true rfl) dX5_written_58 (fun H locs hP hD hS => ?_)
  have hP : va_P D vwCl [(h0, .inr (6, [.ref ro, .ref xp, .ref ou_15, .int sv])), (ro, .inr (0, [.int mod, el, .int (nI 0)])), (a7, .inr (8, [.ref xp, .ref ou_15, .int 0])), (ou_15, .inr (1, [.int (nI 6000), .ref rm_15, .int (nI 0)])), (rm_15, .inl (cy 0, 64, .inl (fun _ => 0)))] H := hP
  have hD : va_D A [(h0, .inr (6, [.ref ro, .ref xp, .ref ou_15, .int sv])), (ro, .inr (0, [.int mod, el, .int (nI 0)])), (a7, .inr (8, [.ref xp, .ref ou_15, .int 0])), (ou_15, .inr (1, [.int (nI 6000), .ref rm_15, .int (nI 0)])), (rm_15, .inl (cy 0, 64, .inl (fun _ => 0)))] := hD
  refine lv_aload_n hx hb dX5_written_61 rfl (lv_at hl 2 rfl) ?_
  refine va_get (D := D) (ci := 6) (v := .ref ou_15) (C := RX5) (T := TX5) (N := 4) hx hb hts iX5 hown hK hP 0 rfl rfl 2 (by decide) (hts (.fieldLink RX5 89 "InterlockTables$Table" "written" "LInterlockTables$Bytes;") (by decide +kernel)) (fun _ h9 => h9) rfl dX5_written_62 ?_
  have hP9 : va_P D vwCl [(ou_15, .inr (1, [.int (nI 6000), .ref rm_15, .int (nI 0)])), (rm_15, .inl (cy 0, 64, .inl (fun _ => 0)))] H := hP.sub [3, 4] rfl
  have hD9 : va_D A [(ou_15, .inr (1, [.int (nI 6000), .ref rm_15, .int (nI 0)])), (rm_15, .inl (cy 0, 64, .inl (fun _ => 0)))] := hD.sub [3, 4] (by decide) rfl
  refine W.widen (k := 3) (n := 70) (by omega) (by omega) ?_
  exact W.aret hx hb hr (Or.inl ⟨_, rfl⟩) (Or.inr ⟨_, rfl⟩) (fun t ht hW => ⟨⟨some ou_15, (ou_15, rm_15), rfl, rfl, by rw [ht]; exact hP9, hD9⟩, hS.F ht⟩) hS.2.2 dX5_written_65

set_option maxHeartbeats 4000000 in
set_option maxRecDepth 100000 in
/-- Words(length) -/
theorem c_Words_init (l : Launch) (D : va_G) (cy : Nat → ClassId) (e : Nat → Nat) (h0 : Nat) (k : Nat) (sz : Nat) (hk : k < 65536) : Met l yX6_init wsX6_init ({ frames := 1, cells := 2, slots := k + k, locals := 13 }) (va_Pc [.ref h0, .int (nI k)] (mt_B D cy e [(h0, .inr (7, [.null, .null, .int 0, .int 0, .int 0]))] sz)) (va_Qv (fun (u : Nat × Nat) => match u with | (kd, vl) => True) (mt_Q D (fun (u : Nat × Nat) => match u with | (kd, vl) => [(h0, .inr (7, [.ref kd, .ref vl, .int (nI 0), .int (nI 0), .int 0])), (kd, .inl (cy 0, k, .inl (fun _ => 0))), (vl, .inl (cy 3, k, .inl (fun _ => 0)))]) (va_A [(h0, .inr (7, [.null, .null, .int 0, .int 0, .int 0]))] sz)) (va_A [(h0, .inr (7, [.null, .null, .int 0, .int 0, .int 0]))] sz)) (2) (k + k) (va_A [(h0, .inr (7, [.null, .null, .int 0, .int 0, .int 0]))] sz) := by
  refine Met.ofW (cc := cX6_init) (maxL := 3) (ret := none) (by decide) rfl ?_
  intro p ev s m args below meth c s₁ B hml hv
  obtain ⟨rfl, hsz, hP, hK, hD0, hG⟩ := hv
  have hx := B.exec
  have hb := B.bytes
  have hr := B.returns
  have hts := atoms_spec (ws := wsX6_init) B.pre
  have hown : s.vm.findClass RX6 = some m.cls := findClass_of_methodNamed B.named
  have hlocks := B.notSynchronized
  have hin : meth.name = "<init>" := (name_of_methodNamed B.named B.method).1
  subst hsz
  have hD := hD0.self (sz := s.heap.size)
  generalize hAe : va_A [(h0, .inr (7, [.null, .null, .int 0, .int 0, .int 0]))] s.heap.size = A at hD hG ⊢
  have hA : ∀ q : Nat, s.heap.size ≤ q → A q := fun q h => by rw [← hAe]; exact Or.inr h
  have hS : va_S A s.heap s.heap [] := va_S.rf
  have hP : va_P D vwCl [(h0, .inr (7, [.null, .null, .int 0, .int 0, .int 0]))] s.heap := hP
  have iX6 : ∀ w ∈ wsX60, w ∈ wsX6_init := fun w h => List.mem_cons_of_mem _ (List.mem_append_right _ h)
  have hl := lv_entry ([.ref h0, .int (nI k)]) (n := 3) (Nat.le_of_ble_eq_true rfl)
  rw [lg_entry_eq]
  generalize (lg_sl ([.ref h0, .int (nI k)]) ++ List.replicate (3 - (lg_sl ([.ref h0, .int (nI k)])).length) Slot.unset).toArray = ls at hl ⊢
  have hl : lv_has ls 3 [(0, .ref h0), (1, .int (nI k))] := hl
  refine lv_aload_n hx hb dX6_init_0 rfl (lv_at hl 0 rfl) ?_
  refine W.objInit hx hb hown (hts (.methodLink RX6 3 objectInit) (by decide +kernel)) (hts (.instanceMethod objectInit) (by decide +kernel)) (hts (.code objectInit ⟨#[0xb1]⟩ 1 none) (by decide +kernel)) rfl (by rw [hml]; exact hl.1) rfl dX6_init_1 (Nat.le_of_ble_eq_true rfl) (Nat.le_of_ble_eq_true rfl) ?_
  refine W.eq (g2 := F0 m 4 ls []) rfl ?_
  refine lv_iconst (v := 0) hx hb dX6_init_4 (by decide +kernel) ?_
  refine lv_iload_n hx hb dX6_init_5 rfl (lv_at hl 1 rfl) ?_
  refine va_mmax hx hb (by rw [hml]; exact hl.1.symm) hown (hts (.methodLink RX6 9 Lib.Math.max.name) (by decide +kernel)) (hts (.static Lib.Math.max.name) (by decide +kernel)) (hts (.initialized "java/lang/Math") (by decide +kernel)) (hts (.code Lib.Math.max.name Lib.Math.max.code 2 (some .int)) (by decide +kernel)) (Nat.le_of_ble_eq_true rfl) (Nat.le_of_ble_eq_true rfl) (Nat.le_of_ble_eq_true rfl) (show 0 + 0 ≤ k + k from by omega) dX6_init_6 ?_
  refine lv_topi (fun x_1 ex_1 => ?_)
  obtain rfl : x_1 = nI k := by rw [ex_1]; exact pk_max0 (by omega)
  refine lv_istore_n (lv' := [(2, .int (nI k)), (0, .ref h0), (1, .int (nI k))]) hx hb dX6_init_9 rfl hl (by decide) rfl (fun ls hl => ?_)
  refine lv_aload_n hx hb dX6_init_10 rfl (lv_at hl 1 rfl) ?_
  refine lv_iload_n hx hb dX6_init_11 rfl (lv_at hl 0 rfl) ?_
  refine na_new (atype := .byte) (ty := .byte) (a0 := (k, .inl (fun _ => 0))) (N' := k) hx hb (hts (.arrayClass .byte) (by decide +kernel)) rfl 0 rfl hK hP hD hS hA (fun _ => rfl) (nI_pos (by omega)) (nI_clamp (by omega)) (by simp only [componentBytes]; omega) (Nat.le_of_ble_eq_true rfl) (show 0 + k ≤ k + k from by omega) dX6_init_12 (fun a12 H hP hD hS => ?_)
  have hP : va_P D vwCl [(h0, .inr (7, [.null, .null, .int 0, .int 0, .int 0])), (a12, .inl (cy 0, k, .inl (fun _ => 0)))] H := hP
  have hD : va_D A [(h0, .inr (7, [.null, .null, .int 0, .int 0, .int 0])), (a12, .inl (cy 0, k, .inl (fun _ => 0)))] := hD
  refine W.widen (k := 1) (n := k) (by omega) (by omega) ?_
  refine va_putF (D := D) (ci := 7) (v := .ref a12) (ty := (.array .byte)) (C := RX6) (T := TX6) (N := 5) hx hb hts iX6 tyX6 tyX6_ok nmX6 hown hK hP hD hS 0 rfl rfl 0 (by decide) (hts (.fieldLink RX6 15 "InterlockTables$Words" "kinds" "[B") (by decide +kernel)) (fun _ h9 => h9) rfl hin rfl (by decide +kernel) rfl rfl (Nat.le_of_ble_eq_true rfl) dX6_init_14 (fun H locs hP hD hS => ?_)
  have hP : va_P D vwCl [(h0, .inr (7, [.ref a12, .null, .int 0, .int 0, .int 0])), (a12, .inl (cy 0, k, .inl (fun _ => 0)))] H := hP
  have hD : va_D A [(h0, .inr (7, [.ref a12, .null, .int 0, .int 0, .int 0])), (a12, .inl (cy 0, k, .inl (fun _ => 0)))] := hD
  refine lv_aload_n hx hb dX6_init_17 rfl (lv_at hl 1 rfl) ?_
  refine lv_iload_n hx hb dX6_init_18 rfl (lv_at hl 0 rfl) ?_
  refine na_new (atype := .short) (ty := .short) (a0 := (k, .inl (fun _ => 0))) (N' := k) hx hb (hts (.arrayClass .short) (by decide +kernel)) rfl 3 rfl hK hP hD hS hA (fun _ => rfl) (nI_pos (by omega)) (nI_clamp (by omega)) (by simp only [componentBytes]; omega) (Nat.le_of_ble_eq_true rfl) (show k + k ≤ k + k from by omega) dX6_init_19 (fun a19 H hP hD hS => ?_)
  have hP : va_P D vwCl [(h0, .inr (7, [.ref a12, .null, .int 0, .int 0, .int 0])), (a12, .inl (cy 0, k, .inl (fun _ => 0))), (a19, .inl (cy 3, k, .inl (fun _ => 0)))] H := hP
  have hD : va_D A [(h0, .inr (7, [.ref a12, .null, .int 0, .int 0, .int 0])), (a12, .inl (cy 0, k, .inl (fun _ => 0))), (a19, .inl (cy 3, k, .inl (fun _ => 0)))] := hD
  refine W.widen (k := 2) (n := k + k) (by omega) (by omega) ?_
  refine va_putF (D := D) (ci := 7) (v := .ref a19) (ty := (.array .short)) (C := RX6) (T := TX6) (N := 5) hx hb hts iX6 tyX6 tyX6_ok nmX6 hown hK hP hD hS 0 rfl rfl 1 (by decide) (hts (.fieldLink RX6 21 "InterlockTables$Words" "values" "[S") (by decide +kernel)) (fun _ h9 => h9) rfl hin rfl (by decide +kernel) rfl rfl (Nat.le_of_ble_eq_true rfl) dX6_init_21 (fun H locs hP hD hS => ?_)
  have hP : va_P D vwCl [(h0, .inr (7, [.ref a12, .ref a19, .int 0, .int 0, .int 0])), (a12, .inl (cy 0, k, .inl (fun _ => 0))), (a19, .inl (cy 3, k, .inl (fun _ => 0)))] H := hP
  have hD : va_D A [(h0, .inr (7, [.ref a12, .ref a19, .int 0, .int 0, .int 0])), (a12, .inl (cy 0, k, .inl (fun _ => 0))), (a19, .inl (cy 3, k, .inl (fun _ => 0)))] := hD
  have hP : va_P D vwCl [(h0, .inr (7, [.ref a12, .ref a19, .int (nI 0), .int (nI 0), .int 0])), (a12, .inl (cy 0, k, .inl (fun _ => 0))), (a19, .inl (cy 3, k, .inl (fun _ => 0)))] H := hP
  have hD : va_D A [(h0, .inr (7, [.ref a12, .ref a19, .int (nI 0), .int (nI 0), .int 0])), (a12, .inl (cy 0, k, .inl (fun _ => 0))), (a19, .inl (cy 3, k, .inl (fun _ => 0)))] := hD
  have hP9 : va_P D vwCl [(h0, .inr (7, [.ref a12, .ref a19, .int (nI 0), .int (nI 0), .int 0])), (a12, .inl (cy 0, k, .inl (fun _ => 0))), (a19, .inl (cy 3, k, .inl (fun _ => 0)))] H := hP.sub [0, 1, 2] rfl
  have hD9 : va_D A [(h0, .inr (7, [.ref a12, .ref a19, .int (nI 0), .int (nI 0), .int 0])), (a12, .inl (cy 0, k, .inl (fun _ => 0))), (a19, .inl (cy 3, k, .inl (fun _ => 0)))] := hD.sub [0, 1, 2] (by decide) rfl
  refine W.widen (k := 2) (n := k + k) (by omega) (by omega) ?_
  exact W.vret hx hb hr (fun t ht hW => ⟨⟨(a12, a19), rfl, trivial, by rw [ht]; exact hP9, hD9⟩, hS.F ht⟩) hS.2.2 dX6_init_24

set_option maxHeartbeats 4000000 in
set_option maxRecDepth 100000 in
/-- split: no text, no word -/
theorem c_Words_split0 (l : Launch) (D : va_G) (cy : Nat → ClassId) (e : Nat → Nat) (h0 : Nat) (t : Nat) (lim : Int32) (rm : Nat)  : Met l yX6_split wsX6_split ({ frames := 1, cells := 0, slots := 0, locals := 20 }) (va_Pc [.ref h0, .ref t] (pu_B D cy e [(t, .inr (1, [.int lim, .ref rm, .int (nI 0)]))])) (va_Qv (fun (_ : Unit) => True) (fun _ _ => True) (fun _ => False)) 0 0 (fun _ => False) := by
  refine Met.ofW (cc := cX6_split) (maxL := 4) (ret := none) (by decide) rfl ?_
  intro p ev s m args below meth c s₁ B hml hv
  obtain ⟨rfl, hP, hK, hG⟩ := hv
  have hx := B.exec
  have hb := B.bytes
  have hr := B.returns
  have hts := atoms_spec (ws := wsX6_split) B.pre
  have hown : s.vm.findClass RX6 = some m.cls := findClass_of_methodNamed B.named
  have hlocks := B.notSynchronized
  have hS : va_S (fun _ => False) s.heap s.heap [] := va_S.rf
  have hP : va_P D vwCl [(t, .inr (1, [.int lim, .ref rm, .int (nI 0)]))] s.heap := hP
  have iX0 : ∀ w ∈ wsX00, w ∈ wsX6_split := fun w h => List.mem_cons_of_mem _ (List.mem_append_left _ (List.mem_append_right _ h))
  have iX6 : ∀ w ∈ wsX60, w ∈ wsX6_split := fun w h => List.mem_cons_of_mem _ (List.mem_append_right _ h)
  have hl := lv_entry ([.ref h0, .ref t]) (n := 4) (Nat.le_of_ble_eq_true rfl)
  rw [lg_entry_eq]
  generalize (lg_sl ([.ref h0, .ref t]) ++ List.replicate (4 - (lg_sl ([.ref h0, .ref t])).length) Slot.unset).toArray = ls at hl ⊢
  have hl : lv_has ls 4 [(0, .ref h0), (1, .ref t)] := hl
  refine lv_iconst (v := 0) hx hb dX6_split_0 (by decide +kernel) ?_
  refine lv_istore_n (lv' := [(2, .int 0), (0, .ref h0), (1, .ref t)]) hx hb dX6_split_1 rfl hl (by decide) rfl (fun ls hl => ?_)
  refine lv_iload_n hx hb dX6_split_2 rfl (lv_at hl 0 rfl) ?_
  refine lv_aload_n hx hb dX6_split_3 rfl (lv_at hl 2 rfl) ?_
  refine pu_calli (va_runV (As := []) (rest := [.int 0]) ⟨hx, hb, hml, hown, hts⟩ (c_Bytes_length l D cy e t lim rm (nI 0) ) (cwV 0 hts gX6_split_X0_length rfl rfl rfl (by decide +kernel) ⟨Nat.le_of_ble_eq_true rfl, Nat.le_of_ble_eq_true rfl⟩) (pu_preV hP hK hS hG [0] rfl (q := (RX0, TX0, 3)) (ci := 1) (q0 := 0) rfl rfl) rfl rfl hl.1 rfl (lv_room (Nat.le_of_ble_eq_true rfl)) dX6_split_4 ⟨(Nat.le_of_ble_eq_true rfl), (Nat.le_of_ble_eq_true rfl)⟩) hP hS (fun H locs hP hS => ?_)
  have hP : va_P D vwCl [(t, .inr (1, [.int lim, .ref rm, .int (nI 0)]))] H := hP
  refine lv_icmp_ge (tgt := 77) hx hb dX6_split_7 (by decide) (fun _ => ?_) (fun c7 => absurd (by decide) c7)
  exact W.vret hx hb hr (fun t ht hW => ⟨⟨(), rfl, trivial, trivial⟩, hS.F ht⟩) hS.2.2 dX6_split_77

set_option maxHeartbeats 4000000 in
set_option maxRecDepth 100000 in
theorem c_Words_count (l : Launch) (D : va_G) (cy : Nat → ClassId) (e : Nat → Nat) (h0 : Nat) (kd : Nat) (vl : Nat) (cnt : Nat) (ix : Nat) (va : Int32)  : Met l yX6_count wsX6_count ({ frames := 0, cells := 0, slots := 0, locals := 0 }) (va_Pc [.ref h0] (pu_B D cy e [(h0, .inr (7, [.ref kd, .ref vl, .int (nI cnt), .int (nI ix), .int va]))])) (va_Qi (fun (r : Int32) (_ : Unit) => r = nI cnt) (fun _ _ => True) (fun _ => False)) 0 0 (fun _ => False) := by
  refine Met.ofW (cc := cX6_count) (maxL := 1) (ret := (some .int)) (by decide) rfl ?_
  intro p ev s m args below meth c s₁ B hml hv
  obtain ⟨rfl, hP, hK, hG⟩ := hv
  have hx := B.exec
  have hb := B.bytes
  have hr := B.returns
  have hts := atoms_spec (ws := wsX6_count) B.pre
  have hown : s.vm.findClass RX6 = some m.cls := findClass_of_methodNamed B.named
  have hlocks := B.notSynchronized
  have hS : va_S (fun _ => False) s.heap s.heap [] := va_S.rf
  have hP : va_P D vwCl [(h0, .inr (7, [.ref kd, .ref vl, .int (nI cnt), .int (nI ix), .int va]))] s.heap := hP
  have iX6 : ∀ w ∈ wsX60, w ∈ wsX6_count := fun w h => List.mem_cons_of_mem _ (List.mem_append_right _ h)
  have hl := lv_entry ([.ref h0]) (n := 1) (Nat.le_of_ble_eq_true rfl)
  rw [lg_entry_eq]
  generalize (lg_sl ([.ref h0]) ++ List.replicate (1 - (lg_sl ([.ref h0])).length) Slot.unset).toArray = ls at hl ⊢
  have hl : lv_has ls 1 [(0, .ref h0)] := hl
  refine lv_aload_n hx hb dX6_count_0 rfl (lv_at hl 0 rfl) ?_
  refine va_get (D := D) (ci := 7) (v := .int (nI cnt)) (C := RX6) (T := TX6) (N := 5) hx hb hts iX6 hown hK hP 0 rfl rfl 2 (by decide) (hts (.fieldLink RX6 25 "InterlockTables$Words" "count" "I") (by decide +kernel)) (fun _ h9 => h9) rfl dX6_count_1 ?_
  exact W.iret hx hb hr (fun t ht hW => ⟨⟨_, (), rfl, rfl, trivial⟩, hS.F ht⟩) hS.2.2 dX6_count_4

set_option maxHeartbeats 4000000 in
set_option maxRecDepth 100000 in
/-- kind: of the word that the reader is at, 0 behind the last -/
theorem c_Words_kind (l : Launch) (D : va_G) (cy : Nat → ClassId) (e : Nat → Nat) (h0 : Nat) (kd : Nat) (vl : Nat) (cnt : Nat) (ix : Nat) (va : Int32) (n : Nat) (f : Nat → Int32) (hcn : cnt ≤ n) (hn : n < 2 ^ 31) (hi : ix ≤ cnt) : Met l yX6_kind wsX6_kind ({ frames := 0, cells := 0, slots := 0, locals := 0 }) (va_Pc [.ref h0] (pu_B D cy e [(h0, .inr (7, [.ref kd, .ref vl, .int (nI cnt), .int (nI ix), .int va])), (kd, .inl (cy 0, n, .inl f))])) (va_Qi (fun (r : Int32) (_ : Unit) => r = if ix < cnt then f ix else 0) (fun _ _ => True) (fun _ => False)) 0 0 (fun _ => False) := by
  refine Met.ofW (cc := cX6_kind) (maxL := 1) (ret := (some .int)) (by decide) rfl ?_
  intro p ev s m args below meth c s₁ B hml hv
  obtain ⟨rfl, hP, hK, hG⟩ := hv
  have hx := B.exec
  have hb := B.bytes
  have hr := B.returns
  have hts := atoms_spec (ws := wsX6_kind) B.pre
  have hown : s.vm.findClass RX6 = some m.cls := findClass_of_methodNamed B.named
  have hlocks := B.notSynchronized
  have hS : va_S (fun _ => False) s.heap s.heap [] := va_S.rf
  have hP : va_P D vwCl [(h0, .inr (7, [.ref kd, .ref vl, .int (nI cnt), .int (nI ix), .int va])), (kd, .inl (cy 0, n, .inl f))] s.heap := hP
  have iX6 : ∀ w ∈ wsX60, w ∈ wsX6_kind := fun w h => List.mem_cons_of_mem _ (List.mem_append_right _ h)
  have hl := lv_entry ([.ref h0]) (n := 1) (Nat.le_of_ble_eq_true rfl)
  rw [lg_entry_eq]
  generalize (lg_sl ([.ref h0]) ++ List.replicate (1 - (lg_sl ([.ref h0])).length) Slot.unset).toArray = ls at hl ⊢
  have hl : lv_has ls 1 [(0, .ref h0)] := hl
  refine lv_aload_n hx hb dX6_kind_0 rfl (lv_at hl 0 rfl) ?_
  refine va_get (D := D) (ci := 7) (v := .int (nI ix)) (C := RX6) (T := TX6) (N := 5) hx hb hts iX6 hown hK hP 0 rfl rfl 3 (by decide) (hts (.fieldLink RX6 29 "InterlockTables$Words" "index" "I") (by decide +kernel)) (fun _ h9 => h9) rfl dX6_kind_1 ?_
  refine lv_aload_n hx hb dX6_kind_4 rfl (lv_at hl 0 rfl) ?_
  refine va_get (D := D) (ci := 7) (v := .int (nI cnt)) (C := RX6) (T := TX6) (N := 5) hx hb hts iX6 hown hK hP 0 rfl rfl 2 (by decide) (hts (.fieldLink RX6 25 "InterlockTables$Words" "count" "I") (by decide +kernel)) (fun _ h9 => h9) rfl dX6_kind_5 ?_
  refine lv_icmp_ge (tgt := 23) hx hb dX6_kind_8 (by decide) (fun c8 => ?_) (fun c8 => ?_)
  · refine lv_iconst (v := 0) hx hb dX6_kind_23 (by decide +kernel) ?_
    exact W.iret hx hb hr (fun t ht hW => ⟨⟨_, (), rfl, (if_neg (by have := (nI_leI (by omega) (by omega)).mp c8; omega)).symm, trivial⟩, hS.F ht⟩) hS.2.2 dX6_kind_24
  · refine lv_aload_n hx hb dX6_kind_11 rfl (lv_at hl 0 rfl) ?_
    refine va_get (D := D) (ci := 7) (v := .ref kd) (C := RX6) (T := TX6) (N := 5) hx hb hts iX6 hown hK hP 0 rfl rfl 0 (by decide) (hts (.fieldLink RX6 15 "InterlockTables$Words" "kinds" "[B") (by decide +kernel)) (fun _ h9 => h9) rfl dX6_kind_12 ?_
    refine lv_aload_n hx hb dX6_kind_15 rfl (lv_at hl 0 rfl) ?_
    refine va_get (D := D) (ci := 7) (v := .int (nI ix)) (C := RX6) (T := TX6) (N := 5) hx hb hts iX6 hown hK hP 0 rfl rfl 3 (by decide) (hts (.fieldLink RX6 29 "InterlockTables$Words" "index" "I") (by decide +kernel)) (fun _ h9 => h9) rfl dX6_kind_16 ?_
    refine va_bald hx hb hK hP 1 0 rfl rfl (vp_in_nI (by have := pk_nle (by omega) c8; omega) hn) dX6_kind_19 ?_
    refine lv_topi (fun x_1 ex_1 => ?_)
    obtain rfl : x_1 = f ix := by rw [ex_1]; rw [nI_clamp (by omega)]
    refine lv_goto (tgt := 24) hx hb dX6_kind_20 (by decide) ?_
    exact W.iret hx hb hr (fun t ht hW => ⟨⟨_, (), rfl, (if_pos (pk_nle (by omega) c8)).symm, trivial⟩, hS.F ht⟩) hS.2.2 dX6_kind_24

set_option maxHeartbeats 4000000 in
set_option maxRecDepth 100000 in
/-- Reader(words, table) -/
theorem c_Reader_init (l : Launch) (D : va_G) (cy : Nat → ClassId) (e : Nat → Nat) (h0 : Nat) (wd : Nat) (tb : Nat) (ro : Nat) (xp : Nat) (wr : Value) (sv : Int32) (sz : Nat)  : Met l yX2_init wsX2_init ({ frames := 1, cells := 0, slots := 0, locals := 12 }) (va_Pc [.ref h0, .ref wd, .ref tb] (mt_B D cy e [(h0, .inr (3, [.null, .null, .null])), (tb, .inr (6, [.ref ro, .ref xp, wr, .int sv]))] sz)) (va_Qv (fun (_ : Unit) => True) (mt_Q D (fun (_ : Unit) => [(h0, .inr (3, [.ref wd, .ref tb, .ref xp])), (tb, .inr (6, [.ref ro, .ref xp, wr, .int sv]))]) (va_A [(h0, .inr (3, [.null, .null, .null])), (tb, .inr (6, [.ref ro, .ref xp, wr, .int sv]))] sz)) (va_A [(h0, .inr (3, [.null, .null, .null])), (tb, .inr (6, [.ref ro, .ref xp, wr, .int sv]))] sz)) (0) (0) (va_A [(h0, .inr (3, [.null, .null, .null])), (tb, .inr (6, [.ref ro, .ref xp, wr, .int sv]))] sz) := by
  refine Met.ofW (cc := cX2_init) (maxL := 3) (ret := none) (by decide) rfl ?_
  intro p ev s m args below meth c s₁ B hml hv
  obtain ⟨rfl, hsz, hP, hK, hD0, hG⟩ := hv
  have hx := B.exec
  have hb := B.bytes
  have hr := B.returns
  have hts := atoms_spec (ws := wsX2_init) B.pre
  have hown : s.vm.findClass RX2 = some m.cls := findClass_of_methodNamed B.named
  have hlocks := B.notSynchronized
  have hin : meth.name = "<init>" := (name_of_methodNamed B.named B.method).1
  subst hsz
  have hD := hD0.self (sz := s.heap.size)
  generalize hAe : va_A [(h0, .inr (3, [.null, .null, .null])), (tb, .inr (6, [.ref ro, .ref xp, wr, .int sv]))] s.heap.size = A at hD hG ⊢
  have hA : ∀ q : Nat, s.heap.size ≤ q → A q := fun q h => by rw [← hAe]; exact Or.inr h
  have hS : va_S A s.heap s.heap [] := va_S.rf
  have hP : va_P D vwCl [(h0, .inr (3, [.null, .null, .null])), (tb, .inr (6, [.ref ro, .ref xp, wr, .int sv]))] s.heap := hP
  have iX2 : ∀ w ∈ wsX20, w ∈ wsX2_init := fun w h => List.mem_cons_of_mem _ (List.mem_append_left _ (List.mem_append_right _ h))
  have iX5 : ∀ w ∈ wsX50, w ∈ wsX2_init := fun w h => List.mem_cons_of_mem _ (List.mem_append_right _ h)
  have hl := lv_entry ([.ref h0, .ref wd, .ref tb]) (n := 3) (Nat.le_of_ble_eq_true rfl)
  rw [lg_entry_eq]
  generalize (lg_sl ([.ref h0, .ref wd, .ref tb]) ++ List.replicate (3 - (lg_sl ([.ref h0, .ref wd, .ref tb])).length) Slot.unset).toArray = ls at hl ⊢
  have hl : lv_has ls 3 [(0, .ref h0), (1, .ref wd), (2, .ref tb)] := hl
  refine lv_aload_n hx hb dX2_init_0 rfl (lv_at hl 0 rfl) ?_
  refine W.objInit hx hb hown (hts (.methodLink RX2 3 objectInit) (by decide +kernel)) (hts (.instanceMethod objectInit) (by decide +kernel)) (hts (.code objectInit ⟨#[0xb1]⟩ 1 none) (by decide +kernel)) rfl (by rw [hml]; exact hl.1) rfl dX2_init_1 (Nat.le_of_ble_eq_true rfl) (Nat.le_of_ble_eq_true rfl) ?_
  refine W.eq (g2 := F0 m 4 ls []) rfl ?_
  refine lv_aload_n hx hb dX2_init_4 rfl (lv_at hl 0 rfl) ?_
  refine lv_aload_n hx hb dX2_init_5 rfl (lv_at hl 1 rfl) ?_
  refine va_putF (D := D) (ci := 3) (v := .ref wd) (ty := (.object "InterlockTables$Words")) (C := RX2) (T := TX2) (N := 3) hx hb hts iX2 tyX2 tyX2_ok nmX2 hown hK hP hD hS 0 rfl rfl 0 (by decide) (hts (.fieldLink RX2 9 "InterlockTables$Reader" "words" "LInterlockTables$Words;") (by decide +kernel)) (fun _ h9 => h9) rfl hin rfl (by decide +kernel) rfl rfl (Nat.le_of_ble_eq_true rfl) dX2_init_6 (fun H locs hP hD hS => ?_)
  have hP : va_P D vwCl [(h0, .inr (3, [.ref wd, .null, .null])), (tb, .inr (6, [.ref ro, .ref xp, wr, .int sv]))] H := hP
  have hD : va_D A [(h0, .inr (3, [.ref wd, .null, .null])), (tb, .inr (6, [.ref ro, .ref xp, wr, .int sv]))] := hD
  refine lv_aload_n hx hb dX2_init_9 rfl (lv_at hl 0 rfl) ?_
  refine lv_aload_n hx hb dX2_init_10 rfl (lv_at hl 2 rfl) ?_
  refine va_putF (D := D) (ci := 3) (v := .ref tb) (ty := (.object "InterlockTables$Table")) (C := RX2) (T := TX2) (N := 3) hx hb hts iX2 tyX2 tyX2_ok nmX2 hown hK hP hD hS 0 rfl rfl 1 (by decide) (hts (.fieldLink RX2 15 "InterlockTables$Reader" "table" "LInterlockTables$Table;") (by decide +kernel)) (fun _ h9 => h9) rfl hin rfl (by decide +kernel) rfl rfl (Nat.le_of_ble_eq_true rfl) dX2_init_11 (fun H locs hP hD hS => ?_)
  have hP : va_P D vwCl [(h0, .inr (3, [.ref wd, .ref tb, .null])), (tb, .inr (6, [.ref ro, .ref xp, wr, .int sv]))] H := hP
  have hD : va_D A [(h0, .inr (3, [.ref wd, .ref tb, .null])), (tb, .inr (6, [.ref ro, .ref xp, wr, .int sv]))] := hD
  refine lv_aload_n hx hb dX2_init_14 rfl (lv_at hl 0 rfl) ?_
  refine lv_aload_n hx hb dX2_init_15 rfl (lv_at hl 2 rfl) ?_
  refine va_getN (D := D) (ci := 6) (v := .ref xp) (C := RX5) (T := TX5) (N := 4) hx hb hts iX5 hown hK hP 1 rfl rfl 1 (by decide) (gl_N.f hG.2.2.2 2 rfl) (fun _ h9 => h9) rfl dX2_init_16 ?_
  refine va_putF (D := D) (ci := 3) (v := .ref xp) (ty := (.object "InterlockTables$Expressions")) (C := RX2) (T := TX2) (N := 3) hx hb hts iX2 tyX2 tyX2_ok nmX2 hown hK hP hD hS 0 rfl rfl 2 (by decide) (hts (.fieldLink RX2 25 "InterlockTables$Reader" "expressions" "LInterlockTables$Expressions;") (by decide +kernel)) (fun _ h9 => h9) rfl hin rfl (by decide +kernel) rfl rfl (Nat.le_of_ble_eq_true rfl) dX2_init_19 (fun H locs hP hD hS => ?_)
  have hP : va_P D vwCl [(h0, .inr (3, [.ref wd, .ref tb, .ref xp])), (tb, .inr (6, [.ref ro, .ref xp, wr, .int sv]))] H := hP
  have hD : va_D A [(h0, .inr (3, [.ref wd, .ref tb, .ref xp])), (tb, .inr (6, [.ref ro, .ref xp, wr, .int sv]))] := hD
  have hP9 : va_P D vwCl [(h0, .inr (3, [.ref wd, .ref tb, .ref xp])), (tb, .inr (6, [.ref ro, .ref xp, wr, .int sv]))] H := hP.sub [0, 1] rfl
  have hD9 : va_D A [(h0, .inr (3, [.ref wd, .ref tb, .ref xp])), (tb, .inr (6, [.ref ro, .ref xp, wr, .int sv]))] := hD.sub [0, 1] (by decide) rfl
  refine W.widen (k := 0) (n := 0) (by omega) (by omega) ?_
  exact W.vret hx hb hr (fun t ht hW => ⟨⟨(), rfl, trivial, by rw [ht]; exact hP9, hD9⟩, hS.F ht⟩) hS.2.2 dX2_init_22

set_option maxHeartbeats 4000000 in
set_option maxRecDepth 100000 in
/-- takeText: no words, good -/
theorem c_Reader_takeText0 (l : Launch) (D : va_G) (cy : Nat → ClassId) (e : Nat → Nat) (h0 : Nat) (wd : Nat) (tb : Nat) (xp : Nat) (kd : Nat) (vl : Nat) (va : Int32) (n : Nat) (f : Nat → Int32) (hn : n < 2 ^ 31) : Met l yX2_takeText wsX2_takeText ({ frames := 1, cells := 0, slots := 0, locals := 20 }) (va_Pc [.ref h0] (pu_B D cy e [(h0, .inr (3, [.ref wd, .ref tb, .ref xp])), (wd, .inr (7, [.ref kd, .ref vl, .int (nI 0), .int (nI 0), .int va])), (kd, .inl (cy 0, n, .inl f))])) (va_Qi (fun (r : Int32) (_ : Unit) => r = 1) (fun _ _ => True) (fun _ => False)) 0 0 (fun _ => False) := by
  refine Met.ofW (cc := cX2_takeText) (maxL := 2) (ret := (some .boolean)) (by decide) rfl ?_
  intro p ev s m args below meth c s₁ B hml hv
  obtain ⟨rfl, hP, hK, hG⟩ := hv
  have hx := B.exec
  have hb := B.bytes
  have hr := B.returns
  have hts := atoms_spec (ws := wsX2_takeText) B.pre
  have hown : s.vm.findClass RX2 = some m.cls := findClass_of_methodNamed B.named
  have hlocks := B.notSynchronized
  have hS : va_S (fun _ => False) s.heap s.heap [] := va_S.rf
  have hP : va_P D vwCl [(h0, .inr (3, [.ref wd, .ref tb, .ref xp])), (wd, .inr (7, [.ref kd, .ref vl, .int (nI 0), .int (nI 0), .int va])), (kd, .inl (cy 0, n, .inl f))] s.heap := hP
  have iX2 : ∀ w ∈ wsX20, w ∈ wsX2_takeText := fun w h => List.mem_cons_of_mem _ (List.mem_append_left _ (List.mem_append_left _ (List.mem_append_left _ (List.mem_append_left _ (List.mem_append_left _ (List.mem_append_right _ h))))))
  have iX6 : ∀ w ∈ wsX60, w ∈ wsX2_takeText := fun w h => List.mem_cons_of_mem _ (List.mem_append_left _ (List.mem_append_left _ (List.mem_append_left _ (List.mem_append_left _ (List.mem_append_right _ h)))))
  have iX3 : ∀ w ∈ wsX30, w ∈ wsX2_takeText := fun w h => List.mem_cons_of_mem _ (List.mem_append_left _ (List.mem_append_left _ (List.mem_append_left _ (List.mem_append_right _ h))))
  have iX5 : ∀ w ∈ wsX50, w ∈ wsX2_takeText := fun w h => List.mem_cons_of_mem _ (List.mem_append_left _ (List.mem_append_left _ (List.mem_append_right _ h)))
  have iX1 : ∀ w ∈ wsX10, w ∈ wsX2_takeText := fun w h => List.mem_cons_of_mem _ (List.mem_append_left _ (List.mem_append_right _ h))
  have iJx4a65c : ∀ w ∈ wsJx4a65c0, w ∈ wsX2_takeText := fun w h => List.mem_cons_of_mem _ (List.mem_append_right _ h)
  have hl := lv_entry ([.ref h0]) (n := 2) (Nat.le_of_ble_eq_true rfl)
  rw [lg_entry_eq]
  generalize (lg_sl ([.ref h0]) ++ List.replicate (2 - (lg_sl ([.ref h0])).length) Slot.unset).toArray = ls at hl ⊢
  have hl : lv_has ls 2 [(0, .ref h0)] := hl
  refine lv_iconst (v := 0) hx hb dX2_takeText_0 (by decide +kernel) ?_
  refine lv_istore_n (lv' := [(1, .int 0), (0, .ref h0)]) hx hb dX2_takeText_1 rfl hl (by decide) rfl (fun ls hl => ?_)
  refine lv_iload_n hx hb dX2_takeText_2 rfl (lv_at hl 0 rfl) ?_
  refine lv_bipush (v := 40) hx hb dX2_takeText_3 (by decide +kernel) ?_
  refine lv_icmp_ge (tgt := 34) hx hb dX2_takeText_5 (by decide) (fun c5 => absurd c5 (by decide)) (fun _ => ?_)
  refine lv_aload_n hx hb dX2_takeText_8 rfl (lv_at hl 1 rfl) ?_
  refine va_get (D := D) (ci := 3) (v := .ref wd) (C := RX2) (T := TX2) (N := 3) hx hb hts iX2 hown hK hP 0 rfl rfl 0 (by decide) (hts (.fieldLink RX2 9 "InterlockTables$Reader" "words" "LInterlockTables$Words;") (by decide +kernel)) (fun _ h9 => h9) rfl dX2_takeText_9 ?_
  refine pu_calli (va_runV (As := []) (rest := []) ⟨hx, hb, hml, hown, hts⟩ (c_Words_kind l D cy e wd kd vl 0 0 va n f (by first | assumption | omega | decide +kernel) (by first | assumption | omega | decide +kernel) (by first | assumption | omega | decide +kernel)) (cwV 0 hts gX2_takeText_X6_kind rfl rfl rfl (by decide +kernel) ⟨Nat.le_of_ble_eq_true rfl, Nat.le_of_ble_eq_true rfl⟩) (pu_preV hP hK hS hG [1, 2] rfl (q := (RX6, TX6, 5)) (ci := 7) (q0 := 1) rfl rfl) rfl rfl hl.1 rfl (lv_room (Nat.le_of_ble_eq_true rfl)) dX2_takeText_12 ⟨(Nat.le_of_ble_eq_true rfl), (Nat.le_of_ble_eq_true rfl)⟩) hP hS (fun H locs hP hS => ?_)
  have hP : va_P D vwCl [(h0, .inr (3, [.ref wd, .ref tb, .ref xp])), (wd, .inr (7, [.ref kd, .ref vl, .int (nI 0), .int (nI 0), .int va])), (kd, .inl (cy 0, n, .inl f))] H := hP
  refine lv_topi (fun x_1 ex_1 => ?_)
  obtain rfl : x_1 = 0 := ex_1
  refine lv_iconst (v := 5) hx hb dX2_takeText_15 (by decide +kernel) ?_
  refine lv_icmp_ne (tgt := 34) hx hb dX2_takeText_16 (by decide) (fun _ => ?_) (fun c16 => absurd c16 (by decide))
  refine lv_aload_n hx hb dX2_takeText_34 rfl (lv_at hl 1 rfl) ?_
  refine va_get (D := D) (ci := 3) (v := .ref wd) (C := RX2) (T := TX2) (N := 3) hx hb hts iX2 hown hK hP 0 rfl rfl 0 (by decide) (hts (.fieldLink RX2 9 "InterlockTables$Reader" "words" "LInterlockTables$Words;") (by decide +kernel)) (fun _ h9 => h9) rfl dX2_takeText_35 ?_
  refine pu_calli (va_runV (As := []) (rest := []) ⟨hx, hb, hml, hown, hts⟩ (c_Words_kind l D cy e wd kd vl 0 0 va n f (by first | assumption | omega | decide +kernel) (by first | assumption | omega | decide +kernel) (by first | assumption | omega | decide +kernel)) (cwV 0 hts gX2_takeText_X6_kind rfl rfl rfl (by decide +kernel) ⟨Nat.le_of_ble_eq_true rfl, Nat.le_of_ble_eq_true rfl⟩) (pu_preV hP hK hS hG [1, 2] rfl (q := (RX6, TX6, 5)) (ci := 7) (q0 := 1) rfl rfl) rfl rfl hl.1 rfl (lv_room (Nat.le_of_ble_eq_true rfl)) dX2_takeText_38 ⟨(Nat.le_of_ble_eq_true rfl), (Nat.le_of_ble_eq_true rfl)⟩) hP hS (fun H locs hP hS => ?_)
  have hP : va_P D vwCl [(h0, .inr (3, [.ref wd, .ref tb, .ref xp])), (wd, .inr (7, [.ref kd, .ref vl, .int (nI 0), .int (nI 0), .int va])), (kd, .inl (cy 0, n, .inl f))] H := hP
  refine lv_topi (fun x_2 ex_2 => ?_)
  obtain rfl : x_2 = 0 := ex_2
  refine lv_if_ne (tgt := 48) hx hb dX2_takeText_41 (by decide) (fun c41 => absurd rfl c41) (fun _ => ?_)
  refine lv_iconst (v := 1) hx hb dX2_takeText_44 (by decide +kernel) ?_
  refine lv_goto (tgt := 49) hx hb dX2_takeText_45 (by decide) ?_
  exact W.zret hx hb hr rfl (fun t ht hW => ⟨⟨_, (), rfl, rfl, trivial⟩, hS.F ht⟩) hS.2.2 dX2_takeText_49
