-- deps: 50
set_option maxHeartbeats 4000000 in
set_option maxRecDepth 100000 in
/-- AbstractCollection() -/
theorem c_AC_init (l : Launch) (D : va_G) (cy : Nat → ClassId) (e : Nat → Nat)  (h0 : Nat)  : Met l yJxa1e45_init_da8c8 wsJxa1e45_init_da8c8 ({ frames := 1, cells := 0, slots := 0, locals := 12 }) (va_Pc [.ref h0] (pu_B D cy e [])) (va_Qv (fun (_ : Unit) => True) (fun _ _ => True) (fun _ => False)) 0 0 (fun _ => False) := by
  refine Met.ofW (cc := cJxa1e45_init_da8c8) (maxL := 1) (ret := none) (by decide) rfl ?_
  intro p ev s m args below meth c s₁ B hml hv
  obtain ⟨rfl, hP, hK, hG⟩ := hv
  have hx := B.exec
  have hb := B.bytes
  have hr := B.returns
  have hts := atoms_spec (ws := wsJxa1e45_init_da8c8) B.pre
  have hown : s.vm.findClass RJxa1e45 = some m.cls := findClass_of_methodNamed B.named
  have hlocks := B.notSynchronized
  have hin : meth.name = "<init>" := (name_of_methodNamed B.named B.method).1
  have hS : va_S (fun _ => False) s.heap s.heap [] := va_S.rf
  have hP : va_P D vwCl [] s.heap := hP
  have hl := lv_entry ([.ref h0]) (n := 1) (Nat.le_of_ble_eq_true rfl)
  rw [lg_entry_eq]
  generalize (lg_sl ([.ref h0]) ++ List.replicate (1 - (lg_sl ([.ref h0])).length) Slot.unset).toArray = ls at hl ⊢
  have hl : lv_has ls 1 [(0, .ref h0)] := hl
  refine lv_aload_n hx hb dJxa1e45_init_da8c8_0 rfl (lv_at hl 0 rfl) ?_
  refine W.objInit hx hb hown (hts (.methodLink RJxa1e45 1 objectInit) (by decide +kernel)) (hts (.instanceMethod objectInit) (by decide +kernel)) (hts (.code objectInit ⟨#[0xb1]⟩ 1 none) (by decide +kernel)) rfl (by rw [hml]; exact hl.1) rfl dJxa1e45_init_da8c8_1 (Nat.le_of_ble_eq_true rfl) (Nat.le_of_ble_eq_true rfl) ?_
  refine W.eq (g2 := F0 m 4 ls []) rfl ?_
  exact W.vret hx hb hr (fun t ht hW => ⟨⟨(), rfl, trivial, trivial⟩, hS.F ht⟩) hS.2.2 dJxa1e45_init_da8c8_4

set_option maxHeartbeats 4000000 in
set_option maxRecDepth 100000 in
/-- AbstractList() -/
theorem c_AbL_init (l : Launch) (D : va_G) (cy : Nat → ClassId) (e : Nat → Nat)  (h0 : Nat) (sz : Nat)  : Met l yJxc12de_init_da8c8 wsJxc12de_init_da8c8 ({ frames := 2, cells := 0, slots := 0, locals := 32 }) (va_Pc [.ref h0] (mt_B D cy e [(h0, .inr (0, [.int 0, .null, .int 0]))] sz)) (va_Qv (fun (_ : Unit) => True) (mt_Q D (fun (_ : Unit) => [(h0, .inr (0, [.int 0, .null, .int 0]))]) (va_A [(h0, .inr (0, [.int 0, .null, .int 0]))] sz)) (va_A [(h0, .inr (0, [.int 0, .null, .int 0]))] sz)) (0) (0) (va_A [(h0, .inr (0, [.int 0, .null, .int 0]))] sz) := by
  refine Met.ofW (cc := cJxc12de_init_da8c8) (maxL := 1) (ret := none) (by decide) rfl ?_
  intro p ev s m args below meth c s₁ B hml hv
  obtain ⟨rfl, hsz, hP, hK, hD0, hG⟩ := hv
  have hx := B.exec
  have hb := B.bytes
  have hr := B.returns
  have hts := atoms_spec (ws := wsJxc12de_init_da8c8) B.pre
  have hown : s.vm.findClass RJxc12de = some m.cls := findClass_of_methodNamed B.named
  have hlocks := B.notSynchronized
  have hin : meth.name = "<init>" := (name_of_methodNamed B.named B.method).1
  subst hsz
  have hD := hD0.self (sz := s.heap.size)
  generalize hAe : va_A [(h0, .inr (0, [.int 0, .null, .int 0]))] s.heap.size = A at hD hG ⊢
  have hA : ∀ q : Nat, s.heap.size ≤ q → A q := fun q h => by rw [← hAe]; exact Or.inr h
  have hS : va_S A s.heap s.heap [] := va_S.rf
  have hP : va_P D vwCl [(h0, .inr (0, [.int 0, .null, .int 0]))] s.heap := hP
  have iJx4a65c : ∀ w ∈ wsJx4a65c0, w ∈ wsJxc12de_init_da8c8 := fun w h => List.mem_cons_of_mem _ (List.mem_append_right _ h)
  have hl := lv_entry ([.ref h0]) (n := 1) (Nat.le_of_ble_eq_true rfl)
  rw [lg_entry_eq]
  generalize (lg_sl ([.ref h0]) ++ List.replicate (1 - (lg_sl ([.ref h0])).length) Slot.unset).toArray = ls at hl ⊢
  have hl : lv_has ls 1 [(0, .ref h0)] := hl
  refine lv_aload_n hx hb dJxc12de_init_da8c8_0 rfl (lv_at hl 0 rfl) ?_
  refine pu_callv (va_runI (As := []) (rest := []) ⟨hx, hb, hml, hown, hts⟩ (c_AC_init l D cy e h0 ) (cwI 0 hts gJxc12de_init_da8c8_Jxa1e45_init_da8c8 rfl rfl rfl (hts (.initialized RJxa1e45) (by decide +kernel)) (hts (.methodLink RJxc12de 1 yJxa1e45_init_da8c8) (by decide +kernel)) (hts (.instanceMethod yJxa1e45_init_da8c8) (by decide +kernel)) rfl (by decide +kernel) ⟨Nat.le_of_ble_eq_true rfl, Nat.le_of_ble_eq_true rfl⟩) (pu_preS hP hK hS hG [] rfl) rfl rfl hl.1 rfl (lv_room (Nat.le_of_ble_eq_true rfl)) dJxc12de_init_da8c8_1 ⟨(Nat.le_of_ble_eq_true rfl), (Nat.le_of_ble_eq_true rfl)⟩) hP hS (fun H locs hP hS => ?_)
  have hP : va_P D vwCl [(h0, .inr (0, [.int 0, .null, .int 0]))] H := hP
  refine lv_aload_n hx hb dJxc12de_init_da8c8_4 rfl (lv_at hl 0 rfl) ?_
  refine lv_iconst (v := 0) hx hb dJxc12de_init_da8c8_5 (by decide +kernel) ?_
  refine va_put (D := D) (ci := 0) (v := .int 0) (ty := .int) (C := RJx4a65c) (T := TJx4a65c) (N := 3) hx hb hts iJx4a65c tyJx4a65c tyJx4a65c_ok nmJx4a65c hown hK hP hD hS 0 rfl rfl 0 (by decide) (hts (.fieldLink RJxc12de 7 "java/util/AbstractList" "modCount" "I") (by decide +kernel)) (fun _ h9 => h9) rfl (by decide +kernel) rfl rfl (Nat.le_of_ble_eq_true rfl) dJxc12de_init_da8c8_6 (fun H locs hP hD hS => ?_)
  have hP : va_P D vwCl [(h0, .inr (0, [.int 0, .null, .int 0]))] H := hP
  have hD : va_D A [(h0, .inr (0, [.int 0, .null, .int 0]))] := hD
  have hP9 : va_P D vwCl [(h0, .inr (0, [.int 0, .null, .int 0]))] H := hP.sub [0] rfl
  have hD9 : va_D A [(h0, .inr (0, [.int 0, .null, .int 0]))] := hD.sub [0] (by decide) rfl
  refine W.widen (k := 0) (n := 0) (by omega) (by omega) ?_
  exact W.vret hx hb hr (fun t ht hW => ⟨⟨(), rfl, trivial, by rw [ht]; exact hP9, hD9⟩, hS.F ht⟩) hS.2.2 dJxc12de_init_da8c8_9

set_option maxHeartbeats 4000000 in
set_option maxRecDepth 100000 in
/-- ArrayList(): empty -/
theorem c_AL_init (l : Launch) (D : va_G) (cy : Nat → ClassId) (e : Nat → Nat)  (h0 : Nat) (sz : Nat)  : Met l yJx4a65c_init_da8c8 wsJx4a65c_init_da8c8 ({ frames := 3, cells := 0, slots := 0, locals := 52 }) (va_Pc [.ref h0] (mt_B D cy e [(h0, .inr (0, [.int 0, .null, .int 0]))] sz)) (va_Qv (fun (_ : Unit) => True) (mt_Q D (fun (_ : Unit) => [(h0, .inr (0, [.int 0, .ref (e 0), .int (nI 0)]))]) (va_A [(h0, .inr (0, [.int 0, .null, .int 0]))] sz)) (va_A [(h0, .inr (0, [.int 0, .null, .int 0]))] sz)) (0) (0) (va_A [(h0, .inr (0, [.int 0, .null, .int 0]))] sz) := by
  refine Met.ofW (cc := cJx4a65c_init_da8c8) (maxL := 1) (ret := none) (by decide) rfl ?_
  intro p ev s m args below meth c s₁ B hml hv
  obtain ⟨rfl, hsz, hP, hK, hD0, hG⟩ := hv
  have hx := B.exec
  have hb := B.bytes
  have hr := B.returns
  have hts := atoms_spec (ws := wsJx4a65c_init_da8c8) B.pre
  have hown : s.vm.findClass RJx4a65c = some m.cls := findClass_of_methodNamed B.named
  have hlocks := B.notSynchronized
  have hin : meth.name = "<init>" := (name_of_methodNamed B.named B.method).1
  subst hsz
  have hD := hD0.self (sz := s.heap.size)
  generalize hAe : va_A [(h0, .inr (0, [.int 0, .null, .int 0]))] s.heap.size = A at hD hG ⊢
  have hA : ∀ q : Nat, s.heap.size ≤ q → A q := fun q h => by rw [← hAe]; exact Or.inr h
  have hS : va_S A s.heap s.heap [] := va_S.rf
  have hP : va_P D vwCl [(h0, .inr (0, [.int 0, .null, .int 0]))] s.heap := hP
  have iJx4a65c : ∀ w ∈ wsJx4a65c0, w ∈ wsJx4a65c_init_da8c8 := fun w h => List.mem_cons_of_mem _ (List.mem_append_right _ h)
  have hl := lv_entry ([.ref h0]) (n := 1) (Nat.le_of_ble_eq_true rfl)
  rw [lg_entry_eq]
  generalize (lg_sl ([.ref h0]) ++ List.replicate (1 - (lg_sl ([.ref h0])).length) Slot.unset).toArray = ls at hl ⊢
  have hl : lv_has ls 1 [(0, .ref h0)] := hl
  refine lv_aload_n hx hb dJx4a65c_init_da8c8_0 rfl (lv_at hl 0 rfl) ?_
  refine mt_callv (wr := []) (va_runI (As := []) (rest := []) ⟨hx, hb, hml, hown, hts⟩ (c_AbL_init l D cy e h0 s.heap.size ) (cwI 0 hts gJx4a65c_init_da8c8_Jxc12de_init_da8c8 rfl rfl rfl (hts (.initialized RJxc12de) (by decide +kernel)) (hts (.methodLink RJx4a65c 1 yJxc12de_init_da8c8) (by decide +kernel)) (hts (.instanceMethod yJxc12de_init_da8c8) (by decide +kernel)) rfl (by decide +kernel) ⟨Nat.le_of_ble_eq_true rfl, Nat.le_of_ble_eq_true rfl⟩) (mt_preS hP hD hK hS hA hG [0] rfl (by decide)) rfl rfl hl.1 rfl (lv_room (Nat.le_of_ble_eq_true rfl)) dJx4a65c_init_da8c8_1 ⟨(Nat.le_of_ble_eq_true rfl), (Nat.le_of_ble_eq_true rfl)⟩) hP hD hS hA [0] [] rfl rfl (by decide) (by decide) (fun u H locs hw hP hD hS => ?_)
  have hP : va_P D vwCl [(h0, .inr (0, [.int 0, .null, .int 0]))] H := hP
  have hD : va_D A [(h0, .inr (0, [.int 0, .null, .int 0]))] := hD
  replace hw : True := hw
  refine W.widen (k := 0) (n := 0) (by omega) (by omega) ?_
  refine lv_aload_n hx hb dJx4a65c_init_da8c8_4 rfl (lv_at hl 0 rfl) ?_
  refine va_gets (v := .ref (e 0)) hx hb hG.z0 hS hown (hts (.fieldLink RJx4a65c 39 "java/util/ArrayList" "DEFAULTCAPACITY_EMPTY_ELEMENTDATA" "[Ljava/lang/Object;") (by decide +kernel)) (fun _ h9 => h9) dJx4a65c_init_da8c8_5 ?_
  refine va_put (D := D) (ci := 0) (v := .ref (e 0)) (ty := (.array (.object "java/lang/Object"))) (C := RJx4a65c) (T := TJx4a65c) (N := 3) hx hb hts iJx4a65c tyJx4a65c tyJx4a65c_ok nmJx4a65c hown hK hP hD hS 0 rfl rfl 1 (by decide) (hts (.fieldLink RJx4a65c 9 "java/util/ArrayList" "elementData" "[Ljava/lang/Object;") (by decide +kernel)) (fun _ h9 => h9) rfl (by decide +kernel) rfl rfl (Nat.le_of_ble_eq_true rfl) dJx4a65c_init_da8c8_8 (fun H locs hP hD hS => ?_)
  have hP : va_P D vwCl [(h0, .inr (0, [.int 0, .ref (e 0), .int 0]))] H := hP
  have hD : va_D A [(h0, .inr (0, [.int 0, .ref (e 0), .int 0]))] := hD
  have hP : va_P D vwCl [(h0, .inr (0, [.int 0, .ref (e 0), .int (nI 0)]))] H := hP
  have hD : va_D A [(h0, .inr (0, [.int 0, .ref (e 0), .int (nI 0)]))] := hD
  have hP9 : va_P D vwCl [(h0, .inr (0, [.int 0, .ref (e 0), .int (nI 0)]))] H := hP.sub [0] rfl
  have hD9 : va_D A [(h0, .inr (0, [.int 0, .ref (e 0), .int (nI 0)]))] := hD.sub [0] (by decide) rfl
  refine W.widen (k := 0) (n := 0) (by omega) (by omega) ?_
  exact W.vret hx hb hr (fun t ht hW => ⟨⟨(), rfl, trivial, by rw [ht]; exact hP9, hD9⟩, hS.F ht⟩) hS.2.2 dJx4a65c_init_da8c8_11

set_option maxHeartbeats 4000000 in
set_option maxRecDepth 100000 in
theorem c_Bytes_init (l : Launch) (D : va_G) (cy : Nat → ClassId) (e : Nat → Nat)  (h0 : Nat) (lim : Nat) (sz : Nat)  : Met l yX0_init wsX0_init ({ frames := 1, cells := 1, slots := 64, locals := 12 }) (va_Pc [.ref h0, .int (nI lim)] (mt_B D cy e [(h0, .inr (1, [.int 0, .null, .int 0]))] sz)) (va_Qv (fun (rm : Nat) => True) (mt_Q D (fun rm => [(h0, .inr (1, [.int (nI lim), .ref rm, .int (nI 0)])), (rm, .inl (cy 0, 64, .inl (fun _ => 0)))]) (va_A [(h0, .inr (1, [.int 0, .null, .int 0]))] sz)) (va_A [(h0, .inr (1, [.int 0, .null, .int 0]))] sz)) (1) (64) (va_A [(h0, .inr (1, [.int 0, .null, .int 0]))] sz) := by
  refine Met.ofW (cc := cX0_init) (maxL := 2) (ret := none) (by decide) rfl ?_
  intro p ev s m args below meth c s₁ B hml hv
  obtain ⟨rfl, hsz, hP, hK, hD0, hG⟩ := hv
  have hx := B.exec
  have hb := B.bytes
  have hr := B.returns
  have hts := atoms_spec (ws := wsX0_init) B.pre
  have hown : s.vm.findClass RX0 = some m.cls := findClass_of_methodNamed B.named
  have hlocks := B.notSynchronized
  have hin : meth.name = "<init>" := (name_of_methodNamed B.named B.method).1
  subst hsz
  have hD := hD0.self (sz := s.heap.size)
  generalize hAe : va_A [(h0, .inr (1, [.int 0, .null, .int 0]))] s.heap.size = A at hD hG ⊢
  have hA : ∀ q : Nat, s.heap.size ≤ q → A q := fun q h => by rw [← hAe]; exact Or.inr h
  have hS : va_S A s.heap s.heap [] := va_S.rf
  have hP : va_P D vwCl [(h0, .inr (1, [.int 0, .null, .int 0]))] s.heap := hP
  have iX0 : ∀ w ∈ wsX00, w ∈ wsX0_init := fun w h => List.mem_cons_of_mem _ (List.mem_append_right _ h)
  have hl := lv_entry ([.ref h0, .int (nI lim)]) (n := 2) (Nat.le_of_ble_eq_true rfl)
  rw [lg_entry_eq]
  generalize (lg_sl ([.ref h0, .int (nI lim)]) ++ List.replicate (2 - (lg_sl ([.ref h0, .int (nI lim)])).length) Slot.unset).toArray = ls at hl ⊢
  have hl : lv_has ls 2 [(0, .ref h0), (1, .int (nI lim))] := hl
  refine lv_aload_n hx hb dX0_init_0 rfl (lv_at hl 0 rfl) ?_
  refine W.objInit hx hb hown (hts (.methodLink RX0 3 objectInit) (by decide +kernel)) (hts (.instanceMethod objectInit) (by decide +kernel)) (hts (.code objectInit ⟨#[0xb1]⟩ 1 none) (by decide +kernel)) rfl (by rw [hml]; exact hl.1) rfl dX0_init_1 (Nat.le_of_ble_eq_true rfl) (Nat.le_of_ble_eq_true rfl) ?_
  refine W.eq (g2 := F0 m 4 ls []) rfl ?_
  refine lv_aload_n hx hb dX0_init_4 rfl (lv_at hl 0 rfl) ?_
  refine lv_iload_n hx hb dX0_init_5 rfl (lv_at hl 1 rfl) ?_
  refine va_putF (D := D) (ci := 1) (v := .int (nI lim)) (ty := .int) (C := RX0) (T := TX0) (N := 3) hx hb hts iX0 tyX0 tyX0_ok nmX0 hown hK hP hD hS 0 rfl rfl 0 (by decide) (hts (.fieldLink RX0 9 "InterlockTables$Bytes" "limit" "I") (by decide +kernel)) (fun _ h9 => h9) rfl hin rfl (by decide +kernel) rfl rfl (Nat.le_of_ble_eq_true rfl) dX0_init_6 (fun H locs hP hD hS => ?_)
  have hP : va_P D vwCl [(h0, .inr (1, [.int (nI lim), .null, .int 0]))] H := hP
  have hD : va_D A [(h0, .inr (1, [.int (nI lim), .null, .int 0]))] := hD
  refine lv_aload_n hx hb dX0_init_9 rfl (lv_at hl 0 rfl) ?_
  refine lv_bipush (v := 64) hx hb dX0_init_10 (by decide +kernel) ?_
  refine na_new (atype := .byte) (ty := .byte) (a0 := (64, .inl (fun _ => 0))) (N' := 64) hx hb (hts (.arrayClass .byte) (by decide +kernel)) rfl 0 rfl hK hP hD hS hA (fun _ => rfl) (by decide +kernel) (by decide +kernel) (by decide +kernel) (Nat.le_of_ble_eq_true rfl) (Nat.le_of_ble_eq_true rfl) dX0_init_12 (fun a12 H hP hD hS => ?_)
  have hP : va_P D vwCl [(h0, .inr (1, [.int (nI lim), .null, .int 0])), (a12, .inl (cy 0, 64, .inl (fun _ => 0)))] H := hP
  have hD : va_D A [(h0, .inr (1, [.int (nI lim), .null, .int 0])), (a12, .inl (cy 0, 64, .inl (fun _ => 0)))] := hD
  refine W.widen (k := 1) (n := 64) (by omega) (by omega) ?_
  refine va_put (D := D) (ci := 1) (v := .ref a12) (ty := (.array .byte)) (C := RX0) (T := TX0) (N := 3) hx hb hts iX0 tyX0 tyX0_ok nmX0 hown hK hP hD hS 0 rfl rfl 1 (by decide) (hts (.fieldLink RX0 15 "InterlockTables$Bytes" "room" "[B") (by decide +kernel)) (fun _ h9 => h9) rfl (by decide +kernel) rfl rfl (Nat.le_of_ble_eq_true rfl) dX0_init_14 (fun H locs hP hD hS => ?_)
  have hP : va_P D vwCl [(h0, .inr (1, [.int (nI lim), .ref a12, .int 0])), (a12, .inl (cy 0, 64, .inl (fun _ => 0)))] H := hP
  have hD : va_D A [(h0, .inr (1, [.int (nI lim), .ref a12, .int 0])), (a12, .inl (cy 0, 64, .inl (fun _ => 0)))] := hD
  refine lv_aload_n hx hb dX0_init_17 rfl (lv_at hl 0 rfl) ?_
  refine lv_iconst (v := 0) hx hb dX0_init_18 (by decide +kernel) ?_
  refine lv_topi (fun x_1 ex_1 => ?_)
  obtain rfl : x_1 = nI 0 := by rw [ex_1]; exact nI_0.symm
  refine va_put (D := D) (ci := 1) (v := .int (nI 0)) (ty := .int) (C := RX0) (T := TX0) (N := 3) hx hb hts iX0 tyX0 tyX0_ok nmX0 hown hK hP hD hS 0 rfl rfl 2 (by decide) (hts (.fieldLink RX0 19 "InterlockTables$Bytes" "length" "I") (by decide +kernel)) (fun _ h9 => h9) rfl (by decide +kernel) rfl rfl (Nat.le_of_ble_eq_true rfl) dX0_init_19 (fun H locs hP hD hS => ?_)
  have hP : va_P D vwCl [(h0, .inr (1, [.int (nI lim), .ref a12, .int (nI 0)])), (a12, .inl (cy 0, 64, .inl (fun _ => 0)))] H := hP
  have hD : va_D A [(h0, .inr (1, [.int (nI lim), .ref a12, .int (nI 0)])), (a12, .inl (cy 0, 64, .inl (fun _ => 0)))] := hD
  have hP9 : va_P D vwCl [(h0, .inr (1, [.int (nI lim), .ref a12, .int (nI 0)])), (a12, .inl (cy 0, 64, .inl (fun _ => 0)))] H := hP.sub [0, 1] rfl
  have hD9 : va_D A [(h0, .inr (1, [.int (nI lim), .ref a12, .int (nI 0)])), (a12, .inl (cy 0, 64, .inl (fun _ => 0)))] := hD.sub [0, 1] (by decide) rfl
  refine W.widen (k := 1) (n := 64) (by omega) (by omega) ?_
  exact W.vret hx hb hr (fun t ht hW => ⟨⟨a12, rfl, trivial, by rw [ht]; exact hP9, hD9⟩, hS.F ht⟩) hS.2.2 dX0_init_22

set_option maxHeartbeats 4000000 in
set_option maxRecDepth 100000 in
theorem c_Expr_init (l : Launch) (D : va_G) (cy : Nat → ClassId) (e : Nat → Nat)  (h0 : Nat) (k : Nat) (sz : Nat) (hk : k < 65536) : Met l yX1_init wsX1_init ({ frames := 1, cells := 2, slots := k + 32, locals := 14 }) (va_Pc [.ref h0, .int (nI k)] (mt_B D cy e [(h0, .inr (2, [.null, .int 0, .null]))] sz)) (va_Qv (fun (u : Nat × Nat) => match u with | (cd, st) => True) (mt_Q D (fun (u : Nat × Nat) => match u with | (cd, st) => [(h0, .inr (2, [.ref cd, .int (nI 0), .ref st])), (cd, .inl (cy 0, k, .inl (fun _ => 0))), (st, .inl (cy 2, 32, .inr (.inl (fun _ => 0))))]) (va_A [(h0, .inr (2, [.null, .int 0, .null]))] sz)) (va_A [(h0, .inr (2, [.null, .int 0, .null]))] sz)) (2) (k + 32) (va_A [(h0, .inr (2, [.null, .int 0, .null]))] sz) := by
  refine Met.ofW (cc := cX1_init) (maxL := 2) (ret := none) (by decide) rfl ?_
  intro p ev s m args below meth c s₁ B hml hv
  obtain ⟨rfl, hsz, hP, hK, hD0, hG⟩ := hv
  have hx := B.exec
  have hb := B.bytes
  have hr := B.returns
  have hts := atoms_spec (ws := wsX1_init) B.pre
  have hown : s.vm.findClass RX1 = some m.cls := findClass_of_methodNamed B.named
  have hlocks := B.notSynchronized
  have hin : meth.name = "<init>" := (name_of_methodNamed B.named B.method).1
  subst hsz
  have hD := hD0.self (sz := s.heap.size)
  generalize hAe : va_A [(h0, .inr (2, [.null, .int 0, .null]))] s.heap.size = A at hD hG ⊢
  have hA : ∀ q : Nat, s.heap.size ≤ q → A q := fun q h => by rw [← hAe]; exact Or.inr h
  have hS : va_S A s.heap s.heap [] := va_S.rf
  have hP : va_P D vwCl [(h0, .inr (2, [.null, .int 0, .null]))] s.heap := hP
  have iX1 : ∀ w ∈ wsX10, w ∈ wsX1_init := fun w h => List.mem_cons_of_mem _ (List.mem_append_right _ h)
  have hl := lv_entry ([.ref h0, .int (nI k)]) (n := 2) (Nat.le_of_ble_eq_true rfl)
  rw [lg_entry_eq]
  generalize (lg_sl ([.ref h0, .int (nI k)]) ++ List.replicate (2 - (lg_sl ([.ref h0, .int (nI k)])).length) Slot.unset).toArray = ls at hl ⊢
  have hl : lv_has ls 2 [(0, .ref h0), (1, .int (nI k))] := hl
  refine lv_aload_n hx hb dX1_init_0 rfl (lv_at hl 0 rfl) ?_
  refine W.objInit hx hb hown (hts (.methodLink RX1 3 objectInit) (by decide +kernel)) (hts (.instanceMethod objectInit) (by decide +kernel)) (hts (.code objectInit ⟨#[0xb1]⟩ 1 none) (by decide +kernel)) rfl (by rw [hml]; exact hl.1) rfl dX1_init_1 (Nat.le_of_ble_eq_true rfl) (Nat.le_of_ble_eq_true rfl) ?_
  refine W.eq (g2 := F0 m 4 ls []) rfl ?_
  refine lv_aload_n hx hb dX1_init_4 rfl (lv_at hl 0 rfl) ?_
  refine lv_bipush (v := 32) hx hb dX1_init_5 (by decide +kernel) ?_
  refine na_new (atype := .long) (ty := .long) (a0 := (32, .inr (.inl (fun _ => 0)))) (N' := 32) hx hb (hts (.arrayClass .long) (by decide +kernel)) rfl 2 rfl hK hP hD hS hA (fun _ => rfl) (by decide +kernel) (by decide +kernel) (by decide +kernel) (Nat.le_of_ble_eq_true rfl) (show 0 + 32 ≤ k + 32 from by omega) dX1_init_7 (fun a7 H hP hD hS => ?_)
  have hP : va_P D vwCl [(h0, .inr (2, [.null, .int 0, .null])), (a7, .inl (cy 2, 32, .inr (.inl (fun _ => 0))))] H := hP
  have hD : va_D A [(h0, .inr (2, [.null, .int 0, .null])), (a7, .inl (cy 2, 32, .inr (.inl (fun _ => 0))))] := hD
  refine W.widen (k := 1) (n := 32) (by omega) (by omega) ?_
  refine va_putF (D := D) (ci := 2) (v := .ref a7) (ty := (.array .long)) (C := RX1) (T := TX1) (N := 3) hx hb hts iX1 tyX1 tyX1_ok nmX1 hown hK hP hD hS 0 rfl rfl 2 (by decide) (hts (.fieldLink RX1 9 "InterlockTables$Expressions" "stack" "[J") (by decide +kernel)) (fun _ h9 => h9) rfl hin rfl (by decide +kernel) rfl rfl (Nat.le_of_ble_eq_true rfl) dX1_init_9 (fun H locs hP hD hS => ?_)
  have hP : va_P D vwCl [(h0, .inr (2, [.null, .int 0, .ref a7])), (a7, .inl (cy 2, 32, .inr (.inl (fun _ => 0))))] H := hP
  have hD : va_D A [(h0, .inr (2, [.null, .int 0, .ref a7])), (a7, .inl (cy 2, 32, .inr (.inl (fun _ => 0))))] := hD
  refine lv_aload_n hx hb dX1_init_12 rfl (lv_at hl 0 rfl) ?_
  refine lv_iconst (v := 0) hx hb dX1_init_13 (by decide +kernel) ?_
  refine lv_iload_n hx hb dX1_init_14 rfl (lv_at hl 1 rfl) ?_
  refine va_mmax hx hb (by rw [hml]; exact hl.1.symm) hown (hts (.methodLink RX1 15 Lib.Math.max.name) (by decide +kernel)) (hts (.static Lib.Math.max.name) (by decide +kernel)) (hts (.initialized "java/lang/Math") (by decide +kernel)) (hts (.code Lib.Math.max.name Lib.Math.max.code 2 (some .int)) (by decide +kernel)) (Nat.le_of_ble_eq_true rfl) (Nat.le_of_ble_eq_true rfl) (Nat.le_of_ble_eq_true rfl) (show 32 + 0 ≤ k + 32 from by omega) dX1_init_15 ?_
  refine lv_topi (fun x_1 ex_1 => ?_)
  obtain rfl : x_1 = nI k := by rw [ex_1]; exact pk_max0 (by omega)
  refine na_new (atype := .byte) (ty := .byte) (a0 := (k, .inl (fun _ => 0))) (N' := k) hx hb (hts (.arrayClass .byte) (by decide +kernel)) rfl 0 rfl hK hP hD hS hA (fun _ => rfl) (nI_pos (by omega)) (nI_clamp (by omega)) (by simp only [componentBytes]; omega) (Nat.le_of_ble_eq_true rfl) (show 32 + k ≤ k + 32 from by omega) dX1_init_18 (fun a18 H hP hD hS => ?_)
  have hP : va_P D vwCl [(h0, .inr (2, [.null, .int 0, .ref a7])), (a7, .inl (cy 2, 32, .inr (.inl (fun _ => 0)))), (a18, .inl (cy 0, k, .inl (fun _ => 0)))] H := hP
  have hD : va_D A [(h0, .inr (2, [.null, .int 0, .ref a7])), (a7, .inl (cy 2, 32, .inr (.inl (fun _ => 0)))), (a18, .inl (cy 0, k, .inl (fun _ => 0)))] := hD
  refine W.widen (k := 2) (n := k + 32) (by omega) (by omega) ?_
  refine va_putF (D := D) (ci := 2) (v := .ref a18) (ty := (.array .byte)) (C := RX1) (T := TX1) (N := 3) hx hb hts iX1 tyX1 tyX1_ok nmX1 hown hK hP hD hS 0 rfl rfl 0 (by decide) (hts (.fieldLink RX1 21 "InterlockTables$Expressions" "code" "[B") (by decide +kernel)) (fun _ h9 => h9) rfl hin rfl (by decide +kernel) rfl rfl (Nat.le_of_ble_eq_true rfl) dX1_init_20 (fun H locs hP hD hS => ?_)
  have hP : va_P D vwCl [(h0, .inr (2, [.ref a18, .int 0, .ref a7])), (a7, .inl (cy 2, 32, .inr (.inl (fun _ => 0)))), (a18, .inl (cy 0, k, .inl (fun _ => 0)))] H := hP
  have hD : va_D A [(h0, .inr (2, [.ref a18, .int 0, .ref a7])), (a7, .inl (cy 2, 32, .inr (.inl (fun _ => 0)))), (a18, .inl (cy 0, k, .inl (fun _ => 0)))] := hD
  have hP : va_P D vwCl [(h0, .inr (2, [.ref a18, .int (nI 0), .ref a7])), (a7, .inl (cy 2, 32, .inr (.inl (fun _ => 0)))), (a18, .inl (cy 0, k, .inl (fun _ => 0)))] H := hP
  have hD : va_D A [(h0, .inr (2, [.ref a18, .int (nI 0), .ref a7])), (a7, .inl (cy 2, 32, .inr (.inl (fun _ => 0)))), (a18, .inl (cy 0, k, .inl (fun _ => 0)))] := hD
  have hP9 : va_P D vwCl [(h0, .inr (2, [.ref a18, .int (nI 0), .ref a7])), (a18, .inl (cy 0, k, .inl (fun _ => 0))), (a7, .inl (cy 2, 32, .inr (.inl (fun _ => 0))))] H := hP.sub [0, 2, 1] rfl
  have hD9 : va_D A [(h0, .inr (2, [.ref a18, .int (nI 0), .ref a7])), (a18, .inl (cy 0, k, .inl (fun _ => 0))), (a7, .inl (cy 2, 32, .inr (.inl (fun _ => 0))))] := hD.sub [0, 2, 1] (by decide) rfl
  refine W.widen (k := 2) (n := k + 32) (by omega) (by omega) ?_
  exact W.vret hx hb hr (fun t ht hW => ⟨⟨(a18, a7), rfl, trivial, by rw [ht]; exact hP9, hD9⟩, hS.F ht⟩) hS.2.2 dX1_init_23

set_option maxHeartbeats 4000000 in
set_option maxRecDepth 100000 in
theorem c_Table_init (l : Launch) (D : va_G) (cy : Nat → ClassId) (e : Nat → Nat)  (h0 : Nat) (k : Nat) (sz : Nat) (hk : k < 65536) : Met l yX5_init wsX5_init ({ frames := 4, cells := 4, slots := k + 38, locals := 72 }) (va_Pc [.ref h0, .int (nI k)] (mt_B D cy e [(h0, .inr (6, [.null, .null, .null, .int 0]))] sz)) (va_Qv (fun (u : Nat × Nat × Nat × Nat) => match u with | (ro, xp, cd, st) => True) (mt_Q D (fun (u : Nat × Nat × Nat × Nat) => match u with | (ro, xp, cd, st) => [(h0, .inr (6, [.ref ro, .ref xp, .null, .int 0])), (ro, .inr (0, [.int 0, .ref (e 0), .int (nI 0)])), (xp, .inr (2, [.ref cd, .int (nI 0), .ref st])), (cd, .inl (cy 0, k, .inl (fun _ => 0))), (st, .inl (cy 2, 32, .inr (.inl (fun _ => 0))))]) (va_A [(h0, .inr (6, [.null, .null, .null, .int 0]))] sz)) (va_A [(h0, .inr (6, [.null, .null, .null, .int 0]))] sz)) (4) (k + 38) (va_A [(h0, .inr (6, [.null, .null, .null, .int 0]))] sz) := by
  refine Met.ofW (cc := cX5_init) (maxL := 2) (ret := none) (by decide) rfl ?_
  intro p ev s m args below meth c s₁ B hml hv
  obtain ⟨rfl, hsz, hP, hK, hD0, hG⟩ := hv
  have hx := B.exec
  have hb := B.bytes
  have hr := B.returns
  have hts := atoms_spec (ws := wsX5_init) B.pre
  have hown : s.vm.findClass RX5 = some m.cls := findClass_of_methodNamed B.named
  have hlocks := B.notSynchronized
  have hin : meth.name = "<init>" := (name_of_methodNamed B.named B.method).1
  subst hsz
  have hD := hD0.self (sz := s.heap.size)
  generalize hAe : va_A [(h0, .inr (6, [.null, .null, .null, .int 0]))] s.heap.size = A at hD hG ⊢
  have hA : ∀ q : Nat, s.heap.size ≤ q → A q := fun q h => by rw [← hAe]; exact Or.inr h
  have hS : va_S A s.heap s.heap [] := va_S.rf
  have hP : va_P D vwCl [(h0, .inr (6, [.null, .null, .null, .int 0]))] s.heap := hP
  have iJx4a65c : ∀ w ∈ wsJx4a65c0, w ∈ wsX5_init := fun w h => List.mem_cons_of_mem _ (List.mem_append_left _ (List.mem_append_left _ (List.mem_append_right _ h)))
  have iX5 : ∀ w ∈ wsX50, w ∈ wsX5_init := fun w h => List.mem_cons_of_mem _ (List.mem_append_left _ (List.mem_append_right _ h))
  have iX1 : ∀ w ∈ wsX10, w ∈ wsX5_init := fun w h => List.mem_cons_of_mem _ (List.mem_append_right _ h)
  have hl := lv_entry ([.ref h0, .int (nI k)]) (n := 2) (Nat.le_of_ble_eq_true rfl)
  rw [lg_entry_eq]
  generalize (lg_sl ([.ref h0, .int (nI k)]) ++ List.replicate (2 - (lg_sl ([.ref h0, .int (nI k)])).length) Slot.unset).toArray = ls at hl ⊢
  have hl : lv_has ls 2 [(0, .ref h0), (1, .int (nI k))] := hl
  refine lv_aload_n hx hb dX5_init_0 rfl (lv_at hl 0 rfl) ?_
  refine W.objInit hx hb hown (hts (.methodLink RX5 3 objectInit) (by decide +kernel)) (hts (.instanceMethod objectInit) (by decide +kernel)) (hts (.code objectInit ⟨#[0xb1]⟩ 1 none) (by decide +kernel)) rfl (by rw [hml]; exact hl.1) rfl dX5_init_1 (Nat.le_of_ble_eq_true rfl) (Nat.le_of_ble_eq_true rfl) ?_
  refine W.eq (g2 := F0 m 4 ls []) rfl ?_
  refine lv_aload_n hx hb dX5_init_4 rfl (lv_at hl 0 rfl) ?_
  refine va_new (ci := 0) (fs := [.int 0, .null, .int 0]) (C := RJx4a65c) (T := TJx4a65c) (N := 3) hx hb hts iJx4a65c tyJx4a65c tyJx4a65c_ok hown (hts (.classLink RX5 9 RJx4a65c) (by decide +kernel)) (hts (.instantiable RJx4a65c 3) (by decide +kernel)) (hts (.initialized RJx4a65c) (by decide +kernel)) hK hP hD hS hA rfl (by decide +kernel) (Nat.le_of_ble_eq_true rfl) (show 0 + 3 ≤ k + 38 from by omega) dX5_init_5 (fun a5 H hP hD hS => ?_)
  have hP : va_P D vwCl [(h0, .inr (6, [.null, .null, .null, .int 0])), (a5, .inr (0, [.int 0, .null, .int 0]))] H := hP
  have hD : va_D A [(h0, .inr (6, [.null, .null, .null, .int 0])), (a5, .inr (0, [.int 0, .null, .int 0]))] := hD
  refine W.widen (k := 1) (n := 3) (by omega) (by omega) ?_
  refine lv_dup hx hb dX5_init_8 rfl ?_
  refine mt_callv (wr := [(h0, .inr (6, [.null, .null, .null, .int 0]))]) (va_runI (As := []) (rest := [.ref a5, .ref h0]) ⟨hx, hb, hml, hown, hts⟩ (c_AL_init l D cy e a5 H.size ) (cwI 0 hts gX5_init_Jx4a65c_init_da8c8 rfl rfl rfl (hts (.initialized RJx4a65c) (by decide +kernel)) (hts (.methodLink RX5 11 yJx4a65c_init_da8c8) (by decide +kernel)) (hts (.instanceMethod yJx4a65c_init_da8c8) (by decide +kernel)) rfl (by decide +kernel) ⟨Nat.le_of_ble_eq_true rfl, Nat.le_of_ble_eq_true rfl⟩) (mt_preS hP hD hK hS hA hG [1] rfl (by decide)) rfl rfl hl.1 rfl (lv_room (Nat.le_of_ble_eq_true rfl)) dX5_init_9 ⟨(Nat.le_of_ble_eq_true rfl), (show 3 + 0 ≤ k + 38 from by omega)⟩) hP hD hS hA [1] [0] rfl rfl (by decide) (by decide) (fun u H locs hw hP hD hS => ?_)
  have hP : va_P D vwCl [(h0, .inr (6, [.null, .null, .null, .int 0])), (a5, .inr (0, [.int 0, .ref (e 0), .int (nI 0)]))] H := hP
  have hD : va_D A [(h0, .inr (6, [.null, .null, .null, .int 0])), (a5, .inr (0, [.int 0, .ref (e 0), .int (nI 0)]))] := hD
  replace hw : True := hw
  refine W.widen (k := 1) (n := 3) (by omega) (by omega) ?_
  refine va_putF (D := D) (ci := 6) (v := .ref a5) (ty := (.object "java/util/ArrayList")) (C := RX5) (T := TX5) (N := 4) hx hb hts iX5 tyX5 tyX5_ok nmX5 hown hK hP hD hS 0 rfl rfl 0 (by decide) (hts (.fieldLink RX5 12 "InterlockTables$Table" "rows" "Ljava/util/ArrayList;") (by decide +kernel)) (fun _ h9 => h9) rfl hin rfl (by decide +kernel) rfl rfl (Nat.le_of_ble_eq_true rfl) dX5_init_12 (fun H locs hP hD hS => ?_)
  have hP : va_P D vwCl [(h0, .inr (6, [.ref a5, .null, .null, .int 0])), (a5, .inr (0, [.int 0, .ref (e 0), .int (nI 0)]))] H := hP
  have hD : va_D A [(h0, .inr (6, [.ref a5, .null, .null, .int 0])), (a5, .inr (0, [.int 0, .ref (e 0), .int (nI 0)]))] := hD
  refine lv_aload_n hx hb dX5_init_15 rfl (lv_at hl 0 rfl) ?_
  refine va_new (ci := 2) (fs := [.null, .int 0, .null]) (C := RX1) (T := TX1) (N := 3) hx hb hts iX1 tyX1 tyX1_ok hown (hts (.classLink RX5 18 RX1) (by decide +kernel)) (hts (.instantiable RX1 3) (by decide +kernel)) (hts (.initialized RX1) (by decide +kernel)) hK hP hD hS hA rfl (by decide +kernel) (Nat.le_of_ble_eq_true rfl) (show 3 + 3 ≤ k + 38 from by omega) dX5_init_16 (fun a16 H hP hD hS => ?_)
  have hP : va_P D vwCl [(h0, .inr (6, [.ref a5, .null, .null, .int 0])), (a5, .inr (0, [.int 0, .ref (e 0), .int (nI 0)])), (a16, .inr (2, [.null, .int 0, .null]))] H := hP
  have hD : va_D A [(h0, .inr (6, [.ref a5, .null, .null, .int 0])), (a5, .inr (0, [.int 0, .ref (e 0), .int (nI 0)])), (a16, .inr (2, [.null, .int 0, .null]))] := hD
  refine W.widen (k := 2) (n := 6) (by omega) (by omega) ?_
  refine lv_dup hx hb dX5_init_19 rfl ?_
  refine lv_iload_n hx hb dX5_init_20 rfl (lv_at hl 1 rfl) ?_
  refine mt_callv (wr := [(h0, .inr (6, [.ref a5, .null, .null, .int 0])), (a5, .inr (0, [.int 0, .ref (e 0), .int (nI 0)]))]) (va_runI (As := [.int (nI k)]) (rest := [.ref a16, .ref h0]) ⟨hx, hb, hml, hown, hts⟩ (c_Expr_init l D cy e a16 k H.size (by first | assumption | omega | decide +kernel)) (cwI 1 hts gX5_init_X1_init rfl rfl rfl (hts (.initialized RX1) (by decide +kernel)) (hts (.methodLink RX5 20 yX1_init) (by decide +kernel)) (hts (.instanceMethod yX1_init) (by decide +kernel)) rfl (by decide +kernel) ⟨Nat.le_of_ble_eq_true rfl, Nat.le_of_ble_eq_true rfl⟩) (mt_preS hP hD hK hS hA hG [2] rfl (by decide)) rfl rfl hl.1 rfl (lv_room (Nat.le_of_ble_eq_true rfl)) dX5_init_21 ⟨(Nat.le_of_ble_eq_true rfl), (show 6 + (k + 32) ≤ k + 38 from by omega)⟩) hP hD hS hA [2] [0, 1] rfl rfl (by decide) (by decide) (fun u H locs hw hP hD hS => ?_)
  obtain ⟨cd_21, st_21⟩ := u
  have hP : va_P D vwCl [(h0, .inr (6, [.ref a5, .null, .null, .int 0])), (a5, .inr (0, [.int 0, .ref (e 0), .int (nI 0)])), (a16, .inr (2, [.ref cd_21, .int (nI 0), .ref st_21])), (cd_21, .inl (cy 0, k, .inl (fun _ => 0))), (st_21, .inl (cy 2, 32, .inr (.inl (fun _ => 0))))] H := hP
  have hD : va_D A [(h0, .inr (6, [.ref a5, .null, .null, .int 0])), (a5, .inr (0, [.int 0, .ref (e 0), .int (nI 0)])), (a16, .inr (2, [.ref cd_21, .int (nI 0), .ref st_21])), (cd_21, .inl (cy 0, k, .inl (fun _ => 0))), (st_21, .inl (cy 2, 32, .inr (.inl (fun _ => 0))))] := hD
  replace hw : True := hw
  refine W.widen (k := 4) (n := k + 32 + 6) (by omega) (by omega) ?_
  refine va_putF (D := D) (ci := 6) (v := .ref a16) (ty := (.object "InterlockTables$Expressions")) (C := RX5) (T := TX5) (N := 4) hx hb hts iX5 tyX5 tyX5_ok nmX5 hown hK hP hD hS 0 rfl rfl 1 (by decide) (hts (.fieldLink RX5 23 "InterlockTables$Table" "expressions" "LInterlockTables$Expressions;") (by decide +kernel)) (fun _ h9 => h9) rfl hin rfl (by decide +kernel) rfl rfl (Nat.le_of_ble_eq_true rfl) dX5_init_24 (fun H locs hP hD hS => ?_)
  have hP : va_P D vwCl [(h0, .inr (6, [.ref a5, .ref a16, .null, .int 0])), (a5, .inr (0, [.int 0, .ref (e 0), .int (nI 0)])), (a16, .inr (2, [.ref cd_21, .int (nI 0), .ref st_21])), (cd_21, .inl (cy 0, k, .inl (fun _ => 0))), (st_21, .inl (cy 2, 32, .inr (.inl (fun _ => 0))))] H := hP
  have hD : va_D A [(h0, .inr (6, [.ref a5, .ref a16, .null, .int 0])), (a5, .inr (0, [.int 0, .ref (e 0), .int (nI 0)])), (a16, .inr (2, [.ref cd_21, .int (nI 0), .ref st_21])), (cd_21, .inl (cy 0, k, .inl (fun _ => 0))), (st_21, .inl (cy 2, 32, .inr (.inl (fun _ => 0))))] := hD
  have hP9 : va_P D vwCl [(h0, .inr (6, [.ref a5, .ref a16, .null, .int 0])), (a5, .inr (0, [.int 0, .ref (e 0), .int (nI 0)])), (a16, .inr (2, [.ref cd_21, .int (nI 0), .ref st_21])), (cd_21, .inl (cy 0, k, .inl (fun _ => 0))), (st_21, .inl (cy 2, 32, .inr (.inl (fun _ => 0))))] H := hP.sub [0, 1, 2, 3, 4] rfl
  have hD9 : va_D A [(h0, .inr (6, [.ref a5, .ref a16, .null, .int 0])), (a5, .inr (0, [.int 0, .ref (e 0), .int (nI 0)])), (a16, .inr (2, [.ref cd_21, .int (nI 0), .ref st_21])), (cd_21, .inl (cy 0, k, .inl (fun _ => 0))), (st_21, .inl (cy 2, 32, .inr (.inl (fun _ => 0))))] := hD.sub [0, 1, 2, 3, 4] (by decide) rfl
  refine W.widen (k := 4) (n := k + 38) (by omega) (by omega) ?_
  exact W.vret hx hb hr (fun t ht hW => ⟨⟨(a5, a16, cd_21, st_21), rfl, trivial, by rw [ht]; exact hP9, hD9⟩, hS.F ht⟩) hS.2.2 dX5_init_27

set_option maxHeartbeats 4000000 in
set_option maxRecDepth 100000 in
theorem c_IT_init (l : Launch) (D : va_G) (cy : Nat → ClassId) (e : Nat → Nat)  (h0 : Nat) (sz : Nat)  : Met l yX8_init wsX8_init ({ frames := 5, cells := 8, slots := 125, locals := 93 }) (va_Pc [.ref h0] (mt_B D cy e [(h0, .inr (9, [.null, .null, .null]))] sz)) (va_Qv (fun (u : Nat × Nat × Nat × Nat × Nat × Nat × Nat × Nat) => match u with | (tx, rm, cn, tb, ro, xp, cd, st) => True) (mt_Q D (fun (u : Nat × Nat × Nat × Nat × Nat × Nat × Nat × Nat) => match u with | (tx, rm, cn, tb, ro, xp, cd, st) => [(h0, .inr (9, [.ref tx, .ref cn, .ref tb])), (tx, .inr (1, [.int (nI 3000), .ref rm, .int (nI 0)])), (rm, .inl (cy 0, 64, .inl (fun _ => 0))), (cn, .inl (cy 2, 16, .inr (.inl (fun _ => 0)))), (tb, .inr (6, [.ref ro, .ref xp, .null, .int 0])), (ro, .inr (0, [.int 0, .ref (e 0), .int (nI 0)])), (xp, .inr (2, [.ref cd, .int (nI 0), .ref st])), (cd, .inl (cy 0, 0, .inl (fun _ => 0))), (st, .inl (cy 2, 32, .inr (.inl (fun _ => 0))))]) (va_A [(h0, .inr (9, [.null, .null, .null]))] sz)) (va_A [(h0, .inr (9, [.null, .null, .null]))] sz)) (8) (125) (va_A [(h0, .inr (9, [.null, .null, .null]))] sz) := by
  refine Met.ofW (cc := cX8_init) (maxL := 1) (ret := none) (by decide) rfl ?_
  intro p ev s m args below meth c s₁ B hml hv
  obtain ⟨rfl, hsz, hP, hK, hD0, hG⟩ := hv
  have hx := B.exec
  have hb := B.bytes
  have hr := B.returns
  have hts := atoms_spec (ws := wsX8_init) B.pre
  have hown : s.vm.findClass RX8 = some m.cls := findClass_of_methodNamed B.named
  have hlocks := B.notSynchronized
  have hin : meth.name = "<init>" := (name_of_methodNamed B.named B.method).1
  subst hsz
  have hD := hD0.self (sz := s.heap.size)
  generalize hAe : va_A [(h0, .inr (9, [.null, .null, .null]))] s.heap.size = A at hD hG ⊢
  have hA : ∀ q : Nat, s.heap.size ≤ q → A q := fun q h => by rw [← hAe]; exact Or.inr h
  have hS : va_S A s.heap s.heap [] := va_S.rf
  have hP : va_P D vwCl [(h0, .inr (9, [.null, .null, .null]))] s.heap := hP
  have iX0 : ∀ w ∈ wsX00, w ∈ wsX8_init := fun w h => List.mem_cons_of_mem _ (List.mem_append_left _ (List.mem_append_left _ (List.mem_append_left _ (List.mem_append_left _ (List.mem_append_right _ h)))))
  have iX8 : ∀ w ∈ wsX80, w ∈ wsX8_init := fun w h => List.mem_cons_of_mem _ (List.mem_append_left _ (List.mem_append_left _ (List.mem_append_left _ (List.mem_append_right _ h))))
  have iX5 : ∀ w ∈ wsX50, w ∈ wsX8_init := fun w h => List.mem_cons_of_mem _ (List.mem_append_left _ (List.mem_append_left _ (List.mem_append_right _ h)))
  have iJx4a65c : ∀ w ∈ wsJx4a65c0, w ∈ wsX8_init := fun w h => List.mem_cons_of_mem _ (List.mem_append_left _ (List.mem_append_right _ h))
  have iX1 : ∀ w ∈ wsX10, w ∈ wsX8_init := fun w h => List.mem_cons_of_mem _ (List.mem_append_right _ h)
  have hl := lv_entry ([.ref h0]) (n := 1) (Nat.le_of_ble_eq_true rfl)
  rw [lg_entry_eq]
  generalize (lg_sl ([.ref h0]) ++ List.replicate (1 - (lg_sl ([.ref h0])).length) Slot.unset).toArray = ls at hl ⊢
  have hl : lv_has ls 1 [(0, .ref h0)] := hl
  refine lv_aload_n hx hb dX8_init_0 rfl (lv_at hl 0 rfl) ?_
  refine W.objInit hx hb hown (hts (.methodLink RX8 3 objectInit) (by decide +kernel)) (hts (.instanceMethod objectInit) (by decide +kernel)) (hts (.code objectInit ⟨#[0xb1]⟩ 1 none) (by decide +kernel)) rfl (by rw [hml]; exact hl.1) rfl dX8_init_1 (Nat.le_of_ble_eq_true rfl) (Nat.le_of_ble_eq_true rfl) ?_
  refine W.eq (g2 := F0 m 4 ls []) rfl ?_
  refine lv_aload_n hx hb dX8_init_4 rfl (lv_at hl 0 rfl) ?_
  refine va_new (ci := 1) (fs := [.int 0, .null, .int 0]) (C := RX0) (T := TX0) (N := 3) hx hb hts iX0 tyX0 tyX0_ok hown (hts (.classLink RX8 9 RX0) (by decide +kernel)) (hts (.instantiable RX0 3) (by decide +kernel)) (hts (.initialized RX0) (by decide +kernel)) hK hP hD hS hA rfl (by decide +kernel) (Nat.le_of_ble_eq_true rfl) (Nat.le_of_ble_eq_true rfl) dX8_init_5 (fun a5 H hP hD hS => ?_)
  have hP : va_P D vwCl [(h0, .inr (9, [.null, .null, .null])), (a5, .inr (1, [.int 0, .null, .int 0]))] H := hP
  have hD : va_D A [(h0, .inr (9, [.null, .null, .null])), (a5, .inr (1, [.int 0, .null, .int 0]))] := hD
  refine W.widen (k := 1) (n := 3) (by omega) (by omega) ?_
  refine lv_dup hx hb dX8_init_8 rfl ?_
  refine lv_sipush (v := 3000) hx hb dX8_init_9 (by decide +kernel) ?_
  refine lv_topi (fun x_1 ex_1 => ?_)
  obtain rfl : x_1 = nI 3000 := ex_1
  refine mt_callv (wr := [(h0, .inr (9, [.null, .null, .null]))]) (va_runI (As := [.int (nI 3000)]) (rest := [.ref a5, .ref h0]) ⟨hx, hb, hml, hown, hts⟩ (c_Bytes_init l D cy e a5 3000 H.size ) (cwI 1 hts gX8_init_X0_init rfl rfl rfl (hts (.initialized RX0) (by decide +kernel)) (hts (.methodLink RX8 11 yX0_init) (by decide +kernel)) (hts (.instanceMethod yX0_init) (by decide +kernel)) rfl (by decide +kernel) ⟨Nat.le_of_ble_eq_true rfl, Nat.le_of_ble_eq_true rfl⟩) (mt_preS hP hD hK hS hA hG [1] rfl (by decide)) rfl rfl hl.1 rfl (lv_room (Nat.le_of_ble_eq_true rfl)) dX8_init_12 ⟨(Nat.le_of_ble_eq_true rfl), (Nat.le_of_ble_eq_true rfl)⟩) hP hD hS hA [1] [0] rfl rfl (by decide) (by decide) (fun u H locs hw hP hD hS => ?_)
  obtain ⟨rm_12, rfl⟩ : ∃ z, z = u := ⟨_, rfl⟩
  have hP : va_P D vwCl [(h0, .inr (9, [.null, .null, .null])), (a5, .inr (1, [.int (nI 3000), .ref rm_12, .int (nI 0)])), (rm_12, .inl (cy 0, 64, .inl (fun _ => 0)))] H := hP
  have hD : va_D A [(h0, .inr (9, [.null, .null, .null])), (a5, .inr (1, [.int (nI 3000), .ref rm_12, .int (nI 0)])), (rm_12, .inl (cy 0, 64, .inl (fun _ => 0)))] := hD
  replace hw : True := hw
  refine W.widen (k := 2) (n := 67) (by omega) (by omega) ?_
  refine va_putF (D := D) (ci := 9) (v := .ref a5) (ty := (.object "InterlockTables$Bytes")) (C := RX8) (T := TX8) (N := 3) hx hb hts iX8 tyX8 tyX8_ok nmX8 hown hK hP hD hS 0 rfl rfl 0 (by decide) (hts (.fieldLink RX8 14 "InterlockTables" "text" "LInterlockTables$Bytes;") (by decide +kernel)) (fun _ h9 => h9) rfl hin rfl (by decide +kernel) rfl rfl (Nat.le_of_ble_eq_true rfl) dX8_init_15 (fun H locs hP hD hS => ?_)
  have hP : va_P D vwCl [(h0, .inr (9, [.ref a5, .null, .null])), (a5, .inr (1, [.int (nI 3000), .ref rm_12, .int (nI 0)])), (rm_12, .inl (cy 0, 64, .inl (fun _ => 0)))] H := hP
  have hD : va_D A [(h0, .inr (9, [.ref a5, .null, .null])), (a5, .inr (1, [.int (nI 3000), .ref rm_12, .int (nI 0)])), (rm_12, .inl (cy 0, 64, .inl (fun _ => 0)))] := hD
  refine lv_aload_n hx hb dX8_init_18 rfl (lv_at hl 0 rfl) ?_
  refine lv_bipush (v := 16) hx hb dX8_init_19 (by decide +kernel) ?_
  refine na_new (atype := .long) (ty := .long) (a0 := (16, .inr (.inl (fun _ => 0)))) (N' := 16) hx hb (hts (.arrayClass .long) (by decide +kernel)) rfl 2 rfl hK hP hD hS hA (fun _ => rfl) (by decide +kernel) (by decide +kernel) (by decide +kernel) (Nat.le_of_ble_eq_true rfl) (Nat.le_of_ble_eq_true rfl) dX8_init_21 (fun a21 H hP hD hS => ?_)
  have hP : va_P D vwCl [(h0, .inr (9, [.ref a5, .null, .null])), (a5, .inr (1, [.int (nI 3000), .ref rm_12, .int (nI 0)])), (rm_12, .inl (cy 0, 64, .inl (fun _ => 0))), (a21, .inl (cy 2, 16, .inr (.inl (fun _ => 0))))] H := hP
  have hD : va_D A [(h0, .inr (9, [.ref a5, .null, .null])), (a5, .inr (1, [.int (nI 3000), .ref rm_12, .int (nI 0)])), (rm_12, .inl (cy 0, 64, .inl (fun _ => 0))), (a21, .inl (cy 2, 16, .inr (.inl (fun _ => 0))))] := hD
  refine W.widen (k := 3) (n := 83) (by omega) (by omega) ?_
  refine va_putF (D := D) (ci := 9) (v := .ref a21) (ty := (.array .long)) (C := RX8) (T := TX8) (N := 3) hx hb hts iX8 tyX8 tyX8_ok nmX8 hown hK hP hD hS 0 rfl rfl 1 (by decide) (hts (.fieldLink RX8 18 "InterlockTables" "conditions" "[J") (by decide +kernel)) (fun _ h9 => h9) rfl hin rfl (by decide +kernel) rfl rfl (Nat.le_of_ble_eq_true rfl) dX8_init_23 (fun H locs hP hD hS => ?_)
  have hP : va_P D vwCl [(h0, .inr (9, [.ref a5, .ref a21, .null])), (a5, .inr (1, [.int (nI 3000), .ref rm_12, .int (nI 0)])), (rm_12, .inl (cy 0, 64, .inl (fun _ => 0))), (a21, .inl (cy 2, 16, .inr (.inl (fun _ => 0))))] H := hP
  have hD : va_D A [(h0, .inr (9, [.ref a5, .ref a21, .null])), (a5, .inr (1, [.int (nI 3000), .ref rm_12, .int (nI 0)])), (rm_12, .inl (cy 0, 64, .inl (fun _ => 0))), (a21, .inl (cy 2, 16, .inr (.inl (fun _ => 0))))] := hD
  refine lv_aload_n hx hb dX8_init_26 rfl (lv_at hl 0 rfl) ?_
  refine va_new (ci := 6) (fs := [.null, .null, .null, .int 0]) (C := RX5) (T := TX5) (N := 4) hx hb hts iX5 tyX5 tyX5_ok hown (hts (.classLink RX8 22 RX5) (by decide +kernel)) (hts (.instantiable RX5 4) (by decide +kernel)) (hts (.initialized RX5) (by decide +kernel)) hK hP hD hS hA rfl (by decide +kernel) (Nat.le_of_ble_eq_true rfl) (Nat.le_of_ble_eq_true rfl) dX8_init_27 (fun a27 H hP hD hS => ?_)
  have hP : va_P D vwCl [(h0, .inr (9, [.ref a5, .ref a21, .null])), (a5, .inr (1, [.int (nI 3000), .ref rm_12, .int (nI 0)])), (rm_12, .inl (cy 0, 64, .inl (fun _ => 0))), (a21, .inl (cy 2, 16, .inr (.inl (fun _ => 0)))), (a27, .inr (6, [.null, .null, .null, .int 0]))] H := hP
  have hD : va_D A [(h0, .inr (9, [.ref a5, .ref a21, .null])), (a5, .inr (1, [.int (nI 3000), .ref rm_12, .int (nI 0)])), (rm_12, .inl (cy 0, 64, .inl (fun _ => 0))), (a21, .inl (cy 2, 16, .inr (.inl (fun _ => 0)))), (a27, .inr (6, [.null, .null, .null, .int 0]))] := hD
  refine W.widen (k := 4) (n := 87) (by omega) (by omega) ?_
  refine lv_dup hx hb dX8_init_30 rfl ?_
  refine lv_iconst (v := 0) hx hb dX8_init_31 (by decide +kernel) ?_
  refine lv_topi (fun x_2 ex_2 => ?_)
  obtain rfl : x_2 = nI 0 := by rw [ex_2]; exact nI_0.symm
  refine mt_callv (wr := [(h0, .inr (9, [.ref a5, .ref a21, .null])), (a5, .inr (1, [.int (nI 3000), .ref rm_12, .int (nI 0)])), (rm_12, .inl (cy 0, 64, .inl (fun _ => 0))), (a21, .inl (cy 2, 16, .inr (.inl (fun _ => 0))))]) (va_runI (As := [.int (nI 0)]) (rest := [.ref a27, .ref h0]) ⟨hx, hb, hml, hown, hts⟩ (c_Table_init l D cy e a27 0 H.size (by first | assumption | omega | decide +kernel)) (cwI 1 hts gX8_init_X5_init rfl rfl rfl (hts (.initialized RX5) (by decide +kernel)) (hts (.methodLink RX8 24 yX5_init) (by decide +kernel)) (hts (.instanceMethod yX5_init) (by decide +kernel)) rfl (by decide +kernel) ⟨Nat.le_of_ble_eq_true rfl, Nat.le_of_ble_eq_true rfl⟩) (mt_preS hP hD hK hS hA hG [4] rfl (by decide)) rfl rfl hl.1 rfl (lv_room (Nat.le_of_ble_eq_true rfl)) dX8_init_32 ⟨(Nat.le_of_ble_eq_true rfl), (Nat.le_of_ble_eq_true rfl)⟩) hP hD hS hA [4] [0, 1, 2, 3] rfl rfl (by decide) (by decide) (fun u H locs hw hP hD hS => ?_)
  obtain ⟨ro_32, xp_32, cd_32, st_32⟩ := u
  have hP : va_P D vwCl [(h0, .inr (9, [.ref a5, .ref a21, .null])), (a5, .inr (1, [.int (nI 3000), .ref rm_12, .int (nI 0)])), (rm_12, .inl (cy 0, 64, .inl (fun _ => 0))), (a21, .inl (cy 2, 16, .inr (.inl (fun _ => 0)))), (a27, .inr (6, [.ref ro_32, .ref xp_32, .null, .int 0])), (ro_32, .inr (0, [.int 0, .ref (e 0), .int (nI 0)])), (xp_32, .inr (2, [.ref cd_32, .int (nI 0), .ref st_32])), (cd_32, .inl (cy 0, 0, .inl (fun _ => 0))), (st_32, .inl (cy 2, 32, .inr (.inl (fun _ => 0))))] H := hP
  have hD : va_D A [(h0, .inr (9, [.ref a5, .ref a21, .null])), (a5, .inr (1, [.int (nI 3000), .ref rm_12, .int (nI 0)])), (rm_12, .inl (cy 0, 64, .inl (fun _ => 0))), (a21, .inl (cy 2, 16, .inr (.inl (fun _ => 0)))), (a27, .inr (6, [.ref ro_32, .ref xp_32, .null, .int 0])), (ro_32, .inr (0, [.int 0, .ref (e 0), .int (nI 0)])), (xp_32, .inr (2, [.ref cd_32, .int (nI 0), .ref st_32])), (cd_32, .inl (cy 0, 0, .inl (fun _ => 0))), (st_32, .inl (cy 2, 32, .inr (.inl (fun _ => 0))))] := hD
  replace hw : True := hw
  refine W.widen (k := 8) (n := 125) (by omega) (by omega) ?_
  refine va_put (D := D) (ci := 9) (v := .ref a27) (ty := (.object "InterlockTables$Table")) (C := RX8) (T := TX8) (N := 3) hx hb hts iX8 tyX8 tyX8_ok nmX8 hown hK hP hD hS 0 rfl rfl 2 (by decide) (hts (.fieldLink RX8 25 "InterlockTables" "table" "LInterlockTables$Table;") (by decide +kernel)) (fun _ h9 => h9) rfl (by decide +kernel) rfl rfl (Nat.le_of_ble_eq_true rfl) dX8_init_35 (fun H locs hP hD hS => ?_)
  have hP : va_P D vwCl [(h0, .inr (9, [.ref a5, .ref a21, .ref a27])), (a5, .inr (1, [.int (nI 3000), .ref rm_12, .int (nI 0)])), (rm_12, .inl (cy 0, 64, .inl (fun _ => 0))), (a21, .inl (cy 2, 16, .inr (.inl (fun _ => 0)))), (a27, .inr (6, [.ref ro_32, .ref xp_32, .null, .int 0])), (ro_32, .inr (0, [.int 0, .ref (e 0), .int (nI 0)])), (xp_32, .inr (2, [.ref cd_32, .int (nI 0), .ref st_32])), (cd_32, .inl (cy 0, 0, .inl (fun _ => 0))), (st_32, .inl (cy 2, 32, .inr (.inl (fun _ => 0))))] H := hP
  have hD : va_D A [(h0, .inr (9, [.ref a5, .ref a21, .ref a27])), (a5, .inr (1, [.int (nI 3000), .ref rm_12, .int (nI 0)])), (rm_12, .inl (cy 0, 64, .inl (fun _ => 0))), (a21, .inl (cy 2, 16, .inr (.inl (fun _ => 0)))), (a27, .inr (6, [.ref ro_32, .ref xp_32, .null, .int 0])), (ro_32, .inr (0, [.int 0, .ref (e 0), .int (nI 0)])), (xp_32, .inr (2, [.ref cd_32, .int (nI 0), .ref st_32])), (cd_32, .inl (cy 0, 0, .inl (fun _ => 0))), (st_32, .inl (cy 2, 32, .inr (.inl (fun _ => 0))))] := hD
  have hP9 : va_P D vwCl [(h0, .inr (9, [.ref a5, .ref a21, .ref a27])), (a5, .inr (1, [.int (nI 3000), .ref rm_12, .int (nI 0)])), (rm_12, .inl (cy 0, 64, .inl (fun _ => 0))), (a21, .inl (cy 2, 16, .inr (.inl (fun _ => 0)))), (a27, .inr (6, [.ref ro_32, .ref xp_32, .null, .int 0])), (ro_32, .inr (0, [.int 0, .ref (e 0), .int (nI 0)])), (xp_32, .inr (2, [.ref cd_32, .int (nI 0), .ref st_32])), (cd_32, .inl (cy 0, 0, .inl (fun _ => 0))), (st_32, .inl (cy 2, 32, .inr (.inl (fun _ => 0))))] H := hP.sub [0, 1, 2, 3, 4, 5, 6, 7, 8] rfl
  have hD9 : va_D A [(h0, .inr (9, [.ref a5, .ref a21, .ref a27])), (a5, .inr (1, [.int (nI 3000), .ref rm_12, .int (nI 0)])), (rm_12, .inl (cy 0, 64, .inl (fun _ => 0))), (a21, .inl (cy 2, 16, .inr (.inl (fun _ => 0)))), (a27, .inr (6, [.ref ro_32, .ref xp_32, .null, .int 0])), (ro_32, .inr (0, [.int 0, .ref (e 0), .int (nI 0)])), (xp_32, .inr (2, [.ref cd_32, .int (nI 0), .ref st_32])), (cd_32, .inl (cy 0, 0, .inl (fun _ => 0))), (st_32, .inl (cy 2, 32, .inr (.inl (fun _ => 0))))] := hD.sub [0, 1, 2, 3, 4, 5, 6, 7, 8] (by decide) rfl
  refine W.widen (k := 8) (n := 125) (by omega) (by omega) ?_
  exact W.vret hx hb hr (fun t ht hW => ⟨⟨(a5, rm_12, a21, a27, ro_32, xp_32, cd_32, st_32), rfl, trivial, by rw [ht]; exact hP9, hD9⟩, hS.F ht⟩) hS.2.2 dX8_init_38

set_option maxHeartbeats 4000000 in
set_option maxRecDepth 100000 in
theorem c_Survey_init (l : Launch) (D : va_G) (cy : Nat → ClassId) (e : Nat → Nat)  (h0 : Nat) (tb : Nat) (sz : Nat)  : Met l yX4_init wsX4_init ({ frames := 1, cells := 3, slots := 64, locals := 12 }) (va_Pc [.ref h0, .ref tb] (mt_B D cy e [(h0, .inr (5, [.null, .null, .int 0, .null, .null]))] sz)) (va_Qv (fun (u : Nat × Nat × Nat) => match u with | (us, se, co) => True) (mt_Q D (fun (u : Nat × Nat × Nat) => match u with | (us, se, co) => [(h0, .inr (5, [.ref tb, .ref us, .int (nI 0), .ref se, .ref co])), (us, .inl (cy 1, 16, .inl (fun _ => 0))), (se, .inl (cy 2, 16, .inr (.inl (fun _ => 0)))), (co, .inl (cy 2, 32, .inr (.inl (fun _ => 0))))]) (va_A [(h0, .inr (5, [.null, .null, .int 0, .null, .null]))] sz)) (va_A [(h0, .inr (5, [.null, .null, .int 0, .null, .null]))] sz)) (3) (64) (va_A [(h0, .inr (5, [.null, .null, .int 0, .null, .null]))] sz) := by
  refine Met.ofW (cc := cX4_init) (maxL := 2) (ret := none) (by decide) rfl ?_
  intro p ev s m args below meth c s₁ B hml hv
  obtain ⟨rfl, hsz, hP, hK, hD0, hG⟩ := hv
  have hx := B.exec
  have hb := B.bytes
  have hr := B.returns
  have hts := atoms_spec (ws := wsX4_init) B.pre
  have hown : s.vm.findClass RX4 = some m.cls := findClass_of_methodNamed B.named
  have hlocks := B.notSynchronized
  have hin : meth.name = "<init>" := (name_of_methodNamed B.named B.method).1
  subst hsz
  have hD := hD0.self (sz := s.heap.size)
  generalize hAe : va_A [(h0, .inr (5, [.null, .null, .int 0, .null, .null]))] s.heap.size = A at hD hG ⊢
  have hA : ∀ q : Nat, s.heap.size ≤ q → A q := fun q h => by rw [← hAe]; exact Or.inr h
  have hS : va_S A s.heap s.heap [] := va_S.rf
  have hP : va_P D vwCl [(h0, .inr (5, [.null, .null, .int 0, .null, .null]))] s.heap := hP
  have iX4 : ∀ w ∈ wsX40, w ∈ wsX4_init := fun w h => List.mem_cons_of_mem _ (List.mem_append_right _ h)
  have hl := lv_entry ([.ref h0, .ref tb]) (n := 2) (Nat.le_of_ble_eq_true rfl)
  rw [lg_entry_eq]
  generalize (lg_sl ([.ref h0, .ref tb]) ++ List.replicate (2 - (lg_sl ([.ref h0, .ref tb])).length) Slot.unset).toArray = ls at hl ⊢
  have hl : lv_has ls 2 [(0, .ref h0), (1, .ref tb)] := hl
  refine lv_aload_n hx hb dX4_init_0 rfl (lv_at hl 0 rfl) ?_
  refine W.objInit hx hb hown (hts (.methodLink RX4 3 objectInit) (by decide +kernel)) (hts (.instanceMethod objectInit) (by decide +kernel)) (hts (.code objectInit ⟨#[0xb1]⟩ 1 none) (by decide +kernel)) rfl (by rw [hml]; exact hl.1) rfl dX4_init_1 (Nat.le_of_ble_eq_true rfl) (Nat.le_of_ble_eq_true rfl) ?_
  refine W.eq (g2 := F0 m 4 ls []) rfl ?_
  refine lv_aload_n hx hb dX4_init_4 rfl (lv_at hl 0 rfl) ?_
  refine lv_bipush (v := 16) hx hb dX4_init_5 (by decide +kernel) ?_
  refine na_new (atype := .int) (ty := .int) (a0 := (16, .inl (fun _ => 0))) (N' := 16) hx hb (hts (.arrayClass .int) (by decide +kernel)) rfl 1 rfl hK hP hD hS hA (fun _ => rfl) (by decide +kernel) (by decide +kernel) (by decide +kernel) (Nat.le_of_ble_eq_true rfl) (Nat.le_of_ble_eq_true rfl) dX4_init_7 (fun a7 H hP hD hS => ?_)
  have hP : va_P D vwCl [(h0, .inr (5, [.null, .null, .int 0, .null, .null])), (a7, .inl (cy 1, 16, .inl (fun _ => 0)))] H := hP
  have hD : va_D A [(h0, .inr (5, [.null, .null, .int 0, .null, .null])), (a7, .inl (cy 1, 16, .inl (fun _ => 0)))] := hD
  refine W.widen (k := 1) (n := 16) (by omega) (by omega) ?_
  refine va_putF (D := D) (ci := 5) (v := .ref a7) (ty := (.array .int)) (C := RX4) (T := TX4) (N := 5) hx hb hts iX4 tyX4 tyX4_ok nmX4 hown hK hP hD hS 0 rfl rfl 1 (by decide) (hts (.fieldLink RX4 9 "InterlockTables$Survey" "used" "[I") (by decide +kernel)) (fun _ h9 => h9) rfl hin rfl (by decide +kernel) rfl rfl (Nat.le_of_ble_eq_true rfl) dX4_init_9 (fun H locs hP hD hS => ?_)
  have hP : va_P D vwCl [(h0, .inr (5, [.null, .ref a7, .int 0, .null, .null])), (a7, .inl (cy 1, 16, .inl (fun _ => 0)))] H := hP
  have hD : va_D A [(h0, .inr (5, [.null, .ref a7, .int 0, .null, .null])), (a7, .inl (cy 1, 16, .inl (fun _ => 0)))] := hD
  refine lv_aload_n hx hb dX4_init_12 rfl (lv_at hl 0 rfl) ?_
  refine lv_bipush (v := 16) hx hb dX4_init_13 (by decide +kernel) ?_
  refine na_new (atype := .long) (ty := .long) (a0 := (16, .inr (.inl (fun _ => 0)))) (N' := 16) hx hb (hts (.arrayClass .long) (by decide +kernel)) rfl 2 rfl hK hP hD hS hA (fun _ => rfl) (by decide +kernel) (by decide +kernel) (by decide +kernel) (Nat.le_of_ble_eq_true rfl) (Nat.le_of_ble_eq_true rfl) dX4_init_15 (fun a15 H hP hD hS => ?_)
  have hP : va_P D vwCl [(h0, .inr (5, [.null, .ref a7, .int 0, .null, .null])), (a7, .inl (cy 1, 16, .inl (fun _ => 0))), (a15, .inl (cy 2, 16, .inr (.inl (fun _ => 0))))] H := hP
  have hD : va_D A [(h0, .inr (5, [.null, .ref a7, .int 0, .null, .null])), (a7, .inl (cy 1, 16, .inl (fun _ => 0))), (a15, .inl (cy 2, 16, .inr (.inl (fun _ => 0))))] := hD
  refine W.widen (k := 2) (n := 32) (by omega) (by omega) ?_
  refine va_putF (D := D) (ci := 5) (v := .ref a15) (ty := (.array .long)) (C := RX4) (T := TX4) (N := 5) hx hb hts iX4 tyX4 tyX4_ok nmX4 hown hK hP hD hS 0 rfl rfl 3 (by decide) (hts (.fieldLink RX4 15 "InterlockTables$Survey" "settings" "[J") (by decide +kernel)) (fun _ h9 => h9) rfl hin rfl (by decide +kernel) rfl rfl (Nat.le_of_ble_eq_true rfl) dX4_init_17 (fun H locs hP hD hS => ?_)
  have hP : va_P D vwCl [(h0, .inr (5, [.null, .ref a7, .int 0, .ref a15, .null])), (a7, .inl (cy 1, 16, .inl (fun _ => 0))), (a15, .inl (cy 2, 16, .inr (.inl (fun _ => 0))))] H := hP
  have hD : va_D A [(h0, .inr (5, [.null, .ref a7, .int 0, .ref a15, .null])), (a7, .inl (cy 1, 16, .inl (fun _ => 0))), (a15, .inl (cy 2, 16, .inr (.inl (fun _ => 0))))] := hD
  refine lv_aload_n hx hb dX4_init_20 rfl (lv_at hl 0 rfl) ?_
  refine lv_bipush (v := 32) hx hb dX4_init_21 (by decide +kernel) ?_
  refine na_new (atype := .long) (ty := .long) (a0 := (32, .inr (.inl (fun _ => 0)))) (N' := 32) hx hb (hts (.arrayClass .long) (by decide +kernel)) rfl 2 rfl hK hP hD hS hA (fun _ => rfl) (by decide +kernel) (by decide +kernel) (by decide +kernel) (Nat.le_of_ble_eq_true rfl) (Nat.le_of_ble_eq_true rfl) dX4_init_23 (fun a23 H hP hD hS => ?_)
  have hP : va_P D vwCl [(h0, .inr (5, [.null, .ref a7, .int 0, .ref a15, .null])), (a7, .inl (cy 1, 16, .inl (fun _ => 0))), (a15, .inl (cy 2, 16, .inr (.inl (fun _ => 0)))), (a23, .inl (cy 2, 32, .inr (.inl (fun _ => 0))))] H := hP
  have hD : va_D A [(h0, .inr (5, [.null, .ref a7, .int 0, .ref a15, .null])), (a7, .inl (cy 1, 16, .inl (fun _ => 0))), (a15, .inl (cy 2, 16, .inr (.inl (fun _ => 0)))), (a23, .inl (cy 2, 32, .inr (.inl (fun _ => 0))))] := hD
  refine W.widen (k := 3) (n := 64) (by omega) (by omega) ?_
  refine va_putF (D := D) (ci := 5) (v := .ref a23) (ty := (.array .long)) (C := RX4) (T := TX4) (N := 5) hx hb hts iX4 tyX4 tyX4_ok nmX4 hown hK hP hD hS 0 rfl rfl 4 (by decide) (hts (.fieldLink RX4 19 "InterlockTables$Survey" "covered" "[J") (by decide +kernel)) (fun _ h9 => h9) rfl hin rfl (by decide +kernel) rfl rfl (Nat.le_of_ble_eq_true rfl) dX4_init_25 (fun H locs hP hD hS => ?_)
  have hP : va_P D vwCl [(h0, .inr (5, [.null, .ref a7, .int 0, .ref a15, .ref a23])), (a7, .inl (cy 1, 16, .inl (fun _ => 0))), (a15, .inl (cy 2, 16, .inr (.inl (fun _ => 0)))), (a23, .inl (cy 2, 32, .inr (.inl (fun _ => 0))))] H := hP
  have hD : va_D A [(h0, .inr (5, [.null, .ref a7, .int 0, .ref a15, .ref a23])), (a7, .inl (cy 1, 16, .inl (fun _ => 0))), (a15, .inl (cy 2, 16, .inr (.inl (fun _ => 0)))), (a23, .inl (cy 2, 32, .inr (.inl (fun _ => 0))))] := hD
  refine lv_aload_n hx hb dX4_init_28 rfl (lv_at hl 0 rfl) ?_
  refine lv_aload_n hx hb dX4_init_29 rfl (lv_at hl 1 rfl) ?_
  refine va_putF (D := D) (ci := 5) (v := .ref tb) (ty := (.object "InterlockTables$Table")) (C := RX4) (T := TX4) (N := 5) hx hb hts iX4 tyX4 tyX4_ok nmX4 hown hK hP hD hS 0 rfl rfl 0 (by decide) (hts (.fieldLink RX4 22 "InterlockTables$Survey" "table" "LInterlockTables$Table;") (by decide +kernel)) (fun _ h9 => h9) rfl hin rfl (by decide +kernel) rfl rfl (Nat.le_of_ble_eq_true rfl) dX4_init_30 (fun H locs hP hD hS => ?_)
  have hP : va_P D vwCl [(h0, .inr (5, [.ref tb, .ref a7, .int 0, .ref a15, .ref a23])), (a7, .inl (cy 1, 16, .inl (fun _ => 0))), (a15, .inl (cy 2, 16, .inr (.inl (fun _ => 0)))), (a23, .inl (cy 2, 32, .inr (.inl (fun _ => 0))))] H := hP
  have hD : va_D A [(h0, .inr (5, [.ref tb, .ref a7, .int 0, .ref a15, .ref a23])), (a7, .inl (cy 1, 16, .inl (fun _ => 0))), (a15, .inl (cy 2, 16, .inr (.inl (fun _ => 0)))), (a23, .inl (cy 2, 32, .inr (.inl (fun _ => 0))))] := hD
  have hP : va_P D vwCl [(h0, .inr (5, [.ref tb, .ref a7, .int (nI 0), .ref a15, .ref a23])), (a7, .inl (cy 1, 16, .inl (fun _ => 0))), (a15, .inl (cy 2, 16, .inr (.inl (fun _ => 0)))), (a23, .inl (cy 2, 32, .inr (.inl (fun _ => 0))))] H := hP
  have hD : va_D A [(h0, .inr (5, [.ref tb, .ref a7, .int (nI 0), .ref a15, .ref a23])), (a7, .inl (cy 1, 16, .inl (fun _ => 0))), (a15, .inl (cy 2, 16, .inr (.inl (fun _ => 0)))), (a23, .inl (cy 2, 32, .inr (.inl (fun _ => 0))))] := hD
  have hP9 : va_P D vwCl [(h0, .inr (5, [.ref tb, .ref a7, .int (nI 0), .ref a15, .ref a23])), (a7, .inl (cy 1, 16, .inl (fun _ => 0))), (a15, .inl (cy 2, 16, .inr (.inl (fun _ => 0)))), (a23, .inl (cy 2, 32, .inr (.inl (fun _ => 0))))] H := hP.sub [0, 1, 2, 3] rfl
  have hD9 : va_D A [(h0, .inr (5, [.ref tb, .ref a7, .int (nI 0), .ref a15, .ref a23])), (a7, .inl (cy 1, 16, .inl (fun _ => 0))), (a15, .inl (cy 2, 16, .inr (.inl (fun _ => 0)))), (a23, .inl (cy 2, 32, .inr (.inl (fun _ => 0))))] := hD.sub [0, 1, 2, 3] (by decide) rfl
  refine W.widen (k := 3) (n := 64) (by omega) (by omega) ?_
  exact W.vret hx hb hr (fun t ht hW => ⟨⟨(a7, a15, a23), rfl, trivial, by rw [ht]; exact hP9, hD9⟩, hS.F ht⟩) hS.2.2 dX4_init_33

set_option maxHeartbeats 4000000 in
set_option maxRecDepth 100000 in
theorem c_Writer_init (l : Launch) (D : va_G) (cy : Nat → ClassId) (e : Nat → Nat)  (h0 : Nat) (xp : Nat) (sz : Nat)  : Met l yX7_init wsX7_init ({ frames := 2, cells := 2, slots := 67, locals := 33 }) (va_Pc [.ref h0, .ref xp] (mt_B D cy e [(h0, .inr (8, [.null, .null, .int 0]))] sz)) (va_Qv (fun (u : Nat × Nat) => match u with | (ou, rm) => True) (mt_Q D (fun (u : Nat × Nat) => match u with | (ou, rm) => [(h0, .inr (8, [.ref xp, .ref ou, .int 0])), (ou, .inr (1, [.int (nI 6000), .ref rm, .int (nI 0)])), (rm, .inl (cy 0, 64, .inl (fun _ => 0)))]) (va_A [(h0, .inr (8, [.null, .null, .int 0]))] sz)) (va_A [(h0, .inr (8, [.null, .null, .int 0]))] sz)) (2) (67) (va_A [(h0, .inr (8, [.null, .null, .int 0]))] sz) := by
  refine Met.ofW (cc := cX7_init) (maxL := 2) (ret := none) (by decide) rfl ?_
  intro p ev s m args below meth c s₁ B hml hv
  obtain ⟨rfl, hsz, hP, hK, hD0, hG⟩ := hv
  have hx := B.exec
  have hb := B.bytes
  have hr := B.returns
  have hts := atoms_spec (ws := wsX7_init) B.pre
  have hown : s.vm.findClass RX7 = some m.cls := findClass_of_methodNamed B.named
  have hlocks := B.notSynchronized
  have hin : meth.name = "<init>" := (name_of_methodNamed B.named B.method).1
  subst hsz
  have hD := hD0.self (sz := s.heap.size)
  generalize hAe : va_A [(h0, .inr (8, [.null, .null, .int 0]))] s.heap.size = A at hD hG ⊢
  have hA : ∀ q : Nat, s.heap.size ≤ q → A q := fun q h => by rw [← hAe]; exact Or.inr h
  have hS : va_S A s.heap s.heap [] := va_S.rf
  have hP : va_P D vwCl [(h0, .inr (8, [.null, .null, .int 0]))] s.heap := hP
  have iX0 : ∀ w ∈ wsX00, w ∈ wsX7_init := fun w h => List.mem_cons_of_mem _ (List.mem_append_left _ (List.mem_append_right _ h))
  have iX7 : ∀ w ∈ wsX70, w ∈ wsX7_init := fun w h => List.mem_cons_of_mem _ (List.mem_append_right _ h)
  have hl := lv_entry ([.ref h0, .ref xp]) (n := 2) (Nat.le_of_ble_eq_true rfl)
  rw [lg_entry_eq]
  generalize (lg_sl ([.ref h0, .ref xp]) ++ List.replicate (2 - (lg_sl ([.ref h0, .ref xp])).length) Slot.unset).toArray = ls at hl ⊢
  have hl : lv_has ls 2 [(0, .ref h0), (1, .ref xp)] := hl
  refine lv_aload_n hx hb dX7_init_0 rfl (lv_at hl 0 rfl) ?_
  refine W.objInit hx hb hown (hts (.methodLink RX7 3 objectInit) (by decide +kernel)) (hts (.instanceMethod objectInit) (by decide +kernel)) (hts (.code objectInit ⟨#[0xb1]⟩ 1 none) (by decide +kernel)) rfl (by rw [hml]; exact hl.1) rfl dX7_init_1 (Nat.le_of_ble_eq_true rfl) (Nat.le_of_ble_eq_true rfl) ?_
  refine W.eq (g2 := F0 m 4 ls []) rfl ?_
  refine lv_aload_n hx hb dX7_init_4 rfl (lv_at hl 0 rfl) ?_
  refine va_new (ci := 1) (fs := [.int 0, .null, .int 0]) (C := RX0) (T := TX0) (N := 3) hx hb hts iX0 tyX0 tyX0_ok hown (hts (.classLink RX7 9 RX0) (by decide +kernel)) (hts (.instantiable RX0 3) (by decide +kernel)) (hts (.initialized RX0) (by decide +kernel)) hK hP hD hS hA rfl (by decide +kernel) (Nat.le_of_ble_eq_true rfl) (Nat.le_of_ble_eq_true rfl) dX7_init_5 (fun a5 H hP hD hS => ?_)
  have hP : va_P D vwCl [(h0, .inr (8, [.null, .null, .int 0])), (a5, .inr (1, [.int 0, .null, .int 0]))] H := hP
  have hD : va_D A [(h0, .inr (8, [.null, .null, .int 0])), (a5, .inr (1, [.int 0, .null, .int 0]))] := hD
  refine W.widen (k := 1) (n := 3) (by omega) (by omega) ?_
  refine lv_dup hx hb dX7_init_8 rfl ?_
  refine lv_sipush (v := 6000) hx hb dX7_init_9 (by decide +kernel) ?_
  refine lv_topi (fun x_1 ex_1 => ?_)
  obtain rfl : x_1 = nI 6000 := ex_1
  refine mt_callv (wr := [(h0, .inr (8, [.null, .null, .int 0]))]) (va_runI (As := [.int (nI 6000)]) (rest := [.ref a5, .ref h0]) ⟨hx, hb, hml, hown, hts⟩ (c_Bytes_init l D cy e a5 6000 H.size ) (cwI 1 hts gX7_init_X0_init rfl rfl rfl (hts (.initialized RX0) (by decide +kernel)) (hts (.methodLink RX7 11 yX0_init) (by decide +kernel)) (hts (.instanceMethod yX0_init) (by decide +kernel)) rfl (by decide +kernel) ⟨Nat.le_of_ble_eq_true rfl, Nat.le_of_ble_eq_true rfl⟩) (mt_preS hP hD hK hS hA hG [1] rfl (by decide)) rfl rfl hl.1 rfl (lv_room (Nat.le_of_ble_eq_true rfl)) dX7_init_12 ⟨(Nat.le_of_ble_eq_true rfl), (Nat.le_of_ble_eq_true rfl)⟩) hP hD hS hA [1] [0] rfl rfl (by decide) (by decide) (fun u H locs hw hP hD hS => ?_)
  obtain ⟨rm_12, rfl⟩ : ∃ z, z = u := ⟨_, rfl⟩
  have hP : va_P D vwCl [(h0, .inr (8, [.null, .null, .int 0])), (a5, .inr (1, [.int (nI 6000), .ref rm_12, .int (nI 0)])), (rm_12, .inl (cy 0, 64, .inl (fun _ => 0)))] H := hP
  have hD : va_D A [(h0, .inr (8, [.null, .null, .int 0])), (a5, .inr (1, [.int (nI 6000), .ref rm_12, .int (nI 0)])), (rm_12, .inl (cy 0, 64, .inl (fun _ => 0)))] := hD
  replace hw : True := hw
  refine W.widen (k := 2) (n := 67) (by omega) (by omega) ?_
  refine va_putF (D := D) (ci := 8) (v := .ref a5) (ty := (.object "InterlockTables$Bytes")) (C := RX7) (T := TX7) (N := 3) hx hb hts iX7 tyX7 tyX7_ok nmX7 hown hK hP hD hS 0 rfl rfl 1 (by decide) (hts (.fieldLink RX7 14 "InterlockTables$Writer" "out" "LInterlockTables$Bytes;") (by decide +kernel)) (fun _ h9 => h9) rfl hin rfl (by decide +kernel) rfl rfl (Nat.le_of_ble_eq_true rfl) dX7_init_15 (fun H locs hP hD hS => ?_)
  have hP : va_P D vwCl [(h0, .inr (8, [.null, .ref a5, .int 0])), (a5, .inr (1, [.int (nI 6000), .ref rm_12, .int (nI 0)])), (rm_12, .inl (cy 0, 64, .inl (fun _ => 0)))] H := hP
  have hD : va_D A [(h0, .inr (8, [.null, .ref a5, .int 0])), (a5, .inr (1, [.int (nI 6000), .ref rm_12, .int (nI 0)])), (rm_12, .inl (cy 0, 64, .inl (fun _ => 0)))] := hD
  refine lv_aload_n hx hb dX7_init_18 rfl (lv_at hl 0 rfl) ?_
  refine lv_aload_n hx hb dX7_init_19 rfl (lv_at hl 1 rfl) ?_
  refine va_putF (D := D) (ci := 8) (v := .ref xp) (ty := (.object "InterlockTables$Expressions")) (C := RX7) (T := TX7) (N := 3) hx hb hts iX7 tyX7 tyX7_ok nmX7 hown hK hP hD hS 0 rfl rfl 0 (by decide) (hts (.fieldLink RX7 20 "InterlockTables$Writer" "expressions" "LInterlockTables$Expressions;") (by decide +kernel)) (fun _ h9 => h9) rfl hin rfl (by decide +kernel) rfl rfl (Nat.le_of_ble_eq_true rfl) dX7_init_20 (fun H locs hP hD hS => ?_)
  have hP : va_P D vwCl [(h0, .inr (8, [.ref xp, .ref a5, .int 0])), (a5, .inr (1, [.int (nI 6000), .ref rm_12, .int (nI 0)])), (rm_12, .inl (cy 0, 64, .inl (fun _ => 0)))] H := hP
  have hD : va_D A [(h0, .inr (8, [.ref xp, .ref a5, .int 0])), (a5, .inr (1, [.int (nI 6000), .ref rm_12, .int (nI 0)])), (rm_12, .inl (cy 0, 64, .inl (fun _ => 0)))] := hD
  have hP9 : va_P D vwCl [(h0, .inr (8, [.ref xp, .ref a5, .int 0])), (a5, .inr (1, [.int (nI 6000), .ref rm_12, .int (nI 0)])), (rm_12, .inl (cy 0, 64, .inl (fun _ => 0)))] H := hP.sub [0, 1, 2] rfl
  have hD9 : va_D A [(h0, .inr (8, [.ref xp, .ref a5, .int 0])), (a5, .inr (1, [.int (nI 6000), .ref rm_12, .int (nI 0)])), (rm_12, .inl (cy 0, 64, .inl (fun _ => 0)))] := hD.sub [0, 1, 2] (by decide) rfl
  refine W.widen (k := 2) (n := 67) (by omega) (by omega) ?_
  exact W.vret hx hb hr (fun t ht hW => ⟨⟨(a5, rm_12), rfl, trivial, by rw [ht]; exact hP9, hD9⟩, hS.F ht⟩) hS.2.2 dX7_init_23

set_option maxHeartbeats 4000000 in
set_option maxRecDepth 100000 in
theorem c_Words_init (l : Launch) (D : va_G) (cy : Nat → ClassId) (e : Nat → Nat)  (h0 : Nat) (k : Nat) (sz : Nat) (hk : k < 65536) : Met l yX6_init wsX6_init ({ frames := 1, cells := 2, slots := k + k, locals := 13 }) (va_Pc [.ref h0, .int (nI k)] (mt_B D cy e [(h0, .inr (7, [.null, .null, .int 0, .int 0, .int 0]))] sz)) (va_Qv (fun (u : Nat × Nat) => match u with | (kd, vl) => True) (mt_Q D (fun (u : Nat × Nat) => match u with | (kd, vl) => [(h0, .inr (7, [.ref kd, .ref vl, .int (nI 0), .int (nI 0), .int 0])), (kd, .inl (cy 0, k, .inl (fun _ => 0))), (vl, .inl (cy 3, k, .inl (fun _ => 0)))]) (va_A [(h0, .inr (7, [.null, .null, .int 0, .int 0, .int 0]))] sz)) (va_A [(h0, .inr (7, [.null, .null, .int 0, .int 0, .int 0]))] sz)) (2) (k + k) (va_A [(h0, .inr (7, [.null, .null, .int 0, .int 0, .int 0]))] sz) := by
  refine Met.ofW (cc := cX6_init) (maxL := 3) (ret := none) (by decide) rfl ?_
  intro p ev s m args below meth c s₁ B hml hv
  obtain ⟨rfl, hsz, hP, hK, hD0, hG⟩ := hv
  have hx := B.exec
  have hb := B.bytes
  have hr := B.returns
  have hts := atoms_spec (ws := wsX6_init) B.pre
  have hown : s.vm.findClass RX6 = some m.cls := findClass_of_methodNamed B.named
  have hlocks := B.notSynchronized
  have hin : meth.name = "<init>" := (name_of_methodNamed B.named B.method).1
  subst hsz
  have hD := hD0.self (sz := s.heap.size)
  generalize hAe : va_A [(h0, .inr (7, [.null, .null, .int 0, .int 0, .int 0]))] s.heap.size = A at hD hG ⊢
  have hA : ∀ q : Nat, s.heap.size ≤ q → A q := fun q h => by rw [← hAe]; exact Or.inr h
  have hS : va_S A s.heap s.heap [] := va_S.rf
  have hP : va_P D vwCl [(h0, .inr (7, [.null, .null, .int 0, .int 0, .int 0]))] s.heap := hP
  have iX6 : ∀ w ∈ wsX60, w ∈ wsX6_init := fun w h => List.mem_cons_of_mem _ (List.mem_append_right _ h)
  have hl := lv_entry ([.ref h0, .int (nI k)]) (n := 3) (Nat.le_of_ble_eq_true rfl)
  rw [lg_entry_eq]
  generalize (lg_sl ([.ref h0, .int (nI k)]) ++ List.replicate (3 - (lg_sl ([.ref h0, .int (nI k)])).length) Slot.unset).toArray = ls at hl ⊢
  have hl : lv_has ls 3 [(0, .ref h0), (1, .int (nI k))] := hl
  refine lv_aload_n hx hb dX6_init_0 rfl (lv_at hl 0 rfl) ?_
  refine W.objInit hx hb hown (hts (.methodLink RX6 3 objectInit) (by decide +kernel)) (hts (.instanceMethod objectInit) (by decide +kernel)) (hts (.code objectInit ⟨#[0xb1]⟩ 1 none) (by decide +kernel)) rfl (by rw [hml]; exact hl.1) rfl dX6_init_1 (Nat.le_of_ble_eq_true rfl) (Nat.le_of_ble_eq_true rfl) ?_
  refine W.eq (g2 := F0 m 4 ls []) rfl ?_
  refine lv_iconst (v := 0) hx hb dX6_init_4 (by decide +kernel) ?_
  refine lv_iload_n hx hb dX6_init_5 rfl (lv_at hl 1 rfl) ?_
  refine va_mmax hx hb (by rw [hml]; exact hl.1.symm) hown (hts (.methodLink RX6 9 Lib.Math.max.name) (by decide +kernel)) (hts (.static Lib.Math.max.name) (by decide +kernel)) (hts (.initialized "java/lang/Math") (by decide +kernel)) (hts (.code Lib.Math.max.name Lib.Math.max.code 2 (some .int)) (by decide +kernel)) (Nat.le_of_ble_eq_true rfl) (Nat.le_of_ble_eq_true rfl) (Nat.le_of_ble_eq_true rfl) (show 0 + 0 ≤ k + k from by omega) dX6_init_6 ?_
  refine lv_topi (fun x_1 ex_1 => ?_)
  obtain rfl : x_1 = nI k := by rw [ex_1]; exact pk_max0 (by omega)
  refine lv_istore_n (lv' := [(2, .int (nI k)), (0, .ref h0), (1, .int (nI k))]) hx hb dX6_init_9 rfl hl (by decide) rfl (fun ls hl => ?_)
  refine lv_aload_n hx hb dX6_init_10 rfl (lv_at hl 1 rfl) ?_
  refine lv_iload_n hx hb dX6_init_11 rfl (lv_at hl 0 rfl) ?_
  refine na_new (atype := .byte) (ty := .byte) (a0 := (k, .inl (fun _ => 0))) (N' := k) hx hb (hts (.arrayClass .byte) (by decide +kernel)) rfl 0 rfl hK hP hD hS hA (fun _ => rfl) (nI_pos (by omega)) (nI_clamp (by omega)) (by simp only [componentBytes]; omega) (Nat.le_of_ble_eq_true rfl) (show 0 + k ≤ k + k from by omega) dX6_init_12 (fun a12 H hP hD hS => ?_)
  have hP : va_P D vwCl [(h0, .inr (7, [.null, .null, .int 0, .int 0, .int 0])), (a12, .inl (cy 0, k, .inl (fun _ => 0)))] H := hP
  have hD : va_D A [(h0, .inr (7, [.null, .null, .int 0, .int 0, .int 0])), (a12, .inl (cy 0, k, .inl (fun _ => 0)))] := hD
  refine W.widen (k := 1) (n := k) (by omega) (by omega) ?_
  refine va_putF (D := D) (ci := 7) (v := .ref a12) (ty := (.array .byte)) (C := RX6) (T := TX6) (N := 5) hx hb hts iX6 tyX6 tyX6_ok nmX6 hown hK hP hD hS 0 rfl rfl 0 (by decide) (hts (.fieldLink RX6 15 "InterlockTables$Words" "kinds" "[B") (by decide +kernel)) (fun _ h9 => h9) rfl hin rfl (by decide +kernel) rfl rfl (Nat.le_of_ble_eq_true rfl) dX6_init_14 (fun H locs hP hD hS => ?_)
  have hP : va_P D vwCl [(h0, .inr (7, [.ref a12, .null, .int 0, .int 0, .int 0])), (a12, .inl (cy 0, k, .inl (fun _ => 0)))] H := hP
  have hD : va_D A [(h0, .inr (7, [.ref a12, .null, .int 0, .int 0, .int 0])), (a12, .inl (cy 0, k, .inl (fun _ => 0)))] := hD
  refine lv_aload_n hx hb dX6_init_17 rfl (lv_at hl 1 rfl) ?_
  refine lv_iload_n hx hb dX6_init_18 rfl (lv_at hl 0 rfl) ?_
  refine na_new (atype := .short) (ty := .short) (a0 := (k, .inl (fun _ => 0))) (N' := k) hx hb (hts (.arrayClass .short) (by decide +kernel)) rfl 3 rfl hK hP hD hS hA (fun _ => rfl) (nI_pos (by omega)) (nI_clamp (by omega)) (by simp only [componentBytes]; omega) (Nat.le_of_ble_eq_true rfl) (show k + k ≤ k + k from by omega) dX6_init_19 (fun a19 H hP hD hS => ?_)
  have hP : va_P D vwCl [(h0, .inr (7, [.ref a12, .null, .int 0, .int 0, .int 0])), (a12, .inl (cy 0, k, .inl (fun _ => 0))), (a19, .inl (cy 3, k, .inl (fun _ => 0)))] H := hP
  have hD : va_D A [(h0, .inr (7, [.ref a12, .null, .int 0, .int 0, .int 0])), (a12, .inl (cy 0, k, .inl (fun _ => 0))), (a19, .inl (cy 3, k, .inl (fun _ => 0)))] := hD
  refine W.widen (k := 2) (n := k + k) (by omega) (by omega) ?_
  refine va_putF (D := D) (ci := 7) (v := .ref a19) (ty := (.array .short)) (C := RX6) (T := TX6) (N := 5) hx hb hts iX6 tyX6 tyX6_ok nmX6 hown hK hP hD hS 0 rfl rfl 1 (by decide) (hts (.fieldLink RX6 21 "InterlockTables$Words" "values" "[S") (by decide +kernel)) (fun _ h9 => h9) rfl hin rfl (by decide +kernel) rfl rfl (Nat.le_of_ble_eq_true rfl) dX6_init_21 (fun H locs hP hD hS => ?_)
  have hP : va_P D vwCl [(h0, .inr (7, [.ref a12, .ref a19, .int 0, .int 0, .int 0])), (a12, .inl (cy 0, k, .inl (fun _ => 0))), (a19, .inl (cy 3, k, .inl (fun _ => 0)))] H := hP
  have hD : va_D A [(h0, .inr (7, [.ref a12, .ref a19, .int 0, .int 0, .int 0])), (a12, .inl (cy 0, k, .inl (fun _ => 0))), (a19, .inl (cy 3, k, .inl (fun _ => 0)))] := hD
  have hP : va_P D vwCl [(h0, .inr (7, [.ref a12, .ref a19, .int (nI 0), .int (nI 0), .int 0])), (a12, .inl (cy 0, k, .inl (fun _ => 0))), (a19, .inl (cy 3, k, .inl (fun _ => 0)))] H := hP
  have hD : va_D A [(h0, .inr (7, [.ref a12, .ref a19, .int (nI 0), .int (nI 0), .int 0])), (a12, .inl (cy 0, k, .inl (fun _ => 0))), (a19, .inl (cy 3, k, .inl (fun _ => 0)))] := hD
  have hP9 : va_P D vwCl [(h0, .inr (7, [.ref a12, .ref a19, .int (nI 0), .int (nI 0), .int 0])), (a12, .inl (cy 0, k, .inl (fun _ => 0))), (a19, .inl (cy 3, k, .inl (fun _ => 0)))] H := hP.sub [0, 1, 2] rfl
  have hD9 : va_D A [(h0, .inr (7, [.ref a12, .ref a19, .int (nI 0), .int (nI 0), .int 0])), (a12, .inl (cy 0, k, .inl (fun _ => 0))), (a19, .inl (cy 3, k, .inl (fun _ => 0)))] := hD.sub [0, 1, 2] (by decide) rfl
  refine W.widen (k := 2) (n := k + k) (by omega) (by omega) ?_
  exact W.vret hx hb hr (fun t ht hW => ⟨⟨(a12, a19), rfl, trivial, by rw [ht]; exact hP9, hD9⟩, hS.F ht⟩) hS.2.2 dX6_init_24

set_option maxHeartbeats 4000000 in
set_option maxRecDepth 100000 in
theorem c_Reader_init (l : Launch) (D : va_G) (cy : Nat → ClassId) (e : Nat → Nat)  (h0 : Nat) (wd : Nat) (tb : Nat) (ro : Nat) (xp : Nat) (wr : Value) (sv : Int32) (sz : Nat)  : Met l yX2_init wsX2_init ({ frames := 1, cells := 0, slots := 0, locals := 12 }) (va_Pc [.ref h0, .ref wd, .ref tb] (mt_B D cy e [(h0, .inr (3, [.null, .null, .null])), (tb, .inr (6, [.ref ro, .ref xp, wr, .int sv]))] sz)) (va_Qv (fun (_ : Unit) => True) (mt_Q D (fun (_ : Unit) => [(h0, .inr (3, [.ref wd, .ref tb, .ref xp])), (tb, .inr (6, [.ref ro, .ref xp, wr, .int sv]))]) (va_A [(h0, .inr (3, [.null, .null, .null])), (tb, .inr (6, [.ref ro, .ref xp, wr, .int sv]))] sz)) (va_A [(h0, .inr (3, [.null, .null, .null])), (tb, .inr (6, [.ref ro, .ref xp, wr, .int sv]))] sz)) (0) (0) (va_A [(h0, .inr (3, [.null, .null, .null])), (tb, .inr (6, [.ref ro, .ref xp, wr, .int sv]))] sz) := by
  refine Met.ofW (cc := cX2_init) (maxL := 3) (ret := none) (by decide) rfl ?_
  intro p ev s m args below meth c s₁ B hml hv
  obtain ⟨rfl, hsz, hP, hK, hD0, hG⟩ := hv
  have hx := B.exec
  have hb := B.bytes
  have hr := B.returns
  have hts := atoms_spec (ws := wsX2_init) B.pre
  have hown : s.vm.findClass RX2 = some m.cls := findClass_of_methodNamed B.named
  have hlocks := B.notSynchronized
  have hin : meth.name = "<init>" := (name_of_methodNamed B.named B.method).1
  subst hsz
  have hD := hD0.self (sz := s.heap.size)
  generalize hAe : va_A [(h0, .inr (3, [.null, .null, .null])), (tb, .inr (6, [.ref ro, .ref xp, wr, .int sv]))] s.heap.size = A at hD hG ⊢
  have hA : ∀ q : Nat, s.heap.size ≤ q → A q := fun q h => by rw [← hAe]; exact Or.inr h
  have hS : va_S A s.heap s.heap [] := va_S.rf
  have hP : va_P D vwCl [(h0, .inr (3, [.null, .null, .null])), (tb, .inr (6, [.ref ro, .ref xp, wr, .int sv]))] s.heap := hP
  have iX2 : ∀ w ∈ wsX20, w ∈ wsX2_init := fun w h => List.mem_cons_of_mem _ (List.mem_append_left _ (List.mem_append_right _ h))
  have iX5 : ∀ w ∈ wsX50, w ∈ wsX2_init := fun w h => List.mem_cons_of_mem _ (List.mem_append_right _ h)
  have hl := lv_entry ([.ref h0, .ref wd, .ref tb]) (n := 3) (Nat.le_of_ble_eq_true rfl)
  rw [lg_entry_eq]
  generalize (lg_sl ([.ref h0, .ref wd, .ref tb]) ++ List.replicate (3 - (lg_sl ([.ref h0, .ref wd, .ref tb])).length) Slot.unset).toArray = ls at hl ⊢
  have hl : lv_has ls 3 [(0, .ref h0), (1, .ref wd), (2, .ref tb)] := hl
  refine lv_aload_n hx hb dX2_init_0 rfl (lv_at hl 0 rfl) ?_
  refine W.objInit hx hb hown (hts (.methodLink RX2 3 objectInit) (by decide +kernel)) (hts (.instanceMethod objectInit) (by decide +kernel)) (hts (.code objectInit ⟨#[0xb1]⟩ 1 none) (by decide +kernel)) rfl (by rw [hml]; exact hl.1) rfl dX2_init_1 (Nat.le_of_ble_eq_true rfl) (Nat.le_of_ble_eq_true rfl) ?_
  refine W.eq (g2 := F0 m 4 ls []) rfl ?_
  refine lv_aload_n hx hb dX2_init_4 rfl (lv_at hl 0 rfl) ?_
  refine lv_aload_n hx hb dX2_init_5 rfl (lv_at hl 1 rfl) ?_
  refine va_putF (D := D) (ci := 3) (v := .ref wd) (ty := (.object "InterlockTables$Words")) (C := RX2) (T := TX2) (N := 3) hx hb hts iX2 tyX2 tyX2_ok nmX2 hown hK hP hD hS 0 rfl rfl 0 (by decide) (hts (.fieldLink RX2 9 "InterlockTables$Reader" "words" "LInterlockTables$Words;") (by decide +kernel)) (fun _ h9 => h9) rfl hin rfl (by decide +kernel) rfl rfl (Nat.le_of_ble_eq_true rfl) dX2_init_6 (fun H locs hP hD hS => ?_)
  have hP : va_P D vwCl [(h0, .inr (3, [.ref wd, .null, .null])), (tb, .inr (6, [.ref ro, .ref xp, wr, .int sv]))] H := hP
  have hD : va_D A [(h0, .inr (3, [.ref wd, .null, .null])), (tb, .inr (6, [.ref ro, .ref xp, wr, .int sv]))] := hD
  refine lv_aload_n hx hb dX2_init_9 rfl (lv_at hl 0 rfl) ?_
  refine lv_aload_n hx hb dX2_init_10 rfl (lv_at hl 2 rfl) ?_
  refine va_putF (D := D) (ci := 3) (v := .ref tb) (ty := (.object "InterlockTables$Table")) (C := RX2) (T := TX2) (N := 3) hx hb hts iX2 tyX2 tyX2_ok nmX2 hown hK hP hD hS 0 rfl rfl 1 (by decide) (hts (.fieldLink RX2 15 "InterlockTables$Reader" "table" "LInterlockTables$Table;") (by decide +kernel)) (fun _ h9 => h9) rfl hin rfl (by decide +kernel) rfl rfl (Nat.le_of_ble_eq_true rfl) dX2_init_11 (fun H locs hP hD hS => ?_)
  have hP : va_P D vwCl [(h0, .inr (3, [.ref wd, .ref tb, .null])), (tb, .inr (6, [.ref ro, .ref xp, wr, .int sv]))] H := hP
  have hD : va_D A [(h0, .inr (3, [.ref wd, .ref tb, .null])), (tb, .inr (6, [.ref ro, .ref xp, wr, .int sv]))] := hD
  refine lv_aload_n hx hb dX2_init_14 rfl (lv_at hl 0 rfl) ?_
  refine lv_aload_n hx hb dX2_init_15 rfl (lv_at hl 2 rfl) ?_
  refine va_getN (D := D) (ci := 6) (v := .ref xp) (C := RX5) (T := TX5) (N := 4) hx hb hts iX5 hown hK hP 1 rfl rfl 1 (by decide) (gl_N.f hG.gN 2 rfl) (fun _ h9 => h9) rfl dX2_init_16 ?_
  refine va_putF (D := D) (ci := 3) (v := .ref xp) (ty := (.object "InterlockTables$Expressions")) (C := RX2) (T := TX2) (N := 3) hx hb hts iX2 tyX2 tyX2_ok nmX2 hown hK hP hD hS 0 rfl rfl 2 (by decide) (hts (.fieldLink RX2 25 "InterlockTables$Reader" "expressions" "LInterlockTables$Expressions;") (by decide +kernel)) (fun _ h9 => h9) rfl hin rfl (by decide +kernel) rfl rfl (Nat.le_of_ble_eq_true rfl) dX2_init_19 (fun H locs hP hD hS => ?_)
  have hP : va_P D vwCl [(h0, .inr (3, [.ref wd, .ref tb, .ref xp])), (tb, .inr (6, [.ref ro, .ref xp, wr, .int sv]))] H := hP
  have hD : va_D A [(h0, .inr (3, [.ref wd, .ref tb, .ref xp])), (tb, .inr (6, [.ref ro, .ref xp, wr, .int sv]))] := hD
  have hP9 : va_P D vwCl [(h0, .inr (3, [.ref wd, .ref tb, .ref xp])), (tb, .inr (6, [.ref ro, .ref xp, wr, .int sv]))] H := hP.sub [0, 1] rfl
  have hD9 : va_D A [(h0, .inr (3, [.ref wd, .ref tb, .ref xp])), (tb, .inr (6, [.ref ro, .ref xp, wr, .int sv]))] := hD.sub [0, 1] (by decide) rfl
  refine W.widen (k := 0) (n := 0) (by omega) (by omega) ?_
  exact W.vret hx hb hr (fun t ht hW => ⟨⟨(), rfl, trivial, by rw [ht]; exact hP9, hD9⟩, hS.F ht⟩) hS.2.2 dX2_init_22
