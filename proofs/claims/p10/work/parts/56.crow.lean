-- deps: 50

def aat (fa : Nat → Int32) (x1 i : Int32) : Int32 := if i < 0 ∨ x1 ≤ i ∨ ¬ i < 8 then -1 else fa i.toNatClampNeg
set_option maxHeartbeats 4000000 in
set_option maxRecDepth 100000 in
theorem c_Row_init (l : Launch) (D : va_G) (cy : Nat → ClassId) (e : Nat → Nat)  (h0 : Nat) (sz : Nat)  : Met l yX3_init wsX3_init ({ frames := 1, cells := 1, slots := 8, locals := 12 }) (va_Pc [.ref h0] (mt_B D cy e [(h0, .inr (4, [.null, .int 0, .int 0, .int 0, .int 0, .int 0, .int 0, .int 0, .int 0, .int 0, .int 0, .int 0, .int 0]))] sz)) (va_Qv (fun (aa : Nat) => True) (mt_Q D (fun aa => [(h0, .inr (4, [.ref aa, .int (nI 0), .int 0, .int 0, .int 0, .int 0, .int 0, .int 0, .int 0, .int 0, .int 0, .int 0, .int 0])), (aa, .inl (cy 1, 8, .inl (fun _ => 0)))]) (va_A [(h0, .inr (4, [.null, .int 0, .int 0, .int 0, .int 0, .int 0, .int 0, .int 0, .int 0, .int 0, .int 0, .int 0, .int 0]))] sz)) (va_A [(h0, .inr (4, [.null, .int 0, .int 0, .int 0, .int 0, .int 0, .int 0, .int 0, .int 0, .int 0, .int 0, .int 0, .int 0]))] sz)) (1) (8) (va_A [(h0, .inr (4, [.null, .int 0, .int 0, .int 0, .int 0, .int 0, .int 0, .int 0, .int 0, .int 0, .int 0, .int 0, .int 0]))] sz) := by
  refine Met.ofW (cc := cX3_init) (maxL := 1) (ret := none) (by decide) rfl ?_
  intro p ev s m args below meth c s₁ B hml hv
  obtain ⟨rfl, hsz, hP, hK, hD0, hG⟩ := hv
  have hx := B.exec
  have hb := B.bytes
  have hr := B.returns
  have hts := atoms_spec (ws := wsX3_init) B.pre
  have hown : s.vm.findClass RX3 = some m.cls := findClass_of_methodNamed B.named
  have hlocks := B.notSynchronized
  have hin : meth.name = "<init>" := (name_of_methodNamed B.named B.method).1
  subst hsz
  have hD := hD0.self (sz := s.heap.size)
  generalize hAe : va_A [(h0, .inr (4, [.null, .int 0, .int 0, .int 0, .int 0, .int 0, .int 0, .int 0, .int 0, .int 0, .int 0, .int 0, .int 0]))] s.heap.size = A at hD hG ⊢
  have hA : ∀ q : Nat, s.heap.size ≤ q → A q := fun q h => by rw [← hAe]; exact Or.inr h
  have hS : va_S A s.heap s.heap [] := va_S.rf
  have hP : va_P D vwCl [(h0, .inr (4, [.null, .int 0, .int 0, .int 0, .int 0, .int 0, .int 0, .int 0, .int 0, .int 0, .int 0, .int 0, .int 0]))] s.heap := hP
  have iX3 : ∀ w ∈ wsX30, w ∈ wsX3_init := fun w h => List.mem_cons_of_mem _ (List.mem_append_right _ h)
  have hl := lv_entry ([.ref h0]) (n := 1) (Nat.le_of_ble_eq_true rfl)
  rw [lg_entry_eq]
  generalize (lg_sl ([.ref h0]) ++ List.replicate (1 - (lg_sl ([.ref h0])).length) Slot.unset).toArray = ls at hl ⊢
  have hl : lv_has ls 1 [(0, .ref h0)] := hl
  refine lv_aload_n hx hb dX3_init_0 rfl (lv_at hl 0 rfl) ?_
  refine W.objInit hx hb hown (hts (.methodLink RX3 3 objectInit) (by decide +kernel)) (hts (.instanceMethod objectInit) (by decide +kernel)) (hts (.code objectInit ⟨#[0xb1]⟩ 1 none) (by decide +kernel)) rfl (by rw [hml]; exact hl.1) rfl dX3_init_1 (Nat.le_of_ble_eq_true rfl) (Nat.le_of_ble_eq_true rfl) ?_
  refine W.eq (g2 := F0 m 4 ls []) rfl ?_
  refine lv_aload_n hx hb dX3_init_4 rfl (lv_at hl 0 rfl) ?_
  refine lv_bipush (v := 8) hx hb dX3_init_5 (by decide +kernel) ?_
  refine na_new (atype := .int) (ty := .int) (a0 := (8, .inl (fun _ => 0))) (N' := 8) hx hb (hts (.arrayClass .int) (by decide +kernel)) rfl 1 rfl hK hP hD hS hA (fun _ => rfl) (by decide +kernel) (by decide +kernel) (by decide +kernel) (Nat.le_of_ble_eq_true rfl) (Nat.le_of_ble_eq_true rfl) dX3_init_7 (fun a7 H hP hD hS => ?_)
  have hP : va_P D vwCl [(h0, .inr (4, [.null, .int 0, .int 0, .int 0, .int 0, .int 0, .int 0, .int 0, .int 0, .int 0, .int 0, .int 0, .int 0])), (a7, .inl (cy 1, 8, .inl (fun _ => 0)))] H := hP
  have hD : va_D A [(h0, .inr (4, [.null, .int 0, .int 0, .int 0, .int 0, .int 0, .int 0, .int 0, .int 0, .int 0, .int 0, .int 0, .int 0])), (a7, .inl (cy 1, 8, .inl (fun _ => 0)))] := hD
  refine W.widen (k := 1) (n := 8) (by omega) (by omega) ?_
  refine va_putF (D := D) (ci := 4) (v := .ref a7) (ty := (.array .int)) (C := RX3) (T := TX3) (N := 13) hx hb hts iX3 tyX3 tyX3_ok nmX3 hown hK hP hD hS 0 rfl rfl 0 (by decide) (hts (.fieldLink RX3 9 "InterlockTables$Row" "acts" "[I") (by decide +kernel)) (fun _ h9 => h9) rfl hin rfl (by decide +kernel) rfl rfl (Nat.le_of_ble_eq_true rfl) dX3_init_9 (fun H locs hP hD hS => ?_)
  have hP : va_P D vwCl [(h0, .inr (4, [.ref a7, .int 0, .int 0, .int 0, .int 0, .int 0, .int 0, .int 0, .int 0, .int 0, .int 0, .int 0, .int 0])), (a7, .inl (cy 1, 8, .inl (fun _ => 0)))] H := hP
  have hD : va_D A [(h0, .inr (4, [.ref a7, .int 0, .int 0, .int 0, .int 0, .int 0, .int 0, .int 0, .int 0, .int 0, .int 0, .int 0, .int 0])), (a7, .inl (cy 1, 8, .inl (fun _ => 0)))] := hD
  have hP : va_P D vwCl [(h0, .inr (4, [.ref a7, .int (nI 0), .int 0, .int 0, .int 0, .int 0, .int 0, .int 0, .int 0, .int 0, .int 0, .int 0, .int 0])), (a7, .inl (cy 1, 8, .inl (fun _ => 0)))] H := hP
  have hD : va_D A [(h0, .inr (4, [.ref a7, .int (nI 0), .int 0, .int 0, .int 0, .int 0, .int 0, .int 0, .int 0, .int 0, .int 0, .int 0, .int 0])), (a7, .inl (cy 1, 8, .inl (fun _ => 0)))] := hD
  have hP9 : va_P D vwCl [(h0, .inr (4, [.ref a7, .int (nI 0), .int 0, .int 0, .int 0, .int 0, .int 0, .int 0, .int 0, .int 0, .int 0, .int 0, .int 0])), (a7, .inl (cy 1, 8, .inl (fun _ => 0)))] H := hP.sub [0, 1] rfl
  have hD9 : va_D A [(h0, .inr (4, [.ref a7, .int (nI 0), .int 0, .int 0, .int 0, .int 0, .int 0, .int 0, .int 0, .int 0, .int 0, .int 0, .int 0])), (a7, .inl (cy 1, 8, .inl (fun _ => 0)))] := hD.sub [0, 1] (by decide) rfl
  refine W.widen (k := 1) (n := 8) (by omega) (by omega) ?_
  exact W.vret hx hb hr (fun t ht hW => ⟨⟨a7, rfl, trivial, by rw [ht]; exact hP9, hD9⟩, hS.F ht⟩) hS.2.2 dX3_init_12

set_option maxHeartbeats 4000000 in
set_option maxRecDepth 100000 in
theorem c_Row_hasAct (l : Launch) (D : va_G) (cy : Nat → ClassId) (e : Nat → Nat)  (r0 : Nat) (aa : Nat) (x1 : Int32) (x2 : Int32) (x3 : Int32) (x4 : Int32) (x5 : Int32) (x6 : Int32) (x7 : Int32) (x8 : Int32) (x9 : Int32) (x10 : Int32) (x11 : Int32) (x12 : Int32) (k : Int32)  : Met l yX3_hasAct wsX3_hasAct ({ frames := 0, cells := 0, slots := 0, locals := 0 }) (va_Pc [.ref r0, .int k] (pu_B D cy e [(r0, .inr (4, [.ref aa, .int x1, .int x2, .int x3, .int x4, .int x5, .int x6, .int x7, .int x8, .int x9, .int x10, .int x11, .int x12]))])) (va_Qi (fun (r : Int32) (_ : Unit) => r = 0 ∨ r = 1) (fun _ _ => True) (fun _ => False)) 0 0 (fun _ => False) := by
  refine Met.ofW (cc := cX3_hasAct) (maxL := 2) (ret := (some .boolean)) (by decide) rfl ?_
  intro p ev s m args below meth c s₁ B hml hv
  obtain ⟨rfl, hP, hK, hG⟩ := hv
  have hx := B.exec
  have hb := B.bytes
  have hr := B.returns
  have hts := atoms_spec (ws := wsX3_hasAct) B.pre
  have hown : s.vm.findClass RX3 = some m.cls := findClass_of_methodNamed B.named
  have hlocks := B.notSynchronized
  have hS : va_S (fun _ => False) s.heap s.heap [] := va_S.rf
  have hP : va_P D vwCl [(r0, .inr (4, [.ref aa, .int x1, .int x2, .int x3, .int x4, .int x5, .int x6, .int x7, .int x8, .int x9, .int x10, .int x11, .int x12]))] s.heap := hP
  have iX3 : ∀ w ∈ wsX30, w ∈ wsX3_hasAct := fun w h => List.mem_cons_of_mem _ (List.mem_append_right _ h)
  have hl := lv_entry ([.ref r0, .int k]) (n := 2) (Nat.le_of_ble_eq_true rfl)
  rw [lg_entry_eq]
  generalize (lg_sl ([.ref r0, .int k]) ++ List.replicate (2 - (lg_sl ([.ref r0, .int k])).length) Slot.unset).toArray = ls at hl ⊢
  have hl : lv_has ls 2 [(0, .ref r0), (1, .int k)] := hl
  refine lv_aload_n hx hb dX3_hasAct_0 rfl (lv_at hl 0 rfl) ?_
  refine va_get (D := D) (ci := 4) (v := .int x2) (C := RX3) (T := TX3) (N := 13) hx hb hts iX3 hown hK hP 0 rfl rfl 2 (by decide) (hts (.fieldLink RX3 15 "InterlockTables$Row" "actBits" "I") (by decide +kernel)) (fun _ h9 => h9) rfl dX3_hasAct_1 ?_
  refine lv_iload_n hx hb dX3_hasAct_4 rfl (lv_at hl 1 rfl) ?_
  refine lv_iushr (v := (x2.toUInt32 >>> (k.toUInt32 &&& Int32.toUInt32 31)).toInt32) hx hb dX3_hasAct_5 (rfl) ?_
  refine lv_iconst (v := 1) hx hb dX3_hasAct_6 (by decide +kernel) ?_
  refine lv_iand hx hb dX3_hasAct_7 ?_
  refine lv_if_eq (tgt := 15) hx hb dX3_hasAct_8 (by decide) (fun c8 => ?_) (fun c8 => ?_)
  · refine lv_iconst (v := 0) hx hb dX3_hasAct_15 (by decide +kernel) ?_
    exact W.zret hx hb hr rfl (fun t ht hW => ⟨⟨_, (), rfl, by simp, trivial⟩, hS.F ht⟩) hS.2.2 dX3_hasAct_16
  · refine lv_iconst (v := 1) hx hb dX3_hasAct_11 (by decide +kernel) ?_
    refine lv_goto (tgt := 16) hx hb dX3_hasAct_12 (by decide) ?_
    exact W.zret hx hb hr rfl (fun t ht hW => ⟨⟨_, (), rfl, by simp, trivial⟩, hS.F ht⟩) hS.2.2 dX3_hasAct_16

set_option maxHeartbeats 4000000 in
set_option maxRecDepth 100000 in
theorem c_Row_addAct (l : Launch) (D : va_G) (cy : Nat → ClassId) (e : Nat → Nat)  (r0 : Nat) (aa : Nat) (x2 : Int32) (x3 : Int32) (x4 : Int32) (x5 : Int32) (x6 : Int32) (x7 : Int32) (x8 : Int32) (x9 : Int32) (x10 : Int32) (x11 : Int32) (x12 : Int32) (ac : Nat) (fa : Nat → Int32) (k : Int32) (sz : Nat) (hac : ac ≤ 8) : Met l yX3_addAct wsX3_addAct ({ frames := 1, cells := 0, slots := 0, locals := 21 }) (va_Pc [.ref r0, .int k] (mt_B D cy e [(r0, .inr (4, [.ref aa, .int (nI ac), .int x2, .int x3, .int x4, .int x5, .int x6, .int x7, .int x8, .int x9, .int x10, .int x11, .int x12])), (aa, .inl (cy 1, 8, .inl fa))] sz)) (va_Qi (fun (r : Int32) (u : Nat × Int32 × (Nat → Int32)) => match u with | (ac2, y2, fa2) => (r = 0 ∨ r = 1) ∧ ac2 ≤ 8) (mt_Q D (fun (u : Nat × Int32 × (Nat → Int32)) => match u with | (ac2, y2, fa2) => [(r0, .inr (4, [.ref aa, .int (nI ac2), .int y2, .int x3, .int x4, .int x5, .int x6, .int x7, .int x8, .int x9, .int x10, .int x11, .int x12])), (aa, .inl (cy 1, 8, .inl fa2))]) (va_A [(r0, .inr (4, [.ref aa, .int (nI ac), .int x2, .int x3, .int x4, .int x5, .int x6, .int x7, .int x8, .int x9, .int x10, .int x11, .int x12])), (aa, .inl (cy 1, 8, .inl fa))] sz)) (va_A [(r0, .inr (4, [.ref aa, .int (nI ac), .int x2, .int x3, .int x4, .int x5, .int x6, .int x7, .int x8, .int x9, .int x10, .int x11, .int x12])), (aa, .inl (cy 1, 8, .inl fa))] sz)) (0) (0) (va_A [(r0, .inr (4, [.ref aa, .int (nI ac), .int x2, .int x3, .int x4, .int x5, .int x6, .int x7, .int x8, .int x9, .int x10, .int x11, .int x12])), (aa, .inl (cy 1, 8, .inl fa))] sz) := by
  refine Met.ofW (cc := cX3_addAct) (maxL := 2) (ret := (some .boolean)) (by decide) rfl ?_
  intro p ev s m args below meth c s₁ B hml hv
  obtain ⟨rfl, hsz, hP, hK, hD0, hG⟩ := hv
  have hx := B.exec
  have hb := B.bytes
  have hr := B.returns
  have hts := atoms_spec (ws := wsX3_addAct) B.pre
  have hown : s.vm.findClass RX3 = some m.cls := findClass_of_methodNamed B.named
  have hlocks := B.notSynchronized
  subst hsz
  have hD := hD0.self (sz := s.heap.size)
  generalize hAe : va_A [(r0, .inr (4, [.ref aa, .int (nI ac), .int x2, .int x3, .int x4, .int x5, .int x6, .int x7, .int x8, .int x9, .int x10, .int x11, .int x12])), (aa, .inl (cy 1, 8, .inl fa))] s.heap.size = A at hD hG ⊢
  have hA : ∀ q : Nat, s.heap.size ≤ q → A q := fun q h => by rw [← hAe]; exact Or.inr h
  have hS : va_S A s.heap s.heap [] := va_S.rf
  have hP : va_P D vwCl [(r0, .inr (4, [.ref aa, .int (nI ac), .int x2, .int x3, .int x4, .int x5, .int x6, .int x7, .int x8, .int x9, .int x10, .int x11, .int x12])), (aa, .inl (cy 1, 8, .inl fa))] s.heap := hP
  have iX3 : ∀ w ∈ wsX30, w ∈ wsX3_addAct := fun w h => List.mem_cons_of_mem _ (List.mem_append_right _ h)
  have hl := lv_entry ([.ref r0, .int k]) (n := 2) (Nat.le_of_ble_eq_true rfl)
  rw [lg_entry_eq]
  generalize (lg_sl ([.ref r0, .int k]) ++ List.replicate (2 - (lg_sl ([.ref r0, .int k])).length) Slot.unset).toArray = ls at hl ⊢
  have hl : lv_has ls 2 [(0, .ref r0), (1, .int k)] := hl
  refine lv_aload_n hx hb dX3_addAct_0 rfl (lv_at hl 0 rfl) ?_
  refine va_get (D := D) (ci := 4) (v := .int (nI ac)) (C := RX3) (T := TX3) (N := 13) hx hb hts iX3 hown hK hP 0 rfl rfl 1 (by decide) (hts (.fieldLink RX3 19 "InterlockTables$Row" "actCount" "I") (by decide +kernel)) (fun _ h9 => h9) rfl dX3_addAct_1 ?_
  refine lv_aload_n hx hb dX3_addAct_4 rfl (lv_at hl 0 rfl) ?_
  refine va_get (D := D) (ci := 4) (v := .ref aa) (C := RX3) (T := TX3) (N := 13) hx hb hts iX3 hown hK hP 0 rfl rfl 0 (by decide) (hts (.fieldLink RX3 9 "InterlockTables$Row" "acts" "[I") (by decide +kernel)) (fun _ h9 => h9) rfl dX3_addAct_5 ?_
  refine va_alen hx hb hK hP 1 1 rfl rfl (v := 8) rfl dX3_addAct_8 ?_
  refine lv_icmp_ge (tgt := 20) hx hb dX3_addAct_9 (by decide) (fun c9 => ?_) (fun c9 => ?_)
  · refine lv_iconst (v := 0) hx hb dX3_addAct_20 (by decide +kernel) ?_
    have hP9 : va_P D vwCl [(r0, .inr (4, [.ref aa, .int (nI ac), .int x2, .int x3, .int x4, .int x5, .int x6, .int x7, .int x8, .int x9, .int x10, .int x11, .int x12])), (aa, .inl (cy 1, 8, .inl fa))] s.heap := hP.sub [0, 1] rfl
    have hD9 : va_D A [(r0, .inr (4, [.ref aa, .int (nI ac), .int x2, .int x3, .int x4, .int x5, .int x6, .int x7, .int x8, .int x9, .int x10, .int x11, .int x12])), (aa, .inl (cy 1, 8, .inl fa))] := hD.sub [0, 1] (by decide) rfl
    refine W.widen (k := 0) (n := 0) (by omega) (by omega) ?_
    exact W.zret hx hb hr rfl (fun t ht hW => ⟨⟨_, (ac, x2, fa), rfl, ⟨Or.inl rfl, hac⟩, by rw [ht]; exact hP9, hD9⟩, hS.F ht⟩) hS.2.2 dX3_addAct_21
  · have hlt : ac < 8 := pk_nle (b := ac) (a := 8) (by omega) c9
    refine lv_aload_n hx hb dX3_addAct_12 rfl (lv_at hl 0 rfl) ?_
    refine lv_iload_n hx hb dX3_addAct_13 rfl (lv_at hl 1 rfl) ?_
    refine pu_callni (va_runV (As := [.int k]) (rest := []) ⟨hx, hb, hml, hown, hts⟩ (c_Row_hasAct l D cy e r0 aa (nI ac) x2 x3 x4 x5 x6 x7 x8 x9 x10 x11 x12 k ) (cwV 1 hts gX3_addAct_X3_hasAct rfl rfl rfl (by decide +kernel) ⟨Nat.le_of_ble_eq_true rfl, Nat.le_of_ble_eq_true rfl⟩) (pu_preV hP hK hS hG [0] rfl (q := (RX3, TX3, 13)) (ci := 4) (q0 := 0) rfl rfl) rfl rfl hl.1 rfl (lv_room (Nat.le_of_ble_eq_true rfl)) dX3_addAct_14 ⟨(Nat.le_of_ble_eq_true rfl), (Nat.le_of_ble_eq_true rfl)⟩) hP hS (fun r14 H locs hw hP hS => ?_)
    have hP : va_P D vwCl [(r0, .inr (4, [.ref aa, .int (nI ac), .int x2, .int x3, .int x4, .int x5, .int x6, .int x7, .int x8, .int x9, .int x10, .int x11, .int x12])), (aa, .inl (cy 1, 8, .inl fa))] H := hP
    replace hw : r14 = 0 ∨ r14 = 1 := hw
    refine lv_if_eq (tgt := 22) hx hb dX3_addAct_17 (by decide) (fun c17 => ?_) (fun c17 => ?_)
    · refine lv_aload_n hx hb dX3_addAct_22 rfl (lv_at hl 0 rfl) ?_
      refine va_get (D := D) (ci := 4) (v := .ref aa) (C := RX3) (T := TX3) (N := 13) hx hb hts iX3 hown hK hP 0 rfl rfl 0 (by decide) (hts (.fieldLink RX3 9 "InterlockTables$Row" "acts" "[I") (by decide +kernel)) (fun _ h9 => h9) rfl dX3_addAct_23 ?_
      refine lv_aload_n hx hb dX3_addAct_26 rfl (lv_at hl 0 rfl) ?_
      refine va_get (D := D) (ci := 4) (v := .int (nI ac)) (C := RX3) (T := TX3) (N := 13) hx hb hts iX3 hown hK hP 0 rfl rfl 1 (by decide) (hts (.fieldLink RX3 19 "InterlockTables$Row" "actCount" "I") (by decide +kernel)) (fun _ h9 => h9) rfl dX3_addAct_27 ?_
      refine lv_iload_n hx hb dX3_addAct_30 rfl (lv_at hl 1 rfl) ?_
      refine va_iast hx hb hK hP hD hS 1 1 rfl rfl (vp_in_nI (by omega) (by omega)) dX3_addAct_31 (fun H locs hP hD hS => ?_)
      have hP : va_P D vwCl [(r0, .inr (4, [.ref aa, .int (nI ac), .int x2, .int x3, .int x4, .int x5, .int x6, .int x7, .int x8, .int x9, .int x10, .int x11, .int x12])), (aa, .inl (cy 1, 8, .inl (upd fa (nI ac).toNatClampNeg k)))] H := hP
      have hD : va_D A [(r0, .inr (4, [.ref aa, .int (nI ac), .int x2, .int x3, .int x4, .int x5, .int x6, .int x7, .int x8, .int x9, .int x10, .int x11, .int x12])), (aa, .inl (cy 1, 8, .inl (upd fa (nI ac).toNatClampNeg k)))] := hD
      refine lv_aload_n hx hb dX3_addAct_32 rfl (lv_at hl 0 rfl) ?_
      refine lv_dup hx hb dX3_addAct_33 rfl ?_
      refine va_get (D := D) (ci := 4) (v := .int (nI ac)) (C := RX3) (T := TX3) (N := 13) hx hb hts iX3 hown hK hP 0 rfl rfl 1 (by decide) (hts (.fieldLink RX3 19 "InterlockTables$Row" "actCount" "I") (by decide +kernel)) (fun _ h9 => h9) rfl dX3_addAct_34 ?_
      refine lv_iconst (v := 1) hx hb dX3_addAct_37 (by decide +kernel) ?_
      refine lv_iadd hx hb dX3_addAct_38 ?_
      refine lv_topi (fun x_1 ex_1 => ?_)
      obtain rfl : x_1 = nI (ac + 1) := by rw [ex_1]; exact nI_1 ac
      refine va_put (D := D) (ci := 4) (v := .int (nI (ac + 1))) (ty := .int) (C := RX3) (T := TX3) (N := 13) hx hb hts iX3 tyX3 tyX3_ok nmX3 hown hK hP hD hS 0 rfl rfl 1 (by decide) (hts (.fieldLink RX3 19 "InterlockTables$Row" "actCount" "I") (by decide +kernel)) (fun _ h9 => h9) rfl (by decide +kernel) rfl rfl (Nat.le_of_ble_eq_true rfl) dX3_addAct_39 (fun H locs hP hD hS => ?_)
      have hP : va_P D vwCl [(r0, .inr (4, [.ref aa, .int (nI (ac + 1)), .int x2, .int x3, .int x4, .int x5, .int x6, .int x7, .int x8, .int x9, .int x10, .int x11, .int x12])), (aa, .inl (cy 1, 8, .inl (upd fa (nI ac).toNatClampNeg k)))] H := hP
      have hD : va_D A [(r0, .inr (4, [.ref aa, .int (nI (ac + 1)), .int x2, .int x3, .int x4, .int x5, .int x6, .int x7, .int x8, .int x9, .int x10, .int x11, .int x12])), (aa, .inl (cy 1, 8, .inl (upd fa (nI ac).toNatClampNeg k)))] := hD
      refine lv_aload_n hx hb dX3_addAct_42 rfl (lv_at hl 0 rfl) ?_
      refine lv_dup hx hb dX3_addAct_43 rfl ?_
      refine va_get (D := D) (ci := 4) (v := .int x2) (C := RX3) (T := TX3) (N := 13) hx hb hts iX3 hown hK hP 0 rfl rfl 2 (by decide) (hts (.fieldLink RX3 15 "InterlockTables$Row" "actBits" "I") (by decide +kernel)) (fun _ h9 => h9) rfl dX3_addAct_44 ?_
      refine lv_iconst (v := 1) hx hb dX3_addAct_47 (by decide +kernel) ?_
      refine lv_iload_n hx hb dX3_addAct_48 rfl (lv_at hl 1 rfl) ?_
      refine lv_ishl hx hb dX3_addAct_49 ?_
      refine lv_ior hx hb dX3_addAct_50 ?_
      refine va_put (D := D) (ci := 4) (v := .int (x2 ||| ((1 : Int32) <<< (k &&& 31)))) (ty := .int) (C := RX3) (T := TX3) (N := 13) hx hb hts iX3 tyX3 tyX3_ok nmX3 hown hK hP hD hS 0 rfl rfl 2 (by decide) (hts (.fieldLink RX3 15 "InterlockTables$Row" "actBits" "I") (by decide +kernel)) (fun _ h9 => h9) rfl (by decide +kernel) rfl rfl (Nat.le_of_ble_eq_true rfl) dX3_addAct_51 (fun H locs hP hD hS => ?_)
      have hP : va_P D vwCl [(r0, .inr (4, [.ref aa, .int (nI (ac + 1)), .int (x2 ||| ((1 : Int32) <<< (k &&& 31))), .int x3, .int x4, .int x5, .int x6, .int x7, .int x8, .int x9, .int x10, .int x11, .int x12])), (aa, .inl (cy 1, 8, .inl (upd fa (nI ac).toNatClampNeg k)))] H := hP
      have hD : va_D A [(r0, .inr (4, [.ref aa, .int (nI (ac + 1)), .int (x2 ||| ((1 : Int32) <<< (k &&& 31))), .int x3, .int x4, .int x5, .int x6, .int x7, .int x8, .int x9, .int x10, .int x11, .int x12])), (aa, .inl (cy 1, 8, .inl (upd fa (nI ac).toNatClampNeg k)))] := hD
      refine lv_iconst (v := 1) hx hb dX3_addAct_54 (by decide +kernel) ?_
      have hP9 : va_P D vwCl [(r0, .inr (4, [.ref aa, .int (nI (ac + 1)), .int (x2 ||| ((1 : Int32) <<< (k &&& 31))), .int x3, .int x4, .int x5, .int x6, .int x7, .int x8, .int x9, .int x10, .int x11, .int x12])), (aa, .inl (cy 1, 8, .inl (upd fa (nI ac).toNatClampNeg k)))] H := hP.sub [0, 1] rfl
      have hD9 : va_D A [(r0, .inr (4, [.ref aa, .int (nI (ac + 1)), .int (x2 ||| ((1 : Int32) <<< (k &&& 31))), .int x3, .int x4, .int x5, .int x6, .int x7, .int x8, .int x9, .int x10, .int x11, .int x12])), (aa, .inl (cy 1, 8, .inl (upd fa (nI ac).toNatClampNeg k)))] := hD.sub [0, 1] (by decide) rfl
      refine W.widen (k := 0) (n := 0) (by omega) (by omega) ?_
      exact W.zret hx hb hr rfl (fun t ht hW => ⟨⟨_, ((ac + 1), (x2 ||| ((1 : Int32) <<< (k &&& 31))), (upd fa (nI ac).toNatClampNeg k)), rfl, ⟨Or.inr rfl, hlt⟩, by rw [ht]; exact hP9, hD9⟩, hS.F ht⟩) hS.2.2 dX3_addAct_55
    · refine lv_iconst (v := 0) hx hb dX3_addAct_20 (by decide +kernel) ?_
      have hP9 : va_P D vwCl [(r0, .inr (4, [.ref aa, .int (nI ac), .int x2, .int x3, .int x4, .int x5, .int x6, .int x7, .int x8, .int x9, .int x10, .int x11, .int x12])), (aa, .inl (cy 1, 8, .inl fa))] H := hP.sub [0, 1] rfl
      have hD9 : va_D A [(r0, .inr (4, [.ref aa, .int (nI ac), .int x2, .int x3, .int x4, .int x5, .int x6, .int x7, .int x8, .int x9, .int x10, .int x11, .int x12])), (aa, .inl (cy 1, 8, .inl fa))] := hD.sub [0, 1] (by decide) rfl
      refine W.widen (k := 0) (n := 0) (by omega) (by omega) ?_
      exact W.zret hx hb hr rfl (fun t ht hW => ⟨⟨_, (ac, x2, fa), rfl, ⟨Or.inl rfl, hac⟩, by rw [ht]; exact hP9, hD9⟩, hS.F ht⟩) hS.2.2 dX3_addAct_21

set_option maxHeartbeats 4000000 in
set_option maxRecDepth 100000 in
theorem c_Row_actAt (l : Launch) (D : va_G) (cy : Nat → ClassId) (e : Nat → Nat)  (r0 : Nat) (aa : Nat) (x1 : Int32) (x2 : Int32) (x3 : Int32) (x4 : Int32) (x5 : Int32) (x6 : Int32) (x7 : Int32) (x8 : Int32) (x9 : Int32) (x10 : Int32) (x11 : Int32) (x12 : Int32) (fa : Nat → Int32) (i : Int32)  : Met l yX3_actAt wsX3_actAt ({ frames := 0, cells := 0, slots := 0, locals := 0 }) (va_Pc [.ref r0, .int i] (pu_B D cy e [(r0, .inr (4, [.ref aa, .int x1, .int x2, .int x3, .int x4, .int x5, .int x6, .int x7, .int x8, .int x9, .int x10, .int x11, .int x12])), (aa, .inl (cy 1, 8, .inl fa))])) (va_Qi (fun (r : Int32) (_ : Unit) => r = aat fa x1 i) (fun _ _ => True) (fun _ => False)) 0 0 (fun _ => False) := by
  refine Met.ofW (cc := cX3_actAt) (maxL := 2) (ret := (some .int)) (by decide) rfl ?_
  intro p ev s m args below meth c s₁ B hml hv
  obtain ⟨rfl, hP, hK, hG⟩ := hv
  have hx := B.exec
  have hb := B.bytes
  have hr := B.returns
  have hts := atoms_spec (ws := wsX3_actAt) B.pre
  have hown : s.vm.findClass RX3 = some m.cls := findClass_of_methodNamed B.named
  have hlocks := B.notSynchronized
  have hS : va_S (fun _ => False) s.heap s.heap [] := va_S.rf
  have hP : va_P D vwCl [(r0, .inr (4, [.ref aa, .int x1, .int x2, .int x3, .int x4, .int x5, .int x6, .int x7, .int x8, .int x9, .int x10, .int x11, .int x12])), (aa, .inl (cy 1, 8, .inl fa))] s.heap := hP
  have iX3 : ∀ w ∈ wsX30, w ∈ wsX3_actAt := fun w h => List.mem_cons_of_mem _ (List.mem_append_right _ h)
  have hl := lv_entry ([.ref r0, .int i]) (n := 2) (Nat.le_of_ble_eq_true rfl)
  rw [lg_entry_eq]
  generalize (lg_sl ([.ref r0, .int i]) ++ List.replicate (2 - (lg_sl ([.ref r0, .int i])).length) Slot.unset).toArray = ls at hl ⊢
  have hl : lv_has ls 2 [(0, .ref r0), (1, .int i)] := hl
  refine lv_iload_n hx hb dX3_actAt_0 rfl (lv_at hl 1 rfl) ?_
  refine lv_if_lt (tgt := 21) hx hb dX3_actAt_1 (by decide) (fun c1 => ?_) (fun c1 => ?_)
  · refine lv_iconst (v := -1) hx hb dX3_actAt_21 (by decide +kernel) ?_
    refine lv_goto (tgt := 31) hx hb dX3_actAt_22 (by decide) ?_
    exact W.iret hx hb hr (fun t ht hW => ⟨⟨_, (), rfl, by simp [aat, c1], trivial⟩, hS.F ht⟩) hS.2.2 dX3_actAt_31
  · refine lv_iload_n hx hb dX3_actAt_4 rfl (lv_at hl 1 rfl) ?_
    refine lv_aload_n hx hb dX3_actAt_5 rfl (lv_at hl 0 rfl) ?_
    refine va_get (D := D) (ci := 4) (v := .int x1) (C := RX3) (T := TX3) (N := 13) hx hb hts iX3 hown hK hP 0 rfl rfl 1 (by decide) (hts (.fieldLink RX3 19 "InterlockTables$Row" "actCount" "I") (by decide +kernel)) (fun _ h9 => h9) rfl dX3_actAt_6 ?_
    refine lv_icmp_ge (tgt := 21) hx hb dX3_actAt_9 (by decide) (fun c9 => ?_) (fun c9 => ?_)
    · refine lv_iconst (v := -1) hx hb dX3_actAt_21 (by decide +kernel) ?_
      refine lv_goto (tgt := 31) hx hb dX3_actAt_22 (by decide) ?_
      exact W.iret hx hb hr (fun t ht hW => ⟨⟨_, (), rfl, by simp [aat, c1, c9], trivial⟩, hS.F ht⟩) hS.2.2 dX3_actAt_31
    · refine lv_iload_n hx hb dX3_actAt_12 rfl (lv_at hl 1 rfl) ?_
      refine lv_aload_n hx hb dX3_actAt_13 rfl (lv_at hl 0 rfl) ?_
      refine va_get (D := D) (ci := 4) (v := .ref aa) (C := RX3) (T := TX3) (N := 13) hx hb hts iX3 hown hK hP 0 rfl rfl 0 (by decide) (hts (.fieldLink RX3 9 "InterlockTables$Row" "acts" "[I") (by decide +kernel)) (fun _ h9 => h9) rfl dX3_actAt_14 ?_
      refine va_alen hx hb hK hP 1 1 rfl rfl (v := 8) rfl dX3_actAt_17 ?_
      refine lv_icmp_lt (tgt := 25) hx hb dX3_actAt_18 (by decide) (fun c18 => ?_) (fun c18 => ?_)
      · refine lv_aload_n hx hb dX3_actAt_25 rfl (lv_at hl 0 rfl) ?_
        refine va_get (D := D) (ci := 4) (v := .ref aa) (C := RX3) (T := TX3) (N := 13) hx hb hts iX3 hown hK hP 0 rfl rfl 0 (by decide) (hts (.fieldLink RX3 9 "InterlockTables$Row" "acts" "[I") (by decide +kernel)) (fun _ h9 => h9) rfl dX3_actAt_26 ?_
        refine lv_iload_n hx hb dX3_actAt_29 rfl (lv_at hl 1 rfl) ?_
        refine va_iald hx hb hK hP 1 1 rfl rfl (pk_inlt (len := 8) c1 c18 (by omega) (by omega)) dX3_actAt_30 ?_
        exact W.iret hx hb hr (fun t ht hW => ⟨⟨_, (), rfl, by simp [aat, c1, c9, c18], trivial⟩, hS.F ht⟩) hS.2.2 dX3_actAt_31
      · refine lv_iconst (v := -1) hx hb dX3_actAt_21 (by decide +kernel) ?_
        refine lv_goto (tgt := 31) hx hb dX3_actAt_22 (by decide) ?_
        exact W.iret hx hb hr (fun t ht hW => ⟨⟨_, (), rfl, by simp [aat, c1, c9, c18], trivial⟩, hS.F ht⟩) hS.2.2 dX3_actAt_31

set_option maxHeartbeats 4000000 in
set_option maxRecDepth 100000 in
theorem c_Row_holds (l : Launch) (D : va_G) (cy : Nat → ClassId) (e : Nat → Nat)  (r0 : Nat) (aa : Nat) (x1 : Int32) (x2 : Int32) (x3 : Int32) (x4 : Int32) (x5 : Int32) (x6 : Int32) (x7 : Int32) (x8 : Int32) (x9 : Int32) (x10 : Int32) (x11 : Int32) (x12 : Int32) (on : Int32)  : Met l yX3_holds wsX3_holds ({ frames := 0, cells := 0, slots := 0, locals := 0 }) (va_Pc [.ref r0, .int on] (pu_B D cy e [(r0, .inr (4, [.ref aa, .int x1, .int x2, .int x3, .int x4, .int x5, .int x6, .int x7, .int x8, .int x9, .int x10, .int x11, .int x12]))])) (va_Qi (fun (r : Int32) (_ : Unit) => r = 0 ∨ r = 1) (fun _ _ => True) (fun _ => False)) 0 0 (fun _ => False) := by
  refine Met.ofW (cc := cX3_holds) (maxL := 2) (ret := (some .boolean)) (by decide) rfl ?_
  intro p ev s m args below meth c s₁ B hml hv
  obtain ⟨rfl, hP, hK, hG⟩ := hv
  have hx := B.exec
  have hb := B.bytes
  have hr := B.returns
  have hts := atoms_spec (ws := wsX3_holds) B.pre
  have hown : s.vm.findClass RX3 = some m.cls := findClass_of_methodNamed B.named
  have hlocks := B.notSynchronized
  have hS : va_S (fun _ => False) s.heap s.heap [] := va_S.rf
  have hP : va_P D vwCl [(r0, .inr (4, [.ref aa, .int x1, .int x2, .int x3, .int x4, .int x5, .int x6, .int x7, .int x8, .int x9, .int x10, .int x11, .int x12]))] s.heap := hP
  have iX3 : ∀ w ∈ wsX30, w ∈ wsX3_holds := fun w h => List.mem_cons_of_mem _ (List.mem_append_right _ h)
  have hl := lv_entry ([.ref r0, .int on]) (n := 2) (Nat.le_of_ble_eq_true rfl)
  rw [lg_entry_eq]
  generalize (lg_sl ([.ref r0, .int on]) ++ List.replicate (2 - (lg_sl ([.ref r0, .int on])).length) Slot.unset).toArray = ls at hl ⊢
  have hl : lv_has ls 2 [(0, .ref r0), (1, .int on)] := hl
  refine lv_iload_n hx hb dX3_holds_0 rfl (lv_at hl 1 rfl) ?_
  refine lv_if_eq (tgt := 19) hx hb dX3_holds_1 (by decide) (fun c1 => ?_) (fun c1 => ?_)
  · refine lv_iconst (v := 0) hx hb dX3_holds_19 (by decide +kernel) ?_
    exact W.zret hx hb hr rfl (fun t ht hW => ⟨⟨_, (), rfl, by simp, trivial⟩, hS.F ht⟩) hS.2.2 dX3_holds_20
  · refine lv_aload_n hx hb dX3_holds_4 rfl (lv_at hl 0 rfl) ?_
    refine va_get (D := D) (ci := 4) (v := .int x9) (C := RX3) (T := TX3) (N := 13) hx hb hts iX3 hown hK hP 0 rfl rfl 9 (by decide) (hts (.fieldLink RX3 37 "InterlockTables$Row" "count" "I") (by decide +kernel)) (fun _ h9 => h9) rfl dX3_holds_5 ?_
    refine lv_aload_n hx hb dX3_holds_8 rfl (lv_at hl 0 rfl) ?_
    refine va_get (D := D) (ci := 4) (v := .int x7) (C := RX3) (T := TX3) (N := 13) hx hb hts iX3 hown hK hP 0 rfl rfl 7 (by decide) (hts (.fieldLink RX3 40 "InterlockTables$Row" "number" "I") (by decide +kernel)) (fun _ h9 => h9) rfl dX3_holds_9 ?_
    refine lv_icmp_lt (tgt := 19) hx hb dX3_holds_12 (by decide) (fun c12 => ?_) (fun c12 => ?_)
    · refine lv_iconst (v := 0) hx hb dX3_holds_19 (by decide +kernel) ?_
      exact W.zret hx hb hr rfl (fun t ht hW => ⟨⟨_, (), rfl, by simp, trivial⟩, hS.F ht⟩) hS.2.2 dX3_holds_20
    · refine lv_iconst (v := 1) hx hb dX3_holds_15 (by decide +kernel) ?_
      refine lv_goto (tgt := 20) hx hb dX3_holds_16 (by decide) ?_
      exact W.zret hx hb hr rfl (fun t ht hW => ⟨⟨_, (), rfl, by simp, trivial⟩, hS.F ht⟩) hS.2.2 dX3_holds_20

set_option maxHeartbeats 4000000 in
set_option maxRecDepth 100000 in
theorem c_Row_bars (l : Launch) (D : va_G) (cy : Nat → ClassId) (e : Nat → Nat)  (r0 : Nat) (aa : Nat) (x1 : Int32) (x2 : Int32) (x3 : Int32) (x4 : Int32) (x5 : Int32) (x6 : Int32) (x7 : Int32) (x8 : Int32) (x9 : Int32) (x10 : Int32) (x11 : Int32) (x12 : Int32) (on : Int32)  : Met l yX3_bars wsX3_bars ({ frames := 1, cells := 0, slots := 0, locals := 21 }) (va_Pc [.ref r0, .int on] (pu_B D cy e [(r0, .inr (4, [.ref aa, .int x1, .int x2, .int x3, .int x4, .int x5, .int x6, .int x7, .int x8, .int x9, .int x10, .int x11, .int x12]))])) (va_Qi (fun (r : Int32) (_ : Unit) => r = 0 ∨ r = 1) (fun _ _ => True) (fun _ => False)) 0 0 (fun _ => False) := by
  refine Met.ofW (cc := cX3_bars) (maxL := 2) (ret := (some .boolean)) (by decide) rfl ?_
  intro p ev s m args below meth c s₁ B hml hv
  obtain ⟨rfl, hP, hK, hG⟩ := hv
  have hx := B.exec
  have hb := B.bytes
  have hr := B.returns
  have hts := atoms_spec (ws := wsX3_bars) B.pre
  have hown : s.vm.findClass RX3 = some m.cls := findClass_of_methodNamed B.named
  have hlocks := B.notSynchronized
  have hS : va_S (fun _ => False) s.heap s.heap [] := va_S.rf
  have hP : va_P D vwCl [(r0, .inr (4, [.ref aa, .int x1, .int x2, .int x3, .int x4, .int x5, .int x6, .int x7, .int x8, .int x9, .int x10, .int x11, .int x12]))] s.heap := hP
  have iX3 : ∀ w ∈ wsX30, w ∈ wsX3_bars := fun w h => List.mem_cons_of_mem _ (List.mem_append_right _ h)
  have hl := lv_entry ([.ref r0, .int on]) (n := 2) (Nat.le_of_ble_eq_true rfl)
  rw [lg_entry_eq]
  generalize (lg_sl ([.ref r0, .int on]) ++ List.replicate (2 - (lg_sl ([.ref r0, .int on])).length) Slot.unset).toArray = ls at hl ⊢
  have hl : lv_has ls 2 [(0, .ref r0), (1, .int on)] := hl
  refine lv_aload_n hx hb dX3_bars_0 rfl (lv_at hl 0 rfl) ?_
  refine va_get (D := D) (ci := 4) (v := .int x11) (C := RX3) (T := TX3) (N := 13) hx hb hts iX3 hown hK hP 0 rfl rfl 11 (by decide) (hts (.fieldLink RX3 26 "InterlockTables$Row" "passLeft" "I") (by decide +kernel)) (fun _ h9 => h9) rfl dX3_bars_1 ?_
  refine lv_if_ne (tgt := 26) hx hb dX3_bars_4 (by decide) (fun c4 => ?_) (fun c4 => ?_)
  · refine lv_iconst (v := 0) hx hb dX3_bars_26 (by decide +kernel) ?_
    exact W.zret hx hb hr rfl (fun t ht hW => ⟨⟨_, (), rfl, by simp, trivial⟩, hS.F ht⟩) hS.2.2 dX3_bars_27
  · refine lv_aload_n hx hb dX3_bars_7 rfl (lv_at hl 0 rfl) ?_
    refine va_get (D := D) (ci := 4) (v := .int x10) (C := RX3) (T := TX3) (N := 13) hx hb hts iX3 hown hK hP 0 rfl rfl 10 (by decide) (hts (.fieldLink RX3 29 "InterlockTables$Row" "latched" "Z") (by decide +kernel)) (fun _ h9 => h9) rfl dX3_bars_8 ?_
    refine lv_if_ne (tgt := 22) hx hb dX3_bars_11 (by decide) (fun c11 => ?_) (fun c11 => ?_)
    · refine lv_iconst (v := 1) hx hb dX3_bars_22 (by decide +kernel) ?_
      refine lv_goto (tgt := 27) hx hb dX3_bars_23 (by decide) ?_
      exact W.zret hx hb hr rfl (fun t ht hW => ⟨⟨_, (), rfl, by simp, trivial⟩, hS.F ht⟩) hS.2.2 dX3_bars_27
    · refine lv_aload_n hx hb dX3_bars_14 rfl (lv_at hl 0 rfl) ?_
      refine lv_iload_n hx hb dX3_bars_15 rfl (lv_at hl 1 rfl) ?_
      refine pu_callni (va_runV (As := [.int on]) (rest := []) ⟨hx, hb, hml, hown, hts⟩ (c_Row_holds l D cy e r0 aa x1 x2 x3 x4 x5 x6 x7 x8 x9 x10 x11 x12 on ) (cwV 1 hts gX3_bars_X3_holds rfl rfl rfl (by decide +kernel) ⟨Nat.le_of_ble_eq_true rfl, Nat.le_of_ble_eq_true rfl⟩) (pu_preV hP hK hS hG [0] rfl (q := (RX3, TX3, 13)) (ci := 4) (q0 := 0) rfl rfl) rfl rfl hl.1 rfl (lv_room (Nat.le_of_ble_eq_true rfl)) dX3_bars_16 ⟨(Nat.le_of_ble_eq_true rfl), (Nat.le_of_ble_eq_true rfl)⟩) hP hS (fun r16 H locs hw hP hS => ?_)
      have hP : va_P D vwCl [(r0, .inr (4, [.ref aa, .int x1, .int x2, .int x3, .int x4, .int x5, .int x6, .int x7, .int x8, .int x9, .int x10, .int x11, .int x12]))] H := hP
      replace hw : r16 = 0 ∨ r16 = 1 := hw
      refine lv_if_eq (tgt := 26) hx hb dX3_bars_19 (by decide) (fun c19 => ?_) (fun c19 => ?_)
      · refine lv_iconst (v := 0) hx hb dX3_bars_26 (by decide +kernel) ?_
        exact W.zret hx hb hr rfl (fun t ht hW => ⟨⟨_, (), rfl, by simp, trivial⟩, hS.F ht⟩) hS.2.2 dX3_bars_27
      · refine lv_iconst (v := 1) hx hb dX3_bars_22 (by decide +kernel) ?_
        refine lv_goto (tgt := 27) hx hb dX3_bars_23 (by decide) ?_
        exact W.zret hx hb hr rfl (fun t ht hW => ⟨⟨_, (), rfl, by simp, trivial⟩, hS.F ht⟩) hS.2.2 dX3_bars_27

set_option maxHeartbeats 4000000 in
set_option maxRecDepth 100000 in
theorem c_Row_letGoBy (l : Launch) (D : va_G) (cy : Nat → ClassId) (e : Nat → Nat)  (r0 : Nat) (aa : Nat) (x1 : Int32) (x2 : Int32) (x3 : Int32) (x4 : Int32) (x5 : Int32) (x6 : Int32) (x7 : Int32) (x8 : Int32) (x9 : Int32) (x10 : Int32) (x11 : Int32) (x12 : Int32) (k : Int32) (on : Int32) (sz : Nat)  : Met l yX3_letGoBy wsX3_letGoBy ({ frames := 1, cells := 0, slots := 0, locals := 21 }) (va_Pc [.ref r0, .int k, .int on] (mt_B D cy e [(r0, .inr (4, [.ref aa, .int x1, .int x2, .int x3, .int x4, .int x5, .int x6, .int x7, .int x8, .int x9, .int x10, .int x11, .int x12]))] sz)) (va_Qv (fun (u : Int32 × Int32 × Int32) => match u with | (y9, y10, y11) => True) (mt_Q D (fun (u : Int32 × Int32 × Int32) => match u with | (y9, y10, y11) => [(r0, .inr (4, [.ref aa, .int x1, .int x2, .int x3, .int x4, .int x5, .int x6, .int x7, .int x8, .int y9, .int y10, .int y11, .int x12]))]) (va_A [(r0, .inr (4, [.ref aa, .int x1, .int x2, .int x3, .int x4, .int x5, .int x6, .int x7, .int x8, .int x9, .int x10, .int x11, .int x12]))] sz)) (va_A [(r0, .inr (4, [.ref aa, .int x1, .int x2, .int x3, .int x4, .int x5, .int x6, .int x7, .int x8, .int x9, .int x10, .int x11, .int x12]))] sz)) (0) (0) (va_A [(r0, .inr (4, [.ref aa, .int x1, .int x2, .int x3, .int x4, .int x5, .int x6, .int x7, .int x8, .int x9, .int x10, .int x11, .int x12]))] sz) := by
  refine Met.ofW (cc := cX3_letGoBy) (maxL := 3) (ret := none) (by decide) rfl ?_
  intro p ev s m args below meth c s₁ B hml hv
  obtain ⟨rfl, hsz, hP, hK, hD0, hG⟩ := hv
  have hx := B.exec
  have hb := B.bytes
  have hr := B.returns
  have hts := atoms_spec (ws := wsX3_letGoBy) B.pre
  have hown : s.vm.findClass RX3 = some m.cls := findClass_of_methodNamed B.named
  have hlocks := B.notSynchronized
  subst hsz
  have hD := hD0.self (sz := s.heap.size)
  generalize hAe : va_A [(r0, .inr (4, [.ref aa, .int x1, .int x2, .int x3, .int x4, .int x5, .int x6, .int x7, .int x8, .int x9, .int x10, .int x11, .int x12]))] s.heap.size = A at hD hG ⊢
  have hA : ∀ q : Nat, s.heap.size ≤ q → A q := fun q h => by rw [← hAe]; exact Or.inr h
  have hS : va_S A s.heap s.heap [] := va_S.rf
  have hP : va_P D vwCl [(r0, .inr (4, [.ref aa, .int x1, .int x2, .int x3, .int x4, .int x5, .int x6, .int x7, .int x8, .int x9, .int x10, .int x11, .int x12]))] s.heap := hP
  have iX3 : ∀ w ∈ wsX30, w ∈ wsX3_letGoBy := fun w h => List.mem_cons_of_mem _ (List.mem_append_right _ h)
  have hl := lv_entry ([.ref r0, .int k, .int on]) (n := 3) (Nat.le_of_ble_eq_true rfl)
  rw [lg_entry_eq]
  generalize (lg_sl ([.ref r0, .int k, .int on]) ++ List.replicate (3 - (lg_sl ([.ref r0, .int k, .int on])).length) Slot.unset).toArray = ls at hl ⊢
  have hl : lv_has ls 3 [(0, .ref r0), (1, .int k), (2, .int on)] := hl
  refine lv_aload_n hx hb dX3_letGoBy_0 rfl (lv_at hl 0 rfl) ?_
  refine lv_iconst (v := 0) hx hb dX3_letGoBy_1 (by decide +kernel) ?_
  refine lv_aload_n hx hb dX3_letGoBy_2 rfl (lv_at hl 0 rfl) ?_
  refine va_get (D := D) (ci := 4) (v := .int x11) (C := RX3) (T := TX3) (N := 13) hx hb hts iX3 hown hK hP 0 rfl rfl 11 (by decide) (hts (.fieldLink RX3 26 "InterlockTables$Row" "passLeft" "I") (by decide +kernel)) (fun _ h9 => h9) rfl dX3_letGoBy_3 ?_
  refine lv_iload_n hx hb dX3_letGoBy_6 rfl (lv_at hl 1 rfl) ?_
  refine lv_isub hx hb dX3_letGoBy_7 ?_
  refine va_mmax hx hb (by rw [hml]; exact hl.1.symm) hown (hts (.methodLink RX3 43 Lib.Math.max.name) (by decide +kernel)) (hts (.static Lib.Math.max.name) (by decide +kernel)) (hts (.initialized "java/lang/Math") (by decide +kernel)) (hts (.code Lib.Math.max.name Lib.Math.max.code 2 (some .int)) (by decide +kernel)) (Nat.le_of_ble_eq_true rfl) (Nat.le_of_ble_eq_true rfl) (Nat.le_of_ble_eq_true rfl) (Nat.le_of_ble_eq_true rfl) dX3_letGoBy_8 ?_
  refine va_put (D := D) (ci := 4) (v := .int (if 0 < x11 - k then x11 - k else 0)) (ty := .int) (C := RX3) (T := TX3) (N := 13) hx hb hts iX3 tyX3 tyX3_ok nmX3 hown hK hP hD hS 0 rfl rfl 11 (by decide) (hts (.fieldLink RX3 26 "InterlockTables$Row" "passLeft" "I") (by decide +kernel)) (fun _ h9 => h9) rfl (by decide +kernel) rfl rfl (Nat.le_of_ble_eq_true rfl) dX3_letGoBy_11 (fun H locs hP hD hS => ?_)
  have hP : va_P D vwCl [(r0, .inr (4, [.ref aa, .int x1, .int x2, .int x3, .int x4, .int x5, .int x6, .int x7, .int x8, .int x9, .int x10, .int (if 0 < x11 - k then x11 - k else 0), .int x12]))] H := hP
  have hD : va_D A [(r0, .inr (4, [.ref aa, .int x1, .int x2, .int x3, .int x4, .int x5, .int x6, .int x7, .int x8, .int x9, .int x10, .int (if 0 < x11 - k then x11 - k else 0), .int x12]))] := hD
  refine lv_aload_n hx hb dX3_letGoBy_14 rfl (lv_at hl 0 rfl) ?_
  refine lv_iload_n hx hb dX3_letGoBy_15 rfl (lv_at hl 2 rfl) ?_
  refine lv_if_eq (tgt := 33) hx hb dX3_letGoBy_16 (by decide) (fun c16 => ?_) (fun c16 => ?_)
  · refine lv_iconst (v := 0) hx hb dX3_letGoBy_33 (by decide +kernel) ?_
    refine va_put (D := D) (ci := 4) (v := .int 0) (ty := .int) (C := RX3) (T := TX3) (N := 13) hx hb hts iX3 tyX3 tyX3_ok nmX3 hown hK hP hD hS 0 rfl rfl 9 (by decide) (hts (.fieldLink RX3 37 "InterlockTables$Row" "count" "I") (by decide +kernel)) (fun _ h9 => h9) rfl (by decide +kernel) rfl rfl (Nat.le_of_ble_eq_true rfl) dX3_letGoBy_34 (fun H locs hP hD hS => ?_)
    have hP : va_P D vwCl [(r0, .inr (4, [.ref aa, .int x1, .int x2, .int x3, .int x4, .int x5, .int x6, .int x7, .int x8, .int 0, .int x10, .int (if 0 < x11 - k then x11 - k else 0), .int x12]))] H := hP
    have hD : va_D A [(r0, .inr (4, [.ref aa, .int x1, .int x2, .int x3, .int x4, .int x5, .int x6, .int x7, .int x8, .int 0, .int x10, .int (if 0 < x11 - k then x11 - k else 0), .int x12]))] := hD
    refine lv_aload_n hx hb dX3_letGoBy_37 rfl (lv_at hl 0 rfl) ?_
    refine va_get (D := D) (ci := 4) (v := .int x8) (C := RX3) (T := TX3) (N := 13) hx hb hts iX3 hown hK hP 0 rfl rfl 8 (by decide) (hts (.fieldLink RX3 53 "InterlockTables$Row" "mayLatch" "Z") (by decide +kernel)) (fun _ h9 => h9) rfl dX3_letGoBy_38 ?_
    refine lv_if_eq (tgt := 57) hx hb dX3_letGoBy_41 (by decide) (fun c41 => ?_) (fun c41 => ?_)
    · have hP9 : va_P D vwCl [(r0, .inr (4, [.ref aa, .int x1, .int x2, .int x3, .int x4, .int x5, .int x6, .int x7, .int x8, .int 0, .int x10, .int (if 0 < x11 - k then x11 - k else 0), .int x12]))] H := hP.sub [0] rfl
      have hD9 : va_D A [(r0, .inr (4, [.ref aa, .int x1, .int x2, .int x3, .int x4, .int x5, .int x6, .int x7, .int x8, .int 0, .int x10, .int (if 0 < x11 - k then x11 - k else 0), .int x12]))] := hD.sub [0] (by decide) rfl
      refine W.widen (k := 0) (n := 0) (by omega) (by omega) ?_
      exact W.vret hx hb hr (fun t ht hW => ⟨⟨(0, x10, (if 0 < x11 - k then x11 - k else 0)), rfl, trivial, by rw [ht]; exact hP9, hD9⟩, hS.F ht⟩) hS.2.2 dX3_letGoBy_57
    · refine lv_aload_n hx hb dX3_letGoBy_44 rfl (lv_at hl 0 rfl) ?_
      refine lv_iload_n hx hb dX3_letGoBy_45 rfl (lv_at hl 2 rfl) ?_
      refine pu_callni (va_runV (As := [.int on]) (rest := []) ⟨hx, hb, hml, hown, hts⟩ (c_Row_holds l D cy e r0 aa x1 x2 x3 x4 x5 x6 x7 x8 0 x10 (if 0 < x11 - k then x11 - k else 0) x12 on ) (cwV 1 hts gX3_letGoBy_X3_holds rfl rfl rfl (by decide +kernel) ⟨Nat.le_of_ble_eq_true rfl, Nat.le_of_ble_eq_true rfl⟩) (pu_preV hP hK hS hG [0] rfl (q := (RX3, TX3, 13)) (ci := 4) (q0 := 0) rfl rfl) rfl rfl hl.1 rfl (lv_room (Nat.le_of_ble_eq_true rfl)) dX3_letGoBy_46 ⟨(Nat.le_of_ble_eq_true rfl), (Nat.le_of_ble_eq_true rfl)⟩) hP hS (fun r46 H locs hw hP hS => ?_)
      have hP : va_P D vwCl [(r0, .inr (4, [.ref aa, .int x1, .int x2, .int x3, .int x4, .int x5, .int x6, .int x7, .int x8, .int 0, .int x10, .int (if 0 < x11 - k then x11 - k else 0), .int x12]))] H := hP
      replace hw : r46 = 0 ∨ r46 = 1 := hw
      refine lv_if_eq (tgt := 57) hx hb dX3_letGoBy_49 (by decide) (fun c49 => ?_) (fun c49 => ?_)
      · have hP9 : va_P D vwCl [(r0, .inr (4, [.ref aa, .int x1, .int x2, .int x3, .int x4, .int x5, .int x6, .int x7, .int x8, .int 0, .int x10, .int (if 0 < x11 - k then x11 - k else 0), .int x12]))] H := hP.sub [0] rfl
        have hD9 : va_D A [(r0, .inr (4, [.ref aa, .int x1, .int x2, .int x3, .int x4, .int x5, .int x6, .int x7, .int x8, .int 0, .int x10, .int (if 0 < x11 - k then x11 - k else 0), .int x12]))] := hD.sub [0] (by decide) rfl
        refine W.widen (k := 0) (n := 0) (by omega) (by omega) ?_
        exact W.vret hx hb hr (fun t ht hW => ⟨⟨(0, x10, (if 0 < x11 - k then x11 - k else 0)), rfl, trivial, by rw [ht]; exact hP9, hD9⟩, hS.F ht⟩) hS.2.2 dX3_letGoBy_57
      · refine lv_aload_n hx hb dX3_letGoBy_52 rfl (lv_at hl 0 rfl) ?_
        refine lv_iconst (v := 1) hx hb dX3_letGoBy_53 (by decide +kernel) ?_
        refine va_put (D := D) (ci := 4) (v := .int 1) (ty := .boolean) (C := RX3) (T := TX3) (N := 13) hx hb hts iX3 tyX3 tyX3_ok nmX3 hown hK hP hD hS 0 rfl rfl 10 (by decide) (hts (.fieldLink RX3 29 "InterlockTables$Row" "latched" "Z") (by decide +kernel)) (fun _ h9 => h9) rfl (by decide +kernel) rfl rfl (Nat.le_of_ble_eq_true rfl) dX3_letGoBy_54 (fun H locs hP hD hS => ?_)
        have hP : va_P D vwCl [(r0, .inr (4, [.ref aa, .int x1, .int x2, .int x3, .int x4, .int x5, .int x6, .int x7, .int x8, .int 0, .int 1, .int (if 0 < x11 - k then x11 - k else 0), .int x12]))] H := hP
        have hD : va_D A [(r0, .inr (4, [.ref aa, .int x1, .int x2, .int x3, .int x4, .int x5, .int x6, .int x7, .int x8, .int 0, .int 1, .int (if 0 < x11 - k then x11 - k else 0), .int x12]))] := hD
        have hP9 : va_P D vwCl [(r0, .inr (4, [.ref aa, .int x1, .int x2, .int x3, .int x4, .int x5, .int x6, .int x7, .int x8, .int 0, .int 1, .int (if 0 < x11 - k then x11 - k else 0), .int x12]))] H := hP.sub [0] rfl
        have hD9 : va_D A [(r0, .inr (4, [.ref aa, .int x1, .int x2, .int x3, .int x4, .int x5, .int x6, .int x7, .int x8, .int 0, .int 1, .int (if 0 < x11 - k then x11 - k else 0), .int x12]))] := hD.sub [0] (by decide) rfl
        refine W.widen (k := 0) (n := 0) (by omega) (by omega) ?_
        exact W.vret hx hb hr (fun t ht hW => ⟨⟨(0, 1, (if 0 < x11 - k then x11 - k else 0)), rfl, trivial, by rw [ht]; exact hP9, hD9⟩, hS.F ht⟩) hS.2.2 dX3_letGoBy_57
  · refine lv_ldc (v := 1000000) hx hb hown (hts (.constant RX3 49 (1000000)) (by decide +kernel)) dX3_letGoBy_19 ?_
    refine lv_aload_n hx hb dX3_letGoBy_21 rfl (lv_at hl 0 rfl) ?_
    refine va_get (D := D) (ci := 4) (v := .int x9) (C := RX3) (T := TX3) (N := 13) hx hb hts iX3 hown hK hP 0 rfl rfl 9 (by decide) (hts (.fieldLink RX3 37 "InterlockTables$Row" "count" "I") (by decide +kernel)) (fun _ h9 => h9) rfl dX3_letGoBy_22 ?_
    refine lv_iload_n hx hb dX3_letGoBy_25 rfl (lv_at hl 1 rfl) ?_
    refine lv_iadd hx hb dX3_letGoBy_26 ?_
    refine va_mmin hx hb (by rw [hml]; exact hl.1.symm) hown (hts (.methodLink RX3 50 Lib.Math.min.name) (by decide +kernel)) (hts (.static Lib.Math.min.name) (by decide +kernel)) (hts (.initialized "java/lang/Math") (by decide +kernel)) (hts (.code Lib.Math.min.name Lib.Math.min.code 2 (some .int)) (by decide +kernel)) (Nat.le_of_ble_eq_true rfl) (Nat.le_of_ble_eq_true rfl) (Nat.le_of_ble_eq_true rfl) (Nat.le_of_ble_eq_true rfl) dX3_letGoBy_27 ?_
    refine lv_goto (tgt := 34) hx hb dX3_letGoBy_30 (by decide) ?_
    refine va_put (D := D) (ci := 4) (v := .int (if x9 + k < 1000000 then x9 + k else 1000000)) (ty := .int) (C := RX3) (T := TX3) (N := 13) hx hb hts iX3 tyX3 tyX3_ok nmX3 hown hK hP hD hS 0 rfl rfl 9 (by decide) (hts (.fieldLink RX3 37 "InterlockTables$Row" "count" "I") (by decide +kernel)) (fun _ h9 => h9) rfl (by decide +kernel) rfl rfl (Nat.le_of_ble_eq_true rfl) dX3_letGoBy_34 (fun H locs hP hD hS => ?_)
    have hP : va_P D vwCl [(r0, .inr (4, [.ref aa, .int x1, .int x2, .int x3, .int x4, .int x5, .int x6, .int x7, .int x8, .int (if x9 + k < 1000000 then x9 + k else 1000000), .int x10, .int (if 0 < x11 - k then x11 - k else 0), .int x12]))] H := hP
    have hD : va_D A [(r0, .inr (4, [.ref aa, .int x1, .int x2, .int x3, .int x4, .int x5, .int x6, .int x7, .int x8, .int (if x9 + k < 1000000 then x9 + k else 1000000), .int x10, .int (if 0 < x11 - k then x11 - k else 0), .int x12]))] := hD
    refine lv_aload_n hx hb dX3_letGoBy_37 rfl (lv_at hl 0 rfl) ?_
    refine va_get (D := D) (ci := 4) (v := .int x8) (C := RX3) (T := TX3) (N := 13) hx hb hts iX3 hown hK hP 0 rfl rfl 8 (by decide) (hts (.fieldLink RX3 53 "InterlockTables$Row" "mayLatch" "Z") (by decide +kernel)) (fun _ h9 => h9) rfl dX3_letGoBy_38 ?_
    refine lv_if_eq (tgt := 57) hx hb dX3_letGoBy_41 (by decide) (fun c41 => ?_) (fun c41 => ?_)
    · have hP9 : va_P D vwCl [(r0, .inr (4, [.ref aa, .int x1, .int x2, .int x3, .int x4, .int x5, .int x6, .int x7, .int x8, .int (if x9 + k < 1000000 then x9 + k else 1000000), .int x10, .int (if 0 < x11 - k then x11 - k else 0), .int x12]))] H := hP.sub [0] rfl
      have hD9 : va_D A [(r0, .inr (4, [.ref aa, .int x1, .int x2, .int x3, .int x4, .int x5, .int x6, .int x7, .int x8, .int (if x9 + k < 1000000 then x9 + k else 1000000), .int x10, .int (if 0 < x11 - k then x11 - k else 0), .int x12]))] := hD.sub [0] (by decide) rfl
      refine W.widen (k := 0) (n := 0) (by omega) (by omega) ?_
      exact W.vret hx hb hr (fun t ht hW => ⟨⟨((if x9 + k < 1000000 then x9 + k else 1000000), x10, (if 0 < x11 - k then x11 - k else 0)), rfl, trivial, by rw [ht]; exact hP9, hD9⟩, hS.F ht⟩) hS.2.2 dX3_letGoBy_57
    · refine lv_aload_n hx hb dX3_letGoBy_44 rfl (lv_at hl 0 rfl) ?_
      refine lv_iload_n hx hb dX3_letGoBy_45 rfl (lv_at hl 2 rfl) ?_
      refine pu_callni (va_runV (As := [.int on]) (rest := []) ⟨hx, hb, hml, hown, hts⟩ (c_Row_holds l D cy e r0 aa x1 x2 x3 x4 x5 x6 x7 x8 (if x9 + k < 1000000 then x9 + k else 1000000) x10 (if 0 < x11 - k then x11 - k else 0) x12 on ) (cwV 1 hts gX3_letGoBy_X3_holds rfl rfl rfl (by decide +kernel) ⟨Nat.le_of_ble_eq_true rfl, Nat.le_of_ble_eq_true rfl⟩) (pu_preV hP hK hS hG [0] rfl (q := (RX3, TX3, 13)) (ci := 4) (q0 := 0) rfl rfl) rfl rfl hl.1 rfl (lv_room (Nat.le_of_ble_eq_true rfl)) dX3_letGoBy_46 ⟨(Nat.le_of_ble_eq_true rfl), (Nat.le_of_ble_eq_true rfl)⟩) hP hS (fun r46 H locs hw hP hS => ?_)
      have hP : va_P D vwCl [(r0, .inr (4, [.ref aa, .int x1, .int x2, .int x3, .int x4, .int x5, .int x6, .int x7, .int x8, .int (if x9 + k < 1000000 then x9 + k else 1000000), .int x10, .int (if 0 < x11 - k then x11 - k else 0), .int x12]))] H := hP
      replace hw : r46 = 0 ∨ r46 = 1 := hw
      refine lv_if_eq (tgt := 57) hx hb dX3_letGoBy_49 (by decide) (fun c49 => ?_) (fun c49 => ?_)
      · have hP9 : va_P D vwCl [(r0, .inr (4, [.ref aa, .int x1, .int x2, .int x3, .int x4, .int x5, .int x6, .int x7, .int x8, .int (if x9 + k < 1000000 then x9 + k else 1000000), .int x10, .int (if 0 < x11 - k then x11 - k else 0), .int x12]))] H := hP.sub [0] rfl
        have hD9 : va_D A [(r0, .inr (4, [.ref aa, .int x1, .int x2, .int x3, .int x4, .int x5, .int x6, .int x7, .int x8, .int (if x9 + k < 1000000 then x9 + k else 1000000), .int x10, .int (if 0 < x11 - k then x11 - k else 0), .int x12]))] := hD.sub [0] (by decide) rfl
        refine W.widen (k := 0) (n := 0) (by omega) (by omega) ?_
        exact W.vret hx hb hr (fun t ht hW => ⟨⟨((if x9 + k < 1000000 then x9 + k else 1000000), x10, (if 0 < x11 - k then x11 - k else 0)), rfl, trivial, by rw [ht]; exact hP9, hD9⟩, hS.F ht⟩) hS.2.2 dX3_letGoBy_57
      · refine lv_aload_n hx hb dX3_letGoBy_52 rfl (lv_at hl 0 rfl) ?_
        refine lv_iconst (v := 1) hx hb dX3_letGoBy_53 (by decide +kernel) ?_
        refine va_put (D := D) (ci := 4) (v := .int 1) (ty := .boolean) (C := RX3) (T := TX3) (N := 13) hx hb hts iX3 tyX3 tyX3_ok nmX3 hown hK hP hD hS 0 rfl rfl 10 (by decide) (hts (.fieldLink RX3 29 "InterlockTables$Row" "latched" "Z") (by decide +kernel)) (fun _ h9 => h9) rfl (by decide +kernel) rfl rfl (Nat.le_of_ble_eq_true rfl) dX3_letGoBy_54 (fun H locs hP hD hS => ?_)
        have hP : va_P D vwCl [(r0, .inr (4, [.ref aa, .int x1, .int x2, .int x3, .int x4, .int x5, .int x6, .int x7, .int x8, .int (if x9 + k < 1000000 then x9 + k else 1000000), .int 1, .int (if 0 < x11 - k then x11 - k else 0), .int x12]))] H := hP
        have hD : va_D A [(r0, .inr (4, [.ref aa, .int x1, .int x2, .int x3, .int x4, .int x5, .int x6, .int x7, .int x8, .int (if x9 + k < 1000000 then x9 + k else 1000000), .int 1, .int (if 0 < x11 - k then x11 - k else 0), .int x12]))] := hD
        have hP9 : va_P D vwCl [(r0, .inr (4, [.ref aa, .int x1, .int x2, .int x3, .int x4, .int x5, .int x6, .int x7, .int x8, .int (if x9 + k < 1000000 then x9 + k else 1000000), .int 1, .int (if 0 < x11 - k then x11 - k else 0), .int x12]))] H := hP.sub [0] rfl
        have hD9 : va_D A [(r0, .inr (4, [.ref aa, .int x1, .int x2, .int x3, .int x4, .int x5, .int x6, .int x7, .int x8, .int (if x9 + k < 1000000 then x9 + k else 1000000), .int 1, .int (if 0 < x11 - k then x11 - k else 0), .int x12]))] := hD.sub [0] (by decide) rfl
        refine W.widen (k := 0) (n := 0) (by omega) (by omega) ?_
        exact W.vret hx hb hr (fun t ht hW => ⟨⟨((if x9 + k < 1000000 then x9 + k else 1000000), 1, (if 0 < x11 - k then x11 - k else 0)), rfl, trivial, by rw [ht]; exact hP9, hD9⟩, hS.F ht⟩) hS.2.2 dX3_letGoBy_57

set_option maxHeartbeats 4000000 in
set_option maxRecDepth 100000 in
theorem c_Row_hasActF (l : Launch) (D : va_G) (cy : Nat → ClassId) (e : Nat → Nat)  (r0 : Nat) (aa : Nat) (x1 : Int32) (x2 : Int32) (x3 : Int32) (x4 : Int32) (x5 : Int32) (x6 : Int32) (x7 : Int32) (x8 : Int32) (x9 : Int32) (x10 : Int32) (x11 : Int32) (x12 : Int32) (kn : Nat) (hkn : kn < 32) : Met l yX3_hasAct wsX3_hasAct ({ frames := 0, cells := 0, slots := 0, locals := 0 }) (va_Pc [.ref r0, .int (nI kn)] (pu_B D cy e [(r0, .inr (4, [.ref aa, .int x1, .int x2, .int x3, .int x4, .int x5, .int x6, .int x7, .int x8, .int x9, .int x10, .int x11, .int x12]))])) (va_Qi (fun (r : Int32) (_ : Unit) => r = if bt x2 kn = true then 1 else 0) (fun _ _ => True) (fun _ => False)) 0 0 (fun _ => False) := by
  refine Met.ofW (cc := cX3_hasAct) (maxL := 2) (ret := (some .boolean)) (by decide) rfl ?_
  intro p ev s m args below meth c s₁ B hml hv
  obtain ⟨rfl, hP, hK, hG⟩ := hv
  have hx := B.exec
  have hb := B.bytes
  have hr := B.returns
  have hts := atoms_spec (ws := wsX3_hasAct) B.pre
  have hown : s.vm.findClass RX3 = some m.cls := findClass_of_methodNamed B.named
  have hlocks := B.notSynchronized
  have hS : va_S (fun _ => False) s.heap s.heap [] := va_S.rf
  have hP : va_P D vwCl [(r0, .inr (4, [.ref aa, .int x1, .int x2, .int x3, .int x4, .int x5, .int x6, .int x7, .int x8, .int x9, .int x10, .int x11, .int x12]))] s.heap := hP
  have iX3 : ∀ w ∈ wsX30, w ∈ wsX3_hasAct := fun w h => List.mem_cons_of_mem _ (List.mem_append_right _ h)
  have hl := lv_entry ([.ref r0, .int (nI kn)]) (n := 2) (Nat.le_of_ble_eq_true rfl)
  rw [lg_entry_eq]
  generalize (lg_sl ([.ref r0, .int (nI kn)]) ++ List.replicate (2 - (lg_sl ([.ref r0, .int (nI kn)])).length) Slot.unset).toArray = ls at hl ⊢
  have hl : lv_has ls 2 [(0, .ref r0), (1, .int (nI kn))] := hl
  refine lv_aload_n hx hb dX3_hasAct_0 rfl (lv_at hl 0 rfl) ?_
  refine va_get (D := D) (ci := 4) (v := .int x2) (C := RX3) (T := TX3) (N := 13) hx hb hts iX3 hown hK hP 0 rfl rfl 2 (by decide) (hts (.fieldLink RX3 15 "InterlockTables$Row" "actBits" "I") (by decide +kernel)) (fun _ h9 => h9) rfl dX3_hasAct_1 ?_
  refine lv_iload_n hx hb dX3_hasAct_4 rfl (lv_at hl 1 rfl) ?_
  refine lv_iushr (v := (x2.toUInt32 >>> ((nI kn).toUInt32 &&& Int32.toUInt32 31)).toInt32) hx hb dX3_hasAct_5 (rfl) ?_
  refine lv_iconst (v := 1) hx hb dX3_hasAct_6 (by decide +kernel) ?_
  refine lv_iand hx hb dX3_hasAct_7 ?_
  refine lv_if_eq (tgt := 15) hx hb dX3_hasAct_8 (by decide) (fun c8 => ?_) (fun c8 => ?_)
  · refine lv_iconst (v := 0) hx hb dX3_hasAct_15 (by decide +kernel) ?_
    exact W.zret hx hb hr rfl (fun t ht hW => ⟨⟨_, (), rfl, (if_neg (by rw [(b_u1 hkn).mp c8]; decide)).symm, trivial⟩, hS.F ht⟩) hS.2.2 dX3_hasAct_16
  · refine lv_iconst (v := 1) hx hb dX3_hasAct_11 (by decide +kernel) ?_
    refine lv_goto (tgt := 16) hx hb dX3_hasAct_12 (by decide) ?_
    exact W.zret hx hb hr rfl (fun t ht hW => ⟨⟨_, (), rfl, (if_pos (eq_true_of_ne_false (fun q9 => c8 ((b_u1 hkn).mpr q9)))).symm, trivial⟩, hS.F ht⟩) hS.2.2 dX3_hasAct_16

set_option maxHeartbeats 4000000 in
set_option maxRecDepth 100000 in
theorem c_Row_addActF (l : Launch) (D : va_G) (cy : Nat → ClassId) (e : Nat → Nat)  (r0 : Nat) (aa : Nat) (x2 : Int32) (x3 : Int32) (x4 : Int32) (x5 : Int32) (x6 : Int32) (x7 : Int32) (x8 : Int32) (x9 : Int32) (x10 : Int32) (x11 : Int32) (x12 : Int32) (ac : Nat) (fa : Nat → Int32) (kn : Nat) (al : List Int32) (sz : Nat) (hac : al.length = ac ∧ ac < 8) (hkn : kn < 32) (hsg : fp_seg fa 0 al) (hbt : fp_bits x2 al) : Met l yX3_addAct wsX3_addAct ({ frames := 1, cells := 0, slots := 0, locals := 21 }) (va_Pc [.ref r0, .int (nI kn)] (mt_B D cy e [(r0, .inr (4, [.ref aa, .int (nI ac), .int x2, .int x3, .int x4, .int x5, .int x6, .int x7, .int x8, .int x9, .int x10, .int x11, .int x12])), (aa, .inl (cy 1, 8, .inl fa))] sz)) (va_Qi (fun (r : Int32) (u : Nat × Int32 × (Nat → Int32)) => match u with | (ac2, y2, fa2) => (r = 1 ∧ ¬ nI kn ∈ al ∧ ac2 = ac + 1 ∧ fp_seg fa2 0 (al ++ [nI kn]) ∧ fp_bits y2 (al ++ [nI kn])) ∨ (r = 0 ∧ nI kn ∈ al ∧ ac2 = ac ∧ fa2 = fa ∧ y2 = x2)) (mt_Q D (fun (u : Nat × Int32 × (Nat → Int32)) => match u with | (ac2, y2, fa2) => [(r0, .inr (4, [.ref aa, .int (nI ac2), .int y2, .int x3, .int x4, .int x5, .int x6, .int x7, .int x8, .int x9, .int x10, .int x11, .int x12])), (aa, .inl (cy 1, 8, .inl fa2))]) (va_A [(r0, .inr (4, [.ref aa, .int (nI ac), .int x2, .int x3, .int x4, .int x5, .int x6, .int x7, .int x8, .int x9, .int x10, .int x11, .int x12])), (aa, .inl (cy 1, 8, .inl fa))] sz)) (va_A [(r0, .inr (4, [.ref aa, .int (nI ac), .int x2, .int x3, .int x4, .int x5, .int x6, .int x7, .int x8, .int x9, .int x10, .int x11, .int x12])), (aa, .inl (cy 1, 8, .inl fa))] sz)) (0) (0) (va_A [(r0, .inr (4, [.ref aa, .int (nI ac), .int x2, .int x3, .int x4, .int x5, .int x6, .int x7, .int x8, .int x9, .int x10, .int x11, .int x12])), (aa, .inl (cy 1, 8, .inl fa))] sz) := by
  refine Met.ofW (cc := cX3_addAct) (maxL := 2) (ret := (some .boolean)) (by decide) rfl ?_
  intro p ev s m args below meth c s₁ B hml hv
  obtain ⟨rfl, hsz, hP, hK, hD0, hG⟩ := hv
  have hx := B.exec
  have hb := B.bytes
  have hr := B.returns
  have hts := atoms_spec (ws := wsX3_addAct) B.pre
  have hown : s.vm.findClass RX3 = some m.cls := findClass_of_methodNamed B.named
  have hlocks := B.notSynchronized
  subst hsz
  have hD := hD0.self (sz := s.heap.size)
  generalize hAe : va_A [(r0, .inr (4, [.ref aa, .int (nI ac), .int x2, .int x3, .int x4, .int x5, .int x6, .int x7, .int x8, .int x9, .int x10, .int x11, .int x12])), (aa, .inl (cy 1, 8, .inl fa))] s.heap.size = A at hD hG ⊢
  have hA : ∀ q : Nat, s.heap.size ≤ q → A q := fun q h => by rw [← hAe]; exact Or.inr h
  have hS : va_S A s.heap s.heap [] := va_S.rf
  have hP : va_P D vwCl [(r0, .inr (4, [.ref aa, .int (nI ac), .int x2, .int x3, .int x4, .int x5, .int x6, .int x7, .int x8, .int x9, .int x10, .int x11, .int x12])), (aa, .inl (cy 1, 8, .inl fa))] s.heap := hP
  have iX3 : ∀ w ∈ wsX30, w ∈ wsX3_addAct := fun w h => List.mem_cons_of_mem _ (List.mem_append_right _ h)
  have hl := lv_entry ([.ref r0, .int (nI kn)]) (n := 2) (Nat.le_of_ble_eq_true rfl)
  rw [lg_entry_eq]
  generalize (lg_sl ([.ref r0, .int (nI kn)]) ++ List.replicate (2 - (lg_sl ([.ref r0, .int (nI kn)])).length) Slot.unset).toArray = ls at hl ⊢
  have hl : lv_has ls 2 [(0, .ref r0), (1, .int (nI kn))] := hl
  refine lv_aload_n hx hb dX3_addAct_0 rfl (lv_at hl 0 rfl) ?_
  refine va_get (D := D) (ci := 4) (v := .int (nI ac)) (C := RX3) (T := TX3) (N := 13) hx hb hts iX3 hown hK hP 0 rfl rfl 1 (by decide) (hts (.fieldLink RX3 19 "InterlockTables$Row" "actCount" "I") (by decide +kernel)) (fun _ h9 => h9) rfl dX3_addAct_1 ?_
  refine lv_aload_n hx hb dX3_addAct_4 rfl (lv_at hl 0 rfl) ?_
  refine va_get (D := D) (ci := 4) (v := .ref aa) (C := RX3) (T := TX3) (N := 13) hx hb hts iX3 hown hK hP 0 rfl rfl 0 (by decide) (hts (.fieldLink RX3 9 "InterlockTables$Row" "acts" "[I") (by decide +kernel)) (fun _ h9 => h9) rfl dX3_addAct_5 ?_
  refine va_alen hx hb hK hP 1 1 rfl rfl (v := 8) rfl dX3_addAct_8 ?_
  refine lv_icmp_ge (tgt := 20) hx hb dX3_addAct_9 (by decide) (fun c9 => absurd c9 (fun h9 => absurd ((nI_leI (a := 8) (b := ac) (by decide) (by omega)).mp h9) (by omega))) (fun _ => ?_)
  refine lv_aload_n hx hb dX3_addAct_12 rfl (lv_at hl 0 rfl) ?_
  refine lv_iload_n hx hb dX3_addAct_13 rfl (lv_at hl 1 rfl) ?_
  refine pu_calli (va_runV (As := [.int (nI kn)]) (rest := []) ⟨hx, hb, hml, hown, hts⟩ (c_Row_hasActF l D cy e r0 aa (nI ac) x2 x3 x4 x5 x6 x7 x8 x9 x10 x11 x12 kn (by first | assumption | omega | decide +kernel)) (cwV 1 hts gX3_addAct_X3_hasAct rfl rfl rfl (by decide +kernel) ⟨Nat.le_of_ble_eq_true rfl, Nat.le_of_ble_eq_true rfl⟩) (pu_preV hP hK hS hG [0] rfl (q := (RX3, TX3, 13)) (ci := 4) (q0 := 0) rfl rfl) rfl rfl hl.1 rfl (lv_room (Nat.le_of_ble_eq_true rfl)) dX3_addAct_14 ⟨(Nat.le_of_ble_eq_true rfl), (Nat.le_of_ble_eq_true rfl)⟩) hP hS (fun H locs hP hS => ?_)
  have hP : va_P D vwCl [(r0, .inr (4, [.ref aa, .int (nI ac), .int x2, .int x3, .int x4, .int x5, .int x6, .int x7, .int x8, .int x9, .int x10, .int x11, .int x12])), (aa, .inl (cy 1, 8, .inl fa))] H := hP
  refine lv_if_eq (tgt := 22) hx hb dX3_addAct_17 (by decide) (fun c17 => ?_) (fun c17 => ?_)
  · have hno : ¬ nI kn ∈ al := fun q9 => by rw [if_pos ((hbt kn hkn).mpr q9)] at c17; exact absurd c17 (by decide)
    refine lv_aload_n hx hb dX3_addAct_22 rfl (lv_at hl 0 rfl) ?_
    refine va_get (D := D) (ci := 4) (v := .ref aa) (C := RX3) (T := TX3) (N := 13) hx hb hts iX3 hown hK hP 0 rfl rfl 0 (by decide) (hts (.fieldLink RX3 9 "InterlockTables$Row" "acts" "[I") (by decide +kernel)) (fun _ h9 => h9) rfl dX3_addAct_23 ?_
    refine lv_aload_n hx hb dX3_addAct_26 rfl (lv_at hl 0 rfl) ?_
    refine va_get (D := D) (ci := 4) (v := .int (nI ac)) (C := RX3) (T := TX3) (N := 13) hx hb hts iX3 hown hK hP 0 rfl rfl 1 (by decide) (hts (.fieldLink RX3 19 "InterlockTables$Row" "actCount" "I") (by decide +kernel)) (fun _ h9 => h9) rfl dX3_addAct_27 ?_
    refine lv_iload_n hx hb dX3_addAct_30 rfl (lv_at hl 1 rfl) ?_
    refine va_iast hx hb hK hP hD hS 1 1 rfl rfl (vp_in_nI (by omega) (by omega)) dX3_addAct_31 (fun H locs hP hD hS => ?_)
    have hP : va_P D vwCl [(r0, .inr (4, [.ref aa, .int (nI ac), .int x2, .int x3, .int x4, .int x5, .int x6, .int x7, .int x8, .int x9, .int x10, .int x11, .int x12])), (aa, .inl (cy 1, 8, .inl (upd fa (nI ac).toNatClampNeg (nI kn))))] H := hP
    have hD : va_D A [(r0, .inr (4, [.ref aa, .int (nI ac), .int x2, .int x3, .int x4, .int x5, .int x6, .int x7, .int x8, .int x9, .int x10, .int x11, .int x12])), (aa, .inl (cy 1, 8, .inl (upd fa (nI ac).toNatClampNeg (nI kn))))] := hD
    have ef_31 : (upd fa (nI ac).toNatClampNeg (nI kn)) = (upd fa ac (nI kn)) := by rw [nI_clamp (by omega)]
    rw [ef_31] at hP hD
    refine lv_aload_n hx hb dX3_addAct_32 rfl (lv_at hl 0 rfl) ?_
    refine lv_dup hx hb dX3_addAct_33 rfl ?_
    refine va_get (D := D) (ci := 4) (v := .int (nI ac)) (C := RX3) (T := TX3) (N := 13) hx hb hts iX3 hown hK hP 0 rfl rfl 1 (by decide) (hts (.fieldLink RX3 19 "InterlockTables$Row" "actCount" "I") (by decide +kernel)) (fun _ h9 => h9) rfl dX3_addAct_34 ?_
    refine lv_iconst (v := 1) hx hb dX3_addAct_37 (by decide +kernel) ?_
    refine lv_iadd hx hb dX3_addAct_38 ?_
    refine lv_topi (fun x_1 ex_1 => ?_)
    obtain rfl : x_1 = nI (ac + 1) := by rw [ex_1]; exact nI_1 ac
    refine va_put (D := D) (ci := 4) (v := .int (nI (ac + 1))) (ty := .int) (C := RX3) (T := TX3) (N := 13) hx hb hts iX3 tyX3 tyX3_ok nmX3 hown hK hP hD hS 0 rfl rfl 1 (by decide) (hts (.fieldLink RX3 19 "InterlockTables$Row" "actCount" "I") (by decide +kernel)) (fun _ h9 => h9) rfl (by decide +kernel) rfl rfl (Nat.le_of_ble_eq_true rfl) dX3_addAct_39 (fun H locs hP hD hS => ?_)
    have hP : va_P D vwCl [(r0, .inr (4, [.ref aa, .int (nI (ac + 1)), .int x2, .int x3, .int x4, .int x5, .int x6, .int x7, .int x8, .int x9, .int x10, .int x11, .int x12])), (aa, .inl (cy 1, 8, .inl (upd fa ac (nI kn))))] H := hP
    have hD : va_D A [(r0, .inr (4, [.ref aa, .int (nI (ac + 1)), .int x2, .int x3, .int x4, .int x5, .int x6, .int x7, .int x8, .int x9, .int x10, .int x11, .int x12])), (aa, .inl (cy 1, 8, .inl (upd fa ac (nI kn))))] := hD
    refine lv_aload_n hx hb dX3_addAct_42 rfl (lv_at hl 0 rfl) ?_
    refine lv_dup hx hb dX3_addAct_43 rfl ?_
    refine va_get (D := D) (ci := 4) (v := .int x2) (C := RX3) (T := TX3) (N := 13) hx hb hts iX3 hown hK hP 0 rfl rfl 2 (by decide) (hts (.fieldLink RX3 15 "InterlockTables$Row" "actBits" "I") (by decide +kernel)) (fun _ h9 => h9) rfl dX3_addAct_44 ?_
    refine lv_iconst (v := 1) hx hb dX3_addAct_47 (by decide +kernel) ?_
    refine lv_iload_n hx hb dX3_addAct_48 rfl (lv_at hl 1 rfl) ?_
    refine lv_ishl hx hb dX3_addAct_49 ?_
    refine lv_ior hx hb dX3_addAct_50 ?_
    refine va_put (D := D) (ci := 4) (v := .int (x2 ||| ((1 : Int32) <<< ((nI kn) &&& 31)))) (ty := .int) (C := RX3) (T := TX3) (N := 13) hx hb hts iX3 tyX3 tyX3_ok nmX3 hown hK hP hD hS 0 rfl rfl 2 (by decide) (hts (.fieldLink RX3 15 "InterlockTables$Row" "actBits" "I") (by decide +kernel)) (fun _ h9 => h9) rfl (by decide +kernel) rfl rfl (Nat.le_of_ble_eq_true rfl) dX3_addAct_51 (fun H locs hP hD hS => ?_)
    have hP : va_P D vwCl [(r0, .inr (4, [.ref aa, .int (nI (ac + 1)), .int (x2 ||| ((1 : Int32) <<< ((nI kn) &&& 31))), .int x3, .int x4, .int x5, .int x6, .int x7, .int x8, .int x9, .int x10, .int x11, .int x12])), (aa, .inl (cy 1, 8, .inl (upd fa ac (nI kn))))] H := hP
    have hD : va_D A [(r0, .inr (4, [.ref aa, .int (nI (ac + 1)), .int (x2 ||| ((1 : Int32) <<< ((nI kn) &&& 31))), .int x3, .int x4, .int x5, .int x6, .int x7, .int x8, .int x9, .int x10, .int x11, .int x12])), (aa, .inl (cy 1, 8, .inl (upd fa ac (nI kn))))] := hD
    refine lv_iconst (v := 1) hx hb dX3_addAct_54 (by decide +kernel) ?_
    have hP9 : va_P D vwCl [(r0, .inr (4, [.ref aa, .int (nI (ac + 1)), .int (x2 ||| ((1 : Int32) <<< ((nI kn) &&& 31))), .int x3, .int x4, .int x5, .int x6, .int x7, .int x8, .int x9, .int x10, .int x11, .int x12])), (aa, .inl (cy 1, 8, .inl (upd fa ac (nI kn))))] H := hP.sub [0, 1] rfl
    have hD9 : va_D A [(r0, .inr (4, [.ref aa, .int (nI (ac + 1)), .int (x2 ||| ((1 : Int32) <<< ((nI kn) &&& 31))), .int x3, .int x4, .int x5, .int x6, .int x7, .int x8, .int x9, .int x10, .int x11, .int x12])), (aa, .inl (cy 1, 8, .inl (upd fa ac (nI kn))))] := hD.sub [0, 1] (by decide) rfl
    refine W.widen (k := 0) (n := 0) (by omega) (by omega) ?_
    exact W.zret hx hb hr rfl (fun t ht hW => ⟨⟨_, ((ac + 1), (x2 ||| ((1 : Int32) <<< ((nI kn) &&& 31))), (upd fa ac (nI kn))), rfl, Or.inl ⟨rfl, hno, rfl, fp_seg_up hsg (by rw [hac.1]; omega), fp_bits_add hbt hkn⟩, by rw [ht]; exact hP9, hD9⟩, hS.F ht⟩) hS.2.2 dX3_addAct_55
  · have hyes : nI kn ∈ al := Decidable.byContradiction (fun q9 => c17 (if_neg (fun q8 => q9 ((hbt kn hkn).mp q8))))
    refine lv_iconst (v := 0) hx hb dX3_addAct_20 (by decide +kernel) ?_
    have hP9 : va_P D vwCl [(r0, .inr (4, [.ref aa, .int (nI ac), .int x2, .int x3, .int x4, .int x5, .int x6, .int x7, .int x8, .int x9, .int x10, .int x11, .int x12])), (aa, .inl (cy 1, 8, .inl fa))] H := hP.sub [0, 1] rfl
    have hD9 : va_D A [(r0, .inr (4, [.ref aa, .int (nI ac), .int x2, .int x3, .int x4, .int x5, .int x6, .int x7, .int x8, .int x9, .int x10, .int x11, .int x12])), (aa, .inl (cy 1, 8, .inl fa))] := hD.sub [0, 1] (by decide) rfl
    refine W.widen (k := 0) (n := 0) (by omega) (by omega) ?_
    exact W.zret hx hb hr rfl (fun t ht hW => ⟨⟨_, (ac, x2, fa), rfl, Or.inr ⟨rfl, hyes, rfl, rfl, rfl⟩, by rw [ht]; exact hP9, hD9⟩, hS.F ht⟩) hS.2.2 dX3_addAct_21
