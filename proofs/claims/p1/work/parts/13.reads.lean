set_option maxHeartbeats 4000000 in
set_option maxRecDepth 100000 in
theorem c_Bytes_length (l : Launch) (D : va_G) (cy : Nat → ClassId) (e : Nat → Nat) (h0 : Nat) (lim : Int32) (rm : Nat) (len : Int32)  : Met l yX0_length wsX0_length ({ frames := 0, cells := 0, slots := 0, locals := 0 }) (va_Pc [.ref h0] (pu_B D cy e [(h0, .inr (1, [.int lim, .ref rm, .int len]))])) (va_Qi (fun (r : Int32) (_ : Unit) => r = len) (fun _ _ => True) (fun _ => False)) 0 0 (fun _ => False) := by
  refine Met.ofW (cc := cX0_length) (maxL := 1) (ret := (some .int)) (by decide) rfl ?_
  intro p ev s m args below meth c s₁ B hml hv
  obtain ⟨rfl, hP, hK, hG⟩ := hv
  have hx := B.exec
  have hb := B.bytes
  have hr := B.returns
  have hts := atoms_spec (ws := wsX0_length) B.pre
  have hown : s.vm.findClass RX0 = some m.cls := findClass_of_methodNamed B.named
  have hlocks := B.notSynchronized
  have hS : va_S (fun _ => False) s.heap s.heap [] := va_S.rf
  have hP : va_P D vwCl [(h0, .inr (1, [.int lim, .ref rm, .int len]))] s.heap := hP
  have iX0 : ∀ w ∈ wsX00, w ∈ wsX0_length := fun w h => List.mem_cons_of_mem _ (List.mem_append_right _ h)
  have hl := lv_entry ([.ref h0]) (n := 1) (Nat.le_of_ble_eq_true rfl)
  rw [lg_entry_eq]
  generalize (lg_sl ([.ref h0]) ++ List.replicate (1 - (lg_sl ([.ref h0])).length) Slot.unset).toArray = ls at hl ⊢
  have hl : lv_has ls 1 [(0, .ref h0)] := hl
  refine lv_aload_n hx hb dX0_length_0 rfl (lv_at hl 0 rfl) ?_
  refine va_get (D := D) (ci := 1) (v := .int len) (C := RX0) (T := TX0) (N := 3) hx hb hts iX0 hown hK hP 0 rfl rfl 2 (by decide) (hts (.fieldLink RX0 19 "InterlockTables$Bytes" "length" "I") (by decide +kernel)) (fun _ h9 => h9) rfl dX0_length_1 ?_
  exact W.iret hx hb hr (fun t ht hW => ⟨⟨_, (), rfl, rfl, trivial⟩, hS.F ht⟩) hS.2.2 dX0_length_4

set_option maxHeartbeats 4000000 in
set_option maxRecDepth 100000 in
theorem c_Bytes_at (l : Launch) (D : va_G) (cy : Nat → ClassId) (e : Nat → Nat) (h0 : Nat) (lim : Int32) (rm : Nat) (len : Nat) (n : Nat) (f : Nat → Int32) (i : Int32) (hle : len ≤ n) (hn : n < 2 ^ 31) : Met l yX0_at wsX0_at ({ frames := 0, cells := 0, slots := 0, locals := 0 }) (va_Pc [.ref h0, .int i] (pu_B D cy e [(h0, .inr (1, [.int lim, .ref rm, .int (nI len)])), (rm, .inl (cy 0, n, .inl f))])) (va_Qi (fun (r : Int32) (_ : Unit) => r = if i < 0 ∨ ¬ i < nI len then -1 else f i.toNatClampNeg) (fun _ _ => True) (fun _ => False)) 0 0 (fun _ => False) := by
  refine Met.ofW (cc := cX0_at) (maxL := 2) (ret := (some .int)) (by decide) rfl ?_
  intro p ev s m args below meth c s₁ B hml hv
  obtain ⟨rfl, hP, hK, hG⟩ := hv
  have hx := B.exec
  have hb := B.bytes
  have hr := B.returns
  have hts := atoms_spec (ws := wsX0_at) B.pre
  have hown : s.vm.findClass RX0 = some m.cls := findClass_of_methodNamed B.named
  have hlocks := B.notSynchronized
  have hS : va_S (fun _ => False) s.heap s.heap [] := va_S.rf
  have hP : va_P D vwCl [(h0, .inr (1, [.int lim, .ref rm, .int (nI len)])), (rm, .inl (cy 0, n, .inl f))] s.heap := hP
  have iX0 : ∀ w ∈ wsX00, w ∈ wsX0_at := fun w h => List.mem_cons_of_mem _ (List.mem_append_right _ h)
  have hl := lv_entry ([.ref h0, .int i]) (n := 2) (Nat.le_of_ble_eq_true rfl)
  rw [lg_entry_eq]
  generalize (lg_sl ([.ref h0, .int i]) ++ List.replicate (2 - (lg_sl ([.ref h0, .int i])).length) Slot.unset).toArray = ls at hl ⊢
  have hl : lv_has ls 2 [(0, .ref h0), (1, .int i)] := hl
  refine lv_iload_n hx hb dX0_at_0 rfl (lv_at hl 1 rfl) ?_
  refine lv_if_lt (tgt := 12) hx hb dX0_at_1 (by decide) (fun c1 => ?_) (fun c1 => ?_)
  · refine lv_iconst (v := -1) hx hb dX0_at_12 (by decide +kernel) ?_
    refine lv_goto (tgt := 22) hx hb dX0_at_13 (by decide) ?_
    exact W.iret hx hb hr (fun t ht hW => ⟨⟨_, (), rfl, by simp [c1], trivial⟩, hS.F ht⟩) hS.2.2 dX0_at_22
  · refine lv_iload_n hx hb dX0_at_4 rfl (lv_at hl 1 rfl) ?_
    refine lv_aload_n hx hb dX0_at_5 rfl (lv_at hl 0 rfl) ?_
    refine va_get (D := D) (ci := 1) (v := .int (nI len)) (C := RX0) (T := TX0) (N := 3) hx hb hts iX0 hown hK hP 0 rfl rfl 2 (by decide) (hts (.fieldLink RX0 19 "InterlockTables$Bytes" "length" "I") (by decide +kernel)) (fun _ h9 => h9) rfl dX0_at_6 ?_
    refine lv_icmp_lt (tgt := 16) hx hb dX0_at_9 (by decide) (fun c9 => ?_) (fun c9 => ?_)
    · refine lv_aload_n hx hb dX0_at_16 rfl (lv_at hl 0 rfl) ?_
      refine va_get (D := D) (ci := 1) (v := .ref rm) (C := RX0) (T := TX0) (N := 3) hx hb hts iX0 hown hK hP 0 rfl rfl 1 (by decide) (hts (.fieldLink RX0 15 "InterlockTables$Bytes" "room" "[B") (by decide +kernel)) (fun _ h9 => h9) rfl dX0_at_17 ?_
      refine lv_iload_n hx hb dX0_at_20 rfl (lv_at hl 1 rfl) ?_
      refine va_bald hx hb hK hP 1 0 rfl rfl (pk_inlt c1 c9 hle hn) dX0_at_21 ?_
      exact W.iret hx hb hr (fun t ht hW => ⟨⟨_, (), rfl, by simp [c1, c9], trivial⟩, hS.F ht⟩) hS.2.2 dX0_at_22
    · refine lv_iconst (v := -1) hx hb dX0_at_12 (by decide +kernel) ?_
      refine lv_goto (tgt := 22) hx hb dX0_at_13 (by decide) ?_
      exact W.iret hx hb hr (fun t ht hW => ⟨⟨_, (), rfl, by simp [c1, c9], trivial⟩, hS.F ht⟩) hS.2.2 dX0_at_22

set_option maxHeartbeats 4000000 in
set_option maxRecDepth 100000 in
theorem c_Bytes_empty (l : Launch) (D : va_G) (cy : Nat → ClassId) (e : Nat → Nat) (h0 : Nat) (lim : Int32) (rm : Nat) (len : Int32) (sz : Nat)  : Met l yX0_empty wsX0_empty ({ frames := 0, cells := 0, slots := 0, locals := 0 }) (va_Pc [.ref h0] (mt_B D cy e [(h0, .inr (1, [.int lim, .ref rm, .int len]))] sz)) (va_Qv (fun (_ : Unit) => True) (mt_Q D (fun (_ : Unit) => [(h0, .inr (1, [.int lim, .ref rm, .int (nI 0)]))]) (va_A [(h0, .inr (1, [.int lim, .ref rm, .int len]))] sz)) (va_A [(h0, .inr (1, [.int lim, .ref rm, .int len]))] sz)) (0) (0) (va_A [(h0, .inr (1, [.int lim, .ref rm, .int len]))] sz) := by
  refine Met.ofW (cc := cX0_empty) (maxL := 1) (ret := none) (by decide) rfl ?_
  intro p ev s m args below meth c s₁ B hml hv
  obtain ⟨rfl, hsz, hP, hK, hD0, hG⟩ := hv
  have hx := B.exec
  have hb := B.bytes
  have hr := B.returns
  have hts := atoms_spec (ws := wsX0_empty) B.pre
  have hown : s.vm.findClass RX0 = some m.cls := findClass_of_methodNamed B.named
  have hlocks := B.notSynchronized
  subst hsz
  have hD := hD0.self (sz := s.heap.size)
  generalize hAe : va_A [(h0, .inr (1, [.int lim, .ref rm, .int len]))] s.heap.size = A at hD hG ⊢
  have hA : ∀ q : Nat, s.heap.size ≤ q → A q := fun q h => by rw [← hAe]; exact Or.inr h
  have hS : va_S A s.heap s.heap [] := va_S.rf
  have hP : va_P D vwCl [(h0, .inr (1, [.int lim, .ref rm, .int len]))] s.heap := hP
  have iX0 : ∀ w ∈ wsX00, w ∈ wsX0_empty := fun w h => List.mem_cons_of_mem _ (List.mem_append_right _ h)
  have hl := lv_entry ([.ref h0]) (n := 1) (Nat.le_of_ble_eq_true rfl)
  rw [lg_entry_eq]
  generalize (lg_sl ([.ref h0]) ++ List.replicate (1 - (lg_sl ([.ref h0])).length) Slot.unset).toArray = ls at hl ⊢
  have hl : lv_has ls 1 [(0, .ref h0)] := hl
  refine lv_aload_n hx hb dX0_empty_0 rfl (lv_at hl 0 rfl) ?_
  refine lv_iconst (v := 0) hx hb dX0_empty_1 (by decide +kernel) ?_
  refine lv_topi (fun x_1 ex_1 => ?_)
  obtain rfl : x_1 = nI 0 := by rw [ex_1]; exact nI_0.symm
  refine va_put (D := D) (ci := 1) (v := .int (nI 0)) (ty := .int) (C := RX0) (T := TX0) (N := 3) hx hb hts iX0 tyX0 tyX0_ok nmX0 hown hK hP hD hS 0 rfl rfl 2 (by decide) (hts (.fieldLink RX0 19 "InterlockTables$Bytes" "length" "I") (by decide +kernel)) (fun _ h9 => h9) rfl (by decide +kernel) rfl rfl (Nat.le_of_ble_eq_true rfl) dX0_empty_2 (fun H locs hP hD hS => ?_)
  have hP : va_P D vwCl [(h0, .inr (1, [.int lim, .ref rm, .int (nI 0)]))] H := hP
  have hD : va_D A [(h0, .inr (1, [.int lim, .ref rm, .int (nI 0)]))] := hD
  have hP9 : va_P D vwCl [(h0, .inr (1, [.int lim, .ref rm, .int (nI 0)]))] H := hP.sub [0] rfl
  have hD9 : va_D A [(h0, .inr (1, [.int lim, .ref rm, .int (nI 0)]))] := hD.sub [0] (by decide) rfl
  refine W.widen (k := 0) (n := 0) (by omega) (by omega) ?_
  exact W.vret hx hb hr (fun t ht hW => ⟨⟨(), rfl, trivial, by rw [ht]; exact hP9, hD9⟩, hS.F ht⟩) hS.2.2 dX0_empty_5

set_option maxHeartbeats 4000000 in
set_option maxRecDepth 100000 in
theorem c_Expr_size (l : Launch) (D : va_G) (cy : Nat → ClassId) (e : Nat → Nat) (h0 : Nat) (cd : Nat) (sz0 : Int32) (st : Nat)  : Met l yX1_size wsX1_size ({ frames := 0, cells := 0, slots := 0, locals := 0 }) (va_Pc [.ref h0] (pu_B D cy e [(h0, .inr (2, [.ref cd, .int sz0, .ref st]))])) (va_Qi (fun (r : Int32) (_ : Unit) => r = sz0) (fun _ _ => True) (fun _ => False)) 0 0 (fun _ => False) := by
  refine Met.ofW (cc := cX1_size) (maxL := 1) (ret := (some .int)) (by decide) rfl ?_
  intro p ev s m args below meth c s₁ B hml hv
  obtain ⟨rfl, hP, hK, hG⟩ := hv
  have hx := B.exec
  have hb := B.bytes
  have hr := B.returns
  have hts := atoms_spec (ws := wsX1_size) B.pre
  have hown : s.vm.findClass RX1 = some m.cls := findClass_of_methodNamed B.named
  have hlocks := B.notSynchronized
  have hS : va_S (fun _ => False) s.heap s.heap [] := va_S.rf
  have hP : va_P D vwCl [(h0, .inr (2, [.ref cd, .int sz0, .ref st]))] s.heap := hP
  have iX1 : ∀ w ∈ wsX10, w ∈ wsX1_size := fun w h => List.mem_cons_of_mem _ (List.mem_append_right _ h)
  have hl := lv_entry ([.ref h0]) (n := 1) (Nat.le_of_ble_eq_true rfl)
  rw [lg_entry_eq]
  generalize (lg_sl ([.ref h0]) ++ List.replicate (1 - (lg_sl ([.ref h0])).length) Slot.unset).toArray = ls at hl ⊢
  have hl : lv_has ls 1 [(0, .ref h0)] := hl
  refine lv_aload_n hx hb dX1_size_0 rfl (lv_at hl 0 rfl) ?_
  refine va_get (D := D) (ci := 2) (v := .int sz0) (C := RX1) (T := TX1) (N := 3) hx hb hts iX1 hown hK hP 0 rfl rfl 1 (by decide) (hts (.fieldLink RX1 25 "InterlockTables$Expressions" "size" "I") (by decide +kernel)) (fun _ h9 => h9) rfl dX1_size_1 ?_
  exact W.iret hx hb hr (fun t ht hW => ⟨⟨_, (), rfl, rfl, trivial⟩, hS.F ht⟩) hS.2.2 dX1_size_4

set_option maxHeartbeats 4000000 in
set_option maxRecDepth 100000 in
theorem c_AL_size (l : Launch) (D : va_G) (cy : Nat → ClassId) (e : Nat → Nat) (h0 : Nat) (mod : Int32) (el : Value) (sz0 : Int32)  : Met l yJx4a65c_size_8abf5 wsJx4a65c_size_8abf5 ({ frames := 0, cells := 0, slots := 0, locals := 0 }) (va_Pc [.ref h0] (pu_B D cy e [(h0, .inr (0, [.int mod, el, .int sz0]))])) (va_Qi (fun (r : Int32) (_ : Unit) => r = sz0) (fun _ _ => True) (fun _ => False)) 0 0 (fun _ => False) := by
  refine Met.ofW (cc := cJx4a65c_size_8abf5) (maxL := 1) (ret := (some .int)) (by decide) rfl ?_
  intro p ev s m args below meth c s₁ B hml hv
  obtain ⟨rfl, hP, hK, hG⟩ := hv
  have hx := B.exec
  have hb := B.bytes
  have hr := B.returns
  have hts := atoms_spec (ws := wsJx4a65c_size_8abf5) B.pre
  have hown : s.vm.findClass RJx4a65c = some m.cls := findClass_of_methodNamed B.named
  have hlocks := B.notSynchronized
  have hS : va_S (fun _ => False) s.heap s.heap [] := va_S.rf
  have hP : va_P D vwCl [(h0, .inr (0, [.int mod, el, .int sz0]))] s.heap := hP
  have iJx4a65c : ∀ w ∈ wsJx4a65c0, w ∈ wsJx4a65c_size_8abf5 := fun w h => List.mem_cons_of_mem _ (List.mem_append_right _ h)
  have hl := lv_entry ([.ref h0]) (n := 1) (Nat.le_of_ble_eq_true rfl)
  rw [lg_entry_eq]
  generalize (lg_sl ([.ref h0]) ++ List.replicate (1 - (lg_sl ([.ref h0])).length) Slot.unset).toArray = ls at hl ⊢
  have hl : lv_has ls 1 [(0, .ref h0)] := hl
  refine lv_aload_n hx hb dJx4a65c_size_8abf5_0 rfl (lv_at hl 0 rfl) ?_
  refine va_get (D := D) (ci := 0) (v := .int sz0) (C := RJx4a65c) (T := TJx4a65c) (N := 3) hx hb hts iJx4a65c hown hK hP 0 rfl rfl 2 (by decide) (hts (.fieldLink RJx4a65c 48 "java/util/ArrayList" "size" "I") (by decide +kernel)) (fun _ h9 => h9) rfl dJx4a65c_size_8abf5_1 ?_
  exact W.iret hx hb hr (fun t ht hW => ⟨⟨_, (), rfl, rfl, trivial⟩, hS.F ht⟩) hS.2.2 dJx4a65c_size_8abf5_4

set_option maxHeartbeats 4000000 in
set_option maxRecDepth 100000 in
theorem c_Table_size (l : Launch) (D : va_G) (cy : Nat → ClassId) (e : Nat → Nat) (h0 : Nat) (ro : Nat) (xp : Nat) (wr : Value) (sv : Int32) (mod : Int32) (el : Value) (sz0 : Int32)  : Met l yX5_size wsX5_size ({ frames := 1, cells := 0, slots := 0, locals := 20 }) (va_Pc [.ref h0] (pu_B D cy e [(h0, .inr (6, [.ref ro, .ref xp, wr, .int sv])), (ro, .inr (0, [.int mod, el, .int sz0]))])) (va_Qi (fun (r : Int32) (_ : Unit) => r = sz0) (fun _ _ => True) (fun _ => False)) 0 0 (fun _ => False) := by
  refine Met.ofW (cc := cX5_size) (maxL := 1) (ret := (some .int)) (by decide) rfl ?_
  intro p ev s m args below meth c s₁ B hml hv
  obtain ⟨rfl, hP, hK, hG⟩ := hv
  have hx := B.exec
  have hb := B.bytes
  have hr := B.returns
  have hts := atoms_spec (ws := wsX5_size) B.pre
  have hown : s.vm.findClass RX5 = some m.cls := findClass_of_methodNamed B.named
  have hlocks := B.notSynchronized
  have hS : va_S (fun _ => False) s.heap s.heap [] := va_S.rf
  have hP : va_P D vwCl [(h0, .inr (6, [.ref ro, .ref xp, wr, .int sv])), (ro, .inr (0, [.int mod, el, .int sz0]))] s.heap := hP
  have iX5 : ∀ w ∈ wsX50, w ∈ wsX5_size := fun w h => List.mem_cons_of_mem _ (List.mem_append_left _ (List.mem_append_right _ h))
  have iJx4a65c : ∀ w ∈ wsJx4a65c0, w ∈ wsX5_size := fun w h => List.mem_cons_of_mem _ (List.mem_append_right _ h)
  have hl := lv_entry ([.ref h0]) (n := 1) (Nat.le_of_ble_eq_true rfl)
  rw [lg_entry_eq]
  generalize (lg_sl ([.ref h0]) ++ List.replicate (1 - (lg_sl ([.ref h0])).length) Slot.unset).toArray = ls at hl ⊢
  have hl : lv_has ls 1 [(0, .ref h0)] := hl
  refine lv_aload_n hx hb dX5_size_0 rfl (lv_at hl 0 rfl) ?_
  refine va_get (D := D) (ci := 6) (v := .ref ro) (C := RX5) (T := TX5) (N := 4) hx hb hts iX5 hown hK hP 0 rfl rfl 0 (by decide) (hts (.fieldLink RX5 12 "InterlockTables$Table" "rows" "Ljava/util/ArrayList;") (by decide +kernel)) (fun _ h9 => h9) rfl dX5_size_1 ?_
  refine pu_calli (va_runV (As := []) (rest := []) ⟨hx, hb, hml, hown, hts⟩ (c_AL_size l D cy e ro mod el sz0 ) (cwV 0 hts gX5_size_Jx4a65c_size_8abf5 rfl rfl rfl (by decide +kernel) ⟨Nat.le_of_ble_eq_true rfl, Nat.le_of_ble_eq_true rfl⟩) (pu_preV hP hK hS hG [1] rfl (q := (RJx4a65c, TJx4a65c, 3)) (ci := 0) (q0 := 1) rfl rfl) rfl rfl hl.1 rfl (lv_room (Nat.le_of_ble_eq_true rfl)) dX5_size_4 ⟨(Nat.le_of_ble_eq_true rfl), (Nat.le_of_ble_eq_true rfl)⟩) hP hS (fun H locs hP hS => ?_)
  have hP : va_P D vwCl [(h0, .inr (6, [.ref ro, .ref xp, wr, .int sv])), (ro, .inr (0, [.int mod, el, .int sz0]))] H := hP
  exact W.iret hx hb hr (fun t ht hW => ⟨⟨_, (), rfl, rfl, trivial⟩, hS.F ht⟩) hS.2.2 dX5_size_7

set_option maxHeartbeats 4000000 in
set_option maxRecDepth 100000 in
/-- find: no rows, none -/
theorem c_Table_find0 (l : Launch) (D : va_G) (cy : Nat → ClassId) (e : Nat → Nat) (h0 : Nat) (ro : Nat) (xp : Nat) (wr : Value) (sv : Int32) (mod : Int32) (el : Value) (i : Int32)  : Met l yX5_find wsX5_find ({ frames := 1, cells := 0, slots := 0, locals := 20 }) (va_Pc [.ref h0, .int i] (pu_B D cy e [(h0, .inr (6, [.ref ro, .ref xp, wr, .int sv])), (ro, .inr (0, [.int mod, el, .int (nI 0)]))])) (va_Qq (fun (r : Option Nat) (_ : Unit) => r = none) (fun _ _ => True) (fun _ => False)) 0 0 (fun _ => False) := by
  refine Met.ofW (cc := cX5_find) (maxL := 2) (ret := (some (.object "InterlockTables$Row"))) (by decide) rfl ?_
  intro p ev s m args below meth c s₁ B hml hv
  obtain ⟨rfl, hP, hK, hG⟩ := hv
  have hx := B.exec
  have hb := B.bytes
  have hr := B.returns
  have hts := atoms_spec (ws := wsX5_find) B.pre
  have hown : s.vm.findClass RX5 = some m.cls := findClass_of_methodNamed B.named
  have hlocks := B.notSynchronized
  have hS : va_S (fun _ => False) s.heap s.heap [] := va_S.rf
  have hP : va_P D vwCl [(h0, .inr (6, [.ref ro, .ref xp, wr, .int sv])), (ro, .inr (0, [.int mod, el, .int (nI 0)]))] s.heap := hP
  have iX5 : ∀ w ∈ wsX50, w ∈ wsX5_find := fun w h => List.mem_cons_of_mem _ (List.mem_append_left _ (List.mem_append_right _ h))
  have iJx4a65c : ∀ w ∈ wsJx4a65c0, w ∈ wsX5_find := fun w h => List.mem_cons_of_mem _ (List.mem_append_right _ h)
  have hl := lv_entry ([.ref h0, .int i]) (n := 2) (Nat.le_of_ble_eq_true rfl)
  rw [lg_entry_eq]
  generalize (lg_sl ([.ref h0, .int i]) ++ List.replicate (2 - (lg_sl ([.ref h0, .int i])).length) Slot.unset).toArray = ls at hl ⊢
  have hl : lv_has ls 2 [(0, .ref h0), (1, .int i)] := hl
  refine lv_iload_n hx hb dX5_find_0 rfl (lv_at hl 1 rfl) ?_
  refine lv_iconst (v := 1) hx hb dX5_find_1 (by decide +kernel) ?_
  refine lv_icmp_lt (tgt := 16) hx hb dX5_find_2 (by decide) (fun c2 => ?_) (fun c2 => ?_)
  · refine lv_null hx hb dX5_find_16 ?_
    refine lv_goto (tgt := 33) hx hb dX5_find_17 (by decide) ?_
    exact W.aret hx hb hr (Or.inl ⟨_, rfl⟩) (Or.inl rfl) (fun t ht hW => ⟨⟨none, (), rfl, rfl, trivial⟩, hS.F ht⟩) hS.2.2 dX5_find_33
  · refine lv_iload_n hx hb dX5_find_5 rfl (lv_at hl 1 rfl) ?_
    refine lv_aload_n hx hb dX5_find_6 rfl (lv_at hl 0 rfl) ?_
    refine va_get (D := D) (ci := 6) (v := .ref ro) (C := RX5) (T := TX5) (N := 4) hx hb hts iX5 hown hK hP 0 rfl rfl 0 (by decide) (hts (.fieldLink RX5 12 "InterlockTables$Table" "rows" "Ljava/util/ArrayList;") (by decide +kernel)) (fun _ h9 => h9) rfl dX5_find_7 ?_
    refine pu_calli (va_runV (As := []) (rest := [.int i]) ⟨hx, hb, hml, hown, hts⟩ (c_AL_size l D cy e ro mod el (nI 0) ) (cwV 0 hts gX5_find_Jx4a65c_size_8abf5 rfl rfl rfl (by decide +kernel) ⟨Nat.le_of_ble_eq_true rfl, Nat.le_of_ble_eq_true rfl⟩) (pu_preV hP hK hS hG [1] rfl (q := (RJx4a65c, TJx4a65c, 3)) (ci := 0) (q0 := 1) rfl rfl) rfl rfl hl.1 rfl (lv_room (Nat.le_of_ble_eq_true rfl)) dX5_find_10 ⟨(Nat.le_of_ble_eq_true rfl), (Nat.le_of_ble_eq_true rfl)⟩) hP hS (fun H locs hP hS => ?_)
    have hP : va_P D vwCl [(h0, .inr (6, [.ref ro, .ref xp, wr, .int sv])), (ro, .inr (0, [.int mod, el, .int (nI 0)]))] H := hP
    refine lv_icmp_le (tgt := 20) hx hb dX5_find_13 (by decide) (fun c13 => absurd c13 (pk_n1 c2)) (fun _ => ?_)
    refine lv_null hx hb dX5_find_16 ?_
    refine lv_goto (tgt := 33) hx hb dX5_find_17 (by decide) ?_
    exact W.aret hx hb hr (Or.inl ⟨_, rfl⟩) (Or.inl rfl) (fun t ht hW => ⟨⟨none, (), rfl, rfl, trivial⟩, hS.F ht⟩) hS.2.2 dX5_find_33

set_option maxHeartbeats 4000000 in
set_option maxRecDepth 100000 in
theorem c_Table_letGoBy0 (l : Launch) (D : va_G) (cy : Nat → ClassId) (e : Nat → Nat) (h0 : Nat) (ro : Nat) (xp : Nat) (wr : Value) (sv : Int32) (mod : Int32) (el : Value) (i : Int32) (cn : Nat)  : Met l yX5_letGoBy wsX5_letGoBy ({ frames := 1, cells := 0, slots := 0, locals := 20 }) (va_Pc [.ref h0, .int i, .ref cn] (pu_B D cy e [(h0, .inr (6, [.ref ro, .ref xp, wr, .int sv])), (ro, .inr (0, [.int mod, el, .int (nI 0)]))])) (va_Qv (fun (_ : Unit) => True) (fun _ _ => True) (fun _ => False)) 0 0 (fun _ => False) := by
  refine Met.ofW (cc := cX5_letGoBy) (maxL := 5) (ret := none) (by decide) rfl ?_
  intro p ev s m args below meth c s₁ B hml hv
  obtain ⟨rfl, hP, hK, hG⟩ := hv
  have hx := B.exec
  have hb := B.bytes
  have hr := B.returns
  have hts := atoms_spec (ws := wsX5_letGoBy) B.pre
  have hown : s.vm.findClass RX5 = some m.cls := findClass_of_methodNamed B.named
  have hlocks := B.notSynchronized
  have hS : va_S (fun _ => False) s.heap s.heap [] := va_S.rf
  have hP : va_P D vwCl [(h0, .inr (6, [.ref ro, .ref xp, wr, .int sv])), (ro, .inr (0, [.int mod, el, .int (nI 0)]))] s.heap := hP
  have iX5 : ∀ w ∈ wsX50, w ∈ wsX5_letGoBy := fun w h => List.mem_cons_of_mem _ (List.mem_append_left _ (List.mem_append_left _ (List.mem_append_left _ (List.mem_append_right _ h))))
  have iJx4a65c : ∀ w ∈ wsJx4a65c0, w ∈ wsX5_letGoBy := fun w h => List.mem_cons_of_mem _ (List.mem_append_left _ (List.mem_append_left _ (List.mem_append_right _ h)))
  have iX3 : ∀ w ∈ wsX30, w ∈ wsX5_letGoBy := fun w h => List.mem_cons_of_mem _ (List.mem_append_left _ (List.mem_append_right _ h))
  have iX1 : ∀ w ∈ wsX10, w ∈ wsX5_letGoBy := fun w h => List.mem_cons_of_mem _ (List.mem_append_right _ h)
  have hl := lv_entry ([.ref h0, .int i, .ref cn]) (n := 5) (Nat.le_of_ble_eq_true rfl)
  rw [lg_entry_eq]
  generalize (lg_sl ([.ref h0, .int i, .ref cn]) ++ List.replicate (5 - (lg_sl ([.ref h0, .int i, .ref cn])).length) Slot.unset).toArray = ls at hl ⊢
  have hl : lv_has ls 5 [(0, .ref h0), (1, .int i), (2, .ref cn)] := hl
  refine lv_iload_n hx hb dX5_letGoBy_0 rfl (lv_at hl 1 rfl) ?_
  refine lv_iconst (v := 1) hx hb dX5_letGoBy_1 (by decide +kernel) ?_
  refine lv_icmp_ge (tgt := 6) hx hb dX5_letGoBy_2 (by decide) (fun c2 => ?_) (fun c2 => ?_)
  · refine lv_iconst (v := 0) hx hb dX5_letGoBy_6 (by decide +kernel) ?_
    refine lv_istore_n (lv' := [(3, .int 0), (0, .ref h0), (1, .int i), (2, .ref cn)]) hx hb dX5_letGoBy_7 rfl hl (by decide) rfl (fun ls hl => ?_)
    refine lv_iload_n hx hb dX5_letGoBy_8 rfl (lv_at hl 0 rfl) ?_
    refine lv_aload_n hx hb dX5_letGoBy_9 rfl (lv_at hl 1 rfl) ?_
    refine va_get (D := D) (ci := 6) (v := .ref ro) (C := RX5) (T := TX5) (N := 4) hx hb hts iX5 hown hK hP 0 rfl rfl 0 (by decide) (hts (.fieldLink RX5 12 "InterlockTables$Table" "rows" "Ljava/util/ArrayList;") (by decide +kernel)) (fun _ h9 => h9) rfl dX5_letGoBy_10 ?_
    refine pu_calli (va_runV (As := []) (rest := [.int 0]) ⟨hx, hb, hml, hown, hts⟩ (c_AL_size l D cy e ro mod el (nI 0) ) (cwV 0 hts gX5_letGoBy_Jx4a65c_size_8abf5 rfl rfl rfl (by decide +kernel) ⟨Nat.le_of_ble_eq_true rfl, Nat.le_of_ble_eq_true rfl⟩) (pu_preV hP hK hS hG [1] rfl (q := (RJx4a65c, TJx4a65c, 3)) (ci := 0) (q0 := 1) rfl rfl) rfl rfl hl.1 rfl (lv_room (Nat.le_of_ble_eq_true rfl)) dX5_letGoBy_13 ⟨(Nat.le_of_ble_eq_true rfl), (Nat.le_of_ble_eq_true rfl)⟩) hP hS (fun H locs hP hS => ?_)
    have hP : va_P D vwCl [(h0, .inr (6, [.ref ro, .ref xp, wr, .int sv])), (ro, .inr (0, [.int mod, el, .int (nI 0)]))] H := hP
    refine lv_icmp_ge (tgt := 51) hx hb dX5_letGoBy_16 (by decide) (fun _ => ?_) (fun c16 => absurd (by decide) c16)
    exact W.vret hx hb hr (fun t ht hW => ⟨⟨(), rfl, trivial, trivial⟩, hS.F ht⟩) hS.2.2 dX5_letGoBy_51
  · exact W.vret hx hb hr (fun t ht hW => ⟨⟨(), rfl, trivial, trivial⟩, hS.F ht⟩) hS.2.2 dX5_letGoBy_5

set_option maxHeartbeats 4000000 in
set_option maxRecDepth 100000 in
theorem c_Table_firstToBar0 (l : Launch) (D : va_G) (cy : Nat → ClassId) (e : Nat → Nat) (h0 : Nat) (ro : Nat) (xp : Nat) (wr : Value) (sv : Int32) (mod : Int32) (el : Value) (i : Int32) (cn : Nat)  : Met l yX5_firstToBar wsX5_firstToBar ({ frames := 1, cells := 0, slots := 0, locals := 20 }) (va_Pc [.ref h0, .int i, .ref cn] (pu_B D cy e [(h0, .inr (6, [.ref ro, .ref xp, wr, .int sv])), (ro, .inr (0, [.int mod, el, .int (nI 0)]))])) (va_Qi (fun (r : Int32) (_ : Unit) => r = 0) (fun _ _ => True) (fun _ => False)) 0 0 (fun _ => False) := by
  refine Met.ofW (cc := cX5_firstToBar) (maxL := 5) (ret := (some .int)) (by decide) rfl ?_
  intro p ev s m args below meth c s₁ B hml hv
  obtain ⟨rfl, hP, hK, hG⟩ := hv
  have hx := B.exec
  have hb := B.bytes
  have hr := B.returns
  have hts := atoms_spec (ws := wsX5_firstToBar) B.pre
  have hown : s.vm.findClass RX5 = some m.cls := findClass_of_methodNamed B.named
  have hlocks := B.notSynchronized
  have hS : va_S (fun _ => False) s.heap s.heap [] := va_S.rf
  have hP : va_P D vwCl [(h0, .inr (6, [.ref ro, .ref xp, wr, .int sv])), (ro, .inr (0, [.int mod, el, .int (nI 0)]))] s.heap := hP
  have iX5 : ∀ w ∈ wsX50, w ∈ wsX5_firstToBar := fun w h => List.mem_cons_of_mem _ (List.mem_append_left _ (List.mem_append_left _ (List.mem_append_left _ (List.mem_append_right _ h))))
  have iJx4a65c : ∀ w ∈ wsJx4a65c0, w ∈ wsX5_firstToBar := fun w h => List.mem_cons_of_mem _ (List.mem_append_left _ (List.mem_append_left _ (List.mem_append_right _ h)))
  have iX3 : ∀ w ∈ wsX30, w ∈ wsX5_firstToBar := fun w h => List.mem_cons_of_mem _ (List.mem_append_left _ (List.mem_append_right _ h))
  have iX1 : ∀ w ∈ wsX10, w ∈ wsX5_firstToBar := fun w h => List.mem_cons_of_mem _ (List.mem_append_right _ h)
  have hl := lv_entry ([.ref h0, .int i, .ref cn]) (n := 5) (Nat.le_of_ble_eq_true rfl)
  rw [lg_entry_eq]
  generalize (lg_sl ([.ref h0, .int i, .ref cn]) ++ List.replicate (5 - (lg_sl ([.ref h0, .int i, .ref cn])).length) Slot.unset).toArray = ls at hl ⊢
  have hl : lv_has ls 5 [(0, .ref h0), (1, .int i), (2, .ref cn)] := hl
  refine lv_iconst (v := 0) hx hb dX5_firstToBar_0 (by decide +kernel) ?_
  refine lv_istore_n (lv' := [(3, .int 0), (0, .ref h0), (1, .int i), (2, .ref cn)]) hx hb dX5_firstToBar_1 rfl hl (by decide) rfl (fun ls hl => ?_)
  refine lv_iload_n hx hb dX5_firstToBar_2 rfl (lv_at hl 0 rfl) ?_
  refine lv_aload_n hx hb dX5_firstToBar_3 rfl (lv_at hl 1 rfl) ?_
  refine va_get (D := D) (ci := 6) (v := .ref ro) (C := RX5) (T := TX5) (N := 4) hx hb hts iX5 hown hK hP 0 rfl rfl 0 (by decide) (hts (.fieldLink RX5 12 "InterlockTables$Table" "rows" "Ljava/util/ArrayList;") (by decide +kernel)) (fun _ h9 => h9) rfl dX5_firstToBar_4 ?_
  refine pu_calli (va_runV (As := []) (rest := [.int 0]) ⟨hx, hb, hml, hown, hts⟩ (c_AL_size l D cy e ro mod el (nI 0) ) (cwV 0 hts gX5_firstToBar_Jx4a65c_size_8abf5 rfl rfl rfl (by decide +kernel) ⟨Nat.le_of_ble_eq_true rfl, Nat.le_of_ble_eq_true rfl⟩) (pu_preV hP hK hS hG [1] rfl (q := (RJx4a65c, TJx4a65c, 3)) (ci := 0) (q0 := 1) rfl rfl) rfl rfl hl.1 rfl (lv_room (Nat.le_of_ble_eq_true rfl)) dX5_firstToBar_7 ⟨(Nat.le_of_ble_eq_true rfl), (Nat.le_of_ble_eq_true rfl)⟩) hP hS (fun H locs hP hS => ?_)
  have hP : va_P D vwCl [(h0, .inr (6, [.ref ro, .ref xp, wr, .int sv])), (ro, .inr (0, [.int mod, el, .int (nI 0)]))] H := hP
  refine lv_icmp_ge (tgt := 60) hx hb dX5_firstToBar_10 (by decide) (fun _ => ?_) (fun c10 => absurd (by decide) c10)
  refine lv_iconst (v := 0) hx hb dX5_firstToBar_60 (by decide +kernel) ?_
  exact W.iret hx hb hr (fun t ht hW => ⟨⟨_, (), rfl, rfl, trivial⟩, hS.F ht⟩) hS.2.2 dX5_firstToBar_61

set_option maxHeartbeats 4000000 in
set_option maxRecDepth 100000 in
theorem c_Table_pick0 (l : Launch) (D : va_G) (cy : Nat → ClassId) (e : Nat → Nat) (h0 : Nat) (ro : Nat) (xp : Nat) (wr : Value) (sv : Int32) (mod : Int32) (el : Value) (i : Int32) (ps : Int32)  : Met l yX5_pick wsX5_pick ({ frames := 1, cells := 0, slots := 0, locals := 20 }) (va_Pc [.ref h0, .int i, .int ps] (pu_B D cy e [(h0, .inr (6, [.ref ro, .ref xp, wr, .int sv])), (ro, .inr (0, [.int mod, el, .int (nI 0)]))])) (va_Qi (fun (r : Int32) (_ : Unit) => r = -1) (fun _ _ => True) (fun _ => False)) 0 0 (fun _ => False) := by
  refine Met.ofW (cc := cX5_pick) (maxL := 6) (ret := (some .int)) (by decide) rfl ?_
  intro p ev s m args below meth c s₁ B hml hv
  obtain ⟨rfl, hP, hK, hG⟩ := hv
  have hx := B.exec
  have hb := B.bytes
  have hr := B.returns
  have hts := atoms_spec (ws := wsX5_pick) B.pre
  have hown : s.vm.findClass RX5 = some m.cls := findClass_of_methodNamed B.named
  have hlocks := B.notSynchronized
  have hS : va_S (fun _ => False) s.heap s.heap [] := va_S.rf
  have hP : va_P D vwCl [(h0, .inr (6, [.ref ro, .ref xp, wr, .int sv])), (ro, .inr (0, [.int mod, el, .int (nI 0)]))] s.heap := hP
  have iX5 : ∀ w ∈ wsX50, w ∈ wsX5_pick := fun w h => List.mem_cons_of_mem _ (List.mem_append_left _ (List.mem_append_left _ (List.mem_append_right _ h)))
  have iX3 : ∀ w ∈ wsX30, w ∈ wsX5_pick := fun w h => List.mem_cons_of_mem _ (List.mem_append_left _ (List.mem_append_right _ h))
  have iJx4a65c : ∀ w ∈ wsJx4a65c0, w ∈ wsX5_pick := fun w h => List.mem_cons_of_mem _ (List.mem_append_right _ h)
  have hl := lv_entry ([.ref h0, .int i, .int ps]) (n := 6) (Nat.le_of_ble_eq_true rfl)
  rw [lg_entry_eq]
  generalize (lg_sl ([.ref h0, .int i, .int ps]) ++ List.replicate (6 - (lg_sl ([.ref h0, .int i, .int ps])).length) Slot.unset).toArray = ls at hl ⊢
  have hl : lv_has ls 6 [(0, .ref h0), (1, .int i), (2, .int ps)] := hl
  refine lv_iconst (v := 0) hx hb dX5_pick_0 (by decide +kernel) ?_
  refine lv_istore_n (lv' := [(3, .int 0), (0, .ref h0), (1, .int i), (2, .int ps)]) hx hb dX5_pick_1 rfl hl (by decide) rfl (fun ls hl => ?_)
  refine lv_iconst (v := 0) hx hb dX5_pick_2 (by decide +kernel) ?_
  refine lv_istore (lv' := [(4, .int 0), (3, .int 0), (0, .ref h0), (1, .int i), (2, .int ps)]) hx hb dX5_pick_3 hl (by decide) rfl (fun ls hl => ?_)
  refine lv_iload hx hb dX5_pick_5 (lv_at hl 0 rfl) ?_
  refine lv_aload_n hx hb dX5_pick_7 rfl (lv_at hl 2 rfl) ?_
  refine va_get (D := D) (ci := 6) (v := .ref ro) (C := RX5) (T := TX5) (N := 4) hx hb hts iX5 hown hK hP 0 rfl rfl 0 (by decide) (hts (.fieldLink RX5 12 "InterlockTables$Table" "rows" "Ljava/util/ArrayList;") (by decide +kernel)) (fun _ h9 => h9) rfl dX5_pick_8 ?_
  refine pu_calli (va_runV (As := []) (rest := [.int 0]) ⟨hx, hb, hml, hown, hts⟩ (c_AL_size l D cy e ro mod el (nI 0) ) (cwV 0 hts gX5_pick_Jx4a65c_size_8abf5 rfl rfl rfl (by decide +kernel) ⟨Nat.le_of_ble_eq_true rfl, Nat.le_of_ble_eq_true rfl⟩) (pu_preV hP hK hS hG [1] rfl (q := (RJx4a65c, TJx4a65c, 3)) (ci := 0) (q0 := 1) rfl rfl) rfl rfl hl.1 rfl (lv_room (Nat.le_of_ble_eq_true rfl)) dX5_pick_11 ⟨(Nat.le_of_ble_eq_true rfl), (Nat.le_of_ble_eq_true rfl)⟩) hP hS (fun H locs hP hS => ?_)
  have hP : va_P D vwCl [(h0, .inr (6, [.ref ro, .ref xp, wr, .int sv])), (ro, .inr (0, [.int mod, el, .int (nI 0)]))] H := hP
  refine lv_icmp_ge (tgt := 73) hx hb dX5_pick_14 (by decide) (fun _ => ?_) (fun c14 => absurd (by decide) c14)
  refine lv_iconst (v := -1) hx hb dX5_pick_73 (by decide +kernel) ?_
  exact W.iret hx hb hr (fun t ht hW => ⟨⟨_, (), rfl, rfl, trivial⟩, hS.F ht⟩) hS.2.2 dX5_pick_74

set_option maxHeartbeats 4000000 in
set_option maxRecDepth 100000 in
theorem c_Table_passedRow0 (l : Launch) (D : va_G) (cy : Nat → ClassId) (e : Nat → Nat) (h0 : Nat) (ro : Nat) (xp : Nat) (wr : Value) (sv : Int32) (mod : Int32) (el : Value) (i : Int32)  : Met l yX5_passedRow wsX5_passedRow ({ frames := 2, cells := 0, slots := 0, locals := 45 }) (va_Pc [.ref h0, .int i] (pu_B D cy e [(h0, .inr (6, [.ref ro, .ref xp, wr, .int sv])), (ro, .inr (0, [.int mod, el, .int (nI 0)]))])) (va_Qi (fun (r : Int32) (_ : Unit) => r = -1) (fun _ _ => True) (fun _ => False)) 0 0 (fun _ => False) := by
  refine Met.ofW (cc := cX5_passedRow) (maxL := 2) (ret := (some .int)) (by decide) rfl ?_
  intro p ev s m args below meth c s₁ B hml hv
  obtain ⟨rfl, hP, hK, hG⟩ := hv
  have hx := B.exec
  have hb := B.bytes
  have hr := B.returns
  have hts := atoms_spec (ws := wsX5_passedRow) B.pre
  have hown : s.vm.findClass RX5 = some m.cls := findClass_of_methodNamed B.named
  have hlocks := B.notSynchronized
  have hS : va_S (fun _ => False) s.heap s.heap [] := va_S.rf
  have hP : va_P D vwCl [(h0, .inr (6, [.ref ro, .ref xp, wr, .int sv])), (ro, .inr (0, [.int mod, el, .int (nI 0)]))] s.heap := hP
  have iX5 : ∀ w ∈ wsX50, w ∈ wsX5_passedRow := fun w h => List.mem_cons_of_mem _ (List.mem_append_left _ (List.mem_append_left _ (List.mem_append_right _ h)))
  have iX3 : ∀ w ∈ wsX30, w ∈ wsX5_passedRow := fun w h => List.mem_cons_of_mem _ (List.mem_append_left _ (List.mem_append_right _ h))
  have iJx4a65c : ∀ w ∈ wsJx4a65c0, w ∈ wsX5_passedRow := fun w h => List.mem_cons_of_mem _ (List.mem_append_right _ h)
  have hl := lv_entry ([.ref h0, .int i]) (n := 2) (Nat.le_of_ble_eq_true rfl)
  rw [lg_entry_eq]
  generalize (lg_sl ([.ref h0, .int i]) ++ List.replicate (2 - (lg_sl ([.ref h0, .int i])).length) Slot.unset).toArray = ls at hl ⊢
  have hl : lv_has ls 2 [(0, .ref h0), (1, .int i)] := hl
  refine lv_aload_n hx hb dX5_passedRow_0 rfl (lv_at hl 0 rfl) ?_
  refine lv_iload_n hx hb dX5_passedRow_1 rfl (lv_at hl 1 rfl) ?_
  refine lv_iconst (v := 1) hx hb dX5_passedRow_2 (by decide +kernel) ?_
  refine pu_calli (va_runV (As := [.int i, .int 1]) (rest := []) ⟨hx, hb, hml, hown, hts⟩ (c_Table_pick0 l D cy e h0 ro xp wr sv mod el i 1 ) (cwV 2 hts gX5_passedRow_X5_pick rfl rfl rfl (by decide +kernel) ⟨Nat.le_of_ble_eq_true rfl, Nat.le_of_ble_eq_true rfl⟩) (pu_preV hP hK hS hG [0, 1] rfl (q := (RX5, TX5, 4)) (ci := 6) (q0 := 0) rfl rfl) rfl rfl hl.1 rfl (lv_room (Nat.le_of_ble_eq_true rfl)) dX5_passedRow_3 ⟨(Nat.le_of_ble_eq_true rfl), (Nat.le_of_ble_eq_true rfl)⟩) hP hS (fun H locs hP hS => ?_)
  have hP : va_P D vwCl [(h0, .inr (6, [.ref ro, .ref xp, wr, .int sv])), (ro, .inr (0, [.int mod, el, .int (nI 0)]))] H := hP
  exact W.iret hx hb hr (fun t ht hW => ⟨⟨_, (), rfl, rfl, trivial⟩, hS.F ht⟩) hS.2.2 dX5_passedRow_6
