-- deps: 55 56 60 62
set_option maxHeartbeats 4000000 in
set_option maxRecDepth 100000 in
theorem c_Table_size (l : Launch) (D : va_G) (cy : Nat → ClassId) (e : Nat → Nat)  (tb : Nat) (ro : Nat) (xp : Nat) (wr : Value) (sv : Int32) (mod : Int32) (el : Value) (sc : Int32)  : Met l yX5_size wsX5_size ({ frames := 1, cells := 0, slots := 0, locals := 20 }) (va_Pc [.ref tb] (pu_B D cy e [(tb, .inr (6, [.ref ro, .ref xp, wr, .int sv])), (ro, .inr (0, [.int mod, el, .int sc]))])) (va_Qi (fun (r : Int32) (_ : Unit) => r = sc) (fun _ _ => True) (fun _ => False)) 0 0 (fun _ => False) := by
  refine Met.ofW (cc := cX5_size) (maxL := 1) (ret := (some .int)) (by decide) rfl ?_
  intro p ev s m args below meth c s₁ B hml hv
  obtain ⟨rfl, hP, hK, hG⟩ := hv
  have hx := B.exec
  have hb := B.bytes
  have hr := B.returns
  have hts := atoms_spec (ws := wsX5_size) B.pre
  have hown : s.vm.findClass RX5 = some m.cls := findClass_of_methodNamed B.named
  have hlocks := B.notSynchronized
  have hS : va_S (fun _ => False) s.heap s.heap [] := va_S.rf
  have hP : va_P D vwCl [(tb, .inr (6, [.ref ro, .ref xp, wr, .int sv])), (ro, .inr (0, [.int mod, el, .int sc]))] s.heap := hP
  have iX5 : ∀ w ∈ wsX50, w ∈ wsX5_size := fun w h => List.mem_cons_of_mem _ (List.mem_append_left _ (List.mem_append_right _ h))
  have iJx4a65c : ∀ w ∈ wsJx4a65c0, w ∈ wsX5_size := fun w h => List.mem_cons_of_mem _ (List.mem_append_right _ h)
  have hl := lv_entry ([.ref tb]) (n := 1) (Nat.le_of_ble_eq_true rfl)
  rw [lg_entry_eq]
  generalize (lg_sl ([.ref tb]) ++ List.replicate (1 - (lg_sl ([.ref tb])).length) Slot.unset).toArray = ls at hl ⊢
  have hl : lv_has ls 1 [(0, .ref tb)] := hl
  refine lv_aload_n hx hb dX5_size_0 rfl (lv_at hl 0 rfl) ?_
  refine va_get (D := D) (ci := 6) (v := .ref ro) (C := RX5) (T := TX5) (N := 4) hx hb hts iX5 hown hK hP 0 rfl rfl 0 (by decide) (hts (.fieldLink RX5 12 "InterlockTables$Table" "rows" "Ljava/util/ArrayList;") (by decide +kernel)) (fun _ h9 => h9) rfl dX5_size_1 ?_
  refine pu_calli (va_runV (As := []) (rest := []) ⟨hx, hb, hml, hown, hts⟩ (c_AL_size l D cy e ro mod el sc ) (cwV 0 hts gX5_size_Jx4a65c_size_8abf5 rfl rfl rfl (by decide +kernel) ⟨Nat.le_of_ble_eq_true rfl, Nat.le_of_ble_eq_true rfl⟩) (pu_preV hP hK hS hG [1] rfl (q := (RJx4a65c, TJx4a65c, 3)) (ci := 0) (q0 := 1) rfl rfl) rfl rfl hl.1 rfl (lv_room (Nat.le_of_ble_eq_true rfl)) dX5_size_4 ⟨(Nat.le_of_ble_eq_true rfl), (Nat.le_of_ble_eq_true rfl)⟩) hP hS (fun H locs hP hS => ?_)
  have hP : va_P D vwCl [(tb, .inr (6, [.ref ro, .ref xp, wr, .int sv])), (ro, .inr (0, [.int mod, el, .int sc]))] H := hP
  exact W.iret hx hb hr (fun t ht hW => ⟨⟨_, (), rfl, rfl, trivial⟩, hS.F ht⟩) hS.2.2 dX5_size_7

set_option maxHeartbeats 4000000 in
set_option maxRecDepth 100000 in
theorem c_Table_valueOf (l : Launch) (D : va_G) (cy : Nat → ClassId) (e : Nat → Nat)  (tb : Nat) (ro : Nat) (xp : Nat) (wr : Value) (sv : Int32) (cd : Nat) (sz0 : Nat) (st : Nat) (n1 : Nat) (fc : Nat → Int32) (g : Nat → Int64) (se : Nat) (n3 : Nat) (sf : Nat → Int64) (r0 : Nat) (aa : Nat) (x1 : Int32) (x2 : Int32) (x3 : Int32) (x4 : Int32) (x5 : Int32) (x6 : Int32) (x7 : Int32) (x8 : Int32) (x9 : Int32) (x10 : Int32) (x11 : Int32) (x12 : Int32) (sz : Nat) (hsz : sz0 ≤ n1) (hn1 : n1 < 65536) (hn3 : n3 < 65536) : Met l yX5_valueOf wsX5_valueOf ({ frames := 2, cells := 0, slots := 0, locals := 50 }) (va_Pc [.ref tb, .ref r0, .ref se] (mt_B D cy e [(tb, .inr (6, [.ref ro, .ref xp, wr, .int sv])), (xp, .inr (2, [.ref cd, .int (nI sz0), .ref st])), (cd, .inl (cy 0, n1, .inl fc)), (st, .inl (cy 2, 32, .inr (.inl g))), (se, .inl (cy 2, n3, .inr (.inl sf))), (r0, .inr (4, [.ref aa, .int x1, .int x2, .int x3, .int x4, .int x5, .int x6, .int x7, .int x8, .int x9, .int x10, .int x11, .int x12]))] sz)) (va_Ql (fun (r : Int64) (g2 : (Nat → Int64)) => True) (mt_Q D (fun g2 => [(tb, .inr (6, [.ref ro, .ref xp, wr, .int sv])), (xp, .inr (2, [.ref cd, .int (nI sz0), .ref st])), (cd, .inl (cy 0, n1, .inl fc)), (st, .inl (cy 2, 32, .inr (.inl g2))), (se, .inl (cy 2, n3, .inr (.inl sf))), (r0, .inr (4, [.ref aa, .int x1, .int x2, .int x3, .int x4, .int x5, .int x6, .int x7, .int x8, .int x9, .int x10, .int x11, .int x12]))]) (va_A [(tb, .inr (6, [.ref ro, .ref xp, wr, .int sv])), (xp, .inr (2, [.ref cd, .int (nI sz0), .ref st])), (cd, .inl (cy 0, n1, .inl fc)), (st, .inl (cy 2, 32, .inr (.inl g))), (se, .inl (cy 2, n3, .inr (.inl sf))), (r0, .inr (4, [.ref aa, .int x1, .int x2, .int x3, .int x4, .int x5, .int x6, .int x7, .int x8, .int x9, .int x10, .int x11, .int x12]))] sz)) (va_A [(tb, .inr (6, [.ref ro, .ref xp, wr, .int sv])), (xp, .inr (2, [.ref cd, .int (nI sz0), .ref st])), (cd, .inl (cy 0, n1, .inl fc)), (st, .inl (cy 2, 32, .inr (.inl g))), (se, .inl (cy 2, n3, .inr (.inl sf))), (r0, .inr (4, [.ref aa, .int x1, .int x2, .int x3, .int x4, .int x5, .int x6, .int x7, .int x8, .int x9, .int x10, .int x11, .int x12]))] sz)) (0) (0) (va_A [(tb, .inr (6, [.ref ro, .ref xp, wr, .int sv])), (xp, .inr (2, [.ref cd, .int (nI sz0), .ref st])), (cd, .inl (cy 0, n1, .inl fc)), (st, .inl (cy 2, 32, .inr (.inl g))), (se, .inl (cy 2, n3, .inr (.inl sf))), (r0, .inr (4, [.ref aa, .int x1, .int x2, .int x3, .int x4, .int x5, .int x6, .int x7, .int x8, .int x9, .int x10, .int x11, .int x12]))] sz) := by
  refine Met.ofW (cc := cX5_valueOf) (maxL := 3) (ret := (some .long)) (by decide) rfl ?_
  intro p ev s m args below meth c s₁ B hml hv
  obtain ⟨rfl, hsz, hP, hK, hD0, hG⟩ := hv
  have hx := B.exec
  have hb := B.bytes
  have hr := B.returns
  have hts := atoms_spec (ws := wsX5_valueOf) B.pre
  have hown : s.vm.findClass RX5 = some m.cls := findClass_of_methodNamed B.named
  have hlocks := B.notSynchronized
  subst hsz
  have hD := hD0.self (sz := s.heap.size)
  generalize hAe : va_A [(tb, .inr (6, [.ref ro, .ref xp, wr, .int sv])), (xp, .inr (2, [.ref cd, .int (nI sz0), .ref st])), (cd, .inl (cy 0, n1, .inl fc)), (st, .inl (cy 2, 32, .inr (.inl g))), (se, .inl (cy 2, n3, .inr (.inl sf))), (r0, .inr (4, [.ref aa, .int x1, .int x2, .int x3, .int x4, .int x5, .int x6, .int x7, .int x8, .int x9, .int x10, .int x11, .int x12]))] s.heap.size = A at hD hG ⊢
  have hA : ∀ q : Nat, s.heap.size ≤ q → A q := fun q h => by rw [← hAe]; exact Or.inr h
  have hS : va_S A s.heap s.heap [] := va_S.rf
  have hP : va_P D vwCl [(tb, .inr (6, [.ref ro, .ref xp, wr, .int sv])), (xp, .inr (2, [.ref cd, .int (nI sz0), .ref st])), (cd, .inl (cy 0, n1, .inl fc)), (st, .inl (cy 2, 32, .inr (.inl g))), (se, .inl (cy 2, n3, .inr (.inl sf))), (r0, .inr (4, [.ref aa, .int x1, .int x2, .int x3, .int x4, .int x5, .int x6, .int x7, .int x8, .int x9, .int x10, .int x11, .int x12]))] s.heap := hP
  have iX5 : ∀ w ∈ wsX50, w ∈ wsX5_valueOf := fun w h => List.mem_cons_of_mem _ (List.mem_append_left _ (List.mem_append_left _ (List.mem_append_right _ h)))
  have iX3 : ∀ w ∈ wsX30, w ∈ wsX5_valueOf := fun w h => List.mem_cons_of_mem _ (List.mem_append_left _ (List.mem_append_right _ h))
  have iX1 : ∀ w ∈ wsX10, w ∈ wsX5_valueOf := fun w h => List.mem_cons_of_mem _ (List.mem_append_right _ h)
  have hl := lv_entry ([.ref tb, .ref r0, .ref se]) (n := 3) (Nat.le_of_ble_eq_true rfl)
  rw [lg_entry_eq]
  generalize (lg_sl ([.ref tb, .ref r0, .ref se]) ++ List.replicate (3 - (lg_sl ([.ref tb, .ref r0, .ref se])).length) Slot.unset).toArray = ls at hl ⊢
  have hl : lv_has ls 3 [(0, .ref tb), (1, .ref r0), (2, .ref se)] := hl
  refine lv_aload_n hx hb dX5_valueOf_0 rfl (lv_at hl 0 rfl) ?_
  refine va_get (D := D) (ci := 6) (v := .ref xp) (C := RX5) (T := TX5) (N := 4) hx hb hts iX5 hown hK hP 0 rfl rfl 1 (by decide) (hts (.fieldLink RX5 23 "InterlockTables$Table" "expressions" "LInterlockTables$Expressions;") (by decide +kernel)) (fun _ h9 => h9) rfl dX5_valueOf_1 ?_
  refine lv_aload_n hx hb dX5_valueOf_4 rfl (lv_at hl 1 rfl) ?_
  refine va_getN (D := D) (ci := 4) (v := .int x4) (C := RX3) (T := TX3) (N := 13) hx hb hts iX3 hown hK hP 5 rfl rfl 4 (by decide) (gl_N.f hG.gN 11 rfl) (fun _ h9 => h9) rfl dX5_valueOf_5 ?_
  refine lv_aload_n hx hb dX5_valueOf_8 rfl (lv_at hl 1 rfl) ?_
  refine va_getN (D := D) (ci := 4) (v := .int x5) (C := RX3) (T := TX3) (N := 13) hx hb hts iX3 hown hK hP 5 rfl rfl 5 (by decide) (gl_N.f hG.gN 14 rfl) (fun _ h9 => h9) rfl dX5_valueOf_9 ?_
  refine lv_aload_n hx hb dX5_valueOf_12 rfl (lv_at hl 2 rfl) ?_
  refine mt_calll (wr := [(tb, .inr (6, [.ref ro, .ref xp, wr, .int sv])), (r0, .inr (4, [.ref aa, .int x1, .int x2, .int x3, .int x4, .int x5, .int x6, .int x7, .int x8, .int x9, .int x10, .int x11, .int x12]))]) (va_runV (As := [.int x4, .int x5, .ref se]) (rest := []) ⟨hx, hb, hml, hown, hts⟩ (c_Expr_valueOf l D cy e xp cd sz0 st n1 fc g se n3 sf x4 x5 s.heap.size hsz hn1 hn3) (cwV 3 hts gX5_valueOf_X1_valueOf rfl rfl rfl (by decide +kernel) ⟨Nat.le_of_ble_eq_true rfl, Nat.le_of_ble_eq_true rfl⟩) (mt_preV hP hD hK hS hA hG [1, 2, 3, 4] rfl (by decide) (q := (RX1, TX1, 3)) (ci := 2) (q0 := 1) rfl rfl) rfl rfl hl.1 rfl (lv_room (Nat.le_of_ble_eq_true rfl)) dX5_valueOf_13 ⟨(Nat.le_of_ble_eq_true rfl), (Nat.le_of_ble_eq_true rfl)⟩) hP hD hS hA [1, 2, 3, 4] [0, 5] rfl rfl (by decide) (by decide) (fun r13 u H locs hw hP hD hS => ?_)
  obtain ⟨g2_13, rfl⟩ : ∃ z, z = u := ⟨_, rfl⟩
  have hP : va_P D vwCl [(tb, .inr (6, [.ref ro, .ref xp, wr, .int sv])), (r0, .inr (4, [.ref aa, .int x1, .int x2, .int x3, .int x4, .int x5, .int x6, .int x7, .int x8, .int x9, .int x10, .int x11, .int x12])), (xp, .inr (2, [.ref cd, .int (nI sz0), .ref st])), (cd, .inl (cy 0, n1, .inl fc)), (st, .inl (cy 2, 32, .inr (.inl g2_13))), (se, .inl (cy 2, n3, .inr (.inl sf)))] H := hP
  have hD : va_D A [(tb, .inr (6, [.ref ro, .ref xp, wr, .int sv])), (r0, .inr (4, [.ref aa, .int x1, .int x2, .int x3, .int x4, .int x5, .int x6, .int x7, .int x8, .int x9, .int x10, .int x11, .int x12])), (xp, .inr (2, [.ref cd, .int (nI sz0), .ref st])), (cd, .inl (cy 0, n1, .inl fc)), (st, .inl (cy 2, 32, .inr (.inl g2_13))), (se, .inl (cy 2, n3, .inr (.inl sf)))] := hD
  replace hw : True := hw
  refine W.widen (k := 0) (n := 0) (by omega) (by omega) ?_
  have hP9 : va_P D vwCl [(tb, .inr (6, [.ref ro, .ref xp, wr, .int sv])), (xp, .inr (2, [.ref cd, .int (nI sz0), .ref st])), (cd, .inl (cy 0, n1, .inl fc)), (st, .inl (cy 2, 32, .inr (.inl g2_13))), (se, .inl (cy 2, n3, .inr (.inl sf))), (r0, .inr (4, [.ref aa, .int x1, .int x2, .int x3, .int x4, .int x5, .int x6, .int x7, .int x8, .int x9, .int x10, .int x11, .int x12]))] H := hP.sub [0, 2, 3, 4, 5, 1] rfl
  have hD9 : va_D A [(tb, .inr (6, [.ref ro, .ref xp, wr, .int sv])), (xp, .inr (2, [.ref cd, .int (nI sz0), .ref st])), (cd, .inl (cy 0, n1, .inl fc)), (st, .inl (cy 2, 32, .inr (.inl g2_13))), (se, .inl (cy 2, n3, .inr (.inl sf))), (r0, .inr (4, [.ref aa, .int x1, .int x2, .int x3, .int x4, .int x5, .int x6, .int x7, .int x8, .int x9, .int x10, .int x11, .int x12]))] := hD.sub [0, 2, 3, 4, 5, 1] (by decide) rfl
  refine W.widen (k := 0) (n := 0) (by omega) (by omega) ?_
  exact W.lret hx hb hr (fun t ht hW => ⟨⟨_, g2_13, rfl, trivial, by rw [ht]; exact hP9, hD9⟩, hS.F ht⟩) hS.2.2 dX5_valueOf_16

set_option maxHeartbeats 4000000 in
set_option maxRecDepth 100000 in
theorem c_Table_isOn (l : Launch) (D : va_G) (cy : Nat → ClassId) (e : Nat → Nat)  (tb : Nat) (ro : Nat) (xp : Nat) (wr : Value) (sv : Int32) (cd : Nat) (sz0 : Nat) (st : Nat) (n1 : Nat) (fc : Nat → Int32) (g : Nat → Int64) (se : Nat) (n3 : Nat) (sf : Nat → Int64) (r0 : Nat) (aa : Nat) (x1 : Int32) (x2 : Int32) (x3 : Int32) (x4 : Int32) (x5 : Int32) (x6 : Int32) (x7 : Int32) (x8 : Int32) (x9 : Int32) (x10 : Int32) (x11 : Int32) (x12 : Int32) (sz : Nat) (hsz : sz0 ≤ n1) (hn1 : n1 < 65536) (hn3 : n3 < 65536) : Met l yX5_isOn wsX5_isOn ({ frames := 3, cells := 0, slots := 0, locals := 72 }) (va_Pc [.ref tb, .ref r0, .ref se] (mt_B D cy e [(tb, .inr (6, [.ref ro, .ref xp, wr, .int sv])), (xp, .inr (2, [.ref cd, .int (nI sz0), .ref st])), (cd, .inl (cy 0, n1, .inl fc)), (st, .inl (cy 2, 32, .inr (.inl g))), (se, .inl (cy 2, n3, .inr (.inl sf))), (r0, .inr (4, [.ref aa, .int x1, .int x2, .int x3, .int x4, .int x5, .int x6, .int x7, .int x8, .int x9, .int x10, .int x11, .int x12]))] sz)) (va_Qi (fun (r : Int32) (g2 : (Nat → Int64)) => r = 0 ∨ r = 1) (mt_Q D (fun g2 => [(tb, .inr (6, [.ref ro, .ref xp, wr, .int sv])), (xp, .inr (2, [.ref cd, .int (nI sz0), .ref st])), (cd, .inl (cy 0, n1, .inl fc)), (st, .inl (cy 2, 32, .inr (.inl g2))), (se, .inl (cy 2, n3, .inr (.inl sf))), (r0, .inr (4, [.ref aa, .int x1, .int x2, .int x3, .int x4, .int x5, .int x6, .int x7, .int x8, .int x9, .int x10, .int x11, .int x12]))]) (va_A [(tb, .inr (6, [.ref ro, .ref xp, wr, .int sv])), (xp, .inr (2, [.ref cd, .int (nI sz0), .ref st])), (cd, .inl (cy 0, n1, .inl fc)), (st, .inl (cy 2, 32, .inr (.inl g))), (se, .inl (cy 2, n3, .inr (.inl sf))), (r0, .inr (4, [.ref aa, .int x1, .int x2, .int x3, .int x4, .int x5, .int x6, .int x7, .int x8, .int x9, .int x10, .int x11, .int x12]))] sz)) (va_A [(tb, .inr (6, [.ref ro, .ref xp, wr, .int sv])), (xp, .inr (2, [.ref cd, .int (nI sz0), .ref st])), (cd, .inl (cy 0, n1, .inl fc)), (st, .inl (cy 2, 32, .inr (.inl g))), (se, .inl (cy 2, n3, .inr (.inl sf))), (r0, .inr (4, [.ref aa, .int x1, .int x2, .int x3, .int x4, .int x5, .int x6, .int x7, .int x8, .int x9, .int x10, .int x11, .int x12]))] sz)) (0) (0) (va_A [(tb, .inr (6, [.ref ro, .ref xp, wr, .int sv])), (xp, .inr (2, [.ref cd, .int (nI sz0), .ref st])), (cd, .inl (cy 0, n1, .inl fc)), (st, .inl (cy 2, 32, .inr (.inl g))), (se, .inl (cy 2, n3, .inr (.inl sf))), (r0, .inr (4, [.ref aa, .int x1, .int x2, .int x3, .int x4, .int x5, .int x6, .int x7, .int x8, .int x9, .int x10, .int x11, .int x12]))] sz) := by
  refine Met.ofW (cc := cX5_isOn) (maxL := 3) (ret := (some .boolean)) (by decide) rfl ?_
  intro p ev s m args below meth c s₁ B hml hv
  obtain ⟨rfl, hsz, hP, hK, hD0, hG⟩ := hv
  have hx := B.exec
  have hb := B.bytes
  have hr := B.returns
  have hts := atoms_spec (ws := wsX5_isOn) B.pre
  have hown : s.vm.findClass RX5 = some m.cls := findClass_of_methodNamed B.named
  have hlocks := B.notSynchronized
  subst hsz
  have hD := hD0.self (sz := s.heap.size)
  generalize hAe : va_A [(tb, .inr (6, [.ref ro, .ref xp, wr, .int sv])), (xp, .inr (2, [.ref cd, .int (nI sz0), .ref st])), (cd, .inl (cy 0, n1, .inl fc)), (st, .inl (cy 2, 32, .inr (.inl g))), (se, .inl (cy 2, n3, .inr (.inl sf))), (r0, .inr (4, [.ref aa, .int x1, .int x2, .int x3, .int x4, .int x5, .int x6, .int x7, .int x8, .int x9, .int x10, .int x11, .int x12]))] s.heap.size = A at hD hG ⊢
  have hA : ∀ q : Nat, s.heap.size ≤ q → A q := fun q h => by rw [← hAe]; exact Or.inr h
  have hS : va_S A s.heap s.heap [] := va_S.rf
  have hP : va_P D vwCl [(tb, .inr (6, [.ref ro, .ref xp, wr, .int sv])), (xp, .inr (2, [.ref cd, .int (nI sz0), .ref st])), (cd, .inl (cy 0, n1, .inl fc)), (st, .inl (cy 2, 32, .inr (.inl g))), (se, .inl (cy 2, n3, .inr (.inl sf))), (r0, .inr (4, [.ref aa, .int x1, .int x2, .int x3, .int x4, .int x5, .int x6, .int x7, .int x8, .int x9, .int x10, .int x11, .int x12]))] s.heap := hP
  have iX5 : ∀ w ∈ wsX50, w ∈ wsX5_isOn := fun w h => List.mem_cons_of_mem _ (List.mem_append_left _ (List.mem_append_left _ (List.mem_append_right _ h)))
  have iX3 : ∀ w ∈ wsX30, w ∈ wsX5_isOn := fun w h => List.mem_cons_of_mem _ (List.mem_append_left _ (List.mem_append_right _ h))
  have iX1 : ∀ w ∈ wsX10, w ∈ wsX5_isOn := fun w h => List.mem_cons_of_mem _ (List.mem_append_right _ h)
  have hl := lv_entry ([.ref tb, .ref r0, .ref se]) (n := 3) (Nat.le_of_ble_eq_true rfl)
  rw [lg_entry_eq]
  generalize (lg_sl ([.ref tb, .ref r0, .ref se]) ++ List.replicate (3 - (lg_sl ([.ref tb, .ref r0, .ref se])).length) Slot.unset).toArray = ls at hl ⊢
  have hl : lv_has ls 3 [(0, .ref tb), (1, .ref r0), (2, .ref se)] := hl
  refine lv_aload_n hx hb dX5_isOn_0 rfl (lv_at hl 0 rfl) ?_
  refine lv_aload_n hx hb dX5_isOn_1 rfl (lv_at hl 1 rfl) ?_
  refine lv_aload_n hx hb dX5_isOn_2 rfl (lv_at hl 2 rfl) ?_
  refine mt_calll (wr := []) (va_runV (As := [.ref r0, .ref se]) (rest := []) ⟨hx, hb, hml, hown, hts⟩ (c_Table_valueOf l D cy e tb ro xp wr sv cd sz0 st n1 fc g se n3 sf r0 aa x1 x2 x3 x4 x5 x6 x7 x8 x9 x10 x11 x12 s.heap.size hsz hn1 hn3) (cwV 2 hts gX5_isOn_X5_valueOf rfl rfl rfl (by decide +kernel) ⟨Nat.le_of_ble_eq_true rfl, Nat.le_of_ble_eq_true rfl⟩) (mt_preV hP hD hK hS hA hG [0, 1, 2, 3, 4, 5] rfl (by decide) (q := (RX5, TX5, 4)) (ci := 6) (q0 := 0) rfl rfl) rfl rfl hl.1 rfl (lv_room (Nat.le_of_ble_eq_true rfl)) dX5_isOn_3 ⟨(Nat.le_of_ble_eq_true rfl), (Nat.le_of_ble_eq_true rfl)⟩) hP hD hS hA [0, 1, 2, 3, 4, 5] [] rfl rfl (by decide) (by decide) (fun r3 u H locs hw hP hD hS => ?_)
  obtain ⟨g2_3, rfl⟩ : ∃ z, z = u := ⟨_, rfl⟩
  have hP : va_P D vwCl [(tb, .inr (6, [.ref ro, .ref xp, wr, .int sv])), (xp, .inr (2, [.ref cd, .int (nI sz0), .ref st])), (cd, .inl (cy 0, n1, .inl fc)), (st, .inl (cy 2, 32, .inr (.inl g2_3))), (se, .inl (cy 2, n3, .inr (.inl sf))), (r0, .inr (4, [.ref aa, .int x1, .int x2, .int x3, .int x4, .int x5, .int x6, .int x7, .int x8, .int x9, .int x10, .int x11, .int x12]))] H := hP
  have hD : va_D A [(tb, .inr (6, [.ref ro, .ref xp, wr, .int sv])), (xp, .inr (2, [.ref cd, .int (nI sz0), .ref st])), (cd, .inl (cy 0, n1, .inl fc)), (st, .inl (cy 2, 32, .inr (.inl g2_3))), (se, .inl (cy 2, n3, .inr (.inl sf))), (r0, .inr (4, [.ref aa, .int x1, .int x2, .int x3, .int x4, .int x5, .int x6, .int x7, .int x8, .int x9, .int x10, .int x11, .int x12]))] := hD
  replace hw : True := hw
  refine W.widen (k := 0) (n := 0) (by omega) (by omega) ?_
  refine lv_lconst (v := 0) hx hb dX5_isOn_6 (by decide +kernel) ?_
  refine W.lcmp hx hb dX5_isOn_7 ?_
  refine lv_if_eq (tgt := 15) hx hb dX5_isOn_8 (by decide) (fun c8 => ?_) (fun c8 => ?_)
  · refine lv_iconst (v := 0) hx hb dX5_isOn_15 (by decide +kernel) ?_
    have hP9 : va_P D vwCl [(tb, .inr (6, [.ref ro, .ref xp, wr, .int sv])), (xp, .inr (2, [.ref cd, .int (nI sz0), .ref st])), (cd, .inl (cy 0, n1, .inl fc)), (st, .inl (cy 2, 32, .inr (.inl g2_3))), (se, .inl (cy 2, n3, .inr (.inl sf))), (r0, .inr (4, [.ref aa, .int x1, .int x2, .int x3, .int x4, .int x5, .int x6, .int x7, .int x8, .int x9, .int x10, .int x11, .int x12]))] H := hP.sub [0, 1, 2, 3, 4, 5] rfl
    have hD9 : va_D A [(tb, .inr (6, [.ref ro, .ref xp, wr, .int sv])), (xp, .inr (2, [.ref cd, .int (nI sz0), .ref st])), (cd, .inl (cy 0, n1, .inl fc)), (st, .inl (cy 2, 32, .inr (.inl g2_3))), (se, .inl (cy 2, n3, .inr (.inl sf))), (r0, .inr (4, [.ref aa, .int x1, .int x2, .int x3, .int x4, .int x5, .int x6, .int x7, .int x8, .int x9, .int x10, .int x11, .int x12]))] := hD.sub [0, 1, 2, 3, 4, 5] (by decide) rfl
    refine W.widen (k := 0) (n := 0) (by omega) (by omega) ?_
    exact W.zret hx hb hr rfl (fun t ht hW => ⟨⟨_, g2_3, rfl, by simp, by rw [ht]; exact hP9, hD9⟩, hS.F ht⟩) hS.2.2 dX5_isOn_16
  · refine lv_iconst (v := 1) hx hb dX5_isOn_11 (by decide +kernel) ?_
    refine lv_goto (tgt := 16) hx hb dX5_isOn_12 (by decide) ?_
    have hP9 : va_P D vwCl [(tb, .inr (6, [.ref ro, .ref xp, wr, .int sv])), (xp, .inr (2, [.ref cd, .int (nI sz0), .ref st])), (cd, .inl (cy 0, n1, .inl fc)), (st, .inl (cy 2, 32, .inr (.inl g2_3))), (se, .inl (cy 2, n3, .inr (.inl sf))), (r0, .inr (4, [.ref aa, .int x1, .int x2, .int x3, .int x4, .int x5, .int x6, .int x7, .int x8, .int x9, .int x10, .int x11, .int x12]))] H := hP.sub [0, 1, 2, 3, 4, 5] rfl
    have hD9 : va_D A [(tb, .inr (6, [.ref ro, .ref xp, wr, .int sv])), (xp, .inr (2, [.ref cd, .int (nI sz0), .ref st])), (cd, .inl (cy 0, n1, .inl fc)), (st, .inl (cy 2, 32, .inr (.inl g2_3))), (se, .inl (cy 2, n3, .inr (.inl sf))), (r0, .inr (4, [.ref aa, .int x1, .int x2, .int x3, .int x4, .int x5, .int x6, .int x7, .int x8, .int x9, .int x10, .int x11, .int x12]))] := hD.sub [0, 1, 2, 3, 4, 5] (by decide) rfl
    refine W.widen (k := 0) (n := 0) (by omega) (by omega) ?_
    exact W.zret hx hb hr rfl (fun t ht hW => ⟨⟨_, g2_3, rfl, by simp, by rw [ht]; exact hP9, hD9⟩, hS.F ht⟩) hS.2.2 dX5_isOn_16

set_option maxHeartbeats 4000000 in
set_option maxRecDepth 100000 in
theorem c_joinF (l : Launch) (D : va_G) (cy : Nat → ClassId) (e : Nat → Nat)  (w : Int32) (a : Int64) (b : Int64)  : Met l yX1_join wsX1_join ({ frames := 0, cells := 0, slots := 0, locals := 0 }) (va_Pc [.int w, .long a, .long b] (pu_B D cy e [])) (va_Ql (fun (r : Int64) (_ : Unit) => r = fp_jn w a b) (fun _ _ => True) (fun _ => False)) 0 0 (fun _ => False) := by
  refine Met.ofW (cc := cX1_join) (maxL := 5) (ret := (some .long)) (by decide) rfl ?_
  intro p ev s m args below meth c s₁ B hml hv
  obtain ⟨rfl, hP, hK, hG⟩ := hv
  have hx := B.exec
  have hb := B.bytes
  have hr := B.returns
  have hts := atoms_spec (ws := wsX1_join) B.pre
  have hown : s.vm.findClass RX1 = some m.cls := findClass_of_methodNamed B.named
  have hlocks := B.notSynchronized
  have hS : va_S (fun _ => False) s.heap s.heap [] := va_S.rf
  have hP : va_P D vwCl [] s.heap := hP
  have hl := lv_entry ([.int w, .long a, .long b]) (n := 5) (Nat.le_of_ble_eq_true rfl)
  rw [lg_entry_eq]
  generalize (lg_sl ([.int w, .long a, .long b]) ++ List.replicate (5 - (lg_sl ([.int w, .long a, .long b])).length) Slot.unset).toArray = ls at hl ⊢
  have hl : lv_has ls 5 [(0, .int w), (1, .long a), (3, .long b)] := hl
  refine lv_iload_n hx hb dX1_join_0 rfl (lv_at hl 0 rfl) ?_
  refine lv_bipush (v := 17) hx hb dX1_join_1 (by decide +kernel) ?_
  refine lv_icmp_ne (tgt := 12) hx hb dX1_join_3 (by decide) (fun c3 => ?_) (fun c3 => ?_)
  · refine lv_lload_n hx hb dX1_join_12 rfl (lv_at hl 1 rfl) ?_
    refine lv_lload_n hx hb dX1_join_13 rfl (lv_at hl 2 rfl) ?_
    refine lv_lor hx hb dX1_join_14 ?_
    exact W.lret hx hb hr (fun t ht hW => ⟨⟨_, (), rfl, by unfold fp_jn; rw [if_neg c3], trivial⟩, hS.F ht⟩) hS.2.2 dX1_join_15
  · refine lv_lload_n hx hb dX1_join_6 rfl (lv_at hl 1 rfl) ?_
    refine lv_lload_n hx hb dX1_join_7 rfl (lv_at hl 2 rfl) ?_
    refine lv_land hx hb dX1_join_8 ?_
    refine lv_goto (tgt := 15) hx hb dX1_join_9 (by decide) ?_
    exact W.lret hx hb hr (fun t ht hW => ⟨⟨_, (), rfl, by unfold fp_jn; rw [if_pos c3], trivial⟩, hS.F ht⟩) hS.2.2 dX1_join_15

set_option maxHeartbeats 4000000 in
set_option maxRecDepth 100000 in
/-- valueOf: the value of an expression -/
theorem c_Expr_valueOfF (l : Launch) (D : va_G) (cy : Nat → ClassId) (e : Nat → Nat)  (h0 : Nat) (cd : Nat) (sz0 : Nat) (st : Nat) (n : Nat) (f : Nat → Int32) (g : Nat → Int64) (se : Nat) (sf : Nat → Int64) (b : Nat) (cl : List Int32) (v : Int64) (sz : Nat) (hsz : sz0 ≤ n) (hn : n < 65536) (hsg : fp_seg f b cl) (hbm : b + cl.length ≤ sz0) (hv : ∀ g9, fp_bot (fp_mr sf cl (0, g9)) = v) : Met l yX1_valueOf wsX1_valueOf ({ frames := 1, cells := 0, slots := 0, locals := 24 }) (va_Pc [.ref h0, .int (nI b), .int (nI (b + cl.length)), .ref se] (mt_B D cy e [(h0, .inr (2, [.ref cd, .int (nI sz0), .ref st])), (cd, .inl (cy 0, n, .inl f)), (st, .inl (cy 2, 32, .inr (.inl g))), (se, .inl (cy 2, 16, .inr (.inl sf)))] sz)) (va_Ql (fun (r : Int64) (g2 : (Nat → Int64)) => r = v) (mt_Q D (fun g2 => [(h0, .inr (2, [.ref cd, .int (nI sz0), .ref st])), (cd, .inl (cy 0, n, .inl f)), (st, .inl (cy 2, 32, .inr (.inl g2))), (se, .inl (cy 2, 16, .inr (.inl sf)))]) (va_A [(h0, .inr (2, [.ref cd, .int (nI sz0), .ref st])), (cd, .inl (cy 0, n, .inl f)), (st, .inl (cy 2, 32, .inr (.inl g))), (se, .inl (cy 2, 16, .inr (.inl sf)))] sz)) (va_A [(h0, .inr (2, [.ref cd, .int (nI sz0), .ref st])), (cd, .inl (cy 0, n, .inl f)), (st, .inl (cy 2, 32, .inr (.inl g))), (se, .inl (cy 2, 16, .inr (.inl sf)))] sz)) (0) (0) (va_A [(h0, .inr (2, [.ref cd, .int (nI sz0), .ref st])), (cd, .inl (cy 0, n, .inl f)), (st, .inl (cy 2, 32, .inr (.inl g))), (se, .inl (cy 2, 16, .inr (.inl sf)))] sz) := by
  refine Met.ofW (cc := cX1_valueOf) (maxL := 7) (ret := (some .long)) (by decide) rfl ?_
  intro p ev s m args below meth c s₁ B hml hv
  obtain ⟨rfl, hsz, hP, hK, hD0, hG⟩ := hv
  have hx := B.exec
  have hb := B.bytes
  have hr := B.returns
  have hts := atoms_spec (ws := wsX1_valueOf) B.pre
  have hown : s.vm.findClass RX1 = some m.cls := findClass_of_methodNamed B.named
  have hlocks := B.notSynchronized
  subst hsz
  have hD := hD0.self (sz := s.heap.size)
  generalize hAe : va_A [(h0, .inr (2, [.ref cd, .int (nI sz0), .ref st])), (cd, .inl (cy 0, n, .inl f)), (st, .inl (cy 2, 32, .inr (.inl g))), (se, .inl (cy 2, 16, .inr (.inl sf)))] s.heap.size = A at hD hG ⊢
  have hA : ∀ q : Nat, s.heap.size ≤ q → A q := fun q h => by rw [← hAe]; exact Or.inr h
  have hS : va_S A s.heap s.heap [] := va_S.rf
  have hP : va_P D vwCl [(h0, .inr (2, [.ref cd, .int (nI sz0), .ref st])), (cd, .inl (cy 0, n, .inl f)), (st, .inl (cy 2, 32, .inr (.inl g))), (se, .inl (cy 2, 16, .inr (.inl sf)))] s.heap := hP
  have iX1 : ∀ w ∈ wsX10, w ∈ wsX1_valueOf := fun w h => List.mem_cons_of_mem _ (List.mem_append_right _ h)
  have hl := lv_entry ([.ref h0, .int (nI b), .int (nI (b + cl.length)), .ref se]) (n := 7) (Nat.le_of_ble_eq_true rfl)
  rw [lg_entry_eq]
  generalize (lg_sl ([.ref h0, .int (nI b), .int (nI (b + cl.length)), .ref se]) ++ List.replicate (7 - (lg_sl ([.ref h0, .int (nI b), .int (nI (b + cl.length)), .ref se])).length) Slot.unset).toArray = ls at hl ⊢
  have hl : lv_has ls 7 [(0, .ref h0), (1, .int (nI b)), (2, .int (nI (b + cl.length))), (3, .ref se)] := hl
  refine lv_iconst (v := 0) hx hb dX1_valueOf_0 (by decide +kernel) ?_
  refine lv_topi (fun x_1 ex_1 => ?_)
  obtain rfl : x_1 = nI 0 := by rw [ex_1]; exact nI_0.symm
  refine lv_istore (lv' := [(4, .int (nI 0)), (0, .ref h0), (1, .int (nI b)), (2, .int (nI (b + cl.length))), (3, .ref se)]) hx hb dX1_valueOf_1 hl (by decide) rfl (fun ls hl => ?_)
  refine lv_iload_n hx hb dX1_valueOf_3 rfl (lv_at hl 2 rfl) ?_
  refine lv_istore (lv' := [(5, .int (nI b)), (4, .int (nI 0)), (0, .ref h0), (1, .int (nI b)), (2, .int (nI (b + cl.length))), (3, .ref se)]) hx hb dX1_valueOf_4 hl (by decide) rfl (fun ls hl => ?_)
  refine lp_W (σ := Nat × Nat × (Nat → Int64)) (Wf := fun H locs ls => W p l ev _ s m _ below meth c H locs (0) (0) _ (F0 m 6 ls [])) (fun zz9 H locs ls => match zz9 with | (k, tp, gs) => va_P D vwCl [(h0, .inr (2, [.ref cd, .int (nI sz0), .ref st])), (cd, .inl (cy 0, n, .inl f)), (st, .inl (cy 2, 32, .inr (.inl gs))), (se, .inl (cy 2, 16, .inr (.inl sf)))] H ∧ va_D A [(h0, .inr (2, [.ref cd, .int (nI sz0), .ref st])), (cd, .inl (cy 0, n, .inl f)), (st, .inl (cy 2, 32, .inr (.inl gs))), (se, .inl (cy 2, 16, .inr (.inl sf)))] ∧ va_S A s.heap H locs ∧ lv_has ls 7 [(5, .int (nI (b + k))), (4, .int (nI tp)), (0, .ref h0), (1, .int (nI b)), (2, .int (nI (b + cl.length))), (3, .ref se)] ∧ (k ≤ cl.length ∧ tp ≤ 32 ∧ (tp, gs) = fp_mr sf (cl.take k) (0, g))) (fun zz9 => match zz9 with | (k, tp, gs) => cl.length - k) ?_ (0, 0, g) _ _ ls ⟨hP, hD, hS, lv_sub hl [0, 1, 2, 3, 4, 5] rfl, ⟨Nat.zero_le _, by decide, rfl⟩⟩
  intro zz9 H locs ls hI ih
  obtain ⟨k, tp, gs⟩ := zz9
  obtain ⟨hP, hD, hS, hl, hI⟩ := hI
  have ih6 := ih
  have hI6 := hI
  have hP : va_P D vwCl [(h0, .inr (2, [.ref cd, .int (nI sz0), .ref st])), (cd, .inl (cy 0, n, .inl f)), (st, .inl (cy 2, 32, .inr (.inl gs))), (se, .inl (cy 2, 16, .inr (.inl sf)))] H := hP
  have hD : va_D A [(h0, .inr (2, [.ref cd, .int (nI sz0), .ref st])), (cd, .inl (cy 0, n, .inl f)), (st, .inl (cy 2, 32, .inr (.inl gs))), (se, .inl (cy 2, 16, .inr (.inl sf)))] := hD
  have hl : lv_has ls 7 [(5, .int (nI (b + k))), (4, .int (nI tp)), (0, .ref h0), (1, .int (nI b)), (2, .int (nI (b + cl.length))), (3, .ref se)] := hl
  obtain ⟨hI1, hI2, hI3⟩ := hI
  refine lv_iload hx hb dX1_valueOf_6 (lv_at hl 0 rfl) ?_
  refine lv_iload_n hx hb dX1_valueOf_8 rfl (lv_at hl 4 rfl) ?_
  refine lv_icmp_ge (tgt := 145) hx hb dX1_valueOf_9 (by decide) (fun c9 => ?_) (fun c9 => ?_)
  · have hge : cl.length ≤ k := by have o9 := (nI_leI (a := b + cl.length) (b := b + k) (by omega) (by omega)).mp c9; omega
    refine lv_iload hx hb dX1_valueOf_145 (lv_at hl 1 rfl) ?_
    refine lv_if_le (tgt := 159) hx hb dX1_valueOf_147 (by decide) (fun c147 => ?_) (fun c147 => ?_)
    · have hz : ¬ 0 < tp := by have o9 := (nI_leI (a := tp) (b := 0) (by omega) (by decide)).mp c147; omega
      refine lv_lconst (v := 0) hx hb dX1_valueOf_159 (by decide +kernel) ?_
      have hP9 : va_P D vwCl [(h0, .inr (2, [.ref cd, .int (nI sz0), .ref st])), (cd, .inl (cy 0, n, .inl f)), (st, .inl (cy 2, 32, .inr (.inl gs))), (se, .inl (cy 2, 16, .inr (.inl sf)))] H := hP.sub [0, 1, 2, 3] rfl
      have hD9 : va_D A [(h0, .inr (2, [.ref cd, .int (nI sz0), .ref st])), (cd, .inl (cy 0, n, .inl f)), (st, .inl (cy 2, 32, .inr (.inl gs))), (se, .inl (cy 2, 16, .inr (.inl sf)))] := hD.sub [0, 1, 2, 3] (by decide) rfl
      refine W.widen (k := 0) (n := 0) (by omega) (by omega) ?_
      exact W.lret hx hb hr (fun t ht hW => ⟨⟨_, gs, rfl, (by rw [← hv g, ← List.take_of_length_le hge, ← hI3]; exact (if_neg hz).symm), by rw [ht]; exact hP9, hD9⟩, hS.F ht⟩) hS.2.2 dX1_valueOf_160
    · have hz : 0 < tp := pk_nle (a := tp) (b := 0) (by decide) c147
      refine lv_aload_n hx hb dX1_valueOf_150 rfl (lv_at hl 2 rfl) ?_
      refine va_get (D := D) (ci := 2) (v := .ref st) (C := RX1) (T := TX1) (N := 3) hx hb hts iX1 hown hK hP 0 rfl rfl 2 (by decide) (hts (.fieldLink RX1 9 "InterlockTables$Expressions" "stack" "[J") (by decide +kernel)) (fun _ h9 => h9) rfl dX1_valueOf_151 ?_
      refine lv_iconst (v := 0) hx hb dX1_valueOf_154 (by decide +kernel) ?_
      refine va_lald hx hb hK hP 2 2 rfl rfl (by unfold vp_in; decide) dX1_valueOf_155 ?_
      refine lv_topl (fun x_2 ex_2 => ?_)
      obtain rfl : x_2 = gs 0 := ex_2
      refine lv_goto (tgt := 160) hx hb dX1_valueOf_156 (by decide) ?_
      have hP9 : va_P D vwCl [(h0, .inr (2, [.ref cd, .int (nI sz0), .ref st])), (cd, .inl (cy 0, n, .inl f)), (st, .inl (cy 2, 32, .inr (.inl gs))), (se, .inl (cy 2, 16, .inr (.inl sf)))] H := hP.sub [0, 1, 2, 3] rfl
      have hD9 : va_D A [(h0, .inr (2, [.ref cd, .int (nI sz0), .ref st])), (cd, .inl (cy 0, n, .inl f)), (st, .inl (cy 2, 32, .inr (.inl gs))), (se, .inl (cy 2, 16, .inr (.inl sf)))] := hD.sub [0, 1, 2, 3] (by decide) rfl
      refine W.widen (k := 0) (n := 0) (by omega) (by omega) ?_
      exact W.lret hx hb hr (fun t ht hW => ⟨⟨_, gs, rfl, (by rw [← hv g, ← List.take_of_length_le hge, ← hI3]; exact (if_pos hz).symm), by rw [ht]; exact hP9, hD9⟩, hS.F ht⟩) hS.2.2 dX1_valueOf_160
  · have hk : k < cl.length := by have o9 := pk_nle (a := b + cl.length) (b := b + k) (by omega) c9; omega
    have hck : cl[k]? = some (f (b + k)) := fp_seg_at hsg hk
    refine lv_aload_n hx hb dX1_valueOf_12 rfl (lv_at hl 2 rfl) ?_
    refine lv_iload hx hb dX1_valueOf_13 (lv_at hl 0 rfl) ?_
    refine pu_calli (va_runV (As := [.int (nI (b + k))]) (rest := []) ⟨hx, hb, hml, hown, hts⟩ (c_Expr_at l D cy e h0 cd sz0 st n f (nI (b + k)) hsz hn) (cwV 1 hts gX1_valueOf_X1_at rfl rfl rfl (by decide +kernel) ⟨Nat.le_of_ble_eq_true rfl, Nat.le_of_ble_eq_true rfl⟩) (pu_preV hP hK hS hG [0, 1] rfl (q := (RX1, TX1, 3)) (ci := 2) (q0 := 0) rfl rfl) rfl rfl hl.1 rfl (lv_room (Nat.le_of_ble_eq_true rfl)) dX1_valueOf_15 ⟨(Nat.le_of_ble_eq_true rfl), (Nat.le_of_ble_eq_true rfl)⟩) hP hS (fun H locs hP hS => ?_)
    have hP : va_P D vwCl [(h0, .inr (2, [.ref cd, .int (nI sz0), .ref st])), (cd, .inl (cy 0, n, .inl f)), (st, .inl (cy 2, 32, .inr (.inl gs))), (se, .inl (cy 2, 16, .inr (.inl sf)))] H := hP
    refine lv_topi (fun x_3 ex_3 => ?_)
    obtain rfl : x_3 = f (b + k) := by rw [ex_3]; exact fp_eat (by omega) (by omega)
    refine lv_istore (lv' := [(6, .int (f (b + k))), (5, .int (nI (b + k))), (4, .int (nI tp)), (0, .ref h0), (1, .int (nI b)), (2, .int (nI (b + cl.length))), (3, .ref se)]) hx hb dX1_valueOf_18 hl (by decide) rfl (fun ls hl => ?_)
    refine lv_iload hx hb dX1_valueOf_20 (lv_at hl 0 rfl) ?_
    refine pu_calli (va_runS (As := [.int (f (b + k))]) (rest := []) ⟨hx, hb, hml, hown, hts⟩ (c_isCondition l D cy e (f (b + k)) ) (va_cwS 1 hts gX1_valueOf_X1_isCondition rfl rfl rfl (by decide +kernel) ⟨Nat.le_of_ble_eq_true rfl, Nat.le_of_ble_eq_true rfl⟩) (pu_preS hP hK hS hG [] rfl) rfl rfl hl.1 rfl (lv_room (Nat.le_of_ble_eq_true rfl)) dX1_valueOf_22 ⟨(Nat.le_of_ble_eq_true rfl), (Nat.le_of_ble_eq_true rfl)⟩) hP hS (fun H locs hP hS => ?_)
    have hP : va_P D vwCl [(h0, .inr (2, [.ref cd, .int (nI sz0), .ref st])), (cd, .inl (cy 0, n, .inl f)), (st, .inl (cy 2, 32, .inr (.inl gs))), (se, .inl (cy 2, 16, .inr (.inl sf)))] H := hP
    refine lv_if_eq (tgt := 62) hx hb dX1_valueOf_25 (by decide) (fun c25 => ?_) (fun c25 => ?_)
    · refine lv_iload hx hb dX1_valueOf_62 (lv_at hl 0 rfl) ?_
      refine lv_bipush (v := 16) hx hb dX1_valueOf_64 (by decide +kernel) ?_
      refine lv_icmp_ne (tgt := 100) hx hb dX1_valueOf_66 (by decide) (fun c66 => ?_) (fun c66 => ?_)
      · refine lv_iload hx hb dX1_valueOf_100 (lv_at hl 2 rfl) ?_
        refine lv_iconst (v := 2) hx hb dX1_valueOf_102 (by decide +kernel) ?_
        refine lv_icmp_lt (tgt := 139) hx hb dX1_valueOf_103 (by decide) (fun c103 => ?_) (fun c103 => ?_)
        · have ht2 : ¬ 2 ≤ tp := by have o9 := qk_lt (a := tp) (b := 2) (by omega) (by decide) c103; omega
          refine lv_iinc (v := nI (b + (k + 1))) (lv' := [(5, .int (nI (b + (k + 1)))), (6, .int (f (b + k))), (4, .int (nI tp)), (0, .ref h0), (1, .int (nI b)), (2, .int (nI (b + cl.length))), (3, .ref se)]) hx hb dX1_valueOf_139 hl (k := 1) rfl (nI_1 (b + k)) (by decide) rfl (fun ls hl => ?_)
          refine lv_goto (tgt := 6) hx hb dX1_valueOf_142 (by decide) ?_
          exact ih6 ((k + 1), tp, gs) _ _ ls ⟨hP.sub [0, 1, 2, 3] rfl, hD.sub [0, 1, 2, 3] (by decide) rfl, hS, lv_sub hl [0, 2, 3, 4, 5, 6] rfl, ⟨by omega, by omega, fp_mr_s hck hI3 (fp_ms_z c25 (fun q9 => c66 q9.1) (by omega))⟩⟩ (by (try dsimp only); omega)
        · have ht2 : 2 ≤ tp := pk_nlt2 c103
          refine lv_iinc (v := nI (tp - 1)) (lv' := [(4, .int (nI (tp - 1))), (6, .int (f (b + k))), (5, .int (nI (b + k))), (0, .ref h0), (1, .int (nI b)), (2, .int (nI (b + cl.length))), (3, .ref se)]) hx hb dX1_valueOf_106 hl (k := 2) rfl (pk_dec (by omega)) (by decide) rfl (fun ls hl => ?_)
          refine lv_aload_n hx hb dX1_valueOf_109 rfl (lv_at hl 3 rfl) ?_
          refine va_get (D := D) (ci := 2) (v := .ref st) (C := RX1) (T := TX1) (N := 3) hx hb hts iX1 hown hK hP 0 rfl rfl 2 (by decide) (hts (.fieldLink RX1 9 "InterlockTables$Expressions" "stack" "[J") (by decide +kernel)) (fun _ h9 => h9) rfl dX1_valueOf_110 ?_
          refine lv_iload hx hb dX1_valueOf_113 (lv_at hl 0 rfl) ?_
          refine lv_iconst (v := 1) hx hb dX1_valueOf_115 (by decide +kernel) ?_
          refine lv_isub hx hb dX1_valueOf_116 ?_
          refine lv_topi (fun x_4 ex_4 => ?_)
          obtain rfl : x_4 = nI (tp - 1 - 1) := by rw [ex_4]; exact pk_sub (b := 1) (by omega)
          refine lv_iload hx hb dX1_valueOf_117 (lv_at hl 1 rfl) ?_
          refine lv_aload_n hx hb dX1_valueOf_119 rfl (lv_at hl 3 rfl) ?_
          refine va_get (D := D) (ci := 2) (v := .ref st) (C := RX1) (T := TX1) (N := 3) hx hb hts iX1 hown hK hP 0 rfl rfl 2 (by decide) (hts (.fieldLink RX1 9 "InterlockTables$Expressions" "stack" "[J") (by decide +kernel)) (fun _ h9 => h9) rfl dX1_valueOf_120 ?_
          refine lv_iload hx hb dX1_valueOf_123 (lv_at hl 0 rfl) ?_
          refine lv_iconst (v := 1) hx hb dX1_valueOf_125 (by decide +kernel) ?_
          refine lv_isub hx hb dX1_valueOf_126 ?_
          refine lv_topi (fun x_5 ex_5 => ?_)
          obtain rfl : x_5 = nI (tp - 1 - 1) := by rw [ex_5]; exact pk_sub (b := 1) (by omega)
          refine va_lald hx hb hK hP 2 2 rfl rfl (vp_in_nI (by omega) (by omega)) dX1_valueOf_127 ?_
          refine lv_topl (fun x_6 ex_6 => ?_)
          obtain rfl : x_6 = gs (tp - 1 - 1) := by rw [ex_6]; rw [nI_clamp (by omega)]
          refine lv_aload_n hx hb dX1_valueOf_128 rfl (lv_at hl 3 rfl) ?_
          refine va_get (D := D) (ci := 2) (v := .ref st) (C := RX1) (T := TX1) (N := 3) hx hb hts iX1 hown hK hP 0 rfl rfl 2 (by decide) (hts (.fieldLink RX1 9 "InterlockTables$Expressions" "stack" "[J") (by decide +kernel)) (fun _ h9 => h9) rfl dX1_valueOf_129 ?_
          refine lv_iload hx hb dX1_valueOf_132 (lv_at hl 0 rfl) ?_
          refine va_lald hx hb hK hP 2 2 rfl rfl (vp_in_nI (by omega) (by omega)) dX1_valueOf_134 ?_
          refine lv_topl (fun x_7 ex_7 => ?_)
          obtain rfl : x_7 = gs (tp - 1) := by rw [ex_7]; rw [nI_clamp (by omega)]
          refine pu_calll (va_runS (As := [.int (f (b + k)), .long (gs (tp - 1 - 1)), .long (gs (tp - 1))]) (rest := [.int (nI (tp - 1 - 1)), .ref st]) ⟨hx, hb, hml, hown, hts⟩ (c_joinF l D cy e (f (b + k)) (gs (tp - 1 - 1)) (gs (tp - 1)) ) (va_cwS 3 hts gX1_valueOf_X1_join rfl rfl rfl (by decide +kernel) ⟨Nat.le_of_ble_eq_true rfl, Nat.le_of_ble_eq_true rfl⟩) (pu_preS hP hK hS hG [] rfl) rfl rfl hl.1 rfl (lv_room (Nat.le_of_ble_eq_true rfl)) dX1_valueOf_135 ⟨(Nat.le_of_ble_eq_true rfl), (Nat.le_of_ble_eq_true rfl)⟩) hP hS (fun H locs hP hS => ?_)
          have hP : va_P D vwCl [(h0, .inr (2, [.ref cd, .int (nI sz0), .ref st])), (cd, .inl (cy 0, n, .inl f)), (st, .inl (cy 2, 32, .inr (.inl gs))), (se, .inl (cy 2, 16, .inr (.inl sf)))] H := hP
          refine va_last hx hb hK hP hD hS 2 2 rfl rfl (vp_in_nI (by omega) (by omega)) dX1_valueOf_138 (fun H locs hP hD hS => ?_)
          have hP : va_P D vwCl [(h0, .inr (2, [.ref cd, .int (nI sz0), .ref st])), (cd, .inl (cy 0, n, .inl f)), (st, .inl (cy 2, 32, .inr (.inl (vp_updL gs (nI (tp - 1 - 1)).toNatClampNeg (fp_jn (f (b + k)) (gs (tp - 1 - 1)) (gs (tp - 1))))))), (se, .inl (cy 2, 16, .inr (.inl sf)))] H := hP
          have hD : va_D A [(h0, .inr (2, [.ref cd, .int (nI sz0), .ref st])), (cd, .inl (cy 0, n, .inl f)), (st, .inl (cy 2, 32, .inr (.inl (vp_updL gs (nI (tp - 1 - 1)).toNatClampNeg (fp_jn (f (b + k)) (gs (tp - 1 - 1)) (gs (tp - 1))))))), (se, .inl (cy 2, 16, .inr (.inl sf)))] := hD
          have ef_138 : (vp_updL gs (nI (tp - 1 - 1)).toNatClampNeg (fp_jn (f (b + k)) (gs (tp - 1 - 1)) (gs (tp - 1)))) = (vp_updL gs (tp - 1 - 1) (fp_jn (f (b + k)) (gs (tp - 1 - 1)) (gs (tp - 1)))) := by rw [nI_clamp (by omega)]
          rw [ef_138] at hP hD
          refine lv_iinc (v := nI (b + (k + 1))) (lv' := [(5, .int (nI (b + (k + 1)))), (4, .int (nI (tp - 1))), (6, .int (f (b + k))), (0, .ref h0), (1, .int (nI b)), (2, .int (nI (b + cl.length))), (3, .ref se)]) hx hb dX1_valueOf_139 hl (k := 2) rfl (nI_1 (b + k)) (by decide) rfl (fun ls hl => ?_)
          refine lv_goto (tgt := 6) hx hb dX1_valueOf_142 (by decide) ?_
          exact ih6 ((k + 1), (tp - 1), (vp_updL gs (tp - 1 - 1) (fp_jn (f (b + k)) (gs (tp - 1 - 1)) (gs (tp - 1))))) _ _ ls ⟨hP.sub [0, 1, 2, 3] rfl, hD.sub [0, 1, 2, 3] (by decide) rfl, hS, lv_sub hl [0, 1, 3, 4, 5, 6] rfl, ⟨by omega, by omega, fp_mr_s hck hI3 (fp_ms_b c25 (fun q9 => c66 q9.1) ht2)⟩⟩ (by (try dsimp only); omega)
      · refine lv_iload hx hb dX1_valueOf_69 (lv_at hl 2 rfl) ?_
        refine lv_iconst (v := 1) hx hb dX1_valueOf_71 (by decide +kernel) ?_
        refine lv_icmp_lt (tgt := 100) hx hb dX1_valueOf_72 (by decide) (fun c72 => ?_) (fun c72 => ?_)
        · have ht1 : ¬ 1 ≤ tp := by have o9 := qk_lt (a := tp) (b := 1) (by omega) (by decide) c72; omega
          refine lv_iload hx hb dX1_valueOf_100 (lv_at hl 2 rfl) ?_
          refine lv_iconst (v := 2) hx hb dX1_valueOf_102 (by decide +kernel) ?_
          refine lv_icmp_lt (tgt := 139) hx hb dX1_valueOf_103 (by decide) (fun c103 => ?_) (fun c103 => ?_)
          · have ht2 : ¬ 2 ≤ tp := by have o9 := qk_lt (a := tp) (b := 2) (by omega) (by decide) c103; omega
            refine lv_iinc (v := nI (b + (k + 1))) (lv' := [(5, .int (nI (b + (k + 1)))), (6, .int (f (b + k))), (4, .int (nI tp)), (0, .ref h0), (1, .int (nI b)), (2, .int (nI (b + cl.length))), (3, .ref se)]) hx hb dX1_valueOf_139 hl (k := 1) rfl (nI_1 (b + k)) (by decide) rfl (fun ls hl => ?_)
            refine lv_goto (tgt := 6) hx hb dX1_valueOf_142 (by decide) ?_
            exact ih6 ((k + 1), tp, gs) _ _ ls ⟨hP.sub [0, 1, 2, 3] rfl, hD.sub [0, 1, 2, 3] (by decide) rfl, hS, lv_sub hl [0, 2, 3, 4, 5, 6] rfl, ⟨by omega, by omega, fp_mr_s hck hI3 (fp_ms_z c25 (fun q9 => by have o9 := q9.2; omega) (by omega))⟩⟩ (by (try dsimp only); omega)
          · have ht2 : 2 ≤ tp := pk_nlt2 c103
            refine lv_iinc (v := nI (tp - 1)) (lv' := [(4, .int (nI (tp - 1))), (6, .int (f (b + k))), (5, .int (nI (b + k))), (0, .ref h0), (1, .int (nI b)), (2, .int (nI (b + cl.length))), (3, .ref se)]) hx hb dX1_valueOf_106 hl (k := 2) rfl (pk_dec (by omega)) (by decide) rfl (fun ls hl => ?_)
            refine lv_aload_n hx hb dX1_valueOf_109 rfl (lv_at hl 3 rfl) ?_
            refine va_get (D := D) (ci := 2) (v := .ref st) (C := RX1) (T := TX1) (N := 3) hx hb hts iX1 hown hK hP 0 rfl rfl 2 (by decide) (hts (.fieldLink RX1 9 "InterlockTables$Expressions" "stack" "[J") (by decide +kernel)) (fun _ h9 => h9) rfl dX1_valueOf_110 ?_
            refine lv_iload hx hb dX1_valueOf_113 (lv_at hl 0 rfl) ?_
            refine lv_iconst (v := 1) hx hb dX1_valueOf_115 (by decide +kernel) ?_
            refine lv_isub hx hb dX1_valueOf_116 ?_
            refine lv_topi (fun x_8 ex_8 => ?_)
            obtain rfl : x_8 = nI (tp - 1 - 1) := by rw [ex_8]; exact pk_sub (b := 1) (by omega)
            refine lv_iload hx hb dX1_valueOf_117 (lv_at hl 1 rfl) ?_
            refine lv_aload_n hx hb dX1_valueOf_119 rfl (lv_at hl 3 rfl) ?_
            refine va_get (D := D) (ci := 2) (v := .ref st) (C := RX1) (T := TX1) (N := 3) hx hb hts iX1 hown hK hP 0 rfl rfl 2 (by decide) (hts (.fieldLink RX1 9 "InterlockTables$Expressions" "stack" "[J") (by decide +kernel)) (fun _ h9 => h9) rfl dX1_valueOf_120 ?_
            refine lv_iload hx hb dX1_valueOf_123 (lv_at hl 0 rfl) ?_
            refine lv_iconst (v := 1) hx hb dX1_valueOf_125 (by decide +kernel) ?_
            refine lv_isub hx hb dX1_valueOf_126 ?_
            refine lv_topi (fun x_9 ex_9 => ?_)
            obtain rfl : x_9 = nI (tp - 1 - 1) := by rw [ex_9]; exact pk_sub (b := 1) (by omega)
            refine va_lald hx hb hK hP 2 2 rfl rfl (vp_in_nI (by omega) (by omega)) dX1_valueOf_127 ?_
            refine lv_topl (fun x_10 ex_10 => ?_)
            obtain rfl : x_10 = gs (tp - 1 - 1) := by rw [ex_10]; rw [nI_clamp (by omega)]
            refine lv_aload_n hx hb dX1_valueOf_128 rfl (lv_at hl 3 rfl) ?_
            refine va_get (D := D) (ci := 2) (v := .ref st) (C := RX1) (T := TX1) (N := 3) hx hb hts iX1 hown hK hP 0 rfl rfl 2 (by decide) (hts (.fieldLink RX1 9 "InterlockTables$Expressions" "stack" "[J") (by decide +kernel)) (fun _ h9 => h9) rfl dX1_valueOf_129 ?_
            refine lv_iload hx hb dX1_valueOf_132 (lv_at hl 0 rfl) ?_
            refine va_lald hx hb hK hP 2 2 rfl rfl (vp_in_nI (by omega) (by omega)) dX1_valueOf_134 ?_
            refine lv_topl (fun x_11 ex_11 => ?_)
            obtain rfl : x_11 = gs (tp - 1) := by rw [ex_11]; rw [nI_clamp (by omega)]
            refine pu_calll (va_runS (As := [.int (f (b + k)), .long (gs (tp - 1 - 1)), .long (gs (tp - 1))]) (rest := [.int (nI (tp - 1 - 1)), .ref st]) ⟨hx, hb, hml, hown, hts⟩ (c_joinF l D cy e (f (b + k)) (gs (tp - 1 - 1)) (gs (tp - 1)) ) (va_cwS 3 hts gX1_valueOf_X1_join rfl rfl rfl (by decide +kernel) ⟨Nat.le_of_ble_eq_true rfl, Nat.le_of_ble_eq_true rfl⟩) (pu_preS hP hK hS hG [] rfl) rfl rfl hl.1 rfl (lv_room (Nat.le_of_ble_eq_true rfl)) dX1_valueOf_135 ⟨(Nat.le_of_ble_eq_true rfl), (Nat.le_of_ble_eq_true rfl)⟩) hP hS (fun H locs hP hS => ?_)
            have hP : va_P D vwCl [(h0, .inr (2, [.ref cd, .int (nI sz0), .ref st])), (cd, .inl (cy 0, n, .inl f)), (st, .inl (cy 2, 32, .inr (.inl gs))), (se, .inl (cy 2, 16, .inr (.inl sf)))] H := hP
            refine va_last hx hb hK hP hD hS 2 2 rfl rfl (vp_in_nI (by omega) (by omega)) dX1_valueOf_138 (fun H locs hP hD hS => ?_)
            have hP : va_P D vwCl [(h0, .inr (2, [.ref cd, .int (nI sz0), .ref st])), (cd, .inl (cy 0, n, .inl f)), (st, .inl (cy 2, 32, .inr (.inl (vp_updL gs (nI (tp - 1 - 1)).toNatClampNeg (fp_jn (f (b + k)) (gs (tp - 1 - 1)) (gs (tp - 1))))))), (se, .inl (cy 2, 16, .inr (.inl sf)))] H := hP
            have hD : va_D A [(h0, .inr (2, [.ref cd, .int (nI sz0), .ref st])), (cd, .inl (cy 0, n, .inl f)), (st, .inl (cy 2, 32, .inr (.inl (vp_updL gs (nI (tp - 1 - 1)).toNatClampNeg (fp_jn (f (b + k)) (gs (tp - 1 - 1)) (gs (tp - 1))))))), (se, .inl (cy 2, 16, .inr (.inl sf)))] := hD
            have ef_138 : (vp_updL gs (nI (tp - 1 - 1)).toNatClampNeg (fp_jn (f (b + k)) (gs (tp - 1 - 1)) (gs (tp - 1)))) = (vp_updL gs (tp - 1 - 1) (fp_jn (f (b + k)) (gs (tp - 1 - 1)) (gs (tp - 1)))) := by rw [nI_clamp (by omega)]
            rw [ef_138] at hP hD
            refine lv_iinc (v := nI (b + (k + 1))) (lv' := [(5, .int (nI (b + (k + 1)))), (4, .int (nI (tp - 1))), (6, .int (f (b + k))), (0, .ref h0), (1, .int (nI b)), (2, .int (nI (b + cl.length))), (3, .ref se)]) hx hb dX1_valueOf_139 hl (k := 2) rfl (nI_1 (b + k)) (by decide) rfl (fun ls hl => ?_)
            refine lv_goto (tgt := 6) hx hb dX1_valueOf_142 (by decide) ?_
            exact ih6 ((k + 1), (tp - 1), (vp_updL gs (tp - 1 - 1) (fp_jn (f (b + k)) (gs (tp - 1 - 1)) (gs (tp - 1))))) _ _ ls ⟨hP.sub [0, 1, 2, 3] rfl, hD.sub [0, 1, 2, 3] (by decide) rfl, hS, lv_sub hl [0, 1, 3, 4, 5, 6] rfl, ⟨by omega, by omega, fp_mr_s hck hI3 (fp_ms_b c25 (fun q9 => by have o9 := q9.2; omega) ht2)⟩⟩ (by (try dsimp only); omega)
        · have ht1 : 1 ≤ tp := pk_nlt1 c72
          refine lv_aload_n hx hb dX1_valueOf_75 rfl (lv_at hl 3 rfl) ?_
          refine va_get (D := D) (ci := 2) (v := .ref st) (C := RX1) (T := TX1) (N := 3) hx hb hts iX1 hown hK hP 0 rfl rfl 2 (by decide) (hts (.fieldLink RX1 9 "InterlockTables$Expressions" "stack" "[J") (by decide +kernel)) (fun _ h9 => h9) rfl dX1_valueOf_76 ?_
          refine lv_iload hx hb dX1_valueOf_79 (lv_at hl 2 rfl) ?_
          refine lv_iconst (v := 1) hx hb dX1_valueOf_81 (by decide +kernel) ?_
          refine lv_isub hx hb dX1_valueOf_82 ?_
          refine lv_topi (fun x_12 ex_12 => ?_)
          obtain rfl : x_12 = nI (tp - 1) := by rw [ex_12]; exact pk_sub (b := 1) (by omega)
          refine lv_aload_n hx hb dX1_valueOf_83 rfl (lv_at hl 3 rfl) ?_
          refine va_get (D := D) (ci := 2) (v := .ref st) (C := RX1) (T := TX1) (N := 3) hx hb hts iX1 hown hK hP 0 rfl rfl 2 (by decide) (hts (.fieldLink RX1 9 "InterlockTables$Expressions" "stack" "[J") (by decide +kernel)) (fun _ h9 => h9) rfl dX1_valueOf_84 ?_
          refine lv_iload hx hb dX1_valueOf_87 (lv_at hl 2 rfl) ?_
          refine lv_iconst (v := 1) hx hb dX1_valueOf_89 (by decide +kernel) ?_
          refine lv_isub hx hb dX1_valueOf_90 ?_
          refine lv_topi (fun x_13 ex_13 => ?_)
          obtain rfl : x_13 = nI (tp - 1) := by rw [ex_13]; exact pk_sub (b := 1) (by omega)
          refine va_lald hx hb hK hP 2 2 rfl rfl (vp_in_nI (by omega) (by omega)) dX1_valueOf_91 ?_
          refine lv_topl (fun x_14 ex_14 => ?_)
          obtain rfl : x_14 = gs (tp - 1) := by rw [ex_14]; rw [nI_clamp (by omega)]
          refine lv_ldc2 (v := -1) hx hb hown (hts (.constantLong RX1 37 (-1)) (by decide +kernel)) dX1_valueOf_92 ?_
          refine lv_lxor hx hb dX1_valueOf_95 ?_
          refine va_last hx hb hK hP hD hS 2 2 rfl rfl (vp_in_nI (by omega) (by omega)) dX1_valueOf_96 (fun H locs hP hD hS => ?_)
          have hP : va_P D vwCl [(h0, .inr (2, [.ref cd, .int (nI sz0), .ref st])), (cd, .inl (cy 0, n, .inl f)), (st, .inl (cy 2, 32, .inr (.inl (vp_updL gs (nI (tp - 1)).toNatClampNeg ((gs (tp - 1)) ^^^ (-1)))))), (se, .inl (cy 2, 16, .inr (.inl sf)))] H := hP
          have hD : va_D A [(h0, .inr (2, [.ref cd, .int (nI sz0), .ref st])), (cd, .inl (cy 0, n, .inl f)), (st, .inl (cy 2, 32, .inr (.inl (vp_updL gs (nI (tp - 1)).toNatClampNeg ((gs (tp - 1)) ^^^ (-1)))))), (se, .inl (cy 2, 16, .inr (.inl sf)))] := hD
          have ef_96 : (vp_updL gs (nI (tp - 1)).toNatClampNeg ((gs (tp - 1)) ^^^ (-1))) = (vp_updL gs (tp - 1) ((gs (tp - 1)) ^^^ (-1))) := by rw [nI_clamp (by omega)]
          rw [ef_96] at hP hD
          refine lv_goto (tgt := 139) hx hb dX1_valueOf_97 (by decide) ?_
          refine lv_iinc (v := nI (b + (k + 1))) (lv' := [(5, .int (nI (b + (k + 1)))), (6, .int (f (b + k))), (4, .int (nI tp)), (0, .ref h0), (1, .int (nI b)), (2, .int (nI (b + cl.length))), (3, .ref se)]) hx hb dX1_valueOf_139 hl (k := 1) rfl (nI_1 (b + k)) (by decide) rfl (fun ls hl => ?_)
          refine lv_goto (tgt := 6) hx hb dX1_valueOf_142 (by decide) ?_
          exact ih6 ((k + 1), tp, (vp_updL gs (tp - 1) ((gs (tp - 1)) ^^^ (-1)))) _ _ ls ⟨hP.sub [0, 1, 2, 3] rfl, hD.sub [0, 1, 2, 3] (by decide) rfl, hS, lv_sub hl [0, 2, 3, 4, 5, 6] rfl, ⟨by omega, by omega, fp_mr_s hck hI3 (fp_ms_n c25 c66 ht1)⟩⟩ (by (try dsimp only); omega)
    · refine lv_iload hx hb dX1_valueOf_28 (lv_at hl 2 rfl) ?_
      refine lv_aload_n hx hb dX1_valueOf_30 rfl (lv_at hl 3 rfl) ?_
      refine va_get (D := D) (ci := 2) (v := .ref st) (C := RX1) (T := TX1) (N := 3) hx hb hts iX1 hown hK hP 0 rfl rfl 2 (by decide) (hts (.fieldLink RX1 9 "InterlockTables$Expressions" "stack" "[J") (by decide +kernel)) (fun _ h9 => h9) rfl dX1_valueOf_31 ?_
      refine va_alen hx hb hK hP 2 2 rfl rfl (v := 32) rfl dX1_valueOf_34 ?_
      refine lv_icmp_ge (tgt := 139) hx hb dX1_valueOf_35 (by decide) (fun c35 => ?_) (fun c35 => ?_)
      · have htl : ¬ tp < 32 := by have o9 := (nI_leI (a := 32) (b := tp) (by decide) (by omega)).mp c35; omega
        refine lv_iinc (v := nI (b + (k + 1))) (lv' := [(5, .int (nI (b + (k + 1)))), (6, .int (f (b + k))), (4, .int (nI tp)), (0, .ref h0), (1, .int (nI b)), (2, .int (nI (b + cl.length))), (3, .ref se)]) hx hb dX1_valueOf_139 hl (k := 1) rfl (nI_1 (b + k)) (by decide) rfl (fun ls hl => ?_)
        refine lv_goto (tgt := 6) hx hb dX1_valueOf_142 (by decide) ?_
        exact ih6 ((k + 1), tp, gs) _ _ ls ⟨hP.sub [0, 1, 2, 3] rfl, hD.sub [0, 1, 2, 3] (by decide) rfl, hS, lv_sub hl [0, 2, 3, 4, 5, 6] rfl, ⟨by omega, by omega, fp_mr_s hck hI3 (fp_ms_f c25 htl)⟩⟩ (by (try dsimp only); omega)
      · have htl : tp < 32 := pk_nle (b := tp) (a := 32) (by omega) c35
        refine lv_iload hx hb dX1_valueOf_38 (lv_at hl 0 rfl) ?_
        refine lv_aload_n hx hb dX1_valueOf_40 rfl (lv_at hl 6 rfl) ?_
        refine va_alen hx hb hK hP 3 2 rfl rfl (v := 16) rfl dX1_valueOf_41 ?_
        refine lv_icmp_ge (tgt := 139) hx hb dX1_valueOf_42 (by decide) (fun c42 => absurd c42 (icd_16 c25)) (fun _ => ?_)
        refine lv_aload_n hx hb dX1_valueOf_45 rfl (lv_at hl 3 rfl) ?_
        refine va_get (D := D) (ci := 2) (v := .ref st) (C := RX1) (T := TX1) (N := 3) hx hb hts iX1 hown hK hP 0 rfl rfl 2 (by decide) (hts (.fieldLink RX1 9 "InterlockTables$Expressions" "stack" "[J") (by decide +kernel)) (fun _ h9 => h9) rfl dX1_valueOf_46 ?_
        refine lv_iload hx hb dX1_valueOf_49 (lv_at hl 2 rfl) ?_
        refine lv_aload_n hx hb dX1_valueOf_51 rfl (lv_at hl 6 rfl) ?_
        refine lv_iload hx hb dX1_valueOf_52 (lv_at hl 0 rfl) ?_
        refine va_lald hx hb hK hP 3 2 rfl rfl (cd_in (n := 16) c25 (icd_16 c25) (by decide)) dX1_valueOf_54 ?_
        refine va_last hx hb hK hP hD hS 2 2 rfl rfl (vp_in_nI (by omega) (by omega)) dX1_valueOf_55 (fun H locs hP hD hS => ?_)
        have hP : va_P D vwCl [(h0, .inr (2, [.ref cd, .int (nI sz0), .ref st])), (cd, .inl (cy 0, n, .inl f)), (st, .inl (cy 2, 32, .inr (.inl (vp_updL gs (nI tp).toNatClampNeg (sf (f (b + k)).toNatClampNeg))))), (se, .inl (cy 2, 16, .inr (.inl sf)))] H := hP
        have hD : va_D A [(h0, .inr (2, [.ref cd, .int (nI sz0), .ref st])), (cd, .inl (cy 0, n, .inl f)), (st, .inl (cy 2, 32, .inr (.inl (vp_updL gs (nI tp).toNatClampNeg (sf (f (b + k)).toNatClampNeg))))), (se, .inl (cy 2, 16, .inr (.inl sf)))] := hD
        have ef_55 : (vp_updL gs (nI tp).toNatClampNeg (sf (f (b + k)).toNatClampNeg)) = (vp_updL gs tp (sf (f (b + k)).toNatClampNeg)) := by rw [nI_clamp (by omega)]
        rw [ef_55] at hP hD
        refine lv_iinc (v := nI (tp + 1)) (lv' := [(4, .int (nI (tp + 1))), (6, .int (f (b + k))), (5, .int (nI (b + k))), (0, .ref h0), (1, .int (nI b)), (2, .int (nI (b + cl.length))), (3, .ref se)]) hx hb dX1_valueOf_56 hl (k := 2) rfl (nI_1 tp) (by decide) rfl (fun ls hl => ?_)
        refine lv_goto (tgt := 139) hx hb dX1_valueOf_59 (by decide) ?_
        refine lv_iinc (v := nI (b + (k + 1))) (lv' := [(5, .int (nI (b + (k + 1)))), (4, .int (nI (tp + 1))), (6, .int (f (b + k))), (0, .ref h0), (1, .int (nI b)), (2, .int (nI (b + cl.length))), (3, .ref se)]) hx hb dX1_valueOf_139 hl (k := 2) rfl (nI_1 (b + k)) (by decide) rfl (fun ls hl => ?_)
        refine lv_goto (tgt := 6) hx hb dX1_valueOf_142 (by decide) ?_
        exact ih6 ((k + 1), (tp + 1), (vp_updL gs tp (sf (f (b + k)).toNatClampNeg))) _ _ ls ⟨hP.sub [0, 1, 2, 3] rfl, hD.sub [0, 1, 2, 3] (by decide) rfl, hS, lv_sub hl [0, 1, 3, 4, 5, 6] rfl, ⟨by omega, by omega, fp_mr_s hck hI3 (fp_ms_p c25 htl)⟩⟩ (by (try dsimp only); omega)

set_option maxHeartbeats 4000000 in
set_option maxRecDepth 100000 in
theorem c_Table_valueOfF (l : Launch) (D : va_G) (cy : Nat → ClassId) (e : Nat → Nat)  (tb : Nat) (ro : Nat) (xp : Nat) (wr : Value) (sv : Int32) (cd : Nat) (sz0 : Nat) (st : Nat) (n1 : Nat) (fc : Nat → Int32) (g : Nat → Int64) (se : Nat) (sf : Nat → Int64) (r0 : Nat) (aa : Nat) (x1 : Int32) (x2 : Int32) (x3 : Int32) (x4 : Int32) (x5 : Int32) (x6 : Int32) (x7 : Int32) (x8 : Int32) (x9 : Int32) (x10 : Int32) (x11 : Int32) (x12 : Int32) (b : Nat) (cl : List Int32) (v : Int64) (sz : Nat) (hsz : sz0 ≤ n1) (hn1 : n1 < 65536) (hx4 : x4 = nI b) (hx5 : x5 = nI (b + cl.length)) (hsg : fp_seg fc b cl) (hbm : b + cl.length ≤ sz0) (hv : ∀ g9, fp_bot (fp_mr sf cl (0, g9)) = v) : Met l yX5_valueOf wsX5_valueOf ({ frames := 2, cells := 0, slots := 0, locals := 50 }) (va_Pc [.ref tb, .ref r0, .ref se] (mt_B D cy e [(tb, .inr (6, [.ref ro, .ref xp, wr, .int sv])), (xp, .inr (2, [.ref cd, .int (nI sz0), .ref st])), (cd, .inl (cy 0, n1, .inl fc)), (st, .inl (cy 2, 32, .inr (.inl g))), (se, .inl (cy 2, 16, .inr (.inl sf))), (r0, .inr (4, [.ref aa, .int x1, .int x2, .int x3, .int x4, .int x5, .int x6, .int x7, .int x8, .int x9, .int x10, .int x11, .int x12]))] sz)) (va_Ql (fun (r : Int64) (g2 : (Nat → Int64)) => r = v) (mt_Q D (fun g2 => [(tb, .inr (6, [.ref ro, .ref xp, wr, .int sv])), (xp, .inr (2, [.ref cd, .int (nI sz0), .ref st])), (cd, .inl (cy 0, n1, .inl fc)), (st, .inl (cy 2, 32, .inr (.inl g2))), (se, .inl (cy 2, 16, .inr (.inl sf))), (r0, .inr (4, [.ref aa, .int x1, .int x2, .int x3, .int x4, .int x5, .int x6, .int x7, .int x8, .int x9, .int x10, .int x11, .int x12]))]) (va_A [(tb, .inr (6, [.ref ro, .ref xp, wr, .int sv])), (xp, .inr (2, [.ref cd, .int (nI sz0), .ref st])), (cd, .inl (cy 0, n1, .inl fc)), (st, .inl (cy 2, 32, .inr (.inl g))), (se, .inl (cy 2, 16, .inr (.inl sf))), (r0, .inr (4, [.ref aa, .int x1, .int x2, .int x3, .int x4, .int x5, .int x6, .int x7, .int x8, .int x9, .int x10, .int x11, .int x12]))] sz)) (va_A [(tb, .inr (6, [.ref ro, .ref xp, wr, .int sv])), (xp, .inr (2, [.ref cd, .int (nI sz0), .ref st])), (cd, .inl (cy 0, n1, .inl fc)), (st, .inl (cy 2, 32, .inr (.inl g))), (se, .inl (cy 2, 16, .inr (.inl sf))), (r0, .inr (4, [.ref aa, .int x1, .int x2, .int x3, .int x4, .int x5, .int x6, .int x7, .int x8, .int x9, .int x10, .int x11, .int x12]))] sz)) (0) (0) (va_A [(tb, .inr (6, [.ref ro, .ref xp, wr, .int sv])), (xp, .inr (2, [.ref cd, .int (nI sz0), .ref st])), (cd, .inl (cy 0, n1, .inl fc)), (st, .inl (cy 2, 32, .inr (.inl g))), (se, .inl (cy 2, 16, .inr (.inl sf))), (r0, .inr (4, [.ref aa, .int x1, .int x2, .int x3, .int x4, .int x5, .int x6, .int x7, .int x8, .int x9, .int x10, .int x11, .int x12]))] sz) := by
  refine Met.ofW (cc := cX5_valueOf) (maxL := 3) (ret := (some .long)) (by decide) rfl ?_
  intro p ev s m args below meth c s₁ B hml hv
  obtain ⟨rfl, hsz, hP, hK, hD0, hG⟩ := hv
  have hx := B.exec
  have hb := B.bytes
  have hr := B.returns
  have hts := atoms_spec (ws := wsX5_valueOf) B.pre
  have hown : s.vm.findClass RX5 = some m.cls := findClass_of_methodNamed B.named
  have hlocks := B.notSynchronized
  subst hsz
  have hD := hD0.self (sz := s.heap.size)
  generalize hAe : va_A [(tb, .inr (6, [.ref ro, .ref xp, wr, .int sv])), (xp, .inr (2, [.ref cd, .int (nI sz0), .ref st])), (cd, .inl (cy 0, n1, .inl fc)), (st, .inl (cy 2, 32, .inr (.inl g))), (se, .inl (cy 2, 16, .inr (.inl sf))), (r0, .inr (4, [.ref aa, .int x1, .int x2, .int x3, .int x4, .int x5, .int x6, .int x7, .int x8, .int x9, .int x10, .int x11, .int x12]))] s.heap.size = A at hD hG ⊢
  have hA : ∀ q : Nat, s.heap.size ≤ q → A q := fun q h => by rw [← hAe]; exact Or.inr h
  have hS : va_S A s.heap s.heap [] := va_S.rf
  have hP : va_P D vwCl [(tb, .inr (6, [.ref ro, .ref xp, wr, .int sv])), (xp, .inr (2, [.ref cd, .int (nI sz0), .ref st])), (cd, .inl (cy 0, n1, .inl fc)), (st, .inl (cy 2, 32, .inr (.inl g))), (se, .inl (cy 2, 16, .inr (.inl sf))), (r0, .inr (4, [.ref aa, .int x1, .int x2, .int x3, .int x4, .int x5, .int x6, .int x7, .int x8, .int x9, .int x10, .int x11, .int x12]))] s.heap := hP
  have iX5 : ∀ w ∈ wsX50, w ∈ wsX5_valueOf := fun w h => List.mem_cons_of_mem _ (List.mem_append_left _ (List.mem_append_left _ (List.mem_append_right _ h)))
  have iX3 : ∀ w ∈ wsX30, w ∈ wsX5_valueOf := fun w h => List.mem_cons_of_mem _ (List.mem_append_left _ (List.mem_append_right _ h))
  have iX1 : ∀ w ∈ wsX10, w ∈ wsX5_valueOf := fun w h => List.mem_cons_of_mem _ (List.mem_append_right _ h)
  have hl := lv_entry ([.ref tb, .ref r0, .ref se]) (n := 3) (Nat.le_of_ble_eq_true rfl)
  rw [lg_entry_eq]
  generalize (lg_sl ([.ref tb, .ref r0, .ref se]) ++ List.replicate (3 - (lg_sl ([.ref tb, .ref r0, .ref se])).length) Slot.unset).toArray = ls at hl ⊢
  have hl : lv_has ls 3 [(0, .ref tb), (1, .ref r0), (2, .ref se)] := hl
  refine lv_aload_n hx hb dX5_valueOf_0 rfl (lv_at hl 0 rfl) ?_
  refine va_get (D := D) (ci := 6) (v := .ref xp) (C := RX5) (T := TX5) (N := 4) hx hb hts iX5 hown hK hP 0 rfl rfl 1 (by decide) (hts (.fieldLink RX5 23 "InterlockTables$Table" "expressions" "LInterlockTables$Expressions;") (by decide +kernel)) (fun _ h9 => h9) rfl dX5_valueOf_1 ?_
  refine lv_aload_n hx hb dX5_valueOf_4 rfl (lv_at hl 1 rfl) ?_
  refine va_getN (D := D) (ci := 4) (v := .int x4) (C := RX3) (T := TX3) (N := 13) hx hb hts iX3 hown hK hP 5 rfl rfl 4 (by decide) (gl_N.f hG.gN 11 rfl) (fun _ h9 => h9) rfl dX5_valueOf_5 ?_
  refine lv_topi (fun x_1 ex_1 => ?_)
  obtain rfl : x_1 = nI b := by rw [ex_1]; exact hx4
  refine lv_aload_n hx hb dX5_valueOf_8 rfl (lv_at hl 1 rfl) ?_
  refine va_getN (D := D) (ci := 4) (v := .int x5) (C := RX3) (T := TX3) (N := 13) hx hb hts iX3 hown hK hP 5 rfl rfl 5 (by decide) (gl_N.f hG.gN 14 rfl) (fun _ h9 => h9) rfl dX5_valueOf_9 ?_
  refine lv_topi (fun x_2 ex_2 => ?_)
  obtain rfl : x_2 = nI (b + cl.length) := by rw [ex_2]; exact hx5
  refine lv_aload_n hx hb dX5_valueOf_12 rfl (lv_at hl 2 rfl) ?_
  refine mt_calll (wr := [(tb, .inr (6, [.ref ro, .ref xp, wr, .int sv])), (r0, .inr (4, [.ref aa, .int x1, .int x2, .int x3, .int x4, .int x5, .int x6, .int x7, .int x8, .int x9, .int x10, .int x11, .int x12]))]) (va_runV (As := [.int (nI b), .int (nI (b + cl.length)), .ref se]) (rest := []) ⟨hx, hb, hml, hown, hts⟩ (c_Expr_valueOfF l D cy e xp cd sz0 st n1 fc g se sf b cl v s.heap.size hsz hn1 hsg hbm hv) (cwV 3 hts gX5_valueOf_X1_valueOf rfl rfl rfl (by decide +kernel) ⟨Nat.le_of_ble_eq_true rfl, Nat.le_of_ble_eq_true rfl⟩) (mt_preV hP hD hK hS hA hG [1, 2, 3, 4] rfl (by decide) (q := (RX1, TX1, 3)) (ci := 2) (q0 := 1) rfl rfl) rfl rfl hl.1 rfl (lv_room (Nat.le_of_ble_eq_true rfl)) dX5_valueOf_13 ⟨(Nat.le_of_ble_eq_true rfl), (Nat.le_of_ble_eq_true rfl)⟩) hP hD hS hA [1, 2, 3, 4] [0, 5] rfl rfl (by decide) (by decide) (fun r13 u H locs hw hP hD hS => ?_)
  obtain ⟨g2_13, rfl⟩ : ∃ z, z = u := ⟨_, rfl⟩
  have hP : va_P D vwCl [(tb, .inr (6, [.ref ro, .ref xp, wr, .int sv])), (r0, .inr (4, [.ref aa, .int x1, .int x2, .int x3, .int x4, .int x5, .int x6, .int x7, .int x8, .int x9, .int x10, .int x11, .int x12])), (xp, .inr (2, [.ref cd, .int (nI sz0), .ref st])), (cd, .inl (cy 0, n1, .inl fc)), (st, .inl (cy 2, 32, .inr (.inl g2_13))), (se, .inl (cy 2, 16, .inr (.inl sf)))] H := hP
  have hD : va_D A [(tb, .inr (6, [.ref ro, .ref xp, wr, .int sv])), (r0, .inr (4, [.ref aa, .int x1, .int x2, .int x3, .int x4, .int x5, .int x6, .int x7, .int x8, .int x9, .int x10, .int x11, .int x12])), (xp, .inr (2, [.ref cd, .int (nI sz0), .ref st])), (cd, .inl (cy 0, n1, .inl fc)), (st, .inl (cy 2, 32, .inr (.inl g2_13))), (se, .inl (cy 2, 16, .inr (.inl sf)))] := hD
  replace hw : r13 = v := hw
  refine W.widen (k := 0) (n := 0) (by omega) (by omega) ?_
  have hP9 : va_P D vwCl [(tb, .inr (6, [.ref ro, .ref xp, wr, .int sv])), (xp, .inr (2, [.ref cd, .int (nI sz0), .ref st])), (cd, .inl (cy 0, n1, .inl fc)), (st, .inl (cy 2, 32, .inr (.inl g2_13))), (se, .inl (cy 2, 16, .inr (.inl sf))), (r0, .inr (4, [.ref aa, .int x1, .int x2, .int x3, .int x4, .int x5, .int x6, .int x7, .int x8, .int x9, .int x10, .int x11, .int x12]))] H := hP.sub [0, 2, 3, 4, 5, 1] rfl
  have hD9 : va_D A [(tb, .inr (6, [.ref ro, .ref xp, wr, .int sv])), (xp, .inr (2, [.ref cd, .int (nI sz0), .ref st])), (cd, .inl (cy 0, n1, .inl fc)), (st, .inl (cy 2, 32, .inr (.inl g2_13))), (se, .inl (cy 2, 16, .inr (.inl sf))), (r0, .inr (4, [.ref aa, .int x1, .int x2, .int x3, .int x4, .int x5, .int x6, .int x7, .int x8, .int x9, .int x10, .int x11, .int x12]))] := hD.sub [0, 2, 3, 4, 5, 1] (by decide) rfl
  refine W.widen (k := 0) (n := 0) (by omega) (by omega) ?_
  exact W.lret hx hb hr (fun t ht hW => ⟨⟨_, g2_13, rfl, hw, by rw [ht]; exact hP9, hD9⟩, hS.F ht⟩) hS.2.2 dX5_valueOf_16

set_option maxHeartbeats 4000000 in
set_option maxRecDepth 100000 in
theorem c_Table_isOnF (l : Launch) (D : va_G) (cy : Nat → ClassId) (e : Nat → Nat)  (tb : Nat) (ro : Nat) (xp : Nat) (wr : Value) (sv : Int32) (cd : Nat) (sz0 : Nat) (st : Nat) (n1 : Nat) (fc : Nat → Int32) (g : Nat → Int64) (se : Nat) (sf : Nat → Int64) (r0 : Nat) (aa : Nat) (x1 : Int32) (x2 : Int32) (x3 : Int32) (x4 : Int32) (x5 : Int32) (x6 : Int32) (x7 : Int32) (x8 : Int32) (x9 : Int32) (x10 : Int32) (x11 : Int32) (x12 : Int32) (b : Nat) (cl : List Int32) (v : Int64) (sz : Nat) (hsz : sz0 ≤ n1) (hn1 : n1 < 65536) (hx4 : x4 = nI b) (hx5 : x5 = nI (b + cl.length)) (hsg : fp_seg fc b cl) (hbm : b + cl.length ≤ sz0) (hv : ∀ g9, fp_bot (fp_mr sf cl (0, g9)) = v) : Met l yX5_isOn wsX5_isOn ({ frames := 3, cells := 0, slots := 0, locals := 72 }) (va_Pc [.ref tb, .ref r0, .ref se] (mt_B D cy e [(tb, .inr (6, [.ref ro, .ref xp, wr, .int sv])), (xp, .inr (2, [.ref cd, .int (nI sz0), .ref st])), (cd, .inl (cy 0, n1, .inl fc)), (st, .inl (cy 2, 32, .inr (.inl g))), (se, .inl (cy 2, 16, .inr (.inl sf))), (r0, .inr (4, [.ref aa, .int x1, .int x2, .int x3, .int x4, .int x5, .int x6, .int x7, .int x8, .int x9, .int x10, .int x11, .int x12]))] sz)) (va_Qi (fun (r : Int32) (g2 : (Nat → Int64)) => r = kc_on v) (mt_Q D (fun g2 => [(tb, .inr (6, [.ref ro, .ref xp, wr, .int sv])), (xp, .inr (2, [.ref cd, .int (nI sz0), .ref st])), (cd, .inl (cy 0, n1, .inl fc)), (st, .inl (cy 2, 32, .inr (.inl g2))), (se, .inl (cy 2, 16, .inr (.inl sf))), (r0, .inr (4, [.ref aa, .int x1, .int x2, .int x3, .int x4, .int x5, .int x6, .int x7, .int x8, .int x9, .int x10, .int x11, .int x12]))]) (va_A [(tb, .inr (6, [.ref ro, .ref xp, wr, .int sv])), (xp, .inr (2, [.ref cd, .int (nI sz0), .ref st])), (cd, .inl (cy 0, n1, .inl fc)), (st, .inl (cy 2, 32, .inr (.inl g))), (se, .inl (cy 2, 16, .inr (.inl sf))), (r0, .inr (4, [.ref aa, .int x1, .int x2, .int x3, .int x4, .int x5, .int x6, .int x7, .int x8, .int x9, .int x10, .int x11, .int x12]))] sz)) (va_A [(tb, .inr (6, [.ref ro, .ref xp, wr, .int sv])), (xp, .inr (2, [.ref cd, .int (nI sz0), .ref st])), (cd, .inl (cy 0, n1, .inl fc)), (st, .inl (cy 2, 32, .inr (.inl g))), (se, .inl (cy 2, 16, .inr (.inl sf))), (r0, .inr (4, [.ref aa, .int x1, .int x2, .int x3, .int x4, .int x5, .int x6, .int x7, .int x8, .int x9, .int x10, .int x11, .int x12]))] sz)) (0) (0) (va_A [(tb, .inr (6, [.ref ro, .ref xp, wr, .int sv])), (xp, .inr (2, [.ref cd, .int (nI sz0), .ref st])), (cd, .inl (cy 0, n1, .inl fc)), (st, .inl (cy 2, 32, .inr (.inl g))), (se, .inl (cy 2, 16, .inr (.inl sf))), (r0, .inr (4, [.ref aa, .int x1, .int x2, .int x3, .int x4, .int x5, .int x6, .int x7, .int x8, .int x9, .int x10, .int x11, .int x12]))] sz) := by
  refine Met.ofW (cc := cX5_isOn) (maxL := 3) (ret := (some .boolean)) (by decide) rfl ?_
  intro p ev s m args below meth c s₁ B hml hv
  obtain ⟨rfl, hsz, hP, hK, hD0, hG⟩ := hv
  have hx := B.exec
  have hb := B.bytes
  have hr := B.returns
  have hts := atoms_spec (ws := wsX5_isOn) B.pre
  have hown : s.vm.findClass RX5 = some m.cls := findClass_of_methodNamed B.named
  have hlocks := B.notSynchronized
  subst hsz
  have hD := hD0.self (sz := s.heap.size)
  generalize hAe : va_A [(tb, .inr (6, [.ref ro, .ref xp, wr, .int sv])), (xp, .inr (2, [.ref cd, .int (nI sz0), .ref st])), (cd, .inl (cy 0, n1, .inl fc)), (st, .inl (cy 2, 32, .inr (.inl g))), (se, .inl (cy 2, 16, .inr (.inl sf))), (r0, .inr (4, [.ref aa, .int x1, .int x2, .int x3, .int x4, .int x5, .int x6, .int x7, .int x8, .int x9, .int x10, .int x11, .int x12]))] s.heap.size = A at hD hG ⊢
  have hA : ∀ q : Nat, s.heap.size ≤ q → A q := fun q h => by rw [← hAe]; exact Or.inr h
  have hS : va_S A s.heap s.heap [] := va_S.rf
  have hP : va_P D vwCl [(tb, .inr (6, [.ref ro, .ref xp, wr, .int sv])), (xp, .inr (2, [.ref cd, .int (nI sz0), .ref st])), (cd, .inl (cy 0, n1, .inl fc)), (st, .inl (cy 2, 32, .inr (.inl g))), (se, .inl (cy 2, 16, .inr (.inl sf))), (r0, .inr (4, [.ref aa, .int x1, .int x2, .int x3, .int x4, .int x5, .int x6, .int x7, .int x8, .int x9, .int x10, .int x11, .int x12]))] s.heap := hP
  have iX5 : ∀ w ∈ wsX50, w ∈ wsX5_isOn := fun w h => List.mem_cons_of_mem _ (List.mem_append_left _ (List.mem_append_left _ (List.mem_append_right _ h)))
  have iX3 : ∀ w ∈ wsX30, w ∈ wsX5_isOn := fun w h => List.mem_cons_of_mem _ (List.mem_append_left _ (List.mem_append_right _ h))
  have iX1 : ∀ w ∈ wsX10, w ∈ wsX5_isOn := fun w h => List.mem_cons_of_mem _ (List.mem_append_right _ h)
  have hl := lv_entry ([.ref tb, .ref r0, .ref se]) (n := 3) (Nat.le_of_ble_eq_true rfl)
  rw [lg_entry_eq]
  generalize (lg_sl ([.ref tb, .ref r0, .ref se]) ++ List.replicate (3 - (lg_sl ([.ref tb, .ref r0, .ref se])).length) Slot.unset).toArray = ls at hl ⊢
  have hl : lv_has ls 3 [(0, .ref tb), (1, .ref r0), (2, .ref se)] := hl
  refine lv_aload_n hx hb dX5_isOn_0 rfl (lv_at hl 0 rfl) ?_
  refine lv_aload_n hx hb dX5_isOn_1 rfl (lv_at hl 1 rfl) ?_
  refine lv_aload_n hx hb dX5_isOn_2 rfl (lv_at hl 2 rfl) ?_
  refine mt_calll (wr := []) (va_runV (As := [.ref r0, .ref se]) (rest := []) ⟨hx, hb, hml, hown, hts⟩ (c_Table_valueOfF l D cy e tb ro xp wr sv cd sz0 st n1 fc g se sf r0 aa x1 x2 x3 x4 x5 x6 x7 x8 x9 x10 x11 x12 b cl v s.heap.size hsz hn1 hx4 hx5 hsg hbm hv) (cwV 2 hts gX5_isOn_X5_valueOf rfl rfl rfl (by decide +kernel) ⟨Nat.le_of_ble_eq_true rfl, Nat.le_of_ble_eq_true rfl⟩) (mt_preV hP hD hK hS hA hG [0, 1, 2, 3, 4, 5] rfl (by decide) (q := (RX5, TX5, 4)) (ci := 6) (q0 := 0) rfl rfl) rfl rfl hl.1 rfl (lv_room (Nat.le_of_ble_eq_true rfl)) dX5_isOn_3 ⟨(Nat.le_of_ble_eq_true rfl), (Nat.le_of_ble_eq_true rfl)⟩) hP hD hS hA [0, 1, 2, 3, 4, 5] [] rfl rfl (by decide) (by decide) (fun r3 u H locs hw hP hD hS => ?_)
  obtain ⟨g2_3, rfl⟩ : ∃ z, z = u := ⟨_, rfl⟩
  have hP : va_P D vwCl [(tb, .inr (6, [.ref ro, .ref xp, wr, .int sv])), (xp, .inr (2, [.ref cd, .int (nI sz0), .ref st])), (cd, .inl (cy 0, n1, .inl fc)), (st, .inl (cy 2, 32, .inr (.inl g2_3))), (se, .inl (cy 2, 16, .inr (.inl sf))), (r0, .inr (4, [.ref aa, .int x1, .int x2, .int x3, .int x4, .int x5, .int x6, .int x7, .int x8, .int x9, .int x10, .int x11, .int x12]))] H := hP
  have hD : va_D A [(tb, .inr (6, [.ref ro, .ref xp, wr, .int sv])), (xp, .inr (2, [.ref cd, .int (nI sz0), .ref st])), (cd, .inl (cy 0, n1, .inl fc)), (st, .inl (cy 2, 32, .inr (.inl g2_3))), (se, .inl (cy 2, 16, .inr (.inl sf))), (r0, .inr (4, [.ref aa, .int x1, .int x2, .int x3, .int x4, .int x5, .int x6, .int x7, .int x8, .int x9, .int x10, .int x11, .int x12]))] := hD
  replace hw : r3 = v := hw
  refine W.widen (k := 0) (n := 0) (by omega) (by omega) ?_
  subst hw
  refine lv_lconst (v := 0) hx hb dX5_isOn_6 (by decide +kernel) ?_
  refine W.lcmp hx hb dX5_isOn_7 ?_
  refine lv_if_eq (tgt := 15) hx hb dX5_isOn_8 (by decide) (fun c8 => ?_) (fun c8 => ?_)
  · refine lv_iconst (v := 0) hx hb dX5_isOn_15 (by decide +kernel) ?_
    have hP9 : va_P D vwCl [(tb, .inr (6, [.ref ro, .ref xp, wr, .int sv])), (xp, .inr (2, [.ref cd, .int (nI sz0), .ref st])), (cd, .inl (cy 0, n1, .inl fc)), (st, .inl (cy 2, 32, .inr (.inl g2_3))), (se, .inl (cy 2, 16, .inr (.inl sf))), (r0, .inr (4, [.ref aa, .int x1, .int x2, .int x3, .int x4, .int x5, .int x6, .int x7, .int x8, .int x9, .int x10, .int x11, .int x12]))] H := hP.sub [0, 1, 2, 3, 4, 5] rfl
    have hD9 : va_D A [(tb, .inr (6, [.ref ro, .ref xp, wr, .int sv])), (xp, .inr (2, [.ref cd, .int (nI sz0), .ref st])), (cd, .inl (cy 0, n1, .inl fc)), (st, .inl (cy 2, 32, .inr (.inl g2_3))), (se, .inl (cy 2, 16, .inr (.inl sf))), (r0, .inr (4, [.ref aa, .int x1, .int x2, .int x3, .int x4, .int x5, .int x6, .int x7, .int x8, .int x9, .int x10, .int x11, .int x12]))] := hD.sub [0, 1, 2, 3, 4, 5] (by decide) rfl
    refine W.widen (k := 0) (n := 0) (by omega) (by omega) ?_
    exact W.zret hx hb hr rfl (fun t ht hW => ⟨⟨_, g2_3, rfl, (if_pos (fp_cmp0 c8)).symm, by rw [ht]; exact hP9, hD9⟩, hS.F ht⟩) hS.2.2 dX5_isOn_16
  · refine lv_iconst (v := 1) hx hb dX5_isOn_11 (by decide +kernel) ?_
    refine lv_goto (tgt := 16) hx hb dX5_isOn_12 (by decide) ?_
    have hP9 : va_P D vwCl [(tb, .inr (6, [.ref ro, .ref xp, wr, .int sv])), (xp, .inr (2, [.ref cd, .int (nI sz0), .ref st])), (cd, .inl (cy 0, n1, .inl fc)), (st, .inl (cy 2, 32, .inr (.inl g2_3))), (se, .inl (cy 2, 16, .inr (.inl sf))), (r0, .inr (4, [.ref aa, .int x1, .int x2, .int x3, .int x4, .int x5, .int x6, .int x7, .int x8, .int x9, .int x10, .int x11, .int x12]))] H := hP.sub [0, 1, 2, 3, 4, 5] rfl
    have hD9 : va_D A [(tb, .inr (6, [.ref ro, .ref xp, wr, .int sv])), (xp, .inr (2, [.ref cd, .int (nI sz0), .ref st])), (cd, .inl (cy 0, n1, .inl fc)), (st, .inl (cy 2, 32, .inr (.inl g2_3))), (se, .inl (cy 2, 16, .inr (.inl sf))), (r0, .inr (4, [.ref aa, .int x1, .int x2, .int x3, .int x4, .int x5, .int x6, .int x7, .int x8, .int x9, .int x10, .int x11, .int x12]))] := hD.sub [0, 1, 2, 3, 4, 5] (by decide) rfl
    refine W.widen (k := 0) (n := 0) (by omega) (by omega) ?_
    exact W.zret hx hb hr rfl (fun t ht hW => ⟨⟨_, g2_3, rfl, (if_neg (fun q9 => c8 (by rw [q9]; decide))).symm, by rw [ht]; exact hP9, hD9⟩, hS.F ht⟩) hS.2.2 dX5_isOn_16

set_option maxHeartbeats 4000000 in
set_option maxRecDepth 100000 in
theorem c_Row_holdsF (l : Launch) (D : va_G) (cy : Nat → ClassId) (e : Nat → Nat)  (r0 : Nat) (aa : Nat) (x1 : Int32) (x2 : Int32) (x3 : Int32) (x4 : Int32) (x5 : Int32) (x6 : Int32) (x7 : Int32) (x8 : Int32) (x9 : Int32) (x10 : Int32) (x11 : Int32) (x12 : Int32) (on : Int32)  : Met l yX3_holds wsX3_holds ({ frames := 0, cells := 0, slots := 0, locals := 0 }) (va_Pc [.ref r0, .int on] (pu_B D cy e [(r0, .inr (4, [.ref aa, .int x1, .int x2, .int x3, .int x4, .int x5, .int x6, .int x7, .int x8, .int x9, .int x10, .int x11, .int x12]))])) (va_Qi (fun (r : Int32) (_ : Unit) => r = kc_h on x9 x7) (fun _ _ => True) (fun _ => False)) 0 0 (fun _ => False) := by
  refine Met.ofW (cc := cX3_holds) (maxL := 2) (ret := (some .boolean)) (by decide) rfl ?_
  intro p ev s m args below meth c s₁ B hml hv
  obtain ⟨rfl, hP, hK, hG⟩ := hv
  have hx := B.exec
  have hb := B.bytes
  have hr := B.returns
  have hts := atoms_spec (ws := wsX3_holds) B.pre
  have hown : s.vm.findClass RX3 = some m.cls := findClass_of_methodNamed B.named
  have hlocks := B.notSynchronized
  have hS : va_S (fun _ => False) s.heap s.heap [] := va_S.rf
  have hP : va_P D vwCl [(r0, .inr (4, [.ref aa, .int x1, .int x2, .int x3, .int x4, .int x5, .int x6, .int x7, .int x8, .int x9, .int x10, .int x11, .int x12]))] s.heap := hP
  have iX3 : ∀ w ∈ wsX30, w ∈ wsX3_holds := fun w h => List.mem_cons_of_mem _ (List.mem_append_right _ h)
  have hl := lv_entry ([.ref r0, .int on]) (n := 2) (Nat.le_of_ble_eq_true rfl)
  rw [lg_entry_eq]
  generalize (lg_sl ([.ref r0, .int on]) ++ List.replicate (2 - (lg_sl ([.ref r0, .int on])).length) Slot.unset).toArray = ls at hl ⊢
  have hl : lv_has ls 2 [(0, .ref r0), (1, .int on)] := hl
  refine lv_iload_n hx hb dX3_holds_0 rfl (lv_at hl 1 rfl) ?_
  refine lv_if_eq (tgt := 19) hx hb dX3_holds_1 (by decide) (fun c1 => ?_) (fun c1 => ?_)
  · refine lv_iconst (v := 0) hx hb dX3_holds_19 (by decide +kernel) ?_
    exact W.zret hx hb hr rfl (fun t ht hW => ⟨⟨_, (), rfl, (if_pos (Or.inl c1)).symm, trivial⟩, hS.F ht⟩) hS.2.2 dX3_holds_20
  · refine lv_aload_n hx hb dX3_holds_4 rfl (lv_at hl 0 rfl) ?_
    refine va_get (D := D) (ci := 4) (v := .int x9) (C := RX3) (T := TX3) (N := 13) hx hb hts iX3 hown hK hP 0 rfl rfl 9 (by decide) (hts (.fieldLink RX3 37 "InterlockTables$Row" "count" "I") (by decide +kernel)) (fun _ h9 => h9) rfl dX3_holds_5 ?_
    refine lv_aload_n hx hb dX3_holds_8 rfl (lv_at hl 0 rfl) ?_
    refine va_get (D := D) (ci := 4) (v := .int x7) (C := RX3) (T := TX3) (N := 13) hx hb hts iX3 hown hK hP 0 rfl rfl 7 (by decide) (hts (.fieldLink RX3 40 "InterlockTables$Row" "number" "I") (by decide +kernel)) (fun _ h9 => h9) rfl dX3_holds_9 ?_
    refine lv_icmp_lt (tgt := 19) hx hb dX3_holds_12 (by decide) (fun c12 => ?_) (fun c12 => ?_)
    · refine lv_iconst (v := 0) hx hb dX3_holds_19 (by decide +kernel) ?_
      exact W.zret hx hb hr rfl (fun t ht hW => ⟨⟨_, (), rfl, (if_pos (Or.inr c12)).symm, trivial⟩, hS.F ht⟩) hS.2.2 dX3_holds_20
    · refine lv_iconst (v := 1) hx hb dX3_holds_15 (by decide +kernel) ?_
      refine lv_goto (tgt := 20) hx hb dX3_holds_16 (by decide) ?_
      exact W.zret hx hb hr rfl (fun t ht hW => ⟨⟨_, (), rfl, (if_neg (not_or.mpr ⟨c1, c12⟩)).symm, trivial⟩, hS.F ht⟩) hS.2.2 dX3_holds_20

set_option maxHeartbeats 4000000 in
set_option maxRecDepth 100000 in
theorem c_Row_barsF (l : Launch) (D : va_G) (cy : Nat → ClassId) (e : Nat → Nat)  (r0 : Nat) (aa : Nat) (x1 : Int32) (x2 : Int32) (x3 : Int32) (x4 : Int32) (x5 : Int32) (x6 : Int32) (x7 : Int32) (x8 : Int32) (x9 : Int32) (x10 : Int32) (x11 : Int32) (x12 : Int32) (on : Int32)  : Met l yX3_bars wsX3_bars ({ frames := 1, cells := 0, slots := 0, locals := 21 }) (va_Pc [.ref r0, .int on] (pu_B D cy e [(r0, .inr (4, [.ref aa, .int x1, .int x2, .int x3, .int x4, .int x5, .int x6, .int x7, .int x8, .int x9, .int x10, .int x11, .int x12]))])) (va_Qi (fun (r : Int32) (_ : Unit) => r = kc_bar on x7 x9 x10 x11) (fun _ _ => True) (fun _ => False)) 0 0 (fun _ => False) := by
  refine Met.ofW (cc := cX3_bars) (maxL := 2) (ret := (some .boolean)) (by decide) rfl ?_
  intro p ev s m args below meth c s₁ B hml hv
  obtain ⟨rfl, hP, hK, hG⟩ := hv
  have hx := B.exec
  have hb := B.bytes
  have hr := B.returns
  have hts := atoms_spec (ws := wsX3_bars) B.pre
  have hown : s.vm.findClass RX3 = some m.cls := findClass_of_methodNamed B.named
  have hlocks := B.notSynchronized
  have hS : va_S (fun _ => False) s.heap s.heap [] := va_S.rf
  have hP : va_P D vwCl [(r0, .inr (4, [.ref aa, .int x1, .int x2, .int x3, .int x4, .int x5, .int x6, .int x7, .int x8, .int x9, .int x10, .int x11, .int x12]))] s.heap := hP
  have iX3 : ∀ w ∈ wsX30, w ∈ wsX3_bars := fun w h => List.mem_cons_of_mem _ (List.mem_append_right _ h)
  have hl := lv_entry ([.ref r0, .int on]) (n := 2) (Nat.le_of_ble_eq_true rfl)
  rw [lg_entry_eq]
  generalize (lg_sl ([.ref r0, .int on]) ++ List.replicate (2 - (lg_sl ([.ref r0, .int on])).length) Slot.unset).toArray = ls at hl ⊢
  have hl : lv_has ls 2 [(0, .ref r0), (1, .int on)] := hl
  refine lv_aload_n hx hb dX3_bars_0 rfl (lv_at hl 0 rfl) ?_
  refine va_get (D := D) (ci := 4) (v := .int x11) (C := RX3) (T := TX3) (N := 13) hx hb hts iX3 hown hK hP 0 rfl rfl 11 (by decide) (hts (.fieldLink RX3 26 "InterlockTables$Row" "passLeft" "I") (by decide +kernel)) (fun _ h9 => h9) rfl dX3_bars_1 ?_
  refine lv_if_ne (tgt := 26) hx hb dX3_bars_4 (by decide) (fun c4 => ?_) (fun c4 => ?_)
  · refine lv_iconst (v := 0) hx hb dX3_bars_26 (by decide +kernel) ?_
    exact W.zret hx hb hr rfl (fun t ht hW => ⟨⟨_, (), rfl, (if_neg (fun q9 => c4 q9.1)).symm, trivial⟩, hS.F ht⟩) hS.2.2 dX3_bars_27
  · refine lv_aload_n hx hb dX3_bars_7 rfl (lv_at hl 0 rfl) ?_
    refine va_get (D := D) (ci := 4) (v := .int x10) (C := RX3) (T := TX3) (N := 13) hx hb hts iX3 hown hK hP 0 rfl rfl 10 (by decide) (hts (.fieldLink RX3 29 "InterlockTables$Row" "latched" "Z") (by decide +kernel)) (fun _ h9 => h9) rfl dX3_bars_8 ?_
    refine lv_if_ne (tgt := 22) hx hb dX3_bars_11 (by decide) (fun c11 => ?_) (fun c11 => ?_)
    · refine lv_iconst (v := 1) hx hb dX3_bars_22 (by decide +kernel) ?_
      refine lv_goto (tgt := 27) hx hb dX3_bars_23 (by decide) ?_
      exact W.zret hx hb hr rfl (fun t ht hW => ⟨⟨_, (), rfl, (if_pos ⟨c4, Or.inl c11⟩).symm, trivial⟩, hS.F ht⟩) hS.2.2 dX3_bars_27
    · refine lv_aload_n hx hb dX3_bars_14 rfl (lv_at hl 0 rfl) ?_
      refine lv_iload_n hx hb dX3_bars_15 rfl (lv_at hl 1 rfl) ?_
      refine pu_calli (va_runV (As := [.int on]) (rest := []) ⟨hx, hb, hml, hown, hts⟩ (c_Row_holdsF l D cy e r0 aa x1 x2 x3 x4 x5 x6 x7 x8 x9 x10 x11 x12 on ) (cwV 1 hts gX3_bars_X3_holds rfl rfl rfl (by decide +kernel) ⟨Nat.le_of_ble_eq_true rfl, Nat.le_of_ble_eq_true rfl⟩) (pu_preV hP hK hS hG [0] rfl (q := (RX3, TX3, 13)) (ci := 4) (q0 := 0) rfl rfl) rfl rfl hl.1 rfl (lv_room (Nat.le_of_ble_eq_true rfl)) dX3_bars_16 ⟨(Nat.le_of_ble_eq_true rfl), (Nat.le_of_ble_eq_true rfl)⟩) hP hS (fun H locs hP hS => ?_)
      have hP : va_P D vwCl [(r0, .inr (4, [.ref aa, .int x1, .int x2, .int x3, .int x4, .int x5, .int x6, .int x7, .int x8, .int x9, .int x10, .int x11, .int x12]))] H := hP
      refine lv_if_eq (tgt := 26) hx hb dX3_bars_19 (by decide) (fun c19 => ?_) (fun c19 => ?_)
      · refine lv_iconst (v := 0) hx hb dX3_bars_26 (by decide +kernel) ?_
        exact W.zret hx hb hr rfl (fun t ht hW => ⟨⟨_, (), rfl, (if_neg (fun q9 => q9.2.elim (fun q8 => q8 c11) (fun q8 => q8 c19))).symm, trivial⟩, hS.F ht⟩) hS.2.2 dX3_bars_27
      · refine lv_iconst (v := 1) hx hb dX3_bars_22 (by decide +kernel) ?_
        refine lv_goto (tgt := 27) hx hb dX3_bars_23 (by decide) ?_
        exact W.zret hx hb hr rfl (fun t ht hW => ⟨⟨_, (), rfl, (if_pos ⟨c4, Or.inr c19⟩).symm, trivial⟩, hS.F ht⟩) hS.2.2 dX3_bars_27

set_option maxHeartbeats 4000000 in
set_option maxRecDepth 100000 in
theorem c_Row_letGoByF (l : Launch) (D : va_G) (cy : Nat → ClassId) (e : Nat → Nat)  (r0 : Nat) (aa : Nat) (x1 : Int32) (x2 : Int32) (x3 : Int32) (x4 : Int32) (x5 : Int32) (x6 : Int32) (x7 : Int32) (x8 : Int32) (x9 : Int32) (x10 : Int32) (x11 : Int32) (x12 : Int32) (k : Int32) (on : Int32) (sz : Nat)  : Met l yX3_letGoBy wsX3_letGoBy ({ frames := 1, cells := 0, slots := 0, locals := 21 }) (va_Pc [.ref r0, .int k, .int on] (mt_B D cy e [(r0, .inr (4, [.ref aa, .int x1, .int x2, .int x3, .int x4, .int x5, .int x6, .int x7, .int x8, .int x9, .int x10, .int x11, .int x12]))] sz)) (va_Qv (fun (u : Int32 × Int32 × Int32) => match u with | (y9, y10, y11) => y9 = kc_ct on k x9 ∧ y11 = kc_ps k x11 ∧ y10 = kc_lt on x8 x7 (kc_ct on k x9) x10) (mt_Q D (fun (u : Int32 × Int32 × Int32) => match u with | (y9, y10, y11) => [(r0, .inr (4, [.ref aa, .int x1, .int x2, .int x3, .int x4, .int x5, .int x6, .int x7, .int x8, .int y9, .int y10, .int y11, .int x12]))]) (va_A [(r0, .inr (4, [.ref aa, .int x1, .int x2, .int x3, .int x4, .int x5, .int x6, .int x7, .int x8, .int x9, .int x10, .int x11, .int x12]))] sz)) (va_A [(r0, .inr (4, [.ref aa, .int x1, .int x2, .int x3, .int x4, .int x5, .int x6, .int x7, .int x8, .int x9, .int x10, .int x11, .int x12]))] sz)) (0) (0) (va_A [(r0, .inr (4, [.ref aa, .int x1, .int x2, .int x3, .int x4, .int x5, .int x6, .int x7, .int x8, .int x9, .int x10, .int x11, .int x12]))] sz) := by
  refine Met.ofW (cc := cX3_letGoBy) (maxL := 3) (ret := none) (by decide) rfl ?_
  intro p ev s m args below meth c s₁ B hml hv
  obtain ⟨rfl, hsz, hP, hK, hD0, hG⟩ := hv
  have hx := B.exec
  have hb := B.bytes
  have hr := B.returns
  have hts := atoms_spec (ws := wsX3_letGoBy) B.pre
  have hown : s.vm.findClass RX3 = some m.cls := findClass_of_methodNamed B.named
  have hlocks := B.notSynchronized
  subst hsz
  have hD := hD0.self (sz := s.heap.size)
  generalize hAe : va_A [(r0, .inr (4, [.ref aa, .int x1, .int x2, .int x3, .int x4, .int x5, .int x6, .int x7, .int x8, .int x9, .int x10, .int x11, .int x12]))] s.heap.size = A at hD hG ⊢
  have hA : ∀ q : Nat, s.heap.size ≤ q → A q := fun q h => by rw [← hAe]; exact Or.inr h
  have hS : va_S A s.heap s.heap [] := va_S.rf
  have hP : va_P D vwCl [(r0, .inr (4, [.ref aa, .int x1, .int x2, .int x3, .int x4, .int x5, .int x6, .int x7, .int x8, .int x9, .int x10, .int x11, .int x12]))] s.heap := hP
  have iX3 : ∀ w ∈ wsX30, w ∈ wsX3_letGoBy := fun w h => List.mem_cons_of_mem _ (List.mem_append_right _ h)
  have hl := lv_entry ([.ref r0, .int k, .int on]) (n := 3) (Nat.le_of_ble_eq_true rfl)
  rw [lg_entry_eq]
  generalize (lg_sl ([.ref r0, .int k, .int on]) ++ List.replicate (3 - (lg_sl ([.ref r0, .int k, .int on])).length) Slot.unset).toArray = ls at hl ⊢
  have hl : lv_has ls 3 [(0, .ref r0), (1, .int k), (2, .int on)] := hl
  refine lv_aload_n hx hb dX3_letGoBy_0 rfl (lv_at hl 0 rfl) ?_
  refine lv_iconst (v := 0) hx hb dX3_letGoBy_1 (by decide +kernel) ?_
  refine lv_aload_n hx hb dX3_letGoBy_2 rfl (lv_at hl 0 rfl) ?_
  refine va_get (D := D) (ci := 4) (v := .int x11) (C := RX3) (T := TX3) (N := 13) hx hb hts iX3 hown hK hP 0 rfl rfl 11 (by decide) (hts (.fieldLink RX3 26 "InterlockTables$Row" "passLeft" "I") (by decide +kernel)) (fun _ h9 => h9) rfl dX3_letGoBy_3 ?_
  refine lv_iload_n hx hb dX3_letGoBy_6 rfl (lv_at hl 1 rfl) ?_
  refine lv_isub hx hb dX3_letGoBy_7 ?_
  refine va_mmax hx hb (by rw [hml]; exact hl.1.symm) hown (hts (.methodLink RX3 43 Lib.Math.max.name) (by decide +kernel)) (hts (.static Lib.Math.max.name) (by decide +kernel)) (hts (.initialized "java/lang/Math") (by decide +kernel)) (hts (.code Lib.Math.max.name Lib.Math.max.code 2 (some .int)) (by decide +kernel)) (Nat.le_of_ble_eq_true rfl) (Nat.le_of_ble_eq_true rfl) (Nat.le_of_ble_eq_true rfl) (Nat.le_of_ble_eq_true rfl) dX3_letGoBy_8 ?_
  refine va_put (D := D) (ci := 4) (v := .int (if 0 < x11 - k then x11 - k else 0)) (ty := .int) (C := RX3) (T := TX3) (N := 13) hx hb hts iX3 tyX3 tyX3_ok nmX3 hown hK hP hD hS 0 rfl rfl 11 (by decide) (hts (.fieldLink RX3 26 "InterlockTables$Row" "passLeft" "I") (by decide +kernel)) (fun _ h9 => h9) rfl (by decide +kernel) rfl rfl (Nat.le_of_ble_eq_true rfl) dX3_letGoBy_11 (fun H locs hP hD hS => ?_)
  have hP : va_P D vwCl [(r0, .inr (4, [.ref aa, .int x1, .int x2, .int x3, .int x4, .int x5, .int x6, .int x7, .int x8, .int x9, .int x10, .int (if 0 < x11 - k then x11 - k else 0), .int x12]))] H := hP
  have hD : va_D A [(r0, .inr (4, [.ref aa, .int x1, .int x2, .int x3, .int x4, .int x5, .int x6, .int x7, .int x8, .int x9, .int x10, .int (if 0 < x11 - k then x11 - k else 0), .int x12]))] := hD
  refine lv_aload_n hx hb dX3_letGoBy_14 rfl (lv_at hl 0 rfl) ?_
  refine lv_iload_n hx hb dX3_letGoBy_15 rfl (lv_at hl 2 rfl) ?_
  refine lv_if_eq (tgt := 33) hx hb dX3_letGoBy_16 (by decide) (fun c16 => ?_) (fun c16 => ?_)
  · refine lv_iconst (v := 0) hx hb dX3_letGoBy_33 (by decide +kernel) ?_
    refine va_put (D := D) (ci := 4) (v := .int 0) (ty := .int) (C := RX3) (T := TX3) (N := 13) hx hb hts iX3 tyX3 tyX3_ok nmX3 hown hK hP hD hS 0 rfl rfl 9 (by decide) (hts (.fieldLink RX3 37 "InterlockTables$Row" "count" "I") (by decide +kernel)) (fun _ h9 => h9) rfl (by decide +kernel) rfl rfl (Nat.le_of_ble_eq_true rfl) dX3_letGoBy_34 (fun H locs hP hD hS => ?_)
    have hP : va_P D vwCl [(r0, .inr (4, [.ref aa, .int x1, .int x2, .int x3, .int x4, .int x5, .int x6, .int x7, .int x8, .int 0, .int x10, .int (if 0 < x11 - k then x11 - k else 0), .int x12]))] H := hP
    have hD : va_D A [(r0, .inr (4, [.ref aa, .int x1, .int x2, .int x3, .int x4, .int x5, .int x6, .int x7, .int x8, .int 0, .int x10, .int (if 0 < x11 - k then x11 - k else 0), .int x12]))] := hD
    refine lv_aload_n hx hb dX3_letGoBy_37 rfl (lv_at hl 0 rfl) ?_
    refine va_get (D := D) (ci := 4) (v := .int x8) (C := RX3) (T := TX3) (N := 13) hx hb hts iX3 hown hK hP 0 rfl rfl 8 (by decide) (hts (.fieldLink RX3 53 "InterlockTables$Row" "mayLatch" "Z") (by decide +kernel)) (fun _ h9 => h9) rfl dX3_letGoBy_38 ?_
    refine lv_if_eq (tgt := 57) hx hb dX3_letGoBy_41 (by decide) (fun c41 => ?_) (fun c41 => ?_)
    · have e9 : 0 = kc_ct on k x9 := (if_pos c16).symm
      have hP9 : va_P D vwCl [(r0, .inr (4, [.ref aa, .int x1, .int x2, .int x3, .int x4, .int x5, .int x6, .int x7, .int x8, .int 0, .int x10, .int (if 0 < x11 - k then x11 - k else 0), .int x12]))] H := hP.sub [0] rfl
      have hD9 : va_D A [(r0, .inr (4, [.ref aa, .int x1, .int x2, .int x3, .int x4, .int x5, .int x6, .int x7, .int x8, .int 0, .int x10, .int (if 0 < x11 - k then x11 - k else 0), .int x12]))] := hD.sub [0] (by decide) rfl
      refine W.widen (k := 0) (n := 0) (by omega) (by omega) ?_
      exact W.vret hx hb hr (fun t ht hW => ⟨⟨(0, x10, (if 0 < x11 - k then x11 - k else 0)), rfl, ⟨e9, rfl, (if_neg (fun q9 => q9.1 c41)).symm⟩, by rw [ht]; exact hP9, hD9⟩, hS.F ht⟩) hS.2.2 dX3_letGoBy_57
    · refine lv_aload_n hx hb dX3_letGoBy_44 rfl (lv_at hl 0 rfl) ?_
      refine lv_iload_n hx hb dX3_letGoBy_45 rfl (lv_at hl 2 rfl) ?_
      refine pu_calli (va_runV (As := [.int on]) (rest := []) ⟨hx, hb, hml, hown, hts⟩ (c_Row_holdsF l D cy e r0 aa x1 x2 x3 x4 x5 x6 x7 x8 0 x10 (if 0 < x11 - k then x11 - k else 0) x12 on ) (cwV 1 hts gX3_letGoBy_X3_holds rfl rfl rfl (by decide +kernel) ⟨Nat.le_of_ble_eq_true rfl, Nat.le_of_ble_eq_true rfl⟩) (pu_preV hP hK hS hG [0] rfl (q := (RX3, TX3, 13)) (ci := 4) (q0 := 0) rfl rfl) rfl rfl hl.1 rfl (lv_room (Nat.le_of_ble_eq_true rfl)) dX3_letGoBy_46 ⟨(Nat.le_of_ble_eq_true rfl), (Nat.le_of_ble_eq_true rfl)⟩) hP hS (fun H locs hP hS => ?_)
      have hP : va_P D vwCl [(r0, .inr (4, [.ref aa, .int x1, .int x2, .int x3, .int x4, .int x5, .int x6, .int x7, .int x8, .int 0, .int x10, .int (if 0 < x11 - k then x11 - k else 0), .int x12]))] H := hP
      refine lv_if_eq (tgt := 57) hx hb dX3_letGoBy_49 (by decide) (fun c49 => ?_) (fun c49 => ?_)
      · have e9 : 0 = kc_ct on k x9 := (if_pos c16).symm
        have hP9 : va_P D vwCl [(r0, .inr (4, [.ref aa, .int x1, .int x2, .int x3, .int x4, .int x5, .int x6, .int x7, .int x8, .int 0, .int x10, .int (if 0 < x11 - k then x11 - k else 0), .int x12]))] H := hP.sub [0] rfl
        have hD9 : va_D A [(r0, .inr (4, [.ref aa, .int x1, .int x2, .int x3, .int x4, .int x5, .int x6, .int x7, .int x8, .int 0, .int x10, .int (if 0 < x11 - k then x11 - k else 0), .int x12]))] := hD.sub [0] (by decide) rfl
        refine W.widen (k := 0) (n := 0) (by omega) (by omega) ?_
        exact W.vret hx hb hr (fun t ht hW => ⟨⟨(0, x10, (if 0 < x11 - k then x11 - k else 0)), rfl, ⟨e9, rfl, (if_neg (fun q9 => q9.2 (by rw [← e9]; exact c49))).symm⟩, by rw [ht]; exact hP9, hD9⟩, hS.F ht⟩) hS.2.2 dX3_letGoBy_57
      · refine lv_aload_n hx hb dX3_letGoBy_52 rfl (lv_at hl 0 rfl) ?_
        refine lv_iconst (v := 1) hx hb dX3_letGoBy_53 (by decide +kernel) ?_
        refine va_put (D := D) (ci := 4) (v := .int 1) (ty := .boolean) (C := RX3) (T := TX3) (N := 13) hx hb hts iX3 tyX3 tyX3_ok nmX3 hown hK hP hD hS 0 rfl rfl 10 (by decide) (hts (.fieldLink RX3 29 "InterlockTables$Row" "latched" "Z") (by decide +kernel)) (fun _ h9 => h9) rfl (by decide +kernel) rfl rfl (Nat.le_of_ble_eq_true rfl) dX3_letGoBy_54 (fun H locs hP hD hS => ?_)
        have hP : va_P D vwCl [(r0, .inr (4, [.ref aa, .int x1, .int x2, .int x3, .int x4, .int x5, .int x6, .int x7, .int x8, .int 0, .int 1, .int (if 0 < x11 - k then x11 - k else 0), .int x12]))] H := hP
        have hD : va_D A [(r0, .inr (4, [.ref aa, .int x1, .int x2, .int x3, .int x4, .int x5, .int x6, .int x7, .int x8, .int 0, .int 1, .int (if 0 < x11 - k then x11 - k else 0), .int x12]))] := hD
        have e9 : 0 = kc_ct on k x9 := (if_pos c16).symm
        have hP9 : va_P D vwCl [(r0, .inr (4, [.ref aa, .int x1, .int x2, .int x3, .int x4, .int x5, .int x6, .int x7, .int x8, .int 0, .int 1, .int (if 0 < x11 - k then x11 - k else 0), .int x12]))] H := hP.sub [0] rfl
        have hD9 : va_D A [(r0, .inr (4, [.ref aa, .int x1, .int x2, .int x3, .int x4, .int x5, .int x6, .int x7, .int x8, .int 0, .int 1, .int (if 0 < x11 - k then x11 - k else 0), .int x12]))] := hD.sub [0] (by decide) rfl
        refine W.widen (k := 0) (n := 0) (by omega) (by omega) ?_
        exact W.vret hx hb hr (fun t ht hW => ⟨⟨(0, 1, (if 0 < x11 - k then x11 - k else 0)), rfl, ⟨e9, rfl, (if_pos ⟨c41, by rw [← e9]; exact c49⟩).symm⟩, by rw [ht]; exact hP9, hD9⟩, hS.F ht⟩) hS.2.2 dX3_letGoBy_57
  · refine lv_ldc (v := 1000000) hx hb hown (hts (.constant RX3 49 (1000000)) (by decide +kernel)) dX3_letGoBy_19 ?_
    refine lv_aload_n hx hb dX3_letGoBy_21 rfl (lv_at hl 0 rfl) ?_
    refine va_get (D := D) (ci := 4) (v := .int x9) (C := RX3) (T := TX3) (N := 13) hx hb hts iX3 hown hK hP 0 rfl rfl 9 (by decide) (hts (.fieldLink RX3 37 "InterlockTables$Row" "count" "I") (by decide +kernel)) (fun _ h9 => h9) rfl dX3_letGoBy_22 ?_
    refine lv_iload_n hx hb dX3_letGoBy_25 rfl (lv_at hl 1 rfl) ?_
    refine lv_iadd hx hb dX3_letGoBy_26 ?_
    refine va_mmin hx hb (by rw [hml]; exact hl.1.symm) hown (hts (.methodLink RX3 50 Lib.Math.min.name) (by decide +kernel)) (hts (.static Lib.Math.min.name) (by decide +kernel)) (hts (.initialized "java/lang/Math") (by decide +kernel)) (hts (.code Lib.Math.min.name Lib.Math.min.code 2 (some .int)) (by decide +kernel)) (Nat.le_of_ble_eq_true rfl) (Nat.le_of_ble_eq_true rfl) (Nat.le_of_ble_eq_true rfl) (Nat.le_of_ble_eq_true rfl) dX3_letGoBy_27 ?_
    refine lv_goto (tgt := 34) hx hb dX3_letGoBy_30 (by decide) ?_
    refine va_put (D := D) (ci := 4) (v := .int (if x9 + k < 1000000 then x9 + k else 1000000)) (ty := .int) (C := RX3) (T := TX3) (N := 13) hx hb hts iX3 tyX3 tyX3_ok nmX3 hown hK hP hD hS 0 rfl rfl 9 (by decide) (hts (.fieldLink RX3 37 "InterlockTables$Row" "count" "I") (by decide +kernel)) (fun _ h9 => h9) rfl (by decide +kernel) rfl rfl (Nat.le_of_ble_eq_true rfl) dX3_letGoBy_34 (fun H locs hP hD hS => ?_)
    have hP : va_P D vwCl [(r0, .inr (4, [.ref aa, .int x1, .int x2, .int x3, .int x4, .int x5, .int x6, .int x7, .int x8, .int (if x9 + k < 1000000 then x9 + k else 1000000), .int x10, .int (if 0 < x11 - k then x11 - k else 0), .int x12]))] H := hP
    have hD : va_D A [(r0, .inr (4, [.ref aa, .int x1, .int x2, .int x3, .int x4, .int x5, .int x6, .int x7, .int x8, .int (if x9 + k < 1000000 then x9 + k else 1000000), .int x10, .int (if 0 < x11 - k then x11 - k else 0), .int x12]))] := hD
    refine lv_aload_n hx hb dX3_letGoBy_37 rfl (lv_at hl 0 rfl) ?_
    refine va_get (D := D) (ci := 4) (v := .int x8) (C := RX3) (T := TX3) (N := 13) hx hb hts iX3 hown hK hP 0 rfl rfl 8 (by decide) (hts (.fieldLink RX3 53 "InterlockTables$Row" "mayLatch" "Z") (by decide +kernel)) (fun _ h9 => h9) rfl dX3_letGoBy_38 ?_
    refine lv_if_eq (tgt := 57) hx hb dX3_letGoBy_41 (by decide) (fun c41 => ?_) (fun c41 => ?_)
    · have e9 : (if x9 + k < 1000000 then x9 + k else 1000000) = kc_ct on k x9 := (if_neg c16).symm
      have hP9 : va_P D vwCl [(r0, .inr (4, [.ref aa, .int x1, .int x2, .int x3, .int x4, .int x5, .int x6, .int x7, .int x8, .int (if x9 + k < 1000000 then x9 + k else 1000000), .int x10, .int (if 0 < x11 - k then x11 - k else 0), .int x12]))] H := hP.sub [0] rfl
      have hD9 : va_D A [(r0, .inr (4, [.ref aa, .int x1, .int x2, .int x3, .int x4, .int x5, .int x6, .int x7, .int x8, .int (if x9 + k < 1000000 then x9 + k else 1000000), .int x10, .int (if 0 < x11 - k then x11 - k else 0), .int x12]))] := hD.sub [0] (by decide) rfl
      refine W.widen (k := 0) (n := 0) (by omega) (by omega) ?_
      exact W.vret hx hb hr (fun t ht hW => ⟨⟨((if x9 + k < 1000000 then x9 + k else 1000000), x10, (if 0 < x11 - k then x11 - k else 0)), rfl, ⟨e9, rfl, (if_neg (fun q9 => q9.1 c41)).symm⟩, by rw [ht]; exact hP9, hD9⟩, hS.F ht⟩) hS.2.2 dX3_letGoBy_57
    · refine lv_aload_n hx hb dX3_letGoBy_44 rfl (lv_at hl 0 rfl) ?_
      refine lv_iload_n hx hb dX3_letGoBy_45 rfl (lv_at hl 2 rfl) ?_
      refine pu_calli (va_runV (As := [.int on]) (rest := []) ⟨hx, hb, hml, hown, hts⟩ (c_Row_holdsF l D cy e r0 aa x1 x2 x3 x4 x5 x6 x7 x8 (if x9 + k < 1000000 then x9 + k else 1000000) x10 (if 0 < x11 - k then x11 - k else 0) x12 on ) (cwV 1 hts gX3_letGoBy_X3_holds rfl rfl rfl (by decide +kernel) ⟨Nat.le_of_ble_eq_true rfl, Nat.le_of_ble_eq_true rfl⟩) (pu_preV hP hK hS hG [0] rfl (q := (RX3, TX3, 13)) (ci := 4) (q0 := 0) rfl rfl) rfl rfl hl.1 rfl (lv_room (Nat.le_of_ble_eq_true rfl)) dX3_letGoBy_46 ⟨(Nat.le_of_ble_eq_true rfl), (Nat.le_of_ble_eq_true rfl)⟩) hP hS (fun H locs hP hS => ?_)
      have hP : va_P D vwCl [(r0, .inr (4, [.ref aa, .int x1, .int x2, .int x3, .int x4, .int x5, .int x6, .int x7, .int x8, .int (if x9 + k < 1000000 then x9 + k else 1000000), .int x10, .int (if 0 < x11 - k then x11 - k else 0), .int x12]))] H := hP
      refine lv_if_eq (tgt := 57) hx hb dX3_letGoBy_49 (by decide) (fun c49 => ?_) (fun c49 => ?_)
      · have e9 : (if x9 + k < 1000000 then x9 + k else 1000000) = kc_ct on k x9 := (if_neg c16).symm
        have hP9 : va_P D vwCl [(r0, .inr (4, [.ref aa, .int x1, .int x2, .int x3, .int x4, .int x5, .int x6, .int x7, .int x8, .int (if x9 + k < 1000000 then x9 + k else 1000000), .int x10, .int (if 0 < x11 - k then x11 - k else 0), .int x12]))] H := hP.sub [0] rfl
        have hD9 : va_D A [(r0, .inr (4, [.ref aa, .int x1, .int x2, .int x3, .int x4, .int x5, .int x6, .int x7, .int x8, .int (if x9 + k < 1000000 then x9 + k else 1000000), .int x10, .int (if 0 < x11 - k then x11 - k else 0), .int x12]))] := hD.sub [0] (by decide) rfl
        refine W.widen (k := 0) (n := 0) (by omega) (by omega) ?_
        exact W.vret hx hb hr (fun t ht hW => ⟨⟨((if x9 + k < 1000000 then x9 + k else 1000000), x10, (if 0 < x11 - k then x11 - k else 0)), rfl, ⟨e9, rfl, (if_neg (fun q9 => q9.2 (by rw [← e9]; exact c49))).symm⟩, by rw [ht]; exact hP9, hD9⟩, hS.F ht⟩) hS.2.2 dX3_letGoBy_57
      · refine lv_aload_n hx hb dX3_letGoBy_52 rfl (lv_at hl 0 rfl) ?_
        refine lv_iconst (v := 1) hx hb dX3_letGoBy_53 (by decide +kernel) ?_
        refine va_put (D := D) (ci := 4) (v := .int 1) (ty := .boolean) (C := RX3) (T := TX3) (N := 13) hx hb hts iX3 tyX3 tyX3_ok nmX3 hown hK hP hD hS 0 rfl rfl 10 (by decide) (hts (.fieldLink RX3 29 "InterlockTables$Row" "latched" "Z") (by decide +kernel)) (fun _ h9 => h9) rfl (by decide +kernel) rfl rfl (Nat.le_of_ble_eq_true rfl) dX3_letGoBy_54 (fun H locs hP hD hS => ?_)
        have hP : va_P D vwCl [(r0, .inr (4, [.ref aa, .int x1, .int x2, .int x3, .int x4, .int x5, .int x6, .int x7, .int x8, .int (if x9 + k < 1000000 then x9 + k else 1000000), .int 1, .int (if 0 < x11 - k then x11 - k else 0), .int x12]))] H := hP
        have hD : va_D A [(r0, .inr (4, [.ref aa, .int x1, .int x2, .int x3, .int x4, .int x5, .int x6, .int x7, .int x8, .int (if x9 + k < 1000000 then x9 + k else 1000000), .int 1, .int (if 0 < x11 - k then x11 - k else 0), .int x12]))] := hD
        have e9 : (if x9 + k < 1000000 then x9 + k else 1000000) = kc_ct on k x9 := (if_neg c16).symm
        have hP9 : va_P D vwCl [(r0, .inr (4, [.ref aa, .int x1, .int x2, .int x3, .int x4, .int x5, .int x6, .int x7, .int x8, .int (if x9 + k < 1000000 then x9 + k else 1000000), .int 1, .int (if 0 < x11 - k then x11 - k else 0), .int x12]))] H := hP.sub [0] rfl
        have hD9 : va_D A [(r0, .inr (4, [.ref aa, .int x1, .int x2, .int x3, .int x4, .int x5, .int x6, .int x7, .int x8, .int (if x9 + k < 1000000 then x9 + k else 1000000), .int 1, .int (if 0 < x11 - k then x11 - k else 0), .int x12]))] := hD.sub [0] (by decide) rfl
        refine W.widen (k := 0) (n := 0) (by omega) (by omega) ?_
        exact W.vret hx hb hr (fun t ht hW => ⟨⟨((if x9 + k < 1000000 then x9 + k else 1000000), 1, (if 0 < x11 - k then x11 - k else 0)), rfl, ⟨e9, rfl, (if_pos ⟨c41, by rw [← e9]; exact c49⟩).symm⟩, by rw [ht]; exact hP9, hD9⟩, hS.F ht⟩) hS.2.2 dX3_letGoBy_57
