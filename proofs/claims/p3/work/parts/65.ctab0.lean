-- deps: 55 56 60 62
set_option maxHeartbeats 4000000 in
set_option maxRecDepth 100000 in
theorem c_Table_size (l : Launch) (D : va_G) (cy : Nat → ClassId) (e : Nat → Nat)  (tb : Nat) (ro : Nat) (xp : Nat) (wr : Value) (sv : Int32) (mod : Int32) (el : Value) (sc : Int32)  : Met l yX5_size wsX5_size ({ frames := 1, cells := 0, slots := 0, locals := 20 }) (va_Pc [.ref tb] (pu_B D cy e [(tb, .inr (6, [.ref ro, .ref xp, wr, .int sv])), (ro, .inr (0, [.int mod, el, .int sc]))])) (va_Qi (fun (r : Int32) (_ : Unit) => r = sc) (fun _ _ => True) (fun _ => False)) 0 0 (fun _ => False) := by
  refine Met.ofW (cc := cX5_size) (maxL := 1) (ret := (some .int)) (by decide) rfl ?_
  intro p ev s m args below meth c s₁ B hml hv
  obtain ⟨rfl, hP, hK, hG⟩ := hv
  have hx := B.exec
  have hb := B.bytes
  have hr := B.returns
  have hts := atoms_spec (ws := wsX5_size) B.pre
  have hown : s.vm.findClass RX5 = some m.cls := findClass_of_methodNamed B.named
  have hlocks := B.notSynchronized
  have hS : va_S (fun _ => False) s.heap s.heap [] := va_S.rf
  have hP : va_P D vwCl [(tb, .inr (6, [.ref ro, .ref xp, wr, .int sv])), (ro, .inr (0, [.int mod, el, .int sc]))] s.heap := hP
  have iX5 : ∀ w ∈ wsX50, w ∈ wsX5_size := fun w h => List.mem_cons_of_mem _ (List.mem_append_left _ (List.mem_append_right _ h))
  have iJx4a65c : ∀ w ∈ wsJx4a65c0, w ∈ wsX5_size := fun w h => List.mem_cons_of_mem _ (List.mem_append_right _ h)
  have hl := lv_entry ([.ref tb]) (n := 1) (Nat.le_of_ble_eq_true rfl)
  rw [lg_entry_eq]
  generalize (lg_sl ([.ref tb]) ++ List.replicate (1 - (lg_sl ([.ref tb])).length) Slot.unset).toArray = ls at hl ⊢
  have hl : lv_has ls 1 [(0, .ref tb)] := hl
  refine lv_aload_n hx hb dX5_size_0 rfl (lv_at hl 0 rfl) ?_
  refine va_get (D := D) (ci := 6) (v := .ref ro) (C := RX5) (T := TX5) (N := 4) hx hb hts iX5 hown hK hP 0 rfl rfl 0 (by decide) (hts (.fieldLink RX5 12 "InterlockTables$Table" "rows" "Ljava/util/ArrayList;") (by decide +kernel)) (fun _ h9 => h9) rfl dX5_size_1 ?_
  refine pu_calli (va_runV (As := []) (rest := []) ⟨hx, hb, hml, hown, hts⟩ (c_AL_size l D cy e ro mod el sc ) (cwV 0 hts gX5_size_Jx4a65c_size_8abf5 rfl rfl rfl (by decide +kernel) ⟨Nat.le_of_ble_eq_true rfl, Nat.le_of_ble_eq_true rfl⟩) (pu_preV hP hK hS hG [1] rfl (q := (RJx4a65c, TJx4a65c, 3)) (ci := 0) (q0 := 1) rfl rfl) rfl rfl hl.1 rfl (lv_room (Nat.le_of_ble_eq_true rfl)) dX5_size_4 ⟨(Nat.le_of_ble_eq_true rfl), (Nat.le_of_ble_eq_true rfl)⟩) hP hS (fun H locs hP hS => ?_)
  have hP : va_P D vwCl [(tb, .inr (6, [.ref ro, .ref xp, wr, .int sv])), (ro, .inr (0, [.int mod, el, .int sc]))] H := hP
  exact W.iret hx hb hr (fun t ht hW => ⟨⟨_, (), rfl, rfl, trivial⟩, hS.F ht⟩) hS.2.2 dX5_size_7

set_option maxHeartbeats 4000000 in
set_option maxRecDepth 100000 in
theorem c_Table_valueOf (l : Launch) (D : va_G) (cy : Nat → ClassId) (e : Nat → Nat)  (tb : Nat) (ro : Nat) (xp : Nat) (wr : Value) (sv : Int32) (cd : Nat) (sz0 : Nat) (st : Nat) (n1 : Nat) (fc : Nat → Int32) (g : Nat → Int64) (se : Nat) (n3 : Nat) (sf : Nat → Int64) (r0 : Nat) (aa : Nat) (x1 : Int32) (x2 : Int32) (x3 : Int32) (x4 : Int32) (x5 : Int32) (x6 : Int32) (x7 : Int32) (x8 : Int32) (x9 : Int32) (x10 : Int32) (x11 : Int32) (x12 : Int32) (sz : Nat) (hsz : sz0 ≤ n1) (hn1 : n1 < 65536) (hn3 : n3 < 65536) : Met l yX5_valueOf wsX5_valueOf ({ frames := 2, cells := 0, slots := 0, locals := 50 }) (va_Pc [.ref tb, .ref r0, .ref se] (mt_B D cy e [(tb, .inr (6, [.ref ro, .ref xp, wr, .int sv])), (xp, .inr (2, [.ref cd, .int (nI sz0), .ref st])), (cd, .inl (cy 0, n1, .inl fc)), (st, .inl (cy 2, 32, .inr (.inl g))), (se, .inl (cy 2, n3, .inr (.inl sf))), (r0, .inr (4, [.ref aa, .int x1, .int x2, .int x3, .int x4, .int x5, .int x6, .int x7, .int x8, .int x9, .int x10, .int x11, .int x12]))] sz)) (va_Ql (fun (r : Int64) (g2 : (Nat → Int64)) => True) (mt_Q D (fun g2 => [(tb, .inr (6, [.ref ro, .ref xp, wr, .int sv])), (xp, .inr (2, [.ref cd, .int (nI sz0), .ref st])), (cd, .inl (cy 0, n1, .inl fc)), (st, .inl (cy 2, 32, .inr (.inl g2))), (se, .inl (cy 2, n3, .inr (.inl sf))), (r0, .inr (4, [.ref aa, .int x1, .int x2, .int x3, .int x4, .int x5, .int x6, .int x7, .int x8, .int x9, .int x10, .int x11, .int x12]))]) (va_A [(tb, .inr (6, [.ref ro, .ref xp, wr, .int sv])), (xp, .inr (2, [.ref cd, .int (nI sz0), .ref st])), (cd, .inl (cy 0, n1, .inl fc)), (st, .inl (cy 2, 32, .inr (.inl g))), (se, .inl (cy 2, n3, .inr (.inl sf))), (r0, .inr (4, [.ref aa, .int x1, .int x2, .int x3, .int x4, .int x5, .int x6, .int x7, .int x8, .int x9, .int x10, .int x11, .int x12]))] sz)) (va_A [(tb, .inr (6, [.ref ro, .ref xp, wr, .int sv])), (xp, .inr (2, [.ref cd, .int (nI sz0), .ref st])), (cd, .inl (cy 0, n1, .inl fc)), (st, .inl (cy 2, 32, .inr (.inl g))), (se, .inl (cy 2, n3, .inr (.inl sf))), (r0, .inr (4, [.ref aa, .int x1, .int x2, .int x3, .int x4, .int x5, .int x6, .int x7, .int x8, .int x9, .int x10, .int x11, .int x12]))] sz)) (0) (0) (va_A [(tb, .inr (6, [.ref ro, .ref xp, wr, .int sv])), (xp, .inr (2, [.ref cd, .int (nI sz0), .ref st])), (cd, .inl (cy 0, n1, .inl fc)), (st, .inl (cy 2, 32, .inr (.inl g))), (se, .inl (cy 2, n3, .inr (.inl sf))), (r0, .inr (4, [.ref aa, .int x1, .int x2, .int x3, .int x4, .int x5, .int x6, .int x7, .int x8, .int x9, .int x10, .int x11, .int x12]))] sz) := by
  refine Met.ofW (cc := cX5_valueOf) (maxL := 3) (ret := (some .long)) (by decide) rfl ?_
  intro p ev s m args below meth c s₁ B hml hv
  obtain ⟨rfl, hsz, hP, hK, hD0, hG⟩ := hv
  have hx := B.exec
  have hb := B.bytes
  have hr := B.returns
  have hts := atoms_spec (ws := wsX5_valueOf) B.pre
  have hown : s.vm.findClass RX5 = some m.cls := findClass_of_methodNamed B.named
  have hlocks := B.notSynchronized
  subst hsz
  have hD := hD0.self (sz := s.heap.size)
  generalize hAe : va_A [(tb, .inr (6, [.ref ro, .ref xp, wr, .int sv])), (xp, .inr (2, [.ref cd, .int (nI sz0), .ref st])), (cd, .inl (cy 0, n1, .inl fc)), (st, .inl (cy 2, 32, .inr (.inl g))), (se, .inl (cy 2, n3, .inr (.inl sf))), (r0, .inr (4, [.ref aa, .int x1, .int x2, .int x3, .int x4, .int x5, .int x6, .int x7, .int x8, .int x9, .int x10, .int x11, .int x12]))] s.heap.size = A at hD hG ⊢
  have hA : ∀ q : Nat, s.heap.size ≤ q → A q := fun q h => by rw [← hAe]; exact Or.inr h
  have hS : va_S A s.heap s.heap [] := va_S.rf
  have hP : va_P D vwCl [(tb, .inr (6, [.ref ro, .ref xp, wr, .int sv])), (xp, .inr (2, [.ref cd, .int (nI sz0), .ref st])), (cd, .inl (cy 0, n1, .inl fc)), (st, .inl (cy 2, 32, .inr (.inl g))), (se, .inl (cy 2, n3, .inr (.inl sf))), (r0, .inr (4, [.ref aa, .int x1, .int x2, .int x3, .int x4, .int x5, .int x6, .int x7, .int x8, .int x9, .int x10, .int x11, .int x12]))] s.heap := hP
  have iX5 : ∀ w ∈ wsX50, w ∈ wsX5_valueOf := fun w h => List.mem_cons_of_mem _ (List.mem_append_left _ (List.mem_append_left _ (List.mem_append_right _ h)))
  have iX3 : ∀ w ∈ wsX30, w ∈ wsX5_valueOf := fun w h => List.mem_cons_of_mem _ (List.mem_append_left _ (List.mem_append_right _ h))
  have iX1 : ∀ w ∈ wsX10, w ∈ wsX5_valueOf := fun w h => List.mem_cons_of_mem _ (List.mem_append_right _ h)
  have hl := lv_entry ([.ref tb, .ref r0, .ref se]) (n := 3) (Nat.le_of_ble_eq_true rfl)
  rw [lg_entry_eq]
  generalize (lg_sl ([.ref tb, .ref r0, .ref se]) ++ List.replicate (3 - (lg_sl ([.ref tb, .ref r0, .ref se])).length) Slot.unset).toArray = ls at hl ⊢
  have hl : lv_has ls 3 [(0, .ref tb), (1, .ref r0), (2, .ref se)] := hl
  refine lv_aload_n hx hb dX5_valueOf_0 rfl (lv_at hl 0 rfl) ?_
  refine va_get (D := D) (ci := 6) (v := .ref xp) (C := RX5) (T := TX5) (N := 4) hx hb hts iX5 hown hK hP 0 rfl rfl 1 (by decide) (hts (.fieldLink RX5 23 "InterlockTables$Table" "expressions" "LInterlockTables$Expressions;") (by decide +kernel)) (fun _ h9 => h9) rfl dX5_valueOf_1 ?_
  refine lv_aload_n hx hb dX5_valueOf_4 rfl (lv_at hl 1 rfl) ?_
  refine va_getN (D := D) (ci := 4) (v := .int x4) (C := RX3) (T := TX3) (N := 13) hx hb hts iX3 hown hK hP 5 rfl rfl 4 (by decide) (gl_N.f hG.gN 11 rfl) (fun _ h9 => h9) rfl dX5_valueOf_5 ?_
  refine lv_aload_n hx hb dX5_valueOf_8 rfl (lv_at hl 1 rfl) ?_
  refine va_getN (D := D) (ci := 4) (v := .int x5) (C := RX3) (T := TX3) (N := 13) hx hb hts iX3 hown hK hP 5 rfl rfl 5 (by decide) (gl_N.f hG.gN 14 rfl) (fun _ h9 => h9) rfl dX5_valueOf_9 ?_
  refine lv_aload_n hx hb dX5_valueOf_12 rfl (lv_at hl 2 rfl) ?_
  refine mt_calll (wr := [(tb, .inr (6, [.ref ro, .ref xp, wr, .int sv])), (r0, .inr (4, [.ref aa, .int x1, .int x2, .int x3, .int x4, .int x5, .int x6, .int x7, .int x8, .int x9, .int x10, .int x11, .int x12]))]) (va_runV (As := [.int x4, .int x5, .ref se]) (rest := []) ⟨hx, hb, hml, hown, hts⟩ (c_Expr_valueOf l D cy e xp cd sz0 st n1 fc g se n3 sf x4 x5 s.heap.size hsz hn1 hn3) (cwV 3 hts gX5_valueOf_X1_valueOf rfl rfl rfl (by decide +kernel) ⟨Nat.le_of_ble_eq_true rfl, Nat.le_of_ble_eq_true rfl⟩) (mt_preV hP hD hK hS hA hG [1, 2, 3, 4] rfl (by decide) (q := (RX1, TX1, 3)) (ci := 2) (q0 := 1) rfl rfl) rfl rfl hl.1 rfl (lv_room (Nat.le_of_ble_eq_true rfl)) dX5_valueOf_13 ⟨(Nat.le_of_ble_eq_true rfl), (Nat.le_of_ble_eq_true rfl)⟩) hP hD hS hA [1, 2, 3, 4] [0, 5] rfl rfl (by decide) (by decide) (fun r13 u H locs hw hP hD hS => ?_)
  obtain ⟨g2_13, rfl⟩ : ∃ z, z = u := ⟨_, rfl⟩
  have hP : va_P D vwCl [(tb, .inr (6, [.ref ro, .ref xp, wr, .int sv])), (r0, .inr (4, [.ref aa, .int x1, .int x2, .int x3, .int x4, .int x5, .int x6, .int x7, .int x8, .int x9, .int x10, .int x11, .int x12])), (xp, .inr (2, [.ref cd, .int (nI sz0), .ref st])), (cd, .inl (cy 0, n1, .inl fc)), (st, .inl (cy 2, 32, .inr (.inl g2_13))), (se, .inl (cy 2, n3, .inr (.inl sf)))] H := hP
  have hD : va_D A [(tb, .inr (6, [.ref ro, .ref xp, wr, .int sv])), (r0, .inr (4, [.ref aa, .int x1, .int x2, .int x3, .int x4, .int x5, .int x6, .int x7, .int x8, .int x9, .int x10, .int x11, .int x12])), (xp, .inr (2, [.ref cd, .int (nI sz0), .ref st])), (cd, .inl (cy 0, n1, .inl fc)), (st, .inl (cy 2, 32, .inr (.inl g2_13))), (se, .inl (cy 2, n3, .inr (.inl sf)))] := hD
  replace hw : True := hw
  refine W.widen (k := 0) (n := 0) (by omega) (by omega) ?_
  have hP9 : va_P D vwCl [(tb, .inr (6, [.ref ro, .ref xp, wr, .int sv])), (xp, .inr (2, [.ref cd, .int (nI sz0), .ref st])), (cd, .inl (cy 0, n1, .inl fc)), (st, .inl (cy 2, 32, .inr (.inl g2_13))), (se, .inl (cy 2, n3, .inr (.inl sf))), (r0, .inr (4, [.ref aa, .int x1, .int x2, .int x3, .int x4, .int x5, .int x6, .int x7, .int x8, .int x9, .int x10, .int x11, .int x12]))] H := hP.sub [0, 2, 3, 4, 5, 1] rfl
  have hD9 : va_D A [(tb, .inr (6, [.ref ro, .ref xp, wr, .int sv])), (xp, .inr (2, [.ref cd, .int (nI sz0), .ref st])), (cd, .inl (cy 0, n1, .inl fc)), (st, .inl (cy 2, 32, .inr (.inl g2_13))), (se, .inl (cy 2, n3, .inr (.inl sf))), (r0, .inr (4, [.ref aa, .int x1, .int x2, .int x3, .int x4, .int x5, .int x6, .int x7, .int x8, .int x9, .int x10, .int x11, .int x12]))] := hD.sub [0, 2, 3, 4, 5, 1] (by decide) rfl
  refine W.widen (k := 0) (n := 0) (by omega) (by omega) ?_
  exact W.lret hx hb hr (fun t ht hW => ⟨⟨_, g2_13, rfl, trivial, by rw [ht]; exact hP9, hD9⟩, hS.F ht⟩) hS.2.2 dX5_valueOf_16

set_option maxHeartbeats 4000000 in
set_option maxRecDepth 100000 in
theorem c_Table_isOn (l : Launch) (D : va_G) (cy : Nat → ClassId) (e : Nat → Nat)  (tb : Nat) (ro : Nat) (xp : Nat) (wr : Value) (sv : Int32) (cd : Nat) (sz0 : Nat) (st : Nat) (n1 : Nat) (fc : Nat → Int32) (g : Nat → Int64) (se : Nat) (n3 : Nat) (sf : Nat → Int64) (r0 : Nat) (aa : Nat) (x1 : Int32) (x2 : Int32) (x3 : Int32) (x4 : Int32) (x5 : Int32) (x6 : Int32) (x7 : Int32) (x8 : Int32) (x9 : Int32) (x10 : Int32) (x11 : Int32) (x12 : Int32) (sz : Nat) (hsz : sz0 ≤ n1) (hn1 : n1 < 65536) (hn3 : n3 < 65536) : Met l yX5_isOn wsX5_isOn ({ frames := 3, cells := 0, slots := 0, locals := 72 }) (va_Pc [.ref tb, .ref r0, .ref se] (mt_B D cy e [(tb, .inr (6, [.ref ro, .ref xp, wr, .int sv])), (xp, .inr (2, [.ref cd, .int (nI sz0), .ref st])), (cd, .inl (cy 0, n1, .inl fc)), (st, .inl (cy 2, 32, .inr (.inl g))), (se, .inl (cy 2, n3, .inr (.inl sf))), (r0, .inr (4, [.ref aa, .int x1, .int x2, .int x3, .int x4, .int x5, .int x6, .int x7, .int x8, .int x9, .int x10, .int x11, .int x12]))] sz)) (va_Qi (fun (r : Int32) (g2 : (Nat → Int64)) => r = 0 ∨ r = 1) (mt_Q D (fun g2 => [(tb, .inr (6, [.ref ro, .ref xp, wr, .int sv])), (xp, .inr (2, [.ref cd, .int (nI sz0), .ref st])), (cd, .inl (cy 0, n1, .inl fc)), (st, .inl (cy 2, 32, .inr (.inl g2))), (se, .inl (cy 2, n3, .inr (.inl sf))), (r0, .inr (4, [.ref aa, .int x1, .int x2, .int x3, .int x4, .int x5, .int x6, .int x7, .int x8, .int x9, .int x10, .int x11, .int x12]))]) (va_A [(tb, .inr (6, [.ref ro, .ref xp, wr, .int sv])), (xp, .inr (2, [.ref cd, .int (nI sz0), .ref st])), (cd, .inl (cy 0, n1, .inl fc)), (st, .inl (cy 2, 32, .inr (.inl g))), (se, .inl (cy 2, n3, .inr (.inl sf))), (r0, .inr (4, [.ref aa, .int x1, .int x2, .int x3, .int x4, .int x5, .int x6, .int x7, .int x8, .int x9, .int x10, .int x11, .int x12]))] sz)) (va_A [(tb, .inr (6, [.ref ro, .ref xp, wr, .int sv])), (xp, .inr (2, [.ref cd, .int (nI sz0), .ref st])), (cd, .inl (cy 0, n1, .inl fc)), (st, .inl (cy 2, 32, .inr (.inl g))), (se, .inl (cy 2, n3, .inr (.inl sf))), (r0, .inr (4, [.ref aa, .int x1, .int x2, .int x3, .int x4, .int x5, .int x6, .int x7, .int x8, .int x9, .int x10, .int x11, .int x12]))] sz)) (0) (0) (va_A [(tb, .inr (6, [.ref ro, .ref xp, wr, .int sv])), (xp, .inr (2, [.ref cd, .int (nI sz0), .ref st])), (cd, .inl (cy 0, n1, .inl fc)), (st, .inl (cy 2, 32, .inr (.inl g))), (se, .inl (cy 2, n3, .inr (.inl sf))), (r0, .inr (4, [.ref aa, .int x1, .int x2, .int x3, .int x4, .int x5, .int x6, .int x7, .int x8, .int x9, .int x10, .int x11, .int x12]))] sz) := by
  refine Met.ofW (cc := cX5_isOn) (maxL := 3) (ret := (some .boolean)) (by decide) rfl ?_
  intro p ev s m args below meth c s₁ B hml hv
  obtain ⟨rfl, hsz, hP, hK, hD0, hG⟩ := hv
  have hx := B.exec
  have hb := B.bytes
  have hr := B.returns
  have hts := atoms_spec (ws := wsX5_isOn) B.pre
  have hown : s.vm.findClass RX5 = some m.cls := findClass_of_methodNamed B.named
  have hlocks := B.notSynchronized
  subst hsz
  have hD := hD0.self (sz := s.heap.size)
  generalize hAe : va_A [(tb, .inr (6, [.ref ro, .ref xp, wr, .int sv])), (xp, .inr (2, [.ref cd, .int (nI sz0), .ref st])), (cd, .inl (cy 0, n1, .inl fc)), (st, .inl (cy 2, 32, .inr (.inl g))), (se, .inl (cy 2, n3, .inr (.inl sf))), (r0, .inr (4, [.ref aa, .int x1, .int x2, .int x3, .int x4, .int x5, .int x6, .int x7, .int x8, .int x9, .int x10, .int x11, .int x12]))] s.heap.size = A at hD hG ⊢
  have hA : ∀ q : Nat, s.heap.size ≤ q → A q := fun q h => by rw [← hAe]; exact Or.inr h
  have hS : va_S A s.heap s.heap [] := va_S.rf
  have hP : va_P D vwCl [(tb, .inr (6, [.ref ro, .ref xp, wr, .int sv])), (xp, .inr (2, [.ref cd, .int (nI sz0), .ref st])), (cd, .inl (cy 0, n1, .inl fc)), (st, .inl (cy 2, 32, .inr (.inl g))), (se, .inl (cy 2, n3, .inr (.inl sf))), (r0, .inr (4, [.ref aa, .int x1, .int x2, .int x3, .int x4, .int x5, .int x6, .int x7, .int x8, .int x9, .int x10, .int x11, .int x12]))] s.heap := hP
  have iX5 : ∀ w ∈ wsX50, w ∈ wsX5_isOn := fun w h => List.mem_cons_of_mem _ (List.mem_append_left _ (List.mem_append_left _ (List.mem_append_right _ h)))
  have iX3 : ∀ w ∈ wsX30, w ∈ wsX5_isOn := fun w h => List.mem_cons_of_mem _ (List.mem_append_left _ (List.mem_append_right _ h))
  have iX1 : ∀ w ∈ wsX10, w ∈ wsX5_isOn := fun w h => List.mem_cons_of_mem _ (List.mem_append_right _ h)
  have hl := lv_entry ([.ref tb, .ref r0, .ref se]) (n := 3) (Nat.le_of_ble_eq_true rfl)
  rw [lg_entry_eq]
  generalize (lg_sl ([.ref tb, .ref r0, .ref se]) ++ List.replicate (3 - (lg_sl ([.ref tb, .ref r0, .ref se])).length) Slot.unset).toArray = ls at hl ⊢
  have hl : lv_has ls 3 [(0, .ref tb), (1, .ref r0), (2, .ref se)] := hl
  refine lv_aload_n hx hb dX5_isOn_0 rfl (lv_at hl 0 rfl) ?_
  refine lv_aload_n hx hb dX5_isOn_1 rfl (lv_at hl 1 rfl) ?_
  refine lv_aload_n hx hb dX5_isOn_2 rfl (lv_at hl 2 rfl) ?_
  refine mt_calll (wr := []) (va_runV (As := [.ref r0, .ref se]) (rest := []) ⟨hx, hb, hml, hown, hts⟩ (c_Table_valueOf l D cy e tb ro xp wr sv cd sz0 st n1 fc g se n3 sf r0 aa x1 x2 x3 x4 x5 x6 x7 x8 x9 x10 x11 x12 s.heap.size hsz hn1 hn3) (cwV 2 hts gX5_isOn_X5_valueOf rfl rfl rfl (by decide +kernel) ⟨Nat.le_of_ble_eq_true rfl, Nat.le_of_ble_eq_true rfl⟩) (mt_preV hP hD hK hS hA hG [0, 1, 2, 3, 4, 5] rfl (by decide) (q := (RX5, TX5, 4)) (ci := 6) (q0 := 0) rfl rfl) rfl rfl hl.1 rfl (lv_room (Nat.le_of_ble_eq_true rfl)) dX5_isOn_3 ⟨(Nat.le_of_ble_eq_true rfl), (Nat.le_of_ble_eq_true rfl)⟩) hP hD hS hA [0, 1, 2, 3, 4, 5] [] rfl rfl (by decide) (by decide) (fun r3 u H locs hw hP hD hS => ?_)
  obtain ⟨g2_3, rfl⟩ : ∃ z, z = u := ⟨_, rfl⟩
  have hP : va_P D vwCl [(tb, .inr (6, [.ref ro, .ref xp, wr, .int sv])), (xp, .inr (2, [.ref cd, .int (nI sz0), .ref st])), (cd, .inl (cy 0, n1, .inl fc)), (st, .inl (cy 2, 32, .inr (.inl g2_3))), (se, .inl (cy 2, n3, .inr (.inl sf))), (r0, .inr (4, [.ref aa, .int x1, .int x2, .int x3, .int x4, .int x5, .int x6, .int x7, .int x8, .int x9, .int x10, .int x11, .int x12]))] H := hP
  have hD : va_D A [(tb, .inr (6, [.ref ro, .ref xp, wr, .int sv])), (xp, .inr (2, [.ref cd, .int (nI sz0), .ref st])), (cd, .inl (cy 0, n1, .inl fc)), (st, .inl (cy 2, 32, .inr (.inl g2_3))), (se, .inl (cy 2, n3, .inr (.inl sf))), (r0, .inr (4, [.ref aa, .int x1, .int x2, .int x3, .int x4, .int x5, .int x6, .int x7, .int x8, .int x9, .int x10, .int x11, .int x12]))] := hD
  replace hw : True := hw
  refine W.widen (k := 0) (n := 0) (by omega) (by omega) ?_
  refine lv_lconst (v := 0) hx hb dX5_isOn_6 (by decide +kernel) ?_
  refine W.lcmp hx hb dX5_isOn_7 ?_
  refine lv_if_eq (tgt := 15) hx hb dX5_isOn_8 (by decide) (fun c8 => ?_) (fun c8 => ?_)
  · refine lv_iconst (v := 0) hx hb dX5_isOn_15 (by decide +kernel) ?_
    have hP9 : va_P D vwCl [(tb, .inr (6, [.ref ro, .ref xp, wr, .int sv])), (xp, .inr (2, [.ref cd, .int (nI sz0), .ref st])), (cd, .inl (cy 0, n1, .inl fc)), (st, .inl (cy 2, 32, .inr (.inl g2_3))), (se, .inl (cy 2, n3, .inr (.inl sf))), (r0, .inr (4, [.ref aa, .int x1, .int x2, .int x3, .int x4, .int x5, .int x6, .int x7, .int x8, .int x9, .int x10, .int x11, .int x12]))] H := hP.sub [0, 1, 2, 3, 4, 5] rfl
    have hD9 : va_D A [(tb, .inr (6, [.ref ro, .ref xp, wr, .int sv])), (xp, .inr (2, [.ref cd, .int (nI sz0), .ref st])), (cd, .inl (cy 0, n1, .inl fc)), (st, .inl (cy 2, 32, .inr (.inl g2_3))), (se, .inl (cy 2, n3, .inr (.inl sf))), (r0, .inr (4, [.ref aa, .int x1, .int x2, .int x3, .int x4, .int x5, .int x6, .int x7, .int x8, .int x9, .int x10, .int x11, .int x12]))] := hD.sub [0, 1, 2, 3, 4, 5] (by decide) rfl
    refine W.widen (k := 0) (n := 0) (by omega) (by omega) ?_
    exact W.zret hx hb hr rfl (fun t ht hW => ⟨⟨_, g2_3, rfl, by simp, by rw [ht]; exact hP9, hD9⟩, hS.F ht⟩) hS.2.2 dX5_isOn_16
  · refine lv_iconst (v := 1) hx hb dX5_isOn_11 (by decide +kernel) ?_
    refine lv_goto (tgt := 16) hx hb dX5_isOn_12 (by decide) ?_
    have hP9 : va_P D vwCl [(tb, .inr (6, [.ref ro, .ref xp, wr, .int sv])), (xp, .inr (2, [.ref cd, .int (nI sz0), .ref st])), (cd, .inl (cy 0, n1, .inl fc)), (st, .inl (cy 2, 32, .inr (.inl g2_3))), (se, .inl (cy 2, n3, .inr (.inl sf))), (r0, .inr (4, [.ref aa, .int x1, .int x2, .int x3, .int x4, .int x5, .int x6, .int x7, .int x8, .int x9, .int x10, .int x11, .int x12]))] H := hP.sub [0, 1, 2, 3, 4, 5] rfl
    have hD9 : va_D A [(tb, .inr (6, [.ref ro, .ref xp, wr, .int sv])), (xp, .inr (2, [.ref cd, .int (nI sz0), .ref st])), (cd, .inl (cy 0, n1, .inl fc)), (st, .inl (cy 2, 32, .inr (.inl g2_3))), (se, .inl (cy 2, n3, .inr (.inl sf))), (r0, .inr (4, [.ref aa, .int x1, .int x2, .int x3, .int x4, .int x5, .int x6, .int x7, .int x8, .int x9, .int x10, .int x11, .int x12]))] := hD.sub [0, 1, 2, 3, 4, 5] (by decide) rfl
    refine W.widen (k := 0) (n := 0) (by omega) (by omega) ?_
    exact W.zret hx hb hr rfl (fun t ht hW => ⟨⟨_, g2_3, rfl, by simp, by rw [ht]; exact hP9, hD9⟩, hS.F ht⟩) hS.2.2 dX5_isOn_16
