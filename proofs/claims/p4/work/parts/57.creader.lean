-- deps: 54 55 56
set_option maxHeartbeats 4000000 in
set_option maxRecDepth 100000 in
theorem c_take (l : Launch) (D : va_G) (cy : Nat → ClassId) (e : Nat → Nat)  (h0 : Nat) (wd : Nat) (tb : Nat) (xp : Nat) (kd : Nat) (vl : Nat) (cnt : Nat) (ix : Nat) (va : Int32) (n : Nat) (f1 : Nat → Int32) (k : Int32) (sz : Nat) (hcn : cnt ≤ n) (hn : n < 65536) (hix : ix ≤ cnt) : Met l yX2_take wsX2_take ({ frames := 1, cells := 0, slots := 0, locals := 20 }) (va_Pc [.ref h0, .int k] (mt_B D cy e [(h0, .inr (3, [.ref wd, .ref tb, .ref xp])), (wd, .inr (7, [.ref kd, .ref vl, .int (nI cnt), .int (nI ix), .int va])), (kd, .inl (cy 0, n, .inl f1))] sz)) (va_Qi (fun (r : Int32) (ix2 : Nat) => (r = 0 ∨ r = 1) ∧ ix2 ≤ cnt) (mt_Q D (fun ix2 => [(h0, .inr (3, [.ref wd, .ref tb, .ref xp])), (wd, .inr (7, [.ref kd, .ref vl, .int (nI cnt), .int (nI ix2), .int va])), (kd, .inl (cy 0, n, .inl f1))]) (va_A [(h0, .inr (3, [.ref wd, .ref tb, .ref xp])), (wd, .inr (7, [.ref kd, .ref vl, .int (nI cnt), .int (nI ix), .int va])), (kd, .inl (cy 0, n, .inl f1))] sz)) (va_A [(h0, .inr (3, [.ref wd, .ref tb, .ref xp])), (wd, .inr (7, [.ref kd, .ref vl, .int (nI cnt), .int (nI ix), .int va])), (kd, .inl (cy 0, n, .inl f1))] sz)) (0) (0) (va_A [(h0, .inr (3, [.ref wd, .ref tb, .ref xp])), (wd, .inr (7, [.ref kd, .ref vl, .int (nI cnt), .int (nI ix), .int va])), (kd, .inl (cy 0, n, .inl f1))] sz) := by
  refine Met.ofW (cc := cX2_take) (maxL := 2) (ret := (some .boolean)) (by decide) rfl ?_
  intro p ev s m args below meth c s₁ B hml hv
  obtain ⟨rfl, hsz, hP, hK, hD0, hG⟩ := hv
  have hx := B.exec
  have hb := B.bytes
  have hr := B.returns
  have hts := atoms_spec (ws := wsX2_take) B.pre
  have hown : s.vm.findClass RX2 = some m.cls := findClass_of_methodNamed B.named
  have hlocks := B.notSynchronized
  subst hsz
  have hD := hD0.self (sz := s.heap.size)
  generalize hAe : va_A [(h0, .inr (3, [.ref wd, .ref tb, .ref xp])), (wd, .inr (7, [.ref kd, .ref vl, .int (nI cnt), .int (nI ix), .int va])), (kd, .inl (cy 0, n, .inl f1))] s.heap.size = A at hD hG ⊢
  have hA : ∀ q : Nat, s.heap.size ≤ q → A q := fun q h => by rw [← hAe]; exact Or.inr h
  have hS : va_S A s.heap s.heap [] := va_S.rf
  have hP : va_P D vwCl [(h0, .inr (3, [.ref wd, .ref tb, .ref xp])), (wd, .inr (7, [.ref kd, .ref vl, .int (nI cnt), .int (nI ix), .int va])), (kd, .inl (cy 0, n, .inl f1))] s.heap := hP
  have iX2 : ∀ w ∈ wsX20, w ∈ wsX2_take := fun w h => List.mem_cons_of_mem _ (List.mem_append_left _ (List.mem_append_right _ h))
  have iX6 : ∀ w ∈ wsX60, w ∈ wsX2_take := fun w h => List.mem_cons_of_mem _ (List.mem_append_right _ h)
  have hl := lv_entry ([.ref h0, .int k]) (n := 2) (Nat.le_of_ble_eq_true rfl)
  rw [lg_entry_eq]
  generalize (lg_sl ([.ref h0, .int k]) ++ List.replicate (2 - (lg_sl ([.ref h0, .int k])).length) Slot.unset).toArray = ls at hl ⊢
  have hl : lv_has ls 2 [(0, .ref h0), (1, .int k)] := hl
  refine lv_aload_n hx hb dX2_take_0 rfl (lv_at hl 0 rfl) ?_
  refine va_get (D := D) (ci := 3) (v := .ref wd) (C := RX2) (T := TX2) (N := 3) hx hb hts iX2 hown hK hP 0 rfl rfl 0 (by decide) (hts (.fieldLink RX2 9 "InterlockTables$Reader" "words" "LInterlockTables$Words;") (by decide +kernel)) (fun _ h9 => h9) rfl dX2_take_1 ?_
  refine pu_callni (va_runV (As := []) (rest := []) ⟨hx, hb, hml, hown, hts⟩ (c_Words_kind l D cy e wd kd vl cnt ix va n f1 hcn hn (by omega)) (cwV 0 hts gX2_take_X6_kind rfl rfl rfl (by decide +kernel) ⟨Nat.le_of_ble_eq_true rfl, Nat.le_of_ble_eq_true rfl⟩) (pu_preV hP hK hS hG [1, 2] rfl (q := (RX6, TX6, 5)) (ci := 7) (q0 := 1) rfl rfl) rfl rfl hl.1 rfl (lv_room (Nat.le_of_ble_eq_true rfl)) dX2_take_4 ⟨(Nat.le_of_ble_eq_true rfl), (Nat.le_of_ble_eq_true rfl)⟩) hP hS (fun r4 H locs hw hP hS => ?_)
  have hP : va_P D vwCl [(h0, .inr (3, [.ref wd, .ref tb, .ref xp])), (wd, .inr (7, [.ref kd, .ref vl, .int (nI cnt), .int (nI ix), .int va])), (kd, .inl (cy 0, n, .inl f1))] H := hP
  replace hw : True := hw
  refine lv_iload_n hx hb dX2_take_7 rfl (lv_at hl 1 rfl) ?_
  refine lv_icmp_eq (tgt := 13) hx hb dX2_take_8 (by decide) (fun c8 => ?_) (fun c8 => ?_)
  · refine lv_aload_n hx hb dX2_take_13 rfl (lv_at hl 0 rfl) ?_
    refine va_get (D := D) (ci := 3) (v := .ref wd) (C := RX2) (T := TX2) (N := 3) hx hb hts iX2 hown hK hP 0 rfl rfl 0 (by decide) (hts (.fieldLink RX2 9 "InterlockTables$Reader" "words" "LInterlockTables$Words;") (by decide +kernel)) (fun _ h9 => h9) rfl dX2_take_14 ?_
    refine mt_callv (wr := [(h0, .inr (3, [.ref wd, .ref tb, .ref xp])), (kd, .inl (cy 0, n, .inl f1))]) (va_runV (As := []) (rest := []) ⟨hx, hb, hml, hown, hts⟩ (c_Words_advance l D cy e wd kd vl cnt ix va H.size (by omega) (by omega)) (cwV 0 hts gX2_take_X6_advance rfl rfl rfl (by decide +kernel) ⟨Nat.le_of_ble_eq_true rfl, Nat.le_of_ble_eq_true rfl⟩) (mt_preV hP hD hK hS hA hG [1] rfl (by decide) (q := (RX6, TX6, 5)) (ci := 7) (q0 := 1) rfl rfl) rfl rfl hl.1 rfl (lv_room (Nat.le_of_ble_eq_true rfl)) dX2_take_17 ⟨(Nat.le_of_ble_eq_true rfl), (Nat.le_of_ble_eq_true rfl)⟩) hP hD hS hA [1] [0, 2] rfl rfl (by decide) (by decide) (fun u H locs hw hP hD hS => ?_)
    obtain ⟨ix2_17, rfl⟩ : ∃ z, z = u := ⟨_, rfl⟩
    have hP : va_P D vwCl [(h0, .inr (3, [.ref wd, .ref tb, .ref xp])), (kd, .inl (cy 0, n, .inl f1)), (wd, .inr (7, [.ref kd, .ref vl, .int (nI cnt), .int (nI ix2_17), .int va]))] H := hP
    have hD : va_D A [(h0, .inr (3, [.ref wd, .ref tb, .ref xp])), (kd, .inl (cy 0, n, .inl f1)), (wd, .inr (7, [.ref kd, .ref vl, .int (nI cnt), .int (nI ix2_17), .int va]))] := hD
    replace hw : ix2_17 ≤ cnt := hw
    refine W.widen (k := 0) (n := 0) (by omega) (by omega) ?_
    refine lv_iconst (v := 1) hx hb dX2_take_20 (by decide +kernel) ?_
    have hP9 : va_P D vwCl [(h0, .inr (3, [.ref wd, .ref tb, .ref xp])), (wd, .inr (7, [.ref kd, .ref vl, .int (nI cnt), .int (nI ix2_17), .int va])), (kd, .inl (cy 0, n, .inl f1))] H := hP.sub [0, 2, 1] rfl
    have hD9 : va_D A [(h0, .inr (3, [.ref wd, .ref tb, .ref xp])), (wd, .inr (7, [.ref kd, .ref vl, .int (nI cnt), .int (nI ix2_17), .int va])), (kd, .inl (cy 0, n, .inl f1))] := hD.sub [0, 2, 1] (by decide) rfl
    refine W.widen (k := 0) (n := 0) (by omega) (by omega) ?_
    exact W.zret hx hb hr rfl (fun t ht hW => ⟨⟨_, ix2_17, rfl, ⟨Or.inr rfl, hw⟩, by rw [ht]; exact hP9, hD9⟩, hS.F ht⟩) hS.2.2 dX2_take_21
  · refine lv_iconst (v := 0) hx hb dX2_take_11 (by decide +kernel) ?_
    have hP9 : va_P D vwCl [(h0, .inr (3, [.ref wd, .ref tb, .ref xp])), (wd, .inr (7, [.ref kd, .ref vl, .int (nI cnt), .int (nI ix), .int va])), (kd, .inl (cy 0, n, .inl f1))] H := hP.sub [0, 1, 2] rfl
    have hD9 : va_D A [(h0, .inr (3, [.ref wd, .ref tb, .ref xp])), (wd, .inr (7, [.ref kd, .ref vl, .int (nI cnt), .int (nI ix), .int va])), (kd, .inl (cy 0, n, .inl f1))] := hD.sub [0, 1, 2] (by decide) rfl
    refine W.widen (k := 0) (n := 0) (by omega) (by omega) ?_
    exact W.zret hx hb hr rfl (fun t ht hW => ⟨⟨_, ix, rfl, ⟨Or.inl rfl, hix⟩, by rw [ht]; exact hP9, hD9⟩, hS.F ht⟩) hS.2.2 dX2_take_12

set_option maxHeartbeats 4000000 in
set_option maxRecDepth 100000 in
theorem c_takeActs (l : Launch) (D : va_G) (cy : Nat → ClassId) (e : Nat → Nat)  (h0 : Nat) (wd : Nat) (tb : Nat) (xp : Nat) (kd : Nat) (vl : Nat) (cnt : Nat) (ix : Nat) (va : Int32) (n : Nat) (f1 : Nat → Int32) (f2 : Nat → Int32) (r0 : Nat) (aa : Nat) (x2 : Int32) (x3 : Int32) (x4 : Int32) (x5 : Int32) (x6 : Int32) (x7 : Int32) (x8 : Int32) (x9 : Int32) (x10 : Int32) (x11 : Int32) (x12 : Int32) (ac : Nat) (fa : Nat → Int32) (sz : Nat) (hcn : cnt ≤ n) (hn : n < 65536) (hix : ix ≤ cnt) (hac : ac ≤ 8) : Met l yX2_takeActs wsX2_takeActs ({ frames := 2, cells := 0, slots := 0, locals := 42 }) (va_Pc [.ref h0, .ref r0] (mt_B D cy e [(h0, .inr (3, [.ref wd, .ref tb, .ref xp])), (wd, .inr (7, [.ref kd, .ref vl, .int (nI cnt), .int (nI ix), .int va])), (kd, .inl (cy 0, n, .inl f1)), (vl, .inl (cy 3, n, .inl f2)), (r0, .inr (4, [.ref aa, .int (nI ac), .int x2, .int x3, .int x4, .int x5, .int x6, .int x7, .int x8, .int x9, .int x10, .int x11, .int x12])), (aa, .inl (cy 1, 8, .inl fa))] sz)) (va_Qi (fun (r : Int32) (u : Nat × Nat × Int32 × (Nat → Int32)) => match u with | (ix2, ac2, y2, fa2) => (r = 0 ∨ r = 1) ∧ ix2 ≤ cnt ∧ ac2 ≤ 8) (mt_Q D (fun (u : Nat × Nat × Int32 × (Nat → Int32)) => match u with | (ix2, ac2, y2, fa2) => [(h0, .inr (3, [.ref wd, .ref tb, .ref xp])), (wd, .inr (7, [.ref kd, .ref vl, .int (nI cnt), .int (nI ix2), .int va])), (kd, .inl (cy 0, n, .inl f1)), (vl, .inl (cy 3, n, .inl f2)), (r0, .inr (4, [.ref aa, .int (nI ac2), .int y2, .int x3, .int x4, .int x5, .int x6, .int x7, .int x8, .int x9, .int x10, .int x11, .int x12])), (aa, .inl (cy 1, 8, .inl fa2))]) (va_A [(h0, .inr (3, [.ref wd, .ref tb, .ref xp])), (wd, .inr (7, [.ref kd, .ref vl, .int (nI cnt), .int (nI ix), .int va])), (kd, .inl (cy 0, n, .inl f1)), (vl, .inl (cy 3, n, .inl f2)), (r0, .inr (4, [.ref aa, .int (nI ac), .int x2, .int x3, .int x4, .int x5, .int x6, .int x7, .int x8, .int x9, .int x10, .int x11, .int x12])), (aa, .inl (cy 1, 8, .inl fa))] sz)) (va_A [(h0, .inr (3, [.ref wd, .ref tb, .ref xp])), (wd, .inr (7, [.ref kd, .ref vl, .int (nI cnt), .int (nI ix), .int va])), (kd, .inl (cy 0, n, .inl f1)), (vl, .inl (cy 3, n, .inl f2)), (r0, .inr (4, [.ref aa, .int (nI ac), .int x2, .int x3, .int x4, .int x5, .int x6, .int x7, .int x8, .int x9, .int x10, .int x11, .int x12])), (aa, .inl (cy 1, 8, .inl fa))] sz)) (0) (0) (va_A [(h0, .inr (3, [.ref wd, .ref tb, .ref xp])), (wd, .inr (7, [.ref kd, .ref vl, .int (nI cnt), .int (nI ix), .int va])), (kd, .inl (cy 0, n, .inl f1)), (vl, .inl (cy 3, n, .inl f2)), (r0, .inr (4, [.ref aa, .int (nI ac), .int x2, .int x3, .int x4, .int x5, .int x6, .int x7, .int x8, .int x9, .int x10, .int x11, .int x12])), (aa, .inl (cy 1, 8, .inl fa))] sz) := by
  refine Met.ofW (cc := cX2_takeActs) (maxL := 3) (ret := (some .boolean)) (by decide) rfl ?_
  intro p ev s m args below meth c s₁ B hml hv
  obtain ⟨rfl, hsz, hP, hK, hD0, hG⟩ := hv
  have hx := B.exec
  have hb := B.bytes
  have hr := B.returns
  have hts := atoms_spec (ws := wsX2_takeActs) B.pre
  have hown : s.vm.findClass RX2 = some m.cls := findClass_of_methodNamed B.named
  have hlocks := B.notSynchronized
  subst hsz
  have hD := hD0.self (sz := s.heap.size)
  generalize hAe : va_A [(h0, .inr (3, [.ref wd, .ref tb, .ref xp])), (wd, .inr (7, [.ref kd, .ref vl, .int (nI cnt), .int (nI ix), .int va])), (kd, .inl (cy 0, n, .inl f1)), (vl, .inl (cy 3, n, .inl f2)), (r0, .inr (4, [.ref aa, .int (nI ac), .int x2, .int x3, .int x4, .int x5, .int x6, .int x7, .int x8, .int x9, .int x10, .int x11, .int x12])), (aa, .inl (cy 1, 8, .inl fa))] s.heap.size = A at hD hG ⊢
  have hA : ∀ q : Nat, s.heap.size ≤ q → A q := fun q h => by rw [← hAe]; exact Or.inr h
  have hS : va_S A s.heap s.heap [] := va_S.rf
  have hP : va_P D vwCl [(h0, .inr (3, [.ref wd, .ref tb, .ref xp])), (wd, .inr (7, [.ref kd, .ref vl, .int (nI cnt), .int (nI ix), .int va])), (kd, .inl (cy 0, n, .inl f1)), (vl, .inl (cy 3, n, .inl f2)), (r0, .inr (4, [.ref aa, .int (nI ac), .int x2, .int x3, .int x4, .int x5, .int x6, .int x7, .int x8, .int x9, .int x10, .int x11, .int x12])), (aa, .inl (cy 1, 8, .inl fa))] s.heap := hP
  have iX2 : ∀ w ∈ wsX20, w ∈ wsX2_takeActs := fun w h => List.mem_cons_of_mem _ (List.mem_append_left _ (List.mem_append_left _ (List.mem_append_right _ h)))
  have iX3 : ∀ w ∈ wsX30, w ∈ wsX2_takeActs := fun w h => List.mem_cons_of_mem _ (List.mem_append_left _ (List.mem_append_right _ h))
  have iX6 : ∀ w ∈ wsX60, w ∈ wsX2_takeActs := fun w h => List.mem_cons_of_mem _ (List.mem_append_right _ h)
  have hl := lv_entry ([.ref h0, .ref r0]) (n := 3) (Nat.le_of_ble_eq_true rfl)
  rw [lg_entry_eq]
  generalize (lg_sl ([.ref h0, .ref r0]) ++ List.replicate (3 - (lg_sl ([.ref h0, .ref r0])).length) Slot.unset).toArray = ls at hl ⊢
  have hl : lv_has ls 3 [(0, .ref h0), (1, .ref r0)] := hl
  refine lv_iconst (v := 0) hx hb dX2_takeActs_0 (by decide +kernel) ?_
  refine lv_topi (fun x_1 ex_1 => ?_)
  obtain rfl : x_1 = nI 0 := by rw [ex_1]; exact nI_0.symm
  refine lv_istore_n (lv' := [(2, .int (nI 0)), (0, .ref h0), (1, .ref r0)]) hx hb dX2_takeActs_1 rfl hl (by decide) rfl (fun ls hl => ?_)
  refine lp_W (σ := Nat × Nat × Nat × Int32 × (Nat → Int32)) (Wf := fun H locs ls => W p l ev _ s m _ below meth c H locs (0) (0) _ (F0 m 2 ls [])) (fun zz9 H locs ls => match zz9 with | (i, ix1, ac1, z2, fa1) => va_P D vwCl [(h0, .inr (3, [.ref wd, .ref tb, .ref xp])), (wd, .inr (7, [.ref kd, .ref vl, .int (nI cnt), .int (nI ix1), .int va])), (kd, .inl (cy 0, n, .inl f1)), (vl, .inl (cy 3, n, .inl f2)), (r0, .inr (4, [.ref aa, .int (nI ac1), .int z2, .int x3, .int x4, .int x5, .int x6, .int x7, .int x8, .int x9, .int x10, .int x11, .int x12])), (aa, .inl (cy 1, 8, .inl fa1))] H ∧ va_D A [(h0, .inr (3, [.ref wd, .ref tb, .ref xp])), (wd, .inr (7, [.ref kd, .ref vl, .int (nI cnt), .int (nI ix1), .int va])), (kd, .inl (cy 0, n, .inl f1)), (vl, .inl (cy 3, n, .inl f2)), (r0, .inr (4, [.ref aa, .int (nI ac1), .int z2, .int x3, .int x4, .int x5, .int x6, .int x7, .int x8, .int x9, .int x10, .int x11, .int x12])), (aa, .inl (cy 1, 8, .inl fa1))] ∧ va_S A s.heap H locs ∧ lv_has ls 3 [(2, .int (nI i)), (0, .ref h0), (1, .ref r0)] ∧ (i ≤ 8 ∧ ix1 ≤ cnt ∧ ac1 ≤ 8)) (fun zz9 => match zz9 with | (i, ix1, ac1, z2, fa1) => 8 - i) ?_ (0, ix, ac, x2, fa) _ _ ls ⟨hP, hD, hS, lv_sub hl [0, 1, 2] rfl, ⟨by decide, hix, hac⟩⟩
  intro zz9 H locs ls hI ih
  obtain ⟨i, ix1, ac1, z2, fa1⟩ := zz9
  obtain ⟨hP, hD, hS, hl, hI⟩ := hI
  have ih2 := ih
  have hI2 := hI
  have hP : va_P D vwCl [(h0, .inr (3, [.ref wd, .ref tb, .ref xp])), (wd, .inr (7, [.ref kd, .ref vl, .int (nI cnt), .int (nI ix1), .int va])), (kd, .inl (cy 0, n, .inl f1)), (vl, .inl (cy 3, n, .inl f2)), (r0, .inr (4, [.ref aa, .int (nI ac1), .int z2, .int x3, .int x4, .int x5, .int x6, .int x7, .int x8, .int x9, .int x10, .int x11, .int x12])), (aa, .inl (cy 1, 8, .inl fa1))] H := hP
  have hD : va_D A [(h0, .inr (3, [.ref wd, .ref tb, .ref xp])), (wd, .inr (7, [.ref kd, .ref vl, .int (nI cnt), .int (nI ix1), .int va])), (kd, .inl (cy 0, n, .inl f1)), (vl, .inl (cy 3, n, .inl f2)), (r0, .inr (4, [.ref aa, .int (nI ac1), .int z2, .int x3, .int x4, .int x5, .int x6, .int x7, .int x8, .int x9, .int x10, .int x11, .int x12])), (aa, .inl (cy 1, 8, .inl fa1))] := hD
  have hl : lv_has ls 3 [(2, .int (nI i)), (0, .ref h0), (1, .ref r0)] := hl
  obtain ⟨hI1, hI2, hI3⟩ := hI
  refine lv_iload_n hx hb dX2_takeActs_2 rfl (lv_at hl 0 rfl) ?_
  refine lv_bipush (v := 8) hx hb dX2_takeActs_3 (by decide +kernel) ?_
  refine lv_icmp_ge (tgt := 49) hx hb dX2_takeActs_5 (by decide) (fun c5 => ?_) (fun c5 => ?_)
  · refine lv_aload_n hx hb dX2_takeActs_49 rfl (lv_at hl 2 rfl) ?_
    refine va_getN (D := D) (ci := 4) (v := .int (nI ac1)) (C := RX3) (T := TX3) (N := 13) hx hb hts iX3 hown hK hP 4 rfl rfl 1 (by decide) (gl_N.f hG.gN 5 rfl) (fun _ h9 => h9) rfl dX2_takeActs_50 ?_
    refine lv_if_le (tgt := 60) hx hb dX2_takeActs_53 (by decide) (fun c53 => ?_) (fun c53 => ?_)
    · refine lv_iconst (v := 0) hx hb dX2_takeActs_60 (by decide +kernel) ?_
      have hP9 : va_P D vwCl [(h0, .inr (3, [.ref wd, .ref tb, .ref xp])), (wd, .inr (7, [.ref kd, .ref vl, .int (nI cnt), .int (nI ix1), .int va])), (kd, .inl (cy 0, n, .inl f1)), (vl, .inl (cy 3, n, .inl f2)), (r0, .inr (4, [.ref aa, .int (nI ac1), .int z2, .int x3, .int x4, .int x5, .int x6, .int x7, .int x8, .int x9, .int x10, .int x11, .int x12])), (aa, .inl (cy 1, 8, .inl fa1))] H := hP.sub [0, 1, 2, 3, 4, 5] rfl
      have hD9 : va_D A [(h0, .inr (3, [.ref wd, .ref tb, .ref xp])), (wd, .inr (7, [.ref kd, .ref vl, .int (nI cnt), .int (nI ix1), .int va])), (kd, .inl (cy 0, n, .inl f1)), (vl, .inl (cy 3, n, .inl f2)), (r0, .inr (4, [.ref aa, .int (nI ac1), .int z2, .int x3, .int x4, .int x5, .int x6, .int x7, .int x8, .int x9, .int x10, .int x11, .int x12])), (aa, .inl (cy 1, 8, .inl fa1))] := hD.sub [0, 1, 2, 3, 4, 5] (by decide) rfl
      refine W.widen (k := 0) (n := 0) (by omega) (by omega) ?_
      exact W.zret hx hb hr rfl (fun t ht hW => ⟨⟨_, (ix1, ac1, z2, fa1), rfl, ⟨by simp, by omega, by omega⟩, by rw [ht]; exact hP9, hD9⟩, hS.F ht⟩) hS.2.2 dX2_takeActs_61
    · refine lv_iconst (v := 1) hx hb dX2_takeActs_56 (by decide +kernel) ?_
      refine lv_goto (tgt := 61) hx hb dX2_takeActs_57 (by decide) ?_
      have hP9 : va_P D vwCl [(h0, .inr (3, [.ref wd, .ref tb, .ref xp])), (wd, .inr (7, [.ref kd, .ref vl, .int (nI cnt), .int (nI ix1), .int va])), (kd, .inl (cy 0, n, .inl f1)), (vl, .inl (cy 3, n, .inl f2)), (r0, .inr (4, [.ref aa, .int (nI ac1), .int z2, .int x3, .int x4, .int x5, .int x6, .int x7, .int x8, .int x9, .int x10, .int x11, .int x12])), (aa, .inl (cy 1, 8, .inl fa1))] H := hP.sub [0, 1, 2, 3, 4, 5] rfl
      have hD9 : va_D A [(h0, .inr (3, [.ref wd, .ref tb, .ref xp])), (wd, .inr (7, [.ref kd, .ref vl, .int (nI cnt), .int (nI ix1), .int va])), (kd, .inl (cy 0, n, .inl f1)), (vl, .inl (cy 3, n, .inl f2)), (r0, .inr (4, [.ref aa, .int (nI ac1), .int z2, .int x3, .int x4, .int x5, .int x6, .int x7, .int x8, .int x9, .int x10, .int x11, .int x12])), (aa, .inl (cy 1, 8, .inl fa1))] := hD.sub [0, 1, 2, 3, 4, 5] (by decide) rfl
      refine W.widen (k := 0) (n := 0) (by omega) (by omega) ?_
      exact W.zret hx hb hr rfl (fun t ht hW => ⟨⟨_, (ix1, ac1, z2, fa1), rfl, ⟨by simp, by omega, by omega⟩, by rw [ht]; exact hP9, hD9⟩, hS.F ht⟩) hS.2.2 dX2_takeActs_61
  · have hi : i < 8 := pk_nle (b := i) (a := 8) (by omega) c5
    refine lv_aload_n hx hb dX2_takeActs_8 rfl (lv_at hl 1 rfl) ?_
    refine va_get (D := D) (ci := 3) (v := .ref wd) (C := RX2) (T := TX2) (N := 3) hx hb hts iX2 hown hK hP 0 rfl rfl 0 (by decide) (hts (.fieldLink RX2 9 "InterlockTables$Reader" "words" "LInterlockTables$Words;") (by decide +kernel)) (fun _ h9 => h9) rfl dX2_takeActs_9 ?_
    refine pu_callni (va_runV (As := []) (rest := []) ⟨hx, hb, hml, hown, hts⟩ (c_Words_kind l D cy e wd kd vl cnt ix1 va n f1 hcn hn (by omega)) (cwV 0 hts gX2_takeActs_X6_kind rfl rfl rfl (by decide +kernel) ⟨Nat.le_of_ble_eq_true rfl, Nat.le_of_ble_eq_true rfl⟩) (pu_preV hP hK hS hG [1, 2] rfl (q := (RX6, TX6, 5)) (ci := 7) (q0 := 1) rfl rfl) rfl rfl hl.1 rfl (lv_room (Nat.le_of_ble_eq_true rfl)) dX2_takeActs_12 ⟨(Nat.le_of_ble_eq_true rfl), (Nat.le_of_ble_eq_true rfl)⟩) hP hS (fun r12 H locs hw hP hS => ?_)
    have hP : va_P D vwCl [(h0, .inr (3, [.ref wd, .ref tb, .ref xp])), (wd, .inr (7, [.ref kd, .ref vl, .int (nI cnt), .int (nI ix1), .int va])), (kd, .inl (cy 0, n, .inl f1)), (vl, .inl (cy 3, n, .inl f2)), (r0, .inr (4, [.ref aa, .int (nI ac1), .int z2, .int x3, .int x4, .int x5, .int x6, .int x7, .int x8, .int x9, .int x10, .int x11, .int x12])), (aa, .inl (cy 1, 8, .inl fa1))] H := hP
    replace hw : True := hw
    refine lv_bipush (v := 12) hx hb dX2_takeActs_15 (by decide +kernel) ?_
    refine lv_icmp_ne (tgt := 49) hx hb dX2_takeActs_17 (by decide) (fun c17 => ?_) (fun c17 => ?_)
    · refine lv_aload_n hx hb dX2_takeActs_49 rfl (lv_at hl 2 rfl) ?_
      refine va_getN (D := D) (ci := 4) (v := .int (nI ac1)) (C := RX3) (T := TX3) (N := 13) hx hb hts iX3 hown hK hP 4 rfl rfl 1 (by decide) (gl_N.f hG.gN 5 rfl) (fun _ h9 => h9) rfl dX2_takeActs_50 ?_
      refine lv_if_le (tgt := 60) hx hb dX2_takeActs_53 (by decide) (fun c53 => ?_) (fun c53 => ?_)
      · refine lv_iconst (v := 0) hx hb dX2_takeActs_60 (by decide +kernel) ?_
        have hP9 : va_P D vwCl [(h0, .inr (3, [.ref wd, .ref tb, .ref xp])), (wd, .inr (7, [.ref kd, .ref vl, .int (nI cnt), .int (nI ix1), .int va])), (kd, .inl (cy 0, n, .inl f1)), (vl, .inl (cy 3, n, .inl f2)), (r0, .inr (4, [.ref aa, .int (nI ac1), .int z2, .int x3, .int x4, .int x5, .int x6, .int x7, .int x8, .int x9, .int x10, .int x11, .int x12])), (aa, .inl (cy 1, 8, .inl fa1))] H := hP.sub [0, 1, 2, 3, 4, 5] rfl
        have hD9 : va_D A [(h0, .inr (3, [.ref wd, .ref tb, .ref xp])), (wd, .inr (7, [.ref kd, .ref vl, .int (nI cnt), .int (nI ix1), .int va])), (kd, .inl (cy 0, n, .inl f1)), (vl, .inl (cy 3, n, .inl f2)), (r0, .inr (4, [.ref aa, .int (nI ac1), .int z2, .int x3, .int x4, .int x5, .int x6, .int x7, .int x8, .int x9, .int x10, .int x11, .int x12])), (aa, .inl (cy 1, 8, .inl fa1))] := hD.sub [0, 1, 2, 3, 4, 5] (by decide) rfl
        refine W.widen (k := 0) (n := 0) (by omega) (by omega) ?_
        exact W.zret hx hb hr rfl (fun t ht hW => ⟨⟨_, (ix1, ac1, z2, fa1), rfl, ⟨by simp, by omega, by omega⟩, by rw [ht]; exact hP9, hD9⟩, hS.F ht⟩) hS.2.2 dX2_takeActs_61
      · refine lv_iconst (v := 1) hx hb dX2_takeActs_56 (by decide +kernel) ?_
        refine lv_goto (tgt := 61) hx hb dX2_takeActs_57 (by decide) ?_
        have hP9 : va_P D vwCl [(h0, .inr (3, [.ref wd, .ref tb, .ref xp])), (wd, .inr (7, [.ref kd, .ref vl, .int (nI cnt), .int (nI ix1), .int va])), (kd, .inl (cy 0, n, .inl f1)), (vl, .inl (cy 3, n, .inl f2)), (r0, .inr (4, [.ref aa, .int (nI ac1), .int z2, .int x3, .int x4, .int x5, .int x6, .int x7, .int x8, .int x9, .int x10, .int x11, .int x12])), (aa, .inl (cy 1, 8, .inl fa1))] H := hP.sub [0, 1, 2, 3, 4, 5] rfl
        have hD9 : va_D A [(h0, .inr (3, [.ref wd, .ref tb, .ref xp])), (wd, .inr (7, [.ref kd, .ref vl, .int (nI cnt), .int (nI ix1), .int va])), (kd, .inl (cy 0, n, .inl f1)), (vl, .inl (cy 3, n, .inl f2)), (r0, .inr (4, [.ref aa, .int (nI ac1), .int z2, .int x3, .int x4, .int x5, .int x6, .int x7, .int x8, .int x9, .int x10, .int x11, .int x12])), (aa, .inl (cy 1, 8, .inl fa1))] := hD.sub [0, 1, 2, 3, 4, 5] (by decide) rfl
        refine W.widen (k := 0) (n := 0) (by omega) (by omega) ?_
        exact W.zret hx hb hr rfl (fun t ht hW => ⟨⟨_, (ix1, ac1, z2, fa1), rfl, ⟨by simp, by omega, by omega⟩, by rw [ht]; exact hP9, hD9⟩, hS.F ht⟩) hS.2.2 dX2_takeActs_61
    · refine lv_aload_n hx hb dX2_takeActs_20 rfl (lv_at hl 2 rfl) ?_
      refine lv_aload_n hx hb dX2_takeActs_21 rfl (lv_at hl 1 rfl) ?_
      refine va_get (D := D) (ci := 3) (v := .ref wd) (C := RX2) (T := TX2) (N := 3) hx hb hts iX2 hown hK hP 0 rfl rfl 0 (by decide) (hts (.fieldLink RX2 9 "InterlockTables$Reader" "words" "LInterlockTables$Words;") (by decide +kernel)) (fun _ h9 => h9) rfl dX2_takeActs_22 ?_
      refine pu_callni (va_runV (As := []) (rest := [.ref r0]) ⟨hx, hb, hml, hown, hts⟩ (c_Words_value l D cy e wd kd vl cnt ix1 va n f2 hcn hn (by omega)) (cwV 0 hts gX2_takeActs_X6_value rfl rfl rfl (by decide +kernel) ⟨Nat.le_of_ble_eq_true rfl, Nat.le_of_ble_eq_true rfl⟩) (pu_preV hP hK hS hG [1, 3] rfl (q := (RX6, TX6, 5)) (ci := 7) (q0 := 1) rfl rfl) rfl rfl hl.1 rfl (lv_room (Nat.le_of_ble_eq_true rfl)) dX2_takeActs_25 ⟨(Nat.le_of_ble_eq_true rfl), (Nat.le_of_ble_eq_true rfl)⟩) hP hS (fun r25 H locs hw hP hS => ?_)
      have hP : va_P D vwCl [(h0, .inr (3, [.ref wd, .ref tb, .ref xp])), (wd, .inr (7, [.ref kd, .ref vl, .int (nI cnt), .int (nI ix1), .int va])), (kd, .inl (cy 0, n, .inl f1)), (vl, .inl (cy 3, n, .inl f2)), (r0, .inr (4, [.ref aa, .int (nI ac1), .int z2, .int x3, .int x4, .int x5, .int x6, .int x7, .int x8, .int x9, .int x10, .int x11, .int x12])), (aa, .inl (cy 1, 8, .inl fa1))] H := hP
      replace hw : True := hw
      refine mt_calli (wr := [(h0, .inr (3, [.ref wd, .ref tb, .ref xp])), (wd, .inr (7, [.ref kd, .ref vl, .int (nI cnt), .int (nI ix1), .int va])), (kd, .inl (cy 0, n, .inl f1)), (vl, .inl (cy 3, n, .inl f2))]) (va_runV (As := [.int r25]) (rest := []) ⟨hx, hb, hml, hown, hts⟩ (c_Row_addAct l D cy e r0 aa z2 x3 x4 x5 x6 x7 x8 x9 x10 x11 x12 ac1 fa1 r25 H.size hI3) (cwV 1 hts gX2_takeActs_X3_addAct rfl rfl rfl (by decide +kernel) ⟨Nat.le_of_ble_eq_true rfl, Nat.le_of_ble_eq_true rfl⟩) (mt_preV hP hD hK hS hA hG [4, 5] rfl (by decide) (q := (RX3, TX3, 13)) (ci := 4) (q0 := 4) rfl rfl) rfl rfl hl.1 rfl (lv_room (Nat.le_of_ble_eq_true rfl)) dX2_takeActs_28 ⟨(Nat.le_of_ble_eq_true rfl), (Nat.le_of_ble_eq_true rfl)⟩) hP hD hS hA [4, 5] [0, 1, 2, 3] rfl rfl (by decide) (by decide) (fun r28 u H locs hw hP hD hS => ?_)
      obtain ⟨ac2_28, y2_28, fa2_28⟩ := u
      have hP : va_P D vwCl [(h0, .inr (3, [.ref wd, .ref tb, .ref xp])), (wd, .inr (7, [.ref kd, .ref vl, .int (nI cnt), .int (nI ix1), .int va])), (kd, .inl (cy 0, n, .inl f1)), (vl, .inl (cy 3, n, .inl f2)), (r0, .inr (4, [.ref aa, .int (nI ac2_28), .int y2_28, .int x3, .int x4, .int x5, .int x6, .int x7, .int x8, .int x9, .int x10, .int x11, .int x12])), (aa, .inl (cy 1, 8, .inl fa2_28))] H := hP
      have hD : va_D A [(h0, .inr (3, [.ref wd, .ref tb, .ref xp])), (wd, .inr (7, [.ref kd, .ref vl, .int (nI cnt), .int (nI ix1), .int va])), (kd, .inl (cy 0, n, .inl f1)), (vl, .inl (cy 3, n, .inl f2)), (r0, .inr (4, [.ref aa, .int (nI ac2_28), .int y2_28, .int x3, .int x4, .int x5, .int x6, .int x7, .int x8, .int x9, .int x10, .int x11, .int x12])), (aa, .inl (cy 1, 8, .inl fa2_28))] := hD
      replace hw : (r28 = 0 ∨ r28 = 1) ∧ ac2_28 ≤ 8 := hw
      refine W.widen (k := 0) (n := 0) (by omega) (by omega) ?_
      have hw28 := hw
      refine lv_if_ne (tgt := 36) hx hb dX2_takeActs_31 (by decide) (fun c31 => ?_) (fun c31 => ?_)
      · refine lv_aload_n hx hb dX2_takeActs_36 rfl (lv_at hl 1 rfl) ?_
        refine va_get (D := D) (ci := 3) (v := .ref wd) (C := RX2) (T := TX2) (N := 3) hx hb hts iX2 hown hK hP 0 rfl rfl 0 (by decide) (hts (.fieldLink RX2 9 "InterlockTables$Reader" "words" "LInterlockTables$Words;") (by decide +kernel)) (fun _ h9 => h9) rfl dX2_takeActs_37 ?_
        refine mt_callv (wr := [(h0, .inr (3, [.ref wd, .ref tb, .ref xp])), (kd, .inl (cy 0, n, .inl f1)), (vl, .inl (cy 3, n, .inl f2)), (r0, .inr (4, [.ref aa, .int (nI ac2_28), .int y2_28, .int x3, .int x4, .int x5, .int x6, .int x7, .int x8, .int x9, .int x10, .int x11, .int x12])), (aa, .inl (cy 1, 8, .inl fa2_28))]) (va_runV (As := []) (rest := []) ⟨hx, hb, hml, hown, hts⟩ (c_Words_advance l D cy e wd kd vl cnt ix1 va H.size (by omega) (by omega)) (cwV 0 hts gX2_takeActs_X6_advance rfl rfl rfl (by decide +kernel) ⟨Nat.le_of_ble_eq_true rfl, Nat.le_of_ble_eq_true rfl⟩) (mt_preV hP hD hK hS hA hG [1] rfl (by decide) (q := (RX6, TX6, 5)) (ci := 7) (q0 := 1) rfl rfl) rfl rfl hl.1 rfl (lv_room (Nat.le_of_ble_eq_true rfl)) dX2_takeActs_40 ⟨(Nat.le_of_ble_eq_true rfl), (Nat.le_of_ble_eq_true rfl)⟩) hP hD hS hA [1] [0, 2, 3, 4, 5] rfl rfl (by decide) (by decide) (fun u H locs hw hP hD hS => ?_)
        obtain ⟨ix2_40, rfl⟩ : ∃ z, z = u := ⟨_, rfl⟩
        have hP : va_P D vwCl [(h0, .inr (3, [.ref wd, .ref tb, .ref xp])), (kd, .inl (cy 0, n, .inl f1)), (vl, .inl (cy 3, n, .inl f2)), (r0, .inr (4, [.ref aa, .int (nI ac2_28), .int y2_28, .int x3, .int x4, .int x5, .int x6, .int x7, .int x8, .int x9, .int x10, .int x11, .int x12])), (aa, .inl (cy 1, 8, .inl fa2_28)), (wd, .inr (7, [.ref kd, .ref vl, .int (nI cnt), .int (nI ix2_40), .int va]))] H := hP
        have hD : va_D A [(h0, .inr (3, [.ref wd, .ref tb, .ref xp])), (kd, .inl (cy 0, n, .inl f1)), (vl, .inl (cy 3, n, .inl f2)), (r0, .inr (4, [.ref aa, .int (nI ac2_28), .int y2_28, .int x3, .int x4, .int x5, .int x6, .int x7, .int x8, .int x9, .int x10, .int x11, .int x12])), (aa, .inl (cy 1, 8, .inl fa2_28)), (wd, .inr (7, [.ref kd, .ref vl, .int (nI cnt), .int (nI ix2_40), .int va]))] := hD
        replace hw : ix2_40 ≤ cnt := hw
        refine W.widen (k := 0) (n := 0) (by omega) (by omega) ?_
        refine lv_iinc (v := nI (i + 1)) (lv' := [(2, .int (nI (i + 1))), (0, .ref h0), (1, .ref r0)]) hx hb dX2_takeActs_43 hl (k := 0) rfl (nI_1 i) (by decide) rfl (fun ls hl => ?_)
        refine lv_goto (tgt := 2) hx hb dX2_takeActs_46 (by decide) ?_
        exact ih2 ((i + 1), ix2_40, ac2_28, y2_28, fa2_28) _ _ ls ⟨hP.sub [0, 5, 1, 2, 3, 4] rfl, hD.sub [0, 5, 1, 2, 3, 4] (by decide) rfl, hS, lv_sub hl [0, 1, 2] rfl, ⟨by omega, hw, hw28.2⟩⟩ (by (try dsimp only); omega)
      · refine lv_iconst (v := 0) hx hb dX2_takeActs_34 (by decide +kernel) ?_
        have hw28b := hw28.2
        have hP9 : va_P D vwCl [(h0, .inr (3, [.ref wd, .ref tb, .ref xp])), (wd, .inr (7, [.ref kd, .ref vl, .int (nI cnt), .int (nI ix1), .int va])), (kd, .inl (cy 0, n, .inl f1)), (vl, .inl (cy 3, n, .inl f2)), (r0, .inr (4, [.ref aa, .int (nI ac2_28), .int y2_28, .int x3, .int x4, .int x5, .int x6, .int x7, .int x8, .int x9, .int x10, .int x11, .int x12])), (aa, .inl (cy 1, 8, .inl fa2_28))] H := hP.sub [0, 1, 2, 3, 4, 5] rfl
        have hD9 : va_D A [(h0, .inr (3, [.ref wd, .ref tb, .ref xp])), (wd, .inr (7, [.ref kd, .ref vl, .int (nI cnt), .int (nI ix1), .int va])), (kd, .inl (cy 0, n, .inl f1)), (vl, .inl (cy 3, n, .inl f2)), (r0, .inr (4, [.ref aa, .int (nI ac2_28), .int y2_28, .int x3, .int x4, .int x5, .int x6, .int x7, .int x8, .int x9, .int x10, .int x11, .int x12])), (aa, .inl (cy 1, 8, .inl fa2_28))] := hD.sub [0, 1, 2, 3, 4, 5] (by decide) rfl
        refine W.widen (k := 0) (n := 0) (by omega) (by omega) ?_
        exact W.zret hx hb hr rfl (fun t ht hW => ⟨⟨_, (ix1, ac2_28, y2_28, fa2_28), rfl, ⟨by simp, by omega, by omega⟩, by rw [ht]; exact hP9, hD9⟩, hS.F ht⟩) hS.2.2 dX2_takeActs_35

set_option maxHeartbeats 4000000 in
set_option maxRecDepth 100000 in
theorem c_takeFor (l : Launch) (D : va_G) (cy : Nat → ClassId) (e : Nat → Nat)  (h0 : Nat) (wd : Nat) (tb : Nat) (xp : Nat) (kd : Nat) (vl : Nat) (cnt : Nat) (ix : Nat) (va : Int32) (n : Nat) (f1 : Nat → Int32) (f2 : Nat → Int32) (r0 : Nat) (aa : Nat) (x1 : Int32) (x2 : Int32) (x3 : Int32) (x4 : Int32) (x5 : Int32) (x6 : Int32) (x7 : Int32) (x8 : Int32) (x9 : Int32) (x10 : Int32) (x11 : Int32) (x12 : Int32) (sz : Nat) (hcn : cnt ≤ n) (hn : n < 65536) (hix : ix ≤ cnt) : Met l yX2_takeFor wsX2_takeFor ({ frames := 2, cells := 0, slots := 0, locals := 41 }) (va_Pc [.ref h0, .ref r0] (mt_B D cy e [(h0, .inr (3, [.ref wd, .ref tb, .ref xp])), (wd, .inr (7, [.ref kd, .ref vl, .int (nI cnt), .int (nI ix), .int va])), (kd, .inl (cy 0, n, .inl f1)), (vl, .inl (cy 3, n, .inl f2)), (r0, .inr (4, [.ref aa, .int x1, .int x2, .int x3, .int x4, .int x5, .int x6, .int x7, .int x8, .int x9, .int x10, .int x11, .int x12]))] sz)) (va_Qi (fun (r : Int32) (u : Nat × Int32 × Int32) => match u with | (ix2, y6, y7) => (r = 0 ∨ r = 1) ∧ ix2 ≤ cnt) (mt_Q D (fun (u : Nat × Int32 × Int32) => match u with | (ix2, y6, y7) => [(h0, .inr (3, [.ref wd, .ref tb, .ref xp])), (wd, .inr (7, [.ref kd, .ref vl, .int (nI cnt), .int (nI ix2), .int va])), (kd, .inl (cy 0, n, .inl f1)), (vl, .inl (cy 3, n, .inl f2)), (r0, .inr (4, [.ref aa, .int x1, .int x2, .int x3, .int x4, .int x5, .int y6, .int y7, .int x8, .int x9, .int x10, .int x11, .int x12]))]) (va_A [(h0, .inr (3, [.ref wd, .ref tb, .ref xp])), (wd, .inr (7, [.ref kd, .ref vl, .int (nI cnt), .int (nI ix), .int va])), (kd, .inl (cy 0, n, .inl f1)), (vl, .inl (cy 3, n, .inl f2)), (r0, .inr (4, [.ref aa, .int x1, .int x2, .int x3, .int x4, .int x5, .int x6, .int x7, .int x8, .int x9, .int x10, .int x11, .int x12]))] sz)) (va_A [(h0, .inr (3, [.ref wd, .ref tb, .ref xp])), (wd, .inr (7, [.ref kd, .ref vl, .int (nI cnt), .int (nI ix), .int va])), (kd, .inl (cy 0, n, .inl f1)), (vl, .inl (cy 3, n, .inl f2)), (r0, .inr (4, [.ref aa, .int x1, .int x2, .int x3, .int x4, .int x5, .int x6, .int x7, .int x8, .int x9, .int x10, .int x11, .int x12]))] sz)) (0) (0) (va_A [(h0, .inr (3, [.ref wd, .ref tb, .ref xp])), (wd, .inr (7, [.ref kd, .ref vl, .int (nI cnt), .int (nI ix), .int va])), (kd, .inl (cy 0, n, .inl f1)), (vl, .inl (cy 3, n, .inl f2)), (r0, .inr (4, [.ref aa, .int x1, .int x2, .int x3, .int x4, .int x5, .int x6, .int x7, .int x8, .int x9, .int x10, .int x11, .int x12]))] sz) := by
  refine Met.ofW (cc := cX2_takeFor) (maxL := 2) (ret := (some .boolean)) (by decide) rfl ?_
  intro p ev s m args below meth c s₁ B hml hv
  obtain ⟨rfl, hsz, hP, hK, hD0, hG⟩ := hv
  have hx := B.exec
  have hb := B.bytes
  have hr := B.returns
  have hts := atoms_spec (ws := wsX2_takeFor) B.pre
  have hown : s.vm.findClass RX2 = some m.cls := findClass_of_methodNamed B.named
  have hlocks := B.notSynchronized
  subst hsz
  have hD := hD0.self (sz := s.heap.size)
  generalize hAe : va_A [(h0, .inr (3, [.ref wd, .ref tb, .ref xp])), (wd, .inr (7, [.ref kd, .ref vl, .int (nI cnt), .int (nI ix), .int va])), (kd, .inl (cy 0, n, .inl f1)), (vl, .inl (cy 3, n, .inl f2)), (r0, .inr (4, [.ref aa, .int x1, .int x2, .int x3, .int x4, .int x5, .int x6, .int x7, .int x8, .int x9, .int x10, .int x11, .int x12]))] s.heap.size = A at hD hG ⊢
  have hA : ∀ q : Nat, s.heap.size ≤ q → A q := fun q h => by rw [← hAe]; exact Or.inr h
  have hS : va_S A s.heap s.heap [] := va_S.rf
  have hP : va_P D vwCl [(h0, .inr (3, [.ref wd, .ref tb, .ref xp])), (wd, .inr (7, [.ref kd, .ref vl, .int (nI cnt), .int (nI ix), .int va])), (kd, .inl (cy 0, n, .inl f1)), (vl, .inl (cy 3, n, .inl f2)), (r0, .inr (4, [.ref aa, .int x1, .int x2, .int x3, .int x4, .int x5, .int x6, .int x7, .int x8, .int x9, .int x10, .int x11, .int x12]))] s.heap := hP
  have iX3 : ∀ w ∈ wsX30, w ∈ wsX2_takeFor := fun w h => List.mem_cons_of_mem _ (List.mem_append_left _ (List.mem_append_left _ (List.mem_append_right _ h)))
  have iX2 : ∀ w ∈ wsX20, w ∈ wsX2_takeFor := fun w h => List.mem_cons_of_mem _ (List.mem_append_left _ (List.mem_append_right _ h))
  have iX6 : ∀ w ∈ wsX60, w ∈ wsX2_takeFor := fun w h => List.mem_cons_of_mem _ (List.mem_append_right _ h)
  have hl := lv_entry ([.ref h0, .ref r0]) (n := 2) (Nat.le_of_ble_eq_true rfl)
  rw [lg_entry_eq]
  generalize (lg_sl ([.ref h0, .ref r0]) ++ List.replicate (2 - (lg_sl ([.ref h0, .ref r0])).length) Slot.unset).toArray = ls at hl ⊢
  have hl : lv_has ls 2 [(0, .ref h0), (1, .ref r0)] := hl
  refine lv_aload_n hx hb dX2_takeFor_0 rfl (lv_at hl 0 rfl) ?_
  refine lv_bipush (v := 7) hx hb dX2_takeFor_1 (by decide +kernel) ?_
  refine mt_calli (wr := [(vl, .inl (cy 3, n, .inl f2)), (r0, .inr (4, [.ref aa, .int x1, .int x2, .int x3, .int x4, .int x5, .int x6, .int x7, .int x8, .int x9, .int x10, .int x11, .int x12]))]) (va_runV (As := [.int 7]) (rest := []) ⟨hx, hb, hml, hown, hts⟩ (c_take l D cy e h0 wd tb xp kd vl cnt ix va n f1 7 s.heap.size hcn hn (by omega)) (cwV 1 hts gX2_takeFor_X2_take rfl rfl rfl (by decide +kernel) ⟨Nat.le_of_ble_eq_true rfl, Nat.le_of_ble_eq_true rfl⟩) (mt_preV hP hD hK hS hA hG [0, 1, 2] rfl (by decide) (q := (RX2, TX2, 3)) (ci := 3) (q0 := 0) rfl rfl) rfl rfl hl.1 rfl (lv_room (Nat.le_of_ble_eq_true rfl)) dX2_takeFor_3 ⟨(Nat.le_of_ble_eq_true rfl), (Nat.le_of_ble_eq_true rfl)⟩) hP hD hS hA [0, 1, 2] [3, 4] rfl rfl (by decide) (by decide) (fun r3 u H locs hw hP hD hS => ?_)
  obtain ⟨ix2_3, rfl⟩ : ∃ z, z = u := ⟨_, rfl⟩
  have hP : va_P D vwCl [(vl, .inl (cy 3, n, .inl f2)), (r0, .inr (4, [.ref aa, .int x1, .int x2, .int x3, .int x4, .int x5, .int x6, .int x7, .int x8, .int x9, .int x10, .int x11, .int x12])), (h0, .inr (3, [.ref wd, .ref tb, .ref xp])), (wd, .inr (7, [.ref kd, .ref vl, .int (nI cnt), .int (nI ix2_3), .int va])), (kd, .inl (cy 0, n, .inl f1))] H := hP
  have hD : va_D A [(vl, .inl (cy 3, n, .inl f2)), (r0, .inr (4, [.ref aa, .int x1, .int x2, .int x3, .int x4, .int x5, .int x6, .int x7, .int x8, .int x9, .int x10, .int x11, .int x12])), (h0, .inr (3, [.ref wd, .ref tb, .ref xp])), (wd, .inr (7, [.ref kd, .ref vl, .int (nI cnt), .int (nI ix2_3), .int va])), (kd, .inl (cy 0, n, .inl f1))] := hD
  replace hw : (r3 = 0 ∨ r3 = 1) ∧ ix2_3 ≤ cnt := hw
  refine W.widen (k := 0) (n := 0) (by omega) (by omega) ?_
  obtain ⟨hw1, hw2⟩ := hw
  refine lv_if_ne (tgt := 11) hx hb dX2_takeFor_6 (by decide) (fun c6 => ?_) (fun c6 => ?_)
  · refine lv_aload_n hx hb dX2_takeFor_11 rfl (lv_at hl 1 rfl) ?_
    refine lv_iconst (v := 1) hx hb dX2_takeFor_12 (by decide +kernel) ?_
    refine va_putN (D := D) (ci := 4) (v := .int 1) (ty := .boolean) (C := RX3) (T := TX3) (N := 13) hx hb hts iX3 tyX3 tyX3_ok nmX3 hown hK hP hD hS 1 rfl rfl 6 (by decide) (gl_N.f hG.gN 16 rfl) (fun _ h9 => h9) rfl (by decide +kernel) rfl rfl (Nat.le_of_ble_eq_true rfl) dX2_takeFor_13 (fun H locs hP hD hS => ?_)
    have hP : va_P D vwCl [(vl, .inl (cy 3, n, .inl f2)), (r0, .inr (4, [.ref aa, .int x1, .int x2, .int x3, .int x4, .int x5, .int 1, .int x7, .int x8, .int x9, .int x10, .int x11, .int x12])), (h0, .inr (3, [.ref wd, .ref tb, .ref xp])), (wd, .inr (7, [.ref kd, .ref vl, .int (nI cnt), .int (nI ix2_3), .int va])), (kd, .inl (cy 0, n, .inl f1))] H := hP
    have hD : va_D A [(vl, .inl (cy 3, n, .inl f2)), (r0, .inr (4, [.ref aa, .int x1, .int x2, .int x3, .int x4, .int x5, .int 1, .int x7, .int x8, .int x9, .int x10, .int x11, .int x12])), (h0, .inr (3, [.ref wd, .ref tb, .ref xp])), (wd, .inr (7, [.ref kd, .ref vl, .int (nI cnt), .int (nI ix2_3), .int va])), (kd, .inl (cy 0, n, .inl f1))] := hD
    refine lv_aload_n hx hb dX2_takeFor_16 rfl (lv_at hl 1 rfl) ?_
    refine lv_aload_n hx hb dX2_takeFor_17 rfl (lv_at hl 0 rfl) ?_
    refine va_get (D := D) (ci := 3) (v := .ref wd) (C := RX2) (T := TX2) (N := 3) hx hb hts iX2 hown hK hP 2 rfl rfl 0 (by decide) (hts (.fieldLink RX2 9 "InterlockTables$Reader" "words" "LInterlockTables$Words;") (by decide +kernel)) (fun _ h9 => h9) rfl dX2_takeFor_18 ?_
    refine pu_callni (va_runV (As := []) (rest := [.ref r0]) ⟨hx, hb, hml, hown, hts⟩ (c_Words_value l D cy e wd kd vl cnt ix2_3 va n f2 hcn hn (by omega)) (cwV 0 hts gX2_takeFor_X6_value rfl rfl rfl (by decide +kernel) ⟨Nat.le_of_ble_eq_true rfl, Nat.le_of_ble_eq_true rfl⟩) (pu_preV hP hK hS hG [3, 0] rfl (q := (RX6, TX6, 5)) (ci := 7) (q0 := 3) rfl rfl) rfl rfl hl.1 rfl (lv_room (Nat.le_of_ble_eq_true rfl)) dX2_takeFor_21 ⟨(Nat.le_of_ble_eq_true rfl), (Nat.le_of_ble_eq_true rfl)⟩) hP hS (fun r21 H locs hw hP hS => ?_)
    have hP : va_P D vwCl [(vl, .inl (cy 3, n, .inl f2)), (r0, .inr (4, [.ref aa, .int x1, .int x2, .int x3, .int x4, .int x5, .int 1, .int x7, .int x8, .int x9, .int x10, .int x11, .int x12])), (h0, .inr (3, [.ref wd, .ref tb, .ref xp])), (wd, .inr (7, [.ref kd, .ref vl, .int (nI cnt), .int (nI ix2_3), .int va])), (kd, .inl (cy 0, n, .inl f1))] H := hP
    replace hw : True := hw
    refine va_putN (D := D) (ci := 4) (v := .int r21) (ty := .int) (C := RX3) (T := TX3) (N := 13) hx hb hts iX3 tyX3 tyX3_ok nmX3 hown hK hP hD hS 1 rfl rfl 7 (by decide) (gl_N.f hG.gN 18 rfl) (fun _ h9 => h9) rfl (by decide +kernel) rfl rfl (Nat.le_of_ble_eq_true rfl) dX2_takeFor_24 (fun H locs hP hD hS => ?_)
    have hP : va_P D vwCl [(vl, .inl (cy 3, n, .inl f2)), (r0, .inr (4, [.ref aa, .int x1, .int x2, .int x3, .int x4, .int x5, .int 1, .int r21, .int x8, .int x9, .int x10, .int x11, .int x12])), (h0, .inr (3, [.ref wd, .ref tb, .ref xp])), (wd, .inr (7, [.ref kd, .ref vl, .int (nI cnt), .int (nI ix2_3), .int va])), (kd, .inl (cy 0, n, .inl f1))] H := hP
    have hD : va_D A [(vl, .inl (cy 3, n, .inl f2)), (r0, .inr (4, [.ref aa, .int x1, .int x2, .int x3, .int x4, .int x5, .int 1, .int r21, .int x8, .int x9, .int x10, .int x11, .int x12])), (h0, .inr (3, [.ref wd, .ref tb, .ref xp])), (wd, .inr (7, [.ref kd, .ref vl, .int (nI cnt), .int (nI ix2_3), .int va])), (kd, .inl (cy 0, n, .inl f1))] := hD
    refine lv_aload_n hx hb dX2_takeFor_27 rfl (lv_at hl 0 rfl) ?_
    refine lv_bipush (v := 14) hx hb dX2_takeFor_28 (by decide +kernel) ?_
    refine mt_calli (wr := [(vl, .inl (cy 3, n, .inl f2)), (r0, .inr (4, [.ref aa, .int x1, .int x2, .int x3, .int x4, .int x5, .int 1, .int r21, .int x8, .int x9, .int x10, .int x11, .int x12]))]) (va_runV (As := [.int 14]) (rest := []) ⟨hx, hb, hml, hown, hts⟩ (c_take l D cy e h0 wd tb xp kd vl cnt ix2_3 va n f1 14 H.size hcn hn (by omega)) (cwV 1 hts gX2_takeFor_X2_take rfl rfl rfl (by decide +kernel) ⟨Nat.le_of_ble_eq_true rfl, Nat.le_of_ble_eq_true rfl⟩) (mt_preV hP hD hK hS hA hG [2, 3, 4] rfl (by decide) (q := (RX2, TX2, 3)) (ci := 3) (q0 := 2) rfl rfl) rfl rfl hl.1 rfl (lv_room (Nat.le_of_ble_eq_true rfl)) dX2_takeFor_30 ⟨(Nat.le_of_ble_eq_true rfl), (Nat.le_of_ble_eq_true rfl)⟩) hP hD hS hA [2, 3, 4] [0, 1] rfl rfl (by decide) (by decide) (fun r30 u H locs hw hP hD hS => ?_)
    obtain ⟨ix2_30, rfl⟩ : ∃ z, z = u := ⟨_, rfl⟩
    have hP : va_P D vwCl [(vl, .inl (cy 3, n, .inl f2)), (r0, .inr (4, [.ref aa, .int x1, .int x2, .int x3, .int x4, .int x5, .int 1, .int r21, .int x8, .int x9, .int x10, .int x11, .int x12])), (h0, .inr (3, [.ref wd, .ref tb, .ref xp])), (wd, .inr (7, [.ref kd, .ref vl, .int (nI cnt), .int (nI ix2_30), .int va])), (kd, .inl (cy 0, n, .inl f1))] H := hP
    have hD : va_D A [(vl, .inl (cy 3, n, .inl f2)), (r0, .inr (4, [.ref aa, .int x1, .int x2, .int x3, .int x4, .int x5, .int 1, .int r21, .int x8, .int x9, .int x10, .int x11, .int x12])), (h0, .inr (3, [.ref wd, .ref tb, .ref xp])), (wd, .inr (7, [.ref kd, .ref vl, .int (nI cnt), .int (nI ix2_30), .int va])), (kd, .inl (cy 0, n, .inl f1))] := hD
    replace hw : (r30 = 0 ∨ r30 = 1) ∧ ix2_30 ≤ cnt := hw
    refine W.widen (k := 0) (n := 0) (by omega) (by omega) ?_
    have hP9 : va_P D vwCl [(h0, .inr (3, [.ref wd, .ref tb, .ref xp])), (wd, .inr (7, [.ref kd, .ref vl, .int (nI cnt), .int (nI ix2_30), .int va])), (kd, .inl (cy 0, n, .inl f1)), (vl, .inl (cy 3, n, .inl f2)), (r0, .inr (4, [.ref aa, .int x1, .int x2, .int x3, .int x4, .int x5, .int 1, .int r21, .int x8, .int x9, .int x10, .int x11, .int x12]))] H := hP.sub [2, 3, 4, 0, 1] rfl
    have hD9 : va_D A [(h0, .inr (3, [.ref wd, .ref tb, .ref xp])), (wd, .inr (7, [.ref kd, .ref vl, .int (nI cnt), .int (nI ix2_30), .int va])), (kd, .inl (cy 0, n, .inl f1)), (vl, .inl (cy 3, n, .inl f2)), (r0, .inr (4, [.ref aa, .int x1, .int x2, .int x3, .int x4, .int x5, .int 1, .int r21, .int x8, .int x9, .int x10, .int x11, .int x12]))] := hD.sub [2, 3, 4, 0, 1] (by decide) rfl
    refine W.widen (k := 0) (n := 0) (by omega) (by omega) ?_
    exact W.zret hx hb hr (by rcases hw.1 with h9 | h9 <;> (rw [h9]; rfl)) (fun t ht hW => ⟨⟨_, (ix2_30, 1, r21), rfl, hw, by rw [ht]; exact hP9, hD9⟩, hS.F ht⟩) hS.2.2 dX2_takeFor_33
  · refine lv_iconst (v := 1) hx hb dX2_takeFor_9 (by decide +kernel) ?_
    have hP9 : va_P D vwCl [(h0, .inr (3, [.ref wd, .ref tb, .ref xp])), (wd, .inr (7, [.ref kd, .ref vl, .int (nI cnt), .int (nI ix2_3), .int va])), (kd, .inl (cy 0, n, .inl f1)), (vl, .inl (cy 3, n, .inl f2)), (r0, .inr (4, [.ref aa, .int x1, .int x2, .int x3, .int x4, .int x5, .int x6, .int x7, .int x8, .int x9, .int x10, .int x11, .int x12]))] H := hP.sub [2, 3, 4, 0, 1] rfl
    have hD9 : va_D A [(h0, .inr (3, [.ref wd, .ref tb, .ref xp])), (wd, .inr (7, [.ref kd, .ref vl, .int (nI cnt), .int (nI ix2_3), .int va])), (kd, .inl (cy 0, n, .inl f1)), (vl, .inl (cy 3, n, .inl f2)), (r0, .inr (4, [.ref aa, .int x1, .int x2, .int x3, .int x4, .int x5, .int x6, .int x7, .int x8, .int x9, .int x10, .int x11, .int x12]))] := hD.sub [2, 3, 4, 0, 1] (by decide) rfl
    refine W.widen (k := 0) (n := 0) (by omega) (by omega) ?_
    exact W.zret hx hb hr rfl (fun t ht hW => ⟨⟨_, (ix2_3, x6, x7), rfl, ⟨Or.inr rfl, hw2⟩, by rw [ht]; exact hP9, hD9⟩, hS.F ht⟩) hS.2.2 dX2_takeFor_10

set_option maxHeartbeats 4000000 in
set_option maxRecDepth 100000 in
theorem c_takeCondition (l : Launch) (D : va_G) (cy : Nat → ClassId) (e : Nat → Nat)  (h0 : Nat) (wd : Nat) (tb : Nat) (xp : Nat) (kd : Nat) (vl : Nat) (cnt : Nat) (ix : Nat) (va : Int32) (n : Nat) (f1 : Nat → Int32) (f2 : Nat → Int32) (cd : Nat) (sz0 : Nat) (st : Nat) (n1 : Nat) (fc : Nat → Int32) (r0 : Nat) (aa : Nat) (x1 : Int32) (x2 : Int32) (x4 : Int32) (x5 : Int32) (x6 : Int32) (x7 : Int32) (x8 : Int32) (x9 : Int32) (x10 : Int32) (x11 : Int32) (x12 : Int32) (x3 : Int32) (sz : Nat) (hcn : cnt ≤ n) (hn : n < 65536) (hix : ix ≤ cnt) (hsz : sz0 ≤ n1) (hn1 : n1 < 65536) : Met l yX2_takeCondition wsX2_takeCondition ({ frames := 1, cells := 0, slots := 0, locals := 21 }) (va_Pc [.ref h0, .ref r0] (mt_B D cy e [(h0, .inr (3, [.ref wd, .ref tb, .ref xp])), (wd, .inr (7, [.ref kd, .ref vl, .int (nI cnt), .int (nI ix), .int va])), (kd, .inl (cy 0, n, .inl f1)), (vl, .inl (cy 3, n, .inl f2)), (xp, .inr (2, [.ref cd, .int (nI sz0), .ref st])), (cd, .inl (cy 0, n1, .inl fc)), (r0, .inr (4, [.ref aa, .int x1, .int x2, .int x3, .int x4, .int x5, .int x6, .int x7, .int x8, .int x9, .int x10, .int x11, .int x12]))] sz)) (va_Qi (fun (r : Int32) (u : Nat × Nat × (Nat → Int32) × Int32) => match u with | (ix2, sz2, fc2, y3) => (r = 0 ∨ r = 1) ∧ ix2 ≤ cnt ∧ sz2 ≤ n1) (mt_Q D (fun (u : Nat × Nat × (Nat → Int32) × Int32) => match u with | (ix2, sz2, fc2, y3) => [(h0, .inr (3, [.ref wd, .ref tb, .ref xp])), (wd, .inr (7, [.ref kd, .ref vl, .int (nI cnt), .int (nI ix2), .int va])), (kd, .inl (cy 0, n, .inl f1)), (vl, .inl (cy 3, n, .inl f2)), (xp, .inr (2, [.ref cd, .int (nI sz2), .ref st])), (cd, .inl (cy 0, n1, .inl fc2)), (r0, .inr (4, [.ref aa, .int x1, .int x2, .int y3, .int x4, .int x5, .int x6, .int x7, .int x8, .int x9, .int x10, .int x11, .int x12]))]) (va_A [(h0, .inr (3, [.ref wd, .ref tb, .ref xp])), (wd, .inr (7, [.ref kd, .ref vl, .int (nI cnt), .int (nI ix), .int va])), (kd, .inl (cy 0, n, .inl f1)), (vl, .inl (cy 3, n, .inl f2)), (xp, .inr (2, [.ref cd, .int (nI sz0), .ref st])), (cd, .inl (cy 0, n1, .inl fc)), (r0, .inr (4, [.ref aa, .int x1, .int x2, .int x3, .int x4, .int x5, .int x6, .int x7, .int x8, .int x9, .int x10, .int x11, .int x12]))] sz)) (va_A [(h0, .inr (3, [.ref wd, .ref tb, .ref xp])), (wd, .inr (7, [.ref kd, .ref vl, .int (nI cnt), .int (nI ix), .int va])), (kd, .inl (cy 0, n, .inl f1)), (vl, .inl (cy 3, n, .inl f2)), (xp, .inr (2, [.ref cd, .int (nI sz0), .ref st])), (cd, .inl (cy 0, n1, .inl fc)), (r0, .inr (4, [.ref aa, .int x1, .int x2, .int x3, .int x4, .int x5, .int x6, .int x7, .int x8, .int x9, .int x10, .int x11, .int x12]))] sz)) (0) (0) (va_A [(h0, .inr (3, [.ref wd, .ref tb, .ref xp])), (wd, .inr (7, [.ref kd, .ref vl, .int (nI cnt), .int (nI ix), .int va])), (kd, .inl (cy 0, n, .inl f1)), (vl, .inl (cy 3, n, .inl f2)), (xp, .inr (2, [.ref cd, .int (nI sz0), .ref st])), (cd, .inl (cy 0, n1, .inl fc)), (r0, .inr (4, [.ref aa, .int x1, .int x2, .int x3, .int x4, .int x5, .int x6, .int x7, .int x8, .int x9, .int x10, .int x11, .int x12]))] sz) := by
  refine Met.ofW (cc := cX2_takeCondition) (maxL := 2) (ret := (some .boolean)) (by decide) rfl ?_
  intro p ev s m args below meth c s₁ B hml hv
  obtain ⟨rfl, hsz, hP, hK, hD0, hG⟩ := hv
  have hx := B.exec
  have hb := B.bytes
  have hr := B.returns
  have hts := atoms_spec (ws := wsX2_takeCondition) B.pre
  have hown : s.vm.findClass RX2 = some m.cls := findClass_of_methodNamed B.named
  have hlocks := B.notSynchronized
  subst hsz
  have hD := hD0.self (sz := s.heap.size)
  generalize hAe : va_A [(h0, .inr (3, [.ref wd, .ref tb, .ref xp])), (wd, .inr (7, [.ref kd, .ref vl, .int (nI cnt), .int (nI ix), .int va])), (kd, .inl (cy 0, n, .inl f1)), (vl, .inl (cy 3, n, .inl f2)), (xp, .inr (2, [.ref cd, .int (nI sz0), .ref st])), (cd, .inl (cy 0, n1, .inl fc)), (r0, .inr (4, [.ref aa, .int x1, .int x2, .int x3, .int x4, .int x5, .int x6, .int x7, .int x8, .int x9, .int x10, .int x11, .int x12]))] s.heap.size = A at hD hG ⊢
  have hA : ∀ q : Nat, s.heap.size ≤ q → A q := fun q h => by rw [← hAe]; exact Or.inr h
  have hS : va_S A s.heap s.heap [] := va_S.rf
  have hP : va_P D vwCl [(h0, .inr (3, [.ref wd, .ref tb, .ref xp])), (wd, .inr (7, [.ref kd, .ref vl, .int (nI cnt), .int (nI ix), .int va])), (kd, .inl (cy 0, n, .inl f1)), (vl, .inl (cy 3, n, .inl f2)), (xp, .inr (2, [.ref cd, .int (nI sz0), .ref st])), (cd, .inl (cy 0, n1, .inl fc)), (r0, .inr (4, [.ref aa, .int x1, .int x2, .int x3, .int x4, .int x5, .int x6, .int x7, .int x8, .int x9, .int x10, .int x11, .int x12]))] s.heap := hP
  have iX2 : ∀ w ∈ wsX20, w ∈ wsX2_takeCondition := fun w h => List.mem_cons_of_mem _ (List.mem_append_left _ (List.mem_append_left _ (List.mem_append_left _ (List.mem_append_right _ h))))
  have iX3 : ∀ w ∈ wsX30, w ∈ wsX2_takeCondition := fun w h => List.mem_cons_of_mem _ (List.mem_append_left _ (List.mem_append_left _ (List.mem_append_right _ h)))
  have iX6 : ∀ w ∈ wsX60, w ∈ wsX2_takeCondition := fun w h => List.mem_cons_of_mem _ (List.mem_append_left _ (List.mem_append_right _ h))
  have iX1 : ∀ w ∈ wsX10, w ∈ wsX2_takeCondition := fun w h => List.mem_cons_of_mem _ (List.mem_append_right _ h)
  have hl := lv_entry ([.ref h0, .ref r0]) (n := 2) (Nat.le_of_ble_eq_true rfl)
  rw [lg_entry_eq]
  generalize (lg_sl ([.ref h0, .ref r0]) ++ List.replicate (2 - (lg_sl ([.ref h0, .ref r0])).length) Slot.unset).toArray = ls at hl ⊢
  have hl : lv_has ls 2 [(0, .ref h0), (1, .ref r0)] := hl
  refine lv_aload_n hx hb dX2_takeCondition_0 rfl (lv_at hl 0 rfl) ?_
  refine va_get (D := D) (ci := 3) (v := .ref wd) (C := RX2) (T := TX2) (N := 3) hx hb hts iX2 hown hK hP 0 rfl rfl 0 (by decide) (hts (.fieldLink RX2 9 "InterlockTables$Reader" "words" "LInterlockTables$Words;") (by decide +kernel)) (fun _ h9 => h9) rfl dX2_takeCondition_1 ?_
  refine pu_callni (va_runV (As := []) (rest := []) ⟨hx, hb, hml, hown, hts⟩ (c_Words_kind l D cy e wd kd vl cnt ix va n f1 hcn hn (by omega)) (cwV 0 hts gX2_takeCondition_X6_kind rfl rfl rfl (by decide +kernel) ⟨Nat.le_of_ble_eq_true rfl, Nat.le_of_ble_eq_true rfl⟩) (pu_preV hP hK hS hG [1, 2] rfl (q := (RX6, TX6, 5)) (ci := 7) (q0 := 1) rfl rfl) rfl rfl hl.1 rfl (lv_room (Nat.le_of_ble_eq_true rfl)) dX2_takeCondition_4 ⟨(Nat.le_of_ble_eq_true rfl), (Nat.le_of_ble_eq_true rfl)⟩) hP hS (fun r4 H locs hw hP hS => ?_)
  have hP : va_P D vwCl [(h0, .inr (3, [.ref wd, .ref tb, .ref xp])), (wd, .inr (7, [.ref kd, .ref vl, .int (nI cnt), .int (nI ix), .int va])), (kd, .inl (cy 0, n, .inl f1)), (vl, .inl (cy 3, n, .inl f2)), (xp, .inr (2, [.ref cd, .int (nI sz0), .ref st])), (cd, .inl (cy 0, n1, .inl fc)), (r0, .inr (4, [.ref aa, .int x1, .int x2, .int x3, .int x4, .int x5, .int x6, .int x7, .int x8, .int x9, .int x10, .int x11, .int x12]))] H := hP
  replace hw : True := hw
  refine lv_bipush (v := 13) hx hb dX2_takeCondition_7 (by decide +kernel) ?_
  refine lv_icmp_ne (tgt := 21) hx hb dX2_takeCondition_9 (by decide) (fun c9 => ?_) (fun c9 => ?_)
  · refine lv_iconst (v := 0) hx hb dX2_takeCondition_21 (by decide +kernel) ?_
    have hP9 : va_P D vwCl [(h0, .inr (3, [.ref wd, .ref tb, .ref xp])), (wd, .inr (7, [.ref kd, .ref vl, .int (nI cnt), .int (nI ix), .int va])), (kd, .inl (cy 0, n, .inl f1)), (vl, .inl (cy 3, n, .inl f2)), (xp, .inr (2, [.ref cd, .int (nI sz0), .ref st])), (cd, .inl (cy 0, n1, .inl fc)), (r0, .inr (4, [.ref aa, .int x1, .int x2, .int x3, .int x4, .int x5, .int x6, .int x7, .int x8, .int x9, .int x10, .int x11, .int x12]))] H := hP.sub [0, 1, 2, 3, 4, 5, 6] rfl
    have hD9 : va_D A [(h0, .inr (3, [.ref wd, .ref tb, .ref xp])), (wd, .inr (7, [.ref kd, .ref vl, .int (nI cnt), .int (nI ix), .int va])), (kd, .inl (cy 0, n, .inl f1)), (vl, .inl (cy 3, n, .inl f2)), (xp, .inr (2, [.ref cd, .int (nI sz0), .ref st])), (cd, .inl (cy 0, n1, .inl fc)), (r0, .inr (4, [.ref aa, .int x1, .int x2, .int x3, .int x4, .int x5, .int x6, .int x7, .int x8, .int x9, .int x10, .int x11, .int x12]))] := hD.sub [0, 1, 2, 3, 4, 5, 6] (by decide) rfl
    refine W.widen (k := 0) (n := 0) (by omega) (by omega) ?_
    exact W.zret hx hb hr rfl (fun t ht hW => ⟨⟨_, (ix, sz0, fc, x3), rfl, ⟨Or.inl rfl, hix, hsz⟩, by rw [ht]; exact hP9, hD9⟩, hS.F ht⟩) hS.2.2 dX2_takeCondition_22
  · refine lv_aload_n hx hb dX2_takeCondition_12 rfl (lv_at hl 1 rfl) ?_
    refine va_getN (D := D) (ci := 4) (v := .int x3) (C := RX3) (T := TX3) (N := 13) hx hb hts iX3 hown hK hP 6 rfl rfl 3 (by decide) (gl_N.f hG.gN 8 rfl) (fun _ h9 => h9) rfl dX2_takeCondition_13 ?_
    refine lv_bipush (v := 32) hx hb dX2_takeCondition_16 (by decide +kernel) ?_
    refine lv_icmp_lt (tgt := 23) hx hb dX2_takeCondition_18 (by decide) (fun c18 => ?_) (fun c18 => ?_)
    · refine lv_aload_n hx hb dX2_takeCondition_23 rfl (lv_at hl 0 rfl) ?_
      refine va_get (D := D) (ci := 3) (v := .ref xp) (C := RX2) (T := TX2) (N := 3) hx hb hts iX2 hown hK hP 0 rfl rfl 2 (by decide) (hts (.fieldLink RX2 25 "InterlockTables$Reader" "expressions" "LInterlockTables$Expressions;") (by decide +kernel)) (fun _ h9 => h9) rfl dX2_takeCondition_24 ?_
      refine lv_aload_n hx hb dX2_takeCondition_27 rfl (lv_at hl 0 rfl) ?_
      refine va_get (D := D) (ci := 3) (v := .ref wd) (C := RX2) (T := TX2) (N := 3) hx hb hts iX2 hown hK hP 0 rfl rfl 0 (by decide) (hts (.fieldLink RX2 9 "InterlockTables$Reader" "words" "LInterlockTables$Words;") (by decide +kernel)) (fun _ h9 => h9) rfl dX2_takeCondition_28 ?_
      refine pu_callni (va_runV (As := []) (rest := [.ref xp]) ⟨hx, hb, hml, hown, hts⟩ (c_Words_value l D cy e wd kd vl cnt ix va n f2 hcn hn (by omega)) (cwV 0 hts gX2_takeCondition_X6_value rfl rfl rfl (by decide +kernel) ⟨Nat.le_of_ble_eq_true rfl, Nat.le_of_ble_eq_true rfl⟩) (pu_preV hP hK hS hG [1, 3] rfl (q := (RX6, TX6, 5)) (ci := 7) (q0 := 1) rfl rfl) rfl rfl hl.1 rfl (lv_room (Nat.le_of_ble_eq_true rfl)) dX2_takeCondition_31 ⟨(Nat.le_of_ble_eq_true rfl), (Nat.le_of_ble_eq_true rfl)⟩) hP hS (fun r31 H locs hw hP hS => ?_)
      have hP : va_P D vwCl [(h0, .inr (3, [.ref wd, .ref tb, .ref xp])), (wd, .inr (7, [.ref kd, .ref vl, .int (nI cnt), .int (nI ix), .int va])), (kd, .inl (cy 0, n, .inl f1)), (vl, .inl (cy 3, n, .inl f2)), (xp, .inr (2, [.ref cd, .int (nI sz0), .ref st])), (cd, .inl (cy 0, n1, .inl fc)), (r0, .inr (4, [.ref aa, .int x1, .int x2, .int x3, .int x4, .int x5, .int x6, .int x7, .int x8, .int x9, .int x10, .int x11, .int x12]))] H := hP
      replace hw : True := hw
      refine mt_callv (wr := [(h0, .inr (3, [.ref wd, .ref tb, .ref xp])), (wd, .inr (7, [.ref kd, .ref vl, .int (nI cnt), .int (nI ix), .int va])), (kd, .inl (cy 0, n, .inl f1)), (vl, .inl (cy 3, n, .inl f2)), (r0, .inr (4, [.ref aa, .int x1, .int x2, .int x3, .int x4, .int x5, .int x6, .int x7, .int x8, .int x9, .int x10, .int x11, .int x12]))]) (va_runV (As := [.int r31]) (rest := []) ⟨hx, hb, hml, hown, hts⟩ (c_Expr_add l D cy e xp cd sz0 st n1 fc r31 H.size (by omega) hn1) (cwV 1 hts gX2_takeCondition_X1_add rfl rfl rfl (by decide +kernel) ⟨Nat.le_of_ble_eq_true rfl, Nat.le_of_ble_eq_true rfl⟩) (mt_preV hP hD hK hS hA hG [4, 5] rfl (by decide) (q := (RX1, TX1, 3)) (ci := 2) (q0 := 4) rfl rfl) rfl rfl hl.1 rfl (lv_room (Nat.le_of_ble_eq_true rfl)) dX2_takeCondition_34 ⟨(Nat.le_of_ble_eq_true rfl), (Nat.le_of_ble_eq_true rfl)⟩) hP hD hS hA [4, 5] [0, 1, 2, 3, 6] rfl rfl (by decide) (by decide) (fun u H locs hw hP hD hS => ?_)
      obtain ⟨sz2_34, f2_34⟩ := u
      have hP : va_P D vwCl [(h0, .inr (3, [.ref wd, .ref tb, .ref xp])), (wd, .inr (7, [.ref kd, .ref vl, .int (nI cnt), .int (nI ix), .int va])), (kd, .inl (cy 0, n, .inl f1)), (vl, .inl (cy 3, n, .inl f2)), (r0, .inr (4, [.ref aa, .int x1, .int x2, .int x3, .int x4, .int x5, .int x6, .int x7, .int x8, .int x9, .int x10, .int x11, .int x12])), (xp, .inr (2, [.ref cd, .int (nI sz2_34), .ref st])), (cd, .inl (cy 0, n1, .inl f2_34))] H := hP
      have hD : va_D A [(h0, .inr (3, [.ref wd, .ref tb, .ref xp])), (wd, .inr (7, [.ref kd, .ref vl, .int (nI cnt), .int (nI ix), .int va])), (kd, .inl (cy 0, n, .inl f1)), (vl, .inl (cy 3, n, .inl f2)), (r0, .inr (4, [.ref aa, .int x1, .int x2, .int x3, .int x4, .int x5, .int x6, .int x7, .int x8, .int x9, .int x10, .int x11, .int x12])), (xp, .inr (2, [.ref cd, .int (nI sz2_34), .ref st])), (cd, .inl (cy 0, n1, .inl f2_34))] := hD
      replace hw : sz2_34 ≤ n1 ∧ sz0 ≤ sz2_34 := hw
      refine W.widen (k := 0) (n := 0) (by omega) (by omega) ?_
      obtain ⟨hw1, hw2⟩ := hw
      refine lv_aload_n hx hb dX2_takeCondition_37 rfl (lv_at hl 1 rfl) ?_
      refine lv_dup hx hb dX2_takeCondition_38 rfl ?_
      refine va_getN (D := D) (ci := 4) (v := .int x3) (C := RX3) (T := TX3) (N := 13) hx hb hts iX3 hown hK hP 4 rfl rfl 3 (by decide) (gl_N.f hG.gN 8 rfl) (fun _ h9 => h9) rfl dX2_takeCondition_39 ?_
      refine lv_iconst (v := 1) hx hb dX2_takeCondition_42 (by decide +kernel) ?_
      refine lv_iadd hx hb dX2_takeCondition_43 ?_
      refine va_putN (D := D) (ci := 4) (v := .int (x3 + 1)) (ty := .int) (C := RX3) (T := TX3) (N := 13) hx hb hts iX3 tyX3 tyX3_ok nmX3 hown hK hP hD hS 4 rfl rfl 3 (by decide) (gl_N.f hG.gN 8 rfl) (fun _ h9 => h9) rfl (by decide +kernel) rfl rfl (Nat.le_of_ble_eq_true rfl) dX2_takeCondition_44 (fun H locs hP hD hS => ?_)
      have hP : va_P D vwCl [(h0, .inr (3, [.ref wd, .ref tb, .ref xp])), (wd, .inr (7, [.ref kd, .ref vl, .int (nI cnt), .int (nI ix), .int va])), (kd, .inl (cy 0, n, .inl f1)), (vl, .inl (cy 3, n, .inl f2)), (r0, .inr (4, [.ref aa, .int x1, .int x2, .int (x3 + 1), .int x4, .int x5, .int x6, .int x7, .int x8, .int x9, .int x10, .int x11, .int x12])), (xp, .inr (2, [.ref cd, .int (nI sz2_34), .ref st])), (cd, .inl (cy 0, n1, .inl f2_34))] H := hP
      have hD : va_D A [(h0, .inr (3, [.ref wd, .ref tb, .ref xp])), (wd, .inr (7, [.ref kd, .ref vl, .int (nI cnt), .int (nI ix), .int va])), (kd, .inl (cy 0, n, .inl f1)), (vl, .inl (cy 3, n, .inl f2)), (r0, .inr (4, [.ref aa, .int x1, .int x2, .int (x3 + 1), .int x4, .int x5, .int x6, .int x7, .int x8, .int x9, .int x10, .int x11, .int x12])), (xp, .inr (2, [.ref cd, .int (nI sz2_34), .ref st])), (cd, .inl (cy 0, n1, .inl f2_34))] := hD
      refine lv_aload_n hx hb dX2_takeCondition_47 rfl (lv_at hl 0 rfl) ?_
      refine va_get (D := D) (ci := 3) (v := .ref wd) (C := RX2) (T := TX2) (N := 3) hx hb hts iX2 hown hK hP 0 rfl rfl 0 (by decide) (hts (.fieldLink RX2 9 "InterlockTables$Reader" "words" "LInterlockTables$Words;") (by decide +kernel)) (fun _ h9 => h9) rfl dX2_takeCondition_48 ?_
      refine mt_callv (wr := [(h0, .inr (3, [.ref wd, .ref tb, .ref xp])), (kd, .inl (cy 0, n, .inl f1)), (vl, .inl (cy 3, n, .inl f2)), (r0, .inr (4, [.ref aa, .int x1, .int x2, .int (x3 + 1), .int x4, .int x5, .int x6, .int x7, .int x8, .int x9, .int x10, .int x11, .int x12])), (xp, .inr (2, [.ref cd, .int (nI sz2_34), .ref st])), (cd, .inl (cy 0, n1, .inl f2_34))]) (va_runV (As := []) (rest := []) ⟨hx, hb, hml, hown, hts⟩ (c_Words_advance l D cy e wd kd vl cnt ix va H.size (by omega) (by omega)) (cwV 0 hts gX2_takeCondition_X6_advance rfl rfl rfl (by decide +kernel) ⟨Nat.le_of_ble_eq_true rfl, Nat.le_of_ble_eq_true rfl⟩) (mt_preV hP hD hK hS hA hG [1] rfl (by decide) (q := (RX6, TX6, 5)) (ci := 7) (q0 := 1) rfl rfl) rfl rfl hl.1 rfl (lv_room (Nat.le_of_ble_eq_true rfl)) dX2_takeCondition_51 ⟨(Nat.le_of_ble_eq_true rfl), (Nat.le_of_ble_eq_true rfl)⟩) hP hD hS hA [1] [0, 2, 3, 4, 5, 6] rfl rfl (by decide) (by decide) (fun u H locs hw hP hD hS => ?_)
      obtain ⟨ix2_51, rfl⟩ : ∃ z, z = u := ⟨_, rfl⟩
      have hP : va_P D vwCl [(h0, .inr (3, [.ref wd, .ref tb, .ref xp])), (kd, .inl (cy 0, n, .inl f1)), (vl, .inl (cy 3, n, .inl f2)), (r0, .inr (4, [.ref aa, .int x1, .int x2, .int (x3 + 1), .int x4, .int x5, .int x6, .int x7, .int x8, .int x9, .int x10, .int x11, .int x12])), (xp, .inr (2, [.ref cd, .int (nI sz2_34), .ref st])), (cd, .inl (cy 0, n1, .inl f2_34)), (wd, .inr (7, [.ref kd, .ref vl, .int (nI cnt), .int (nI ix2_51), .int va]))] H := hP
      have hD : va_D A [(h0, .inr (3, [.ref wd, .ref tb, .ref xp])), (kd, .inl (cy 0, n, .inl f1)), (vl, .inl (cy 3, n, .inl f2)), (r0, .inr (4, [.ref aa, .int x1, .int x2, .int (x3 + 1), .int x4, .int x5, .int x6, .int x7, .int x8, .int x9, .int x10, .int x11, .int x12])), (xp, .inr (2, [.ref cd, .int (nI sz2_34), .ref st])), (cd, .inl (cy 0, n1, .inl f2_34)), (wd, .inr (7, [.ref kd, .ref vl, .int (nI cnt), .int (nI ix2_51), .int va]))] := hD
      replace hw : ix2_51 ≤ cnt := hw
      refine W.widen (k := 0) (n := 0) (by omega) (by omega) ?_
      refine lv_iconst (v := 1) hx hb dX2_takeCondition_54 (by decide +kernel) ?_
      have hP9 : va_P D vwCl [(h0, .inr (3, [.ref wd, .ref tb, .ref xp])), (wd, .inr (7, [.ref kd, .ref vl, .int (nI cnt), .int (nI ix2_51), .int va])), (kd, .inl (cy 0, n, .inl f1)), (vl, .inl (cy 3, n, .inl f2)), (xp, .inr (2, [.ref cd, .int (nI sz2_34), .ref st])), (cd, .inl (cy 0, n1, .inl f2_34)), (r0, .inr (4, [.ref aa, .int x1, .int x2, .int (x3 + 1), .int x4, .int x5, .int x6, .int x7, .int x8, .int x9, .int x10, .int x11, .int x12]))] H := hP.sub [0, 6, 1, 2, 4, 5, 3] rfl
      have hD9 : va_D A [(h0, .inr (3, [.ref wd, .ref tb, .ref xp])), (wd, .inr (7, [.ref kd, .ref vl, .int (nI cnt), .int (nI ix2_51), .int va])), (kd, .inl (cy 0, n, .inl f1)), (vl, .inl (cy 3, n, .inl f2)), (xp, .inr (2, [.ref cd, .int (nI sz2_34), .ref st])), (cd, .inl (cy 0, n1, .inl f2_34)), (r0, .inr (4, [.ref aa, .int x1, .int x2, .int (x3 + 1), .int x4, .int x5, .int x6, .int x7, .int x8, .int x9, .int x10, .int x11, .int x12]))] := hD.sub [0, 6, 1, 2, 4, 5, 3] (by decide) rfl
      refine W.widen (k := 0) (n := 0) (by omega) (by omega) ?_
      exact W.zret hx hb hr rfl (fun t ht hW => ⟨⟨_, (ix2_51, sz2_34, f2_34, (x3 + 1)), rfl, ⟨Or.inr rfl, hw, hw1⟩, by rw [ht]; exact hP9, hD9⟩, hS.F ht⟩) hS.2.2 dX2_takeCondition_55
    · refine lv_iconst (v := 0) hx hb dX2_takeCondition_21 (by decide +kernel) ?_
      have hP9 : va_P D vwCl [(h0, .inr (3, [.ref wd, .ref tb, .ref xp])), (wd, .inr (7, [.ref kd, .ref vl, .int (nI cnt), .int (nI ix), .int va])), (kd, .inl (cy 0, n, .inl f1)), (vl, .inl (cy 3, n, .inl f2)), (xp, .inr (2, [.ref cd, .int (nI sz0), .ref st])), (cd, .inl (cy 0, n1, .inl fc)), (r0, .inr (4, [.ref aa, .int x1, .int x2, .int x3, .int x4, .int x5, .int x6, .int x7, .int x8, .int x9, .int x10, .int x11, .int x12]))] H := hP.sub [0, 1, 2, 3, 4, 5, 6] rfl
      have hD9 : va_D A [(h0, .inr (3, [.ref wd, .ref tb, .ref xp])), (wd, .inr (7, [.ref kd, .ref vl, .int (nI cnt), .int (nI ix), .int va])), (kd, .inl (cy 0, n, .inl f1)), (vl, .inl (cy 3, n, .inl f2)), (xp, .inr (2, [.ref cd, .int (nI sz0), .ref st])), (cd, .inl (cy 0, n1, .inl fc)), (r0, .inr (4, [.ref aa, .int x1, .int x2, .int x3, .int x4, .int x5, .int x6, .int x7, .int x8, .int x9, .int x10, .int x11, .int x12]))] := hD.sub [0, 1, 2, 3, 4, 5, 6] (by decide) rfl
      refine W.widen (k := 0) (n := 0) (by omega) (by omega) ?_
      exact W.zret hx hb hr rfl (fun t ht hW => ⟨⟨_, (ix, sz0, fc, x3), rfl, ⟨Or.inl rfl, hix, hsz⟩, by rw [ht]; exact hP9, hD9⟩, hS.F ht⟩) hS.2.2 dX2_takeCondition_22
