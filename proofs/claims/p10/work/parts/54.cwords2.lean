-- deps: 53
set_option maxHeartbeats 4000000 in
set_option maxRecDepth 100000 in
theorem c_keep (l : Launch) (D : va_G) (cy : Nat → ClassId) (e : Nat → Nat)  (h0 : Nat) (kd : Nat) (vl : Nat) (cnt : Nat) (ix : Nat) (va : Int32) (n : Nat) (f1 : Nat → Int32) (f2 : Nat → Int32) (kk : Int32) (sz : Nat) (hcn : cnt ≤ n) (hn : n < 65536) : Met l yX6_keep wsX6_keep ({ frames := 0, cells := 0, slots := 0, locals := 0 }) (va_Pc [.ref h0, .int kk] (mt_B D cy e [(h0, .inr (7, [.ref kd, .ref vl, .int (nI cnt), .int (nI ix), .int va])), (kd, .inl (cy 0, n, .inl f1)), (vl, .inl (cy 3, n, .inl f2))] sz)) (va_Qv (fun (u : Nat × (Nat → Int32) × (Nat → Int32)) => match u with | (cnt2, f12, f22) => cnt2 ≤ n ∧ cnt ≤ cnt2 ∧ (cnt < n → cnt2 = cnt + 1 ∧ f12 = upd f1 cnt (vp_nar .byte kk.toInt8.toInt32) ∧ f22 = upd f2 cnt (vp_nar .short va.toInt16.toInt32))) (mt_Q D (fun (u : Nat × (Nat → Int32) × (Nat → Int32)) => match u with | (cnt2, f12, f22) => [(h0, .inr (7, [.ref kd, .ref vl, .int (nI cnt2), .int (nI ix), .int va])), (kd, .inl (cy 0, n, .inl f12)), (vl, .inl (cy 3, n, .inl f22))]) (va_A [(h0, .inr (7, [.ref kd, .ref vl, .int (nI cnt), .int (nI ix), .int va])), (kd, .inl (cy 0, n, .inl f1)), (vl, .inl (cy 3, n, .inl f2))] sz)) (va_A [(h0, .inr (7, [.ref kd, .ref vl, .int (nI cnt), .int (nI ix), .int va])), (kd, .inl (cy 0, n, .inl f1)), (vl, .inl (cy 3, n, .inl f2))] sz)) (0) (0) (va_A [(h0, .inr (7, [.ref kd, .ref vl, .int (nI cnt), .int (nI ix), .int va])), (kd, .inl (cy 0, n, .inl f1)), (vl, .inl (cy 3, n, .inl f2))] sz) := by
  refine Met.ofW (cc := cX6_keep) (maxL := 2) (ret := none) (by decide) rfl ?_
  intro p ev s m args below meth c s₁ B hml hv
  obtain ⟨rfl, hsz, hP, hK, hD0, hG⟩ := hv
  have hx := B.exec
  have hb := B.bytes
  have hr := B.returns
  have hts := atoms_spec (ws := wsX6_keep) B.pre
  have hown : s.vm.findClass RX6 = some m.cls := findClass_of_methodNamed B.named
  have hlocks := B.notSynchronized
  subst hsz
  have hD := hD0.self (sz := s.heap.size)
  generalize hAe : va_A [(h0, .inr (7, [.ref kd, .ref vl, .int (nI cnt), .int (nI ix), .int va])), (kd, .inl (cy 0, n, .inl f1)), (vl, .inl (cy 3, n, .inl f2))] s.heap.size = A at hD hG ⊢
  have hA : ∀ q : Nat, s.heap.size ≤ q → A q := fun q h => by rw [← hAe]; exact Or.inr h
  have hS : va_S A s.heap s.heap [] := va_S.rf
  have hP : va_P D vwCl [(h0, .inr (7, [.ref kd, .ref vl, .int (nI cnt), .int (nI ix), .int va])), (kd, .inl (cy 0, n, .inl f1)), (vl, .inl (cy 3, n, .inl f2))] s.heap := hP
  have iX6 : ∀ w ∈ wsX60, w ∈ wsX6_keep := fun w h => List.mem_cons_of_mem _ (List.mem_append_right _ h)
  have hl := lv_entry ([.ref h0, .int kk]) (n := 2) (Nat.le_of_ble_eq_true rfl)
  rw [lg_entry_eq]
  generalize (lg_sl ([.ref h0, .int kk]) ++ List.replicate (2 - (lg_sl ([.ref h0, .int kk])).length) Slot.unset).toArray = ls at hl ⊢
  have hl : lv_has ls 2 [(0, .ref h0), (1, .int kk)] := hl
  refine lv_aload_n hx hb dX6_keep_0 rfl (lv_at hl 0 rfl) ?_
  refine va_get (D := D) (ci := 7) (v := .int (nI cnt)) (C := RX6) (T := TX6) (N := 5) hx hb hts iX6 hown hK hP 0 rfl rfl 2 (by decide) (hts (.fieldLink RX6 25 "InterlockTables$Words" "count" "I") (by decide +kernel)) (fun _ h9 => h9) rfl dX6_keep_1 ?_
  refine lv_aload_n hx hb dX6_keep_4 rfl (lv_at hl 0 rfl) ?_
  refine va_get (D := D) (ci := 7) (v := .ref kd) (C := RX6) (T := TX6) (N := 5) hx hb hts iX6 hown hK hP 0 rfl rfl 0 (by decide) (hts (.fieldLink RX6 15 "InterlockTables$Words" "kinds" "[B") (by decide +kernel)) (fun _ h9 => h9) rfl dX6_keep_5 ?_
  refine va_alen hx hb hK hP 1 0 rfl rfl (v := nI n) rfl dX6_keep_8 ?_
  refine lv_icmp_ge (tgt := 59) hx hb dX6_keep_9 (by decide) (fun c9 => ?_) (fun c9 => ?_)
  · have hge : n ≤ cnt := (nI_leI (by omega) (by omega)).mp c9
    have hP9 : va_P D vwCl [(h0, .inr (7, [.ref kd, .ref vl, .int (nI cnt), .int (nI ix), .int va])), (kd, .inl (cy 0, n, .inl f1)), (vl, .inl (cy 3, n, .inl f2))] s.heap := hP.sub [0, 1, 2] rfl
    have hD9 : va_D A [(h0, .inr (7, [.ref kd, .ref vl, .int (nI cnt), .int (nI ix), .int va])), (kd, .inl (cy 0, n, .inl f1)), (vl, .inl (cy 3, n, .inl f2))] := hD.sub [0, 1, 2] (by decide) rfl
    refine W.widen (k := 0) (n := 0) (by omega) (by omega) ?_
    exact W.vret hx hb hr (fun t ht hW => ⟨⟨(cnt, f1, f2), rfl, ⟨hcn, Nat.le_refl _, fun q9 => absurd q9 (by omega)⟩, by rw [ht]; exact hP9, hD9⟩, hS.F ht⟩) hS.2.2 dX6_keep_59
  · have hlt : cnt < n := pk_nle (by omega) c9
    refine lv_aload_n hx hb dX6_keep_12 rfl (lv_at hl 0 rfl) ?_
    refine va_get (D := D) (ci := 7) (v := .int (nI cnt)) (C := RX6) (T := TX6) (N := 5) hx hb hts iX6 hown hK hP 0 rfl rfl 2 (by decide) (hts (.fieldLink RX6 25 "InterlockTables$Words" "count" "I") (by decide +kernel)) (fun _ h9 => h9) rfl dX6_keep_13 ?_
    refine lv_aload_n hx hb dX6_keep_16 rfl (lv_at hl 0 rfl) ?_
    refine va_get (D := D) (ci := 7) (v := .ref vl) (C := RX6) (T := TX6) (N := 5) hx hb hts iX6 hown hK hP 0 rfl rfl 1 (by decide) (hts (.fieldLink RX6 21 "InterlockTables$Words" "values" "[S") (by decide +kernel)) (fun _ h9 => h9) rfl dX6_keep_17 ?_
    refine va_alen hx hb hK hP 2 3 rfl rfl (v := nI n) rfl dX6_keep_20 ?_
    refine lv_icmp_ge (tgt := 59) hx hb dX6_keep_21 (by decide) (fun c21 => absurd c21 c9) (fun _ => ?_)
    refine lv_aload_n hx hb dX6_keep_24 rfl (lv_at hl 0 rfl) ?_
    refine va_get (D := D) (ci := 7) (v := .ref kd) (C := RX6) (T := TX6) (N := 5) hx hb hts iX6 hown hK hP 0 rfl rfl 0 (by decide) (hts (.fieldLink RX6 15 "InterlockTables$Words" "kinds" "[B") (by decide +kernel)) (fun _ h9 => h9) rfl dX6_keep_25 ?_
    refine lv_aload_n hx hb dX6_keep_28 rfl (lv_at hl 0 rfl) ?_
    refine va_get (D := D) (ci := 7) (v := .int (nI cnt)) (C := RX6) (T := TX6) (N := 5) hx hb hts iX6 hown hK hP 0 rfl rfl 2 (by decide) (hts (.fieldLink RX6 25 "InterlockTables$Words" "count" "I") (by decide +kernel)) (fun _ h9 => h9) rfl dX6_keep_29 ?_
    refine lv_iload_n hx hb dX6_keep_32 rfl (lv_at hl 1 rfl) ?_
    refine lv_i2b (v := kk.toInt8.toInt32) hx hb dX6_keep_33 (rfl) ?_
    refine va_bast hx hb hK hP hD hS 1 0 rfl rfl (vp_in_nI (by omega) (by omega)) dX6_keep_34 (fun H locs hP hD hS => ?_)
    have hP : va_P D vwCl [(h0, .inr (7, [.ref kd, .ref vl, .int (nI cnt), .int (nI ix), .int va])), (kd, .inl (cy 0, n, .inl (upd f1 (nI cnt).toNatClampNeg (vp_nar .byte kk.toInt8.toInt32)))), (vl, .inl (cy 3, n, .inl f2))] H := hP
    have hD : va_D A [(h0, .inr (7, [.ref kd, .ref vl, .int (nI cnt), .int (nI ix), .int va])), (kd, .inl (cy 0, n, .inl (upd f1 (nI cnt).toNatClampNeg (vp_nar .byte kk.toInt8.toInt32)))), (vl, .inl (cy 3, n, .inl f2))] := hD
    have ef_34 : (upd f1 (nI cnt).toNatClampNeg (vp_nar .byte kk.toInt8.toInt32)) = (upd f1 cnt (vp_nar .byte kk.toInt8.toInt32)) := by rw [nI_clamp (by omega)]
    rw [ef_34] at hP hD
    refine lv_aload_n hx hb dX6_keep_35 rfl (lv_at hl 0 rfl) ?_
    refine va_get (D := D) (ci := 7) (v := .ref vl) (C := RX6) (T := TX6) (N := 5) hx hb hts iX6 hown hK hP 0 rfl rfl 1 (by decide) (hts (.fieldLink RX6 21 "InterlockTables$Words" "values" "[S") (by decide +kernel)) (fun _ h9 => h9) rfl dX6_keep_36 ?_
    refine lv_aload_n hx hb dX6_keep_39 rfl (lv_at hl 0 rfl) ?_
    refine va_get (D := D) (ci := 7) (v := .int (nI cnt)) (C := RX6) (T := TX6) (N := 5) hx hb hts iX6 hown hK hP 0 rfl rfl 2 (by decide) (hts (.fieldLink RX6 25 "InterlockTables$Words" "count" "I") (by decide +kernel)) (fun _ h9 => h9) rfl dX6_keep_40 ?_
    refine lv_aload_n hx hb dX6_keep_43 rfl (lv_at hl 0 rfl) ?_
    refine va_get (D := D) (ci := 7) (v := .int va) (C := RX6) (T := TX6) (N := 5) hx hb hts iX6 hown hK hP 0 rfl rfl 4 (by decide) (hts (.fieldLink RX6 57 "InterlockTables$Words" "value" "I") (by decide +kernel)) (fun _ h9 => h9) rfl dX6_keep_44 ?_
    refine lv_i2s (v := va.toInt16.toInt32) hx hb dX6_keep_47 (rfl) ?_
    refine va_sast hx hb hK hP hD hS 2 3 rfl rfl (vp_in_nI (by omega) (by omega)) dX6_keep_48 (fun H locs hP hD hS => ?_)
    have hP : va_P D vwCl [(h0, .inr (7, [.ref kd, .ref vl, .int (nI cnt), .int (nI ix), .int va])), (kd, .inl (cy 0, n, .inl (upd f1 cnt (vp_nar .byte kk.toInt8.toInt32)))), (vl, .inl (cy 3, n, .inl (upd f2 (nI cnt).toNatClampNeg (vp_nar .short va.toInt16.toInt32))))] H := hP
    have hD : va_D A [(h0, .inr (7, [.ref kd, .ref vl, .int (nI cnt), .int (nI ix), .int va])), (kd, .inl (cy 0, n, .inl (upd f1 cnt (vp_nar .byte kk.toInt8.toInt32)))), (vl, .inl (cy 3, n, .inl (upd f2 (nI cnt).toNatClampNeg (vp_nar .short va.toInt16.toInt32))))] := hD
    have ef_48 : (upd f2 (nI cnt).toNatClampNeg (vp_nar .short va.toInt16.toInt32)) = (upd f2 cnt (vp_nar .short va.toInt16.toInt32)) := by rw [nI_clamp (by omega)]
    rw [ef_48] at hP hD
    refine lv_aload_n hx hb dX6_keep_49 rfl (lv_at hl 0 rfl) ?_
    refine lv_dup hx hb dX6_keep_50 rfl ?_
    refine va_get (D := D) (ci := 7) (v := .int (nI cnt)) (C := RX6) (T := TX6) (N := 5) hx hb hts iX6 hown hK hP 0 rfl rfl 2 (by decide) (hts (.fieldLink RX6 25 "InterlockTables$Words" "count" "I") (by decide +kernel)) (fun _ h9 => h9) rfl dX6_keep_51 ?_
    refine lv_iconst (v := 1) hx hb dX6_keep_54 (by decide +kernel) ?_
    refine lv_iadd hx hb dX6_keep_55 ?_
    refine lv_topi (fun x_1 ex_1 => ?_)
    obtain rfl : x_1 = nI (cnt + 1) := by rw [ex_1]; exact nI_1 cnt
    refine va_put (D := D) (ci := 7) (v := .int (nI (cnt + 1))) (ty := .int) (C := RX6) (T := TX6) (N := 5) hx hb hts iX6 tyX6 tyX6_ok nmX6 hown hK hP hD hS 0 rfl rfl 2 (by decide) (hts (.fieldLink RX6 25 "InterlockTables$Words" "count" "I") (by decide +kernel)) (fun _ h9 => h9) rfl (by decide +kernel) rfl rfl (Nat.le_of_ble_eq_true rfl) dX6_keep_56 (fun H locs hP hD hS => ?_)
    have hP : va_P D vwCl [(h0, .inr (7, [.ref kd, .ref vl, .int (nI (cnt + 1)), .int (nI ix), .int va])), (kd, .inl (cy 0, n, .inl (upd f1 cnt (vp_nar .byte kk.toInt8.toInt32)))), (vl, .inl (cy 3, n, .inl (upd f2 cnt (vp_nar .short va.toInt16.toInt32))))] H := hP
    have hD : va_D A [(h0, .inr (7, [.ref kd, .ref vl, .int (nI (cnt + 1)), .int (nI ix), .int va])), (kd, .inl (cy 0, n, .inl (upd f1 cnt (vp_nar .byte kk.toInt8.toInt32)))), (vl, .inl (cy 3, n, .inl (upd f2 cnt (vp_nar .short va.toInt16.toInt32))))] := hD
    have hP9 : va_P D vwCl [(h0, .inr (7, [.ref kd, .ref vl, .int (nI (cnt + 1)), .int (nI ix), .int va])), (kd, .inl (cy 0, n, .inl (upd f1 cnt (vp_nar .byte kk.toInt8.toInt32)))), (vl, .inl (cy 3, n, .inl (upd f2 cnt (vp_nar .short va.toInt16.toInt32))))] H := hP.sub [0, 1, 2] rfl
    have hD9 : va_D A [(h0, .inr (7, [.ref kd, .ref vl, .int (nI (cnt + 1)), .int (nI ix), .int va])), (kd, .inl (cy 0, n, .inl (upd f1 cnt (vp_nar .byte kk.toInt8.toInt32)))), (vl, .inl (cy 3, n, .inl (upd f2 cnt (vp_nar .short va.toInt16.toInt32))))] := hD.sub [0, 1, 2] (by decide) rfl
    refine W.widen (k := 0) (n := 0) (by omega) (by omega) ?_
    exact W.vret hx hb hr (fun t ht hW => ⟨⟨((cnt + 1), (upd f1 cnt (vp_nar .byte kk.toInt8.toInt32)), (upd f2 cnt (vp_nar .short va.toInt16.toInt32))), rfl, ⟨by omega, by omega, fun _ => ⟨rfl, rfl, rfl⟩⟩, by rw [ht]; exact hP9, hD9⟩, hS.F ht⟩) hS.2.2 dX6_keep_59

set_option maxHeartbeats 4000000 in
set_option maxRecDepth 100000 in
theorem c_Words_count (l : Launch) (D : va_G) (cy : Nat → ClassId) (e : Nat → Nat)  (h0 : Nat) (kd : Nat) (vl : Nat) (cnt : Int32) (ix : Int32) (va : Int32)  : Met l yX6_count wsX6_count ({ frames := 0, cells := 0, slots := 0, locals := 0 }) (va_Pc [.ref h0] (pu_B D cy e [(h0, .inr (7, [.ref kd, .ref vl, .int cnt, .int ix, .int va]))])) (va_Qi (fun (r : Int32) (_ : Unit) => r = cnt) (fun _ _ => True) (fun _ => False)) 0 0 (fun _ => False) := by
  refine Met.ofW (cc := cX6_count) (maxL := 1) (ret := (some .int)) (by decide) rfl ?_
  intro p ev s m args below meth c s₁ B hml hv
  obtain ⟨rfl, hP, hK, hG⟩ := hv
  have hx := B.exec
  have hb := B.bytes
  have hr := B.returns
  have hts := atoms_spec (ws := wsX6_count) B.pre
  have hown : s.vm.findClass RX6 = some m.cls := findClass_of_methodNamed B.named
  have hlocks := B.notSynchronized
  have hS : va_S (fun _ => False) s.heap s.heap [] := va_S.rf
  have hP : va_P D vwCl [(h0, .inr (7, [.ref kd, .ref vl, .int cnt, .int ix, .int va]))] s.heap := hP
  have iX6 : ∀ w ∈ wsX60, w ∈ wsX6_count := fun w h => List.mem_cons_of_mem _ (List.mem_append_right _ h)
  have hl := lv_entry ([.ref h0]) (n := 1) (Nat.le_of_ble_eq_true rfl)
  rw [lg_entry_eq]
  generalize (lg_sl ([.ref h0]) ++ List.replicate (1 - (lg_sl ([.ref h0])).length) Slot.unset).toArray = ls at hl ⊢
  have hl : lv_has ls 1 [(0, .ref h0)] := hl
  refine lv_aload_n hx hb dX6_count_0 rfl (lv_at hl 0 rfl) ?_
  refine va_get (D := D) (ci := 7) (v := .int cnt) (C := RX6) (T := TX6) (N := 5) hx hb hts iX6 hown hK hP 0 rfl rfl 2 (by decide) (hts (.fieldLink RX6 25 "InterlockTables$Words" "count" "I") (by decide +kernel)) (fun _ h9 => h9) rfl dX6_count_1 ?_
  exact W.iret hx hb hr (fun t ht hW => ⟨⟨_, (), rfl, rfl, trivial⟩, hS.F ht⟩) hS.2.2 dX6_count_4

set_option maxHeartbeats 4000000 in
set_option maxRecDepth 100000 in
theorem c_Words_index (l : Launch) (D : va_G) (cy : Nat → ClassId) (e : Nat → Nat)  (h0 : Nat) (kd : Nat) (vl : Nat) (cnt : Int32) (ix : Int32) (va : Int32)  : Met l yX6_index wsX6_index ({ frames := 0, cells := 0, slots := 0, locals := 0 }) (va_Pc [.ref h0] (pu_B D cy e [(h0, .inr (7, [.ref kd, .ref vl, .int cnt, .int ix, .int va]))])) (va_Qi (fun (r : Int32) (_ : Unit) => r = ix) (fun _ _ => True) (fun _ => False)) 0 0 (fun _ => False) := by
  refine Met.ofW (cc := cX6_index) (maxL := 1) (ret := (some .int)) (by decide) rfl ?_
  intro p ev s m args below meth c s₁ B hml hv
  obtain ⟨rfl, hP, hK, hG⟩ := hv
  have hx := B.exec
  have hb := B.bytes
  have hr := B.returns
  have hts := atoms_spec (ws := wsX6_index) B.pre
  have hown : s.vm.findClass RX6 = some m.cls := findClass_of_methodNamed B.named
  have hlocks := B.notSynchronized
  have hS : va_S (fun _ => False) s.heap s.heap [] := va_S.rf
  have hP : va_P D vwCl [(h0, .inr (7, [.ref kd, .ref vl, .int cnt, .int ix, .int va]))] s.heap := hP
  have iX6 : ∀ w ∈ wsX60, w ∈ wsX6_index := fun w h => List.mem_cons_of_mem _ (List.mem_append_right _ h)
  have hl := lv_entry ([.ref h0]) (n := 1) (Nat.le_of_ble_eq_true rfl)
  rw [lg_entry_eq]
  generalize (lg_sl ([.ref h0]) ++ List.replicate (1 - (lg_sl ([.ref h0])).length) Slot.unset).toArray = ls at hl ⊢
  have hl : lv_has ls 1 [(0, .ref h0)] := hl
  refine lv_aload_n hx hb dX6_index_0 rfl (lv_at hl 0 rfl) ?_
  refine va_get (D := D) (ci := 7) (v := .int ix) (C := RX6) (T := TX6) (N := 5) hx hb hts iX6 hown hK hP 0 rfl rfl 3 (by decide) (hts (.fieldLink RX6 29 "InterlockTables$Words" "index" "I") (by decide +kernel)) (fun _ h9 => h9) rfl dX6_index_1 ?_
  exact W.iret hx hb hr (fun t ht hW => ⟨⟨_, (), rfl, rfl, trivial⟩, hS.F ht⟩) hS.2.2 dX6_index_4

set_option maxHeartbeats 4000000 in
set_option maxRecDepth 100000 in
theorem c_Words_kind (l : Launch) (D : va_G) (cy : Nat → ClassId) (e : Nat → Nat)  (h0 : Nat) (kd : Nat) (vl : Nat) (cnt : Nat) (ix : Nat) (va : Int32) (n : Nat) (f1 : Nat → Int32) (K : Nat → Int32) (hcn : cnt ≤ n) (hn : n < 65536) (hix : ix ≤ cnt) (hkk : ∀ j, j < cnt → f1 j = K j) (hkz : ∀ j, cnt ≤ j → K j = 0) : Met l yX6_kind wsX6_kind ({ frames := 0, cells := 0, slots := 0, locals := 0 }) (va_Pc [.ref h0] (pu_B D cy e [(h0, .inr (7, [.ref kd, .ref vl, .int (nI cnt), .int (nI ix), .int va])), (kd, .inl (cy 0, n, .inl f1))])) (va_Qi (fun (r : Int32) (_ : Unit) => r = K ix) (fun _ _ => True) (fun _ => False)) 0 0 (fun _ => False) := by
  refine Met.ofW (cc := cX6_kind) (maxL := 1) (ret := (some .int)) (by decide) rfl ?_
  intro p ev s m args below meth c s₁ B hml hv
  obtain ⟨rfl, hP, hK, hG⟩ := hv
  have hx := B.exec
  have hb := B.bytes
  have hr := B.returns
  have hts := atoms_spec (ws := wsX6_kind) B.pre
  have hown : s.vm.findClass RX6 = some m.cls := findClass_of_methodNamed B.named
  have hlocks := B.notSynchronized
  have hS : va_S (fun _ => False) s.heap s.heap [] := va_S.rf
  have hP : va_P D vwCl [(h0, .inr (7, [.ref kd, .ref vl, .int (nI cnt), .int (nI ix), .int va])), (kd, .inl (cy 0, n, .inl f1))] s.heap := hP
  have iX6 : ∀ w ∈ wsX60, w ∈ wsX6_kind := fun w h => List.mem_cons_of_mem _ (List.mem_append_right _ h)
  have hl := lv_entry ([.ref h0]) (n := 1) (Nat.le_of_ble_eq_true rfl)
  rw [lg_entry_eq]
  generalize (lg_sl ([.ref h0]) ++ List.replicate (1 - (lg_sl ([.ref h0])).length) Slot.unset).toArray = ls at hl ⊢
  have hl : lv_has ls 1 [(0, .ref h0)] := hl
  refine lv_aload_n hx hb dX6_kind_0 rfl (lv_at hl 0 rfl) ?_
  refine va_get (D := D) (ci := 7) (v := .int (nI ix)) (C := RX6) (T := TX6) (N := 5) hx hb hts iX6 hown hK hP 0 rfl rfl 3 (by decide) (hts (.fieldLink RX6 29 "InterlockTables$Words" "index" "I") (by decide +kernel)) (fun _ h9 => h9) rfl dX6_kind_1 ?_
  refine lv_aload_n hx hb dX6_kind_4 rfl (lv_at hl 0 rfl) ?_
  refine va_get (D := D) (ci := 7) (v := .int (nI cnt)) (C := RX6) (T := TX6) (N := 5) hx hb hts iX6 hown hK hP 0 rfl rfl 2 (by decide) (hts (.fieldLink RX6 25 "InterlockTables$Words" "count" "I") (by decide +kernel)) (fun _ h9 => h9) rfl dX6_kind_5 ?_
  refine lv_icmp_ge (tgt := 23) hx hb dX6_kind_8 (by decide) (fun c8 => ?_) (fun c8 => ?_)
  · have hge : cnt ≤ ix := (nI_leI (by omega) (by omega)).mp c8
    refine lv_iconst (v := 0) hx hb dX6_kind_23 (by decide +kernel) ?_
    exact W.iret hx hb hr (fun t ht hW => ⟨⟨_, (), rfl, (hkz ix hge).symm, trivial⟩, hS.F ht⟩) hS.2.2 dX6_kind_24
  · have hlt : ix < cnt := pk_nle (by omega) c8
    refine lv_aload_n hx hb dX6_kind_11 rfl (lv_at hl 0 rfl) ?_
    refine va_get (D := D) (ci := 7) (v := .ref kd) (C := RX6) (T := TX6) (N := 5) hx hb hts iX6 hown hK hP 0 rfl rfl 0 (by decide) (hts (.fieldLink RX6 15 "InterlockTables$Words" "kinds" "[B") (by decide +kernel)) (fun _ h9 => h9) rfl dX6_kind_12 ?_
    refine lv_aload_n hx hb dX6_kind_15 rfl (lv_at hl 0 rfl) ?_
    refine va_get (D := D) (ci := 7) (v := .int (nI ix)) (C := RX6) (T := TX6) (N := 5) hx hb hts iX6 hown hK hP 0 rfl rfl 3 (by decide) (hts (.fieldLink RX6 29 "InterlockTables$Words" "index" "I") (by decide +kernel)) (fun _ h9 => h9) rfl dX6_kind_16 ?_
    refine va_bald hx hb hK hP 1 0 rfl rfl (vp_in_nI (by omega) (by omega)) dX6_kind_19 ?_
    refine lv_topi (fun x_1 ex_1 => ?_)
    obtain rfl : x_1 = f1 ix := by rw [ex_1]; rw [nI_clamp (by omega)]
    refine lv_goto (tgt := 24) hx hb dX6_kind_20 (by decide) ?_
    exact W.iret hx hb hr (fun t ht hW => ⟨⟨_, (), rfl, hkk ix hlt, trivial⟩, hS.F ht⟩) hS.2.2 dX6_kind_24

set_option maxHeartbeats 4000000 in
set_option maxRecDepth 100000 in
theorem c_Words_value (l : Launch) (D : va_G) (cy : Nat → ClassId) (e : Nat → Nat)  (h0 : Nat) (kd : Nat) (vl : Nat) (cnt : Nat) (ix : Nat) (va : Int32) (n : Nat) (f2 : Nat → Int32) (V : Nat → Int32) (hcn : cnt ≤ n) (hn : n < 65536) (hix : ix ≤ cnt) (hkk : ∀ j, j < cnt → f2 j = V j) (hkz : ∀ j, cnt ≤ j → V j = -1) : Met l yX6_value wsX6_value ({ frames := 0, cells := 0, slots := 0, locals := 0 }) (va_Pc [.ref h0] (pu_B D cy e [(h0, .inr (7, [.ref kd, .ref vl, .int (nI cnt), .int (nI ix), .int va])), (vl, .inl (cy 3, n, .inl f2))])) (va_Qi (fun (r : Int32) (_ : Unit) => r = V ix) (fun _ _ => True) (fun _ => False)) 0 0 (fun _ => False) := by
  refine Met.ofW (cc := cX6_value) (maxL := 1) (ret := (some .int)) (by decide) rfl ?_
  intro p ev s m args below meth c s₁ B hml hv
  obtain ⟨rfl, hP, hK, hG⟩ := hv
  have hx := B.exec
  have hb := B.bytes
  have hr := B.returns
  have hts := atoms_spec (ws := wsX6_value) B.pre
  have hown : s.vm.findClass RX6 = some m.cls := findClass_of_methodNamed B.named
  have hlocks := B.notSynchronized
  have hS : va_S (fun _ => False) s.heap s.heap [] := va_S.rf
  have hP : va_P D vwCl [(h0, .inr (7, [.ref kd, .ref vl, .int (nI cnt), .int (nI ix), .int va])), (vl, .inl (cy 3, n, .inl f2))] s.heap := hP
  have iX6 : ∀ w ∈ wsX60, w ∈ wsX6_value := fun w h => List.mem_cons_of_mem _ (List.mem_append_right _ h)
  have hl := lv_entry ([.ref h0]) (n := 1) (Nat.le_of_ble_eq_true rfl)
  rw [lg_entry_eq]
  generalize (lg_sl ([.ref h0]) ++ List.replicate (1 - (lg_sl ([.ref h0])).length) Slot.unset).toArray = ls at hl ⊢
  have hl : lv_has ls 1 [(0, .ref h0)] := hl
  refine lv_aload_n hx hb dX6_value_0 rfl (lv_at hl 0 rfl) ?_
  refine va_get (D := D) (ci := 7) (v := .int (nI ix)) (C := RX6) (T := TX6) (N := 5) hx hb hts iX6 hown hK hP 0 rfl rfl 3 (by decide) (hts (.fieldLink RX6 29 "InterlockTables$Words" "index" "I") (by decide +kernel)) (fun _ h9 => h9) rfl dX6_value_1 ?_
  refine lv_aload_n hx hb dX6_value_4 rfl (lv_at hl 0 rfl) ?_
  refine va_get (D := D) (ci := 7) (v := .int (nI cnt)) (C := RX6) (T := TX6) (N := 5) hx hb hts iX6 hown hK hP 0 rfl rfl 2 (by decide) (hts (.fieldLink RX6 25 "InterlockTables$Words" "count" "I") (by decide +kernel)) (fun _ h9 => h9) rfl dX6_value_5 ?_
  refine lv_icmp_ge (tgt := 23) hx hb dX6_value_8 (by decide) (fun c8 => ?_) (fun c8 => ?_)
  · have hge : cnt ≤ ix := (nI_leI (by omega) (by omega)).mp c8
    refine lv_iconst (v := -1) hx hb dX6_value_23 (by decide +kernel) ?_
    exact W.iret hx hb hr (fun t ht hW => ⟨⟨_, (), rfl, (hkz ix hge).symm, trivial⟩, hS.F ht⟩) hS.2.2 dX6_value_24
  · have hlt : ix < cnt := pk_nle (by omega) c8
    refine lv_aload_n hx hb dX6_value_11 rfl (lv_at hl 0 rfl) ?_
    refine va_get (D := D) (ci := 7) (v := .ref vl) (C := RX6) (T := TX6) (N := 5) hx hb hts iX6 hown hK hP 0 rfl rfl 1 (by decide) (hts (.fieldLink RX6 21 "InterlockTables$Words" "values" "[S") (by decide +kernel)) (fun _ h9 => h9) rfl dX6_value_12 ?_
    refine lv_aload_n hx hb dX6_value_15 rfl (lv_at hl 0 rfl) ?_
    refine va_get (D := D) (ci := 7) (v := .int (nI ix)) (C := RX6) (T := TX6) (N := 5) hx hb hts iX6 hown hK hP 0 rfl rfl 3 (by decide) (hts (.fieldLink RX6 29 "InterlockTables$Words" "index" "I") (by decide +kernel)) (fun _ h9 => h9) rfl dX6_value_16 ?_
    refine va_sald hx hb hK hP 1 3 rfl rfl (vp_in_nI (by omega) (by omega)) dX6_value_19 ?_
    refine lv_topi (fun x_1 ex_1 => ?_)
    obtain rfl : x_1 = f2 ix := by rw [ex_1]; rw [nI_clamp (by omega)]
    refine lv_goto (tgt := 24) hx hb dX6_value_20 (by decide) ?_
    exact W.iret hx hb hr (fun t ht hW => ⟨⟨_, (), rfl, hkk ix hlt, trivial⟩, hS.F ht⟩) hS.2.2 dX6_value_24

set_option maxHeartbeats 4000000 in
set_option maxRecDepth 100000 in
theorem c_Words_advance (l : Launch) (D : va_G) (cy : Nat → ClassId) (e : Nat → Nat)  (h0 : Nat) (kd : Nat) (vl : Nat) (cnt : Nat) (ix : Nat) (va : Int32) (sz : Nat) (hcm : cnt < 65536) (hix : ix ≤ cnt) : Met l yX6_advance wsX6_advance ({ frames := 0, cells := 0, slots := 0, locals := 0 }) (va_Pc [.ref h0] (mt_B D cy e [(h0, .inr (7, [.ref kd, .ref vl, .int (nI cnt), .int (nI ix), .int va]))] sz)) (va_Qv (fun (ix2 : Nat) => ix2 ≤ cnt ∧ (ix < cnt → ix2 = ix + 1)) (mt_Q D (fun ix2 => [(h0, .inr (7, [.ref kd, .ref vl, .int (nI cnt), .int (nI ix2), .int va]))]) (va_A [(h0, .inr (7, [.ref kd, .ref vl, .int (nI cnt), .int (nI ix), .int va]))] sz)) (va_A [(h0, .inr (7, [.ref kd, .ref vl, .int (nI cnt), .int (nI ix), .int va]))] sz)) (0) (0) (va_A [(h0, .inr (7, [.ref kd, .ref vl, .int (nI cnt), .int (nI ix), .int va]))] sz) := by
  refine Met.ofW (cc := cX6_advance) (maxL := 1) (ret := none) (by decide) rfl ?_
  intro p ev s m args below meth c s₁ B hml hv
  obtain ⟨rfl, hsz, hP, hK, hD0, hG⟩ := hv
  have hx := B.exec
  have hb := B.bytes
  have hr := B.returns
  have hts := atoms_spec (ws := wsX6_advance) B.pre
  have hown : s.vm.findClass RX6 = some m.cls := findClass_of_methodNamed B.named
  have hlocks := B.notSynchronized
  subst hsz
  have hD := hD0.self (sz := s.heap.size)
  generalize hAe : va_A [(h0, .inr (7, [.ref kd, .ref vl, .int (nI cnt), .int (nI ix), .int va]))] s.heap.size = A at hD hG ⊢
  have hA : ∀ q : Nat, s.heap.size ≤ q → A q := fun q h => by rw [← hAe]; exact Or.inr h
  have hS : va_S A s.heap s.heap [] := va_S.rf
  have hP : va_P D vwCl [(h0, .inr (7, [.ref kd, .ref vl, .int (nI cnt), .int (nI ix), .int va]))] s.heap := hP
  have iX6 : ∀ w ∈ wsX60, w ∈ wsX6_advance := fun w h => List.mem_cons_of_mem _ (List.mem_append_right _ h)
  have hl := lv_entry ([.ref h0]) (n := 1) (Nat.le_of_ble_eq_true rfl)
  rw [lg_entry_eq]
  generalize (lg_sl ([.ref h0]) ++ List.replicate (1 - (lg_sl ([.ref h0])).length) Slot.unset).toArray = ls at hl ⊢
  have hl : lv_has ls 1 [(0, .ref h0)] := hl
  refine lv_aload_n hx hb dX6_advance_0 rfl (lv_at hl 0 rfl) ?_
  refine va_get (D := D) (ci := 7) (v := .int (nI ix)) (C := RX6) (T := TX6) (N := 5) hx hb hts iX6 hown hK hP 0 rfl rfl 3 (by decide) (hts (.fieldLink RX6 29 "InterlockTables$Words" "index" "I") (by decide +kernel)) (fun _ h9 => h9) rfl dX6_advance_1 ?_
  refine lv_aload_n hx hb dX6_advance_4 rfl (lv_at hl 0 rfl) ?_
  refine va_get (D := D) (ci := 7) (v := .int (nI cnt)) (C := RX6) (T := TX6) (N := 5) hx hb hts iX6 hown hK hP 0 rfl rfl 2 (by decide) (hts (.fieldLink RX6 25 "InterlockTables$Words" "count" "I") (by decide +kernel)) (fun _ h9 => h9) rfl dX6_advance_5 ?_
  refine lv_icmp_ge (tgt := 21) hx hb dX6_advance_8 (by decide) (fun c8 => ?_) (fun c8 => ?_)
  · have hge : cnt ≤ ix := (nI_leI (by omega) (by omega)).mp c8
    have hP9 : va_P D vwCl [(h0, .inr (7, [.ref kd, .ref vl, .int (nI cnt), .int (nI ix), .int va]))] s.heap := hP.sub [0] rfl
    have hD9 : va_D A [(h0, .inr (7, [.ref kd, .ref vl, .int (nI cnt), .int (nI ix), .int va]))] := hD.sub [0] (by decide) rfl
    refine W.widen (k := 0) (n := 0) (by omega) (by omega) ?_
    exact W.vret hx hb hr (fun t ht hW => ⟨⟨ix, rfl, ⟨hix, fun q9 => absurd q9 (by omega)⟩, by rw [ht]; exact hP9, hD9⟩, hS.F ht⟩) hS.2.2 dX6_advance_21
  · have hlt : ix < cnt := pk_nle (by omega) c8
    refine lv_aload_n hx hb dX6_advance_11 rfl (lv_at hl 0 rfl) ?_
    refine lv_dup hx hb dX6_advance_12 rfl ?_
    refine va_get (D := D) (ci := 7) (v := .int (nI ix)) (C := RX6) (T := TX6) (N := 5) hx hb hts iX6 hown hK hP 0 rfl rfl 3 (by decide) (hts (.fieldLink RX6 29 "InterlockTables$Words" "index" "I") (by decide +kernel)) (fun _ h9 => h9) rfl dX6_advance_13 ?_
    refine lv_iconst (v := 1) hx hb dX6_advance_16 (by decide +kernel) ?_
    refine lv_iadd hx hb dX6_advance_17 ?_
    refine lv_topi (fun x_1 ex_1 => ?_)
    obtain rfl : x_1 = nI (ix + 1) := by rw [ex_1]; exact nI_1 ix
    refine va_put (D := D) (ci := 7) (v := .int (nI (ix + 1))) (ty := .int) (C := RX6) (T := TX6) (N := 5) hx hb hts iX6 tyX6 tyX6_ok nmX6 hown hK hP hD hS 0 rfl rfl 3 (by decide) (hts (.fieldLink RX6 29 "InterlockTables$Words" "index" "I") (by decide +kernel)) (fun _ h9 => h9) rfl (by decide +kernel) rfl rfl (Nat.le_of_ble_eq_true rfl) dX6_advance_18 (fun H locs hP hD hS => ?_)
    have hP : va_P D vwCl [(h0, .inr (7, [.ref kd, .ref vl, .int (nI cnt), .int (nI (ix + 1)), .int va]))] H := hP
    have hD : va_D A [(h0, .inr (7, [.ref kd, .ref vl, .int (nI cnt), .int (nI (ix + 1)), .int va]))] := hD
    have hP9 : va_P D vwCl [(h0, .inr (7, [.ref kd, .ref vl, .int (nI cnt), .int (nI (ix + 1)), .int va]))] H := hP.sub [0] rfl
    have hD9 : va_D A [(h0, .inr (7, [.ref kd, .ref vl, .int (nI cnt), .int (nI (ix + 1)), .int va]))] := hD.sub [0] (by decide) rfl
    refine W.widen (k := 0) (n := 0) (by omega) (by omega) ?_
    exact W.vret hx hb hr (fun t ht hW => ⟨⟨(ix + 1), rfl, ⟨hlt, fun _ => rfl⟩, by rw [ht]; exact hP9, hD9⟩, hS.F ht⟩) hS.2.2 dX6_advance_21

set_option maxHeartbeats 4000000 in
set_option maxRecDepth 100000 in
theorem c_Words_split (l : Launch) (D : va_G) (cy : Nat → ClassId) (e : Nat → Nat)  (h0 : Nat) (kd : Nat) (vl : Nat) (cnt : Nat) (ix : Nat) (va : Int32) (n : Nat) (f1 : Nat → Int32) (f2 : Nat → Int32) (t : Nat) (lim : Int32) (rm : Nat) (len : Nat) (n9 : Nat) (f : Nat → Int32) (sz : Nat) (hcn : cnt ≤ n) (hn : n < 65536) (hle : len ≤ n9) (hn9 : n9 ≤ 8192) (hc0 : cnt = 0) (hlen : len ≤ n) (hft : sb_Fit f) : Met l yX6_split wsX6_split ({ frames := 7, cells := 0, slots := 0, locals := 155 }) (va_Pc [.ref h0, .ref t] (mt_B D cy e [(h0, .inr (7, [.ref kd, .ref vl, .int (nI cnt), .int (nI ix), .int va])), (kd, .inl (cy 0, n, .inl f1)), (vl, .inl (cy 3, n, .inl f2)), (t, .inr (1, [.int lim, .ref rm, .int (nI len)])), (rm, .inl (cy 0, n9, .inl f))] sz)) (va_Qv (fun (u : Nat × Int32 × (Nat → Int32) × (Nat → Int32)) => match u with | (cnt2, va2, f12, f22) => cnt2 ≤ len ∧ cnt2 = (fp_ws f len 0).length ∧ fp_KV f12 f22 cnt2 (fp_K f len) (fp_V f len)) (mt_Q D (fun (u : Nat × Int32 × (Nat → Int32) × (Nat → Int32)) => match u with | (cnt2, va2, f12, f22) => [(h0, .inr (7, [.ref kd, .ref vl, .int (nI cnt2), .int (nI ix), .int va2])), (kd, .inl (cy 0, n, .inl f12)), (vl, .inl (cy 3, n, .inl f22)), (t, .inr (1, [.int lim, .ref rm, .int (nI len)])), (rm, .inl (cy 0, n9, .inl f))]) (va_A [(h0, .inr (7, [.ref kd, .ref vl, .int (nI cnt), .int (nI ix), .int va])), (kd, .inl (cy 0, n, .inl f1)), (vl, .inl (cy 3, n, .inl f2)), (t, .inr (1, [.int lim, .ref rm, .int (nI len)])), (rm, .inl (cy 0, n9, .inl f))] sz)) (va_A [(h0, .inr (7, [.ref kd, .ref vl, .int (nI cnt), .int (nI ix), .int va])), (kd, .inl (cy 0, n, .inl f1)), (vl, .inl (cy 3, n, .inl f2)), (t, .inr (1, [.int lim, .ref rm, .int (nI len)])), (rm, .inl (cy 0, n9, .inl f))] sz)) (0) (0) (va_A [(h0, .inr (7, [.ref kd, .ref vl, .int (nI cnt), .int (nI ix), .int va])), (kd, .inl (cy 0, n, .inl f1)), (vl, .inl (cy 3, n, .inl f2)), (t, .inr (1, [.int lim, .ref rm, .int (nI len)])), (rm, .inl (cy 0, n9, .inl f))] sz) := by
  refine Met.ofW (cc := cX6_split) (maxL := 4) (ret := none) (by decide) rfl ?_
  intro p ev s m args below meth c s₁ B hml hv
  obtain ⟨rfl, hsz, hP, hK, hD0, hG⟩ := hv
  have hx := B.exec
  have hb := B.bytes
  have hr := B.returns
  have hts := atoms_spec (ws := wsX6_split) B.pre
  have hown : s.vm.findClass RX6 = some m.cls := findClass_of_methodNamed B.named
  have hlocks := B.notSynchronized
  subst hsz
  have hD := hD0.self (sz := s.heap.size)
  generalize hAe : va_A [(h0, .inr (7, [.ref kd, .ref vl, .int (nI cnt), .int (nI ix), .int va])), (kd, .inl (cy 0, n, .inl f1)), (vl, .inl (cy 3, n, .inl f2)), (t, .inr (1, [.int lim, .ref rm, .int (nI len)])), (rm, .inl (cy 0, n9, .inl f))] s.heap.size = A at hD hG ⊢
  have hA : ∀ q : Nat, s.heap.size ≤ q → A q := fun q h => by rw [← hAe]; exact Or.inr h
  have hS : va_S A s.heap s.heap [] := va_S.rf
  have hP : va_P D vwCl [(h0, .inr (7, [.ref kd, .ref vl, .int (nI cnt), .int (nI ix), .int va])), (kd, .inl (cy 0, n, .inl f1)), (vl, .inl (cy 3, n, .inl f2)), (t, .inr (1, [.int lim, .ref rm, .int (nI len)])), (rm, .inl (cy 0, n9, .inl f))] s.heap := hP
  have iX0 : ∀ w ∈ wsX00, w ∈ wsX6_split := fun w h => List.mem_cons_of_mem _ (List.mem_append_left _ (List.mem_append_right _ h))
  have iX6 : ∀ w ∈ wsX60, w ∈ wsX6_split := fun w h => List.mem_cons_of_mem _ (List.mem_append_right _ h)
  have hl := lv_entry ([.ref h0, .ref t]) (n := 4) (Nat.le_of_ble_eq_true rfl)
  rw [lg_entry_eq]
  generalize (lg_sl ([.ref h0, .ref t]) ++ List.replicate (4 - (lg_sl ([.ref h0, .ref t])).length) Slot.unset).toArray = ls at hl ⊢
  have hl : lv_has ls 4 [(0, .ref h0), (1, .ref t)] := hl
  refine lv_iconst (v := 0) hx hb dX6_split_0 (by decide +kernel) ?_
  refine lv_topi (fun x_1 ex_1 => ?_)
  obtain rfl : x_1 = nI 0 := by rw [ex_1]; exact nI_0.symm
  refine lv_istore_n (lv' := [(2, .int (nI 0)), (0, .ref h0), (1, .ref t)]) hx hb dX6_split_1 rfl hl (by decide) rfl (fun ls hl => ?_)
  refine lp_W (σ := Nat × Nat × Int32 × (Nat → Int32) × (Nat → Int32)) (Wf := fun H locs ls => W p l ev _ s m _ below meth c H locs (0) (0) _ (F0 m 2 ls [])) (fun zz9 H locs ls => match zz9 with | (a, cn1, va1, g1, g2) => va_P D vwCl [(h0, .inr (7, [.ref kd, .ref vl, .int (nI cn1), .int (nI ix), .int va1])), (kd, .inl (cy 0, n, .inl g1)), (vl, .inl (cy 3, n, .inl g2)), (t, .inr (1, [.int lim, .ref rm, .int (nI len)])), (rm, .inl (cy 0, n9, .inl f))] H ∧ va_D A [(h0, .inr (7, [.ref kd, .ref vl, .int (nI cn1), .int (nI ix), .int va1])), (kd, .inl (cy 0, n, .inl g1)), (vl, .inl (cy 3, n, .inl g2)), (t, .inr (1, [.int lim, .ref rm, .int (nI len)])), (rm, .inl (cy 0, n9, .inl f))] ∧ va_S A s.heap H locs ∧ lv_has ls 4 [(2, .int (nI a)), (0, .ref h0), (1, .ref t)] ∧ (a ≤ len ∧ cn1 ≤ a ∧ fp_sp f len a cn1 g1 g2)) (fun zz9 => match zz9 with | (a, cn1, va1, g1, g2) => len - a) ?_ (0, cnt, va, f1, f2) _ _ ls ⟨hP, hD, hS, lv_sub hl [0, 1, 2] rfl, ⟨Nat.zero_le _, by omega, by rw [hc0]; exact fp_sp_0⟩⟩
  intro zz9 H locs ls hI ih
  obtain ⟨a, cn1, va1, g1, g2⟩ := zz9
  obtain ⟨hP, hD, hS, hl, hI⟩ := hI
  have ih2 := ih
  have hI2 := hI
  have hP : va_P D vwCl [(h0, .inr (7, [.ref kd, .ref vl, .int (nI cn1), .int (nI ix), .int va1])), (kd, .inl (cy 0, n, .inl g1)), (vl, .inl (cy 3, n, .inl g2)), (t, .inr (1, [.int lim, .ref rm, .int (nI len)])), (rm, .inl (cy 0, n9, .inl f))] H := hP
  have hD : va_D A [(h0, .inr (7, [.ref kd, .ref vl, .int (nI cn1), .int (nI ix), .int va1])), (kd, .inl (cy 0, n, .inl g1)), (vl, .inl (cy 3, n, .inl g2)), (t, .inr (1, [.int lim, .ref rm, .int (nI len)])), (rm, .inl (cy 0, n9, .inl f))] := hD
  have hl : lv_has ls 4 [(2, .int (nI a)), (0, .ref h0), (1, .ref t)] := hl
  obtain ⟨hI1, hI2, hI3⟩ := hI
  refine lv_iload_n hx hb dX6_split_2 rfl (lv_at hl 0 rfl) ?_
  refine lv_aload_n hx hb dX6_split_3 rfl (lv_at hl 2 rfl) ?_
  refine pu_calli (va_runV (As := []) (rest := [.int (nI a)]) ⟨hx, hb, hml, hown, hts⟩ (c_Bytes_length l D cy e t lim rm (nI len) ) (cwV 0 hts gX6_split_X0_length rfl rfl rfl (by decide +kernel) ⟨Nat.le_of_ble_eq_true rfl, Nat.le_of_ble_eq_true rfl⟩) (pu_preV hP hK hS hG [3] rfl (q := (RX0, TX0, 3)) (ci := 1) (q0 := 3) rfl rfl) rfl rfl hl.1 rfl (lv_room (Nat.le_of_ble_eq_true rfl)) dX6_split_4 ⟨(Nat.le_of_ble_eq_true rfl), (Nat.le_of_ble_eq_true rfl)⟩) hP hS (fun H locs hP hS => ?_)
  have hP : va_P D vwCl [(h0, .inr (7, [.ref kd, .ref vl, .int (nI cn1), .int (nI ix), .int va1])), (kd, .inl (cy 0, n, .inl g1)), (vl, .inl (cy 3, n, .inl g2)), (t, .inr (1, [.int lim, .ref rm, .int (nI len)])), (rm, .inl (cy 0, n9, .inl f))] H := hP
  refine lv_icmp_ge (tgt := 77) hx hb dX6_split_7 (by decide) (fun c7 => ?_) (fun c7 => ?_)
  · have hge : len ≤ a := (nI_leI (by omega) (by omega)).mp c7
    have hP9 : va_P D vwCl [(h0, .inr (7, [.ref kd, .ref vl, .int (nI cn1), .int (nI ix), .int va1])), (kd, .inl (cy 0, n, .inl g1)), (vl, .inl (cy 3, n, .inl g2)), (t, .inr (1, [.int lim, .ref rm, .int (nI len)])), (rm, .inl (cy 0, n9, .inl f))] H := hP.sub [0, 1, 2, 3, 4] rfl
    have hD9 : va_D A [(h0, .inr (7, [.ref kd, .ref vl, .int (nI cn1), .int (nI ix), .int va1])), (kd, .inl (cy 0, n, .inl g1)), (vl, .inl (cy 3, n, .inl g2)), (t, .inr (1, [.int lim, .ref rm, .int (nI len)])), (rm, .inl (cy 0, n9, .inl f))] := hD.sub [0, 1, 2, 3, 4] (by decide) rfl
    refine W.widen (k := 0) (n := 0) (by omega) (by omega) ?_
    exact W.vret hx hb hr (fun t ht hW => ⟨⟨(cn1, va1, g1, g2), rfl, ⟨by omega, fp_sp_e hI3 hge⟩, by rw [ht]; exact hP9, hD9⟩, hS.F ht⟩) hS.2.2 dX6_split_77
  · have hlt : a < len := pk_nle (by omega) c7
    refine lv_iload_n hx hb dX6_split_10 rfl (lv_at hl 0 rfl) ?_
    refine lv_iconst (v := 1) hx hb dX6_split_11 (by decide +kernel) ?_
    refine lv_iadd hx hb dX6_split_12 ?_
    refine lv_topi (fun x_2 ex_2 => ?_)
    obtain rfl : x_2 = nI (a + 1) := by rw [ex_2]; exact nI_1 a
    refine lv_istore_n (lv' := [(3, .int (nI (a + 1))), (2, .int (nI a)), (0, .ref h0), (1, .ref t)]) hx hb dX6_split_13 rfl hl (by decide) rfl (fun ls hl => ?_)
    refine lv_aload_n hx hb dX6_split_14 rfl (lv_at hl 3 rfl) ?_
    refine lv_iload_n hx hb dX6_split_15 rfl (lv_at hl 1 rfl) ?_
    refine pu_calli (va_runV (As := [.int (nI a)]) (rest := []) ⟨hx, hb, hml, hown, hts⟩ (c_Bytes_at l D cy e t lim rm len n9 f (nI a) hle (by omega)) (cwV 1 hts gX6_split_X0_at rfl rfl rfl (by decide +kernel) ⟨Nat.le_of_ble_eq_true rfl, Nat.le_of_ble_eq_true rfl⟩) (pu_preV hP hK hS hG [3, 4] rfl (q := (RX0, TX0, 3)) (ci := 1) (q0 := 3) rfl rfl) rfl rfl hl.1 rfl (lv_room (Nat.le_of_ble_eq_true rfl)) dX6_split_16 ⟨(Nat.le_of_ble_eq_true rfl), (Nat.le_of_ble_eq_true rfl)⟩) hP hS (fun H locs hP hS => ?_)
    have hP : va_P D vwCl [(h0, .inr (7, [.ref kd, .ref vl, .int (nI cn1), .int (nI ix), .int va1])), (kd, .inl (cy 0, n, .inl g1)), (vl, .inl (cy 3, n, .inl g2)), (t, .inr (1, [.int lim, .ref rm, .int (nI len)])), (rm, .inl (cy 0, n9, .inl f))] H := hP
    refine lv_topi (fun x_3 ex_3 => ?_)
    obtain rfl : x_3 = f a := by rw [ex_3]; exact fp_bat (by omega) (by omega)
    refine pu_calli (va_runS (As := [.int (f a)]) (rest := []) ⟨hx, hb, hml, hown, hts⟩ (c_isInner l D cy e (f a) ) (va_cwS 1 hts gX6_split_X6_isInner rfl rfl rfl (by decide +kernel) ⟨Nat.le_of_ble_eq_true rfl, Nat.le_of_ble_eq_true rfl⟩) (pu_preS hP hK hS hG [] rfl) rfl rfl hl.1 rfl (lv_room (Nat.le_of_ble_eq_true rfl)) dX6_split_19 ⟨(Nat.le_of_ble_eq_true rfl), (Nat.le_of_ble_eq_true rfl)⟩) hP hS (fun H locs hP hS => ?_)
    have hP : va_P D vwCl [(h0, .inr (7, [.ref kd, .ref vl, .int (nI cn1), .int (nI ix), .int va1])), (kd, .inl (cy 0, n, .inl g1)), (vl, .inl (cy 3, n, .inl g2)), (t, .inr (1, [.int lim, .ref rm, .int (nI len)])), (rm, .inl (cy 0, n9, .inl f))] H := hP
    refine lv_if_eq (tgt := 50) hx hb dX6_split_22 (by decide) (fun c22 => ?_) (fun c22 => ?_)
    · refine lv_aload_n hx hb dX6_split_50 rfl (lv_at hl 3 rfl) ?_
      refine lv_iload_n hx hb dX6_split_51 rfl (lv_at hl 1 rfl) ?_
      refine pu_calli (va_runV (As := [.int (nI a)]) (rest := []) ⟨hx, hb, hml, hown, hts⟩ (c_Bytes_at l D cy e t lim rm len n9 f (nI a) hle (by omega)) (cwV 1 hts gX6_split_X0_at rfl rfl rfl (by decide +kernel) ⟨Nat.le_of_ble_eq_true rfl, Nat.le_of_ble_eq_true rfl⟩) (pu_preV hP hK hS hG [3, 4] rfl (q := (RX0, TX0, 3)) (ci := 1) (q0 := 3) rfl rfl) rfl rfl hl.1 rfl (lv_room (Nat.le_of_ble_eq_true rfl)) dX6_split_52 ⟨(Nat.le_of_ble_eq_true rfl), (Nat.le_of_ble_eq_true rfl)⟩) hP hS (fun H locs hP hS => ?_)
      have hP : va_P D vwCl [(h0, .inr (7, [.ref kd, .ref vl, .int (nI cn1), .int (nI ix), .int va1])), (kd, .inl (cy 0, n, .inl g1)), (vl, .inl (cy 3, n, .inl g2)), (t, .inr (1, [.int lim, .ref rm, .int (nI len)])), (rm, .inl (cy 0, n9, .inl f))] H := hP
      refine lv_topi (fun x_4 ex_4 => ?_)
      obtain rfl : x_4 = f a := by rw [ex_4]; exact fp_bat (by omega) (by omega)
      refine pu_calli (va_runS (As := [.int (f a)]) (rest := []) ⟨hx, hb, hml, hown, hts⟩ (c_isBlank l D cy e (f a) ) (va_cwS 1 hts gX6_split_X6_isBlank rfl rfl rfl (by decide +kernel) ⟨Nat.le_of_ble_eq_true rfl, Nat.le_of_ble_eq_true rfl⟩) (pu_preS hP hK hS hG [] rfl) rfl rfl hl.1 rfl (lv_room (Nat.le_of_ble_eq_true rfl)) dX6_split_55 ⟨(Nat.le_of_ble_eq_true rfl), (Nat.le_of_ble_eq_true rfl)⟩) hP hS (fun H locs hP hS => ?_)
      have hP : va_P D vwCl [(h0, .inr (7, [.ref kd, .ref vl, .int (nI cn1), .int (nI ix), .int va1])), (kd, .inl (cy 0, n, .inl g1)), (vl, .inl (cy 3, n, .inl g2)), (t, .inr (1, [.int lim, .ref rm, .int (nI len)])), (rm, .inl (cy 0, n9, .inl f))] H := hP
      refine lv_if_ne (tgt := 72) hx hb dX6_split_58 (by decide) (fun c58 => ?_) (fun c58 => ?_)
      · refine lv_iload_n hx hb dX6_split_72 rfl (lv_at hl 0 rfl) ?_
        refine lv_istore_n (lv' := [(2, .int (nI (a + 1))), (3, .int (nI (a + 1))), (0, .ref h0), (1, .ref t)]) hx hb dX6_split_73 rfl hl (by decide) rfl (fun ls hl => ?_)
        refine lv_goto (tgt := 2) hx hb dX6_split_74 (by decide) ?_
        exact ih2 ((a + 1), cn1, va1, g1, g2) _ _ ls ⟨hP.sub [0, 1, 2, 3, 4] rfl, hD.sub [0, 1, 2, 3, 4] (by decide) rfl, hS, lv_sub hl [0, 2, 3] rfl, ⟨by omega, by omega, fp_sp_b hI3 hlt (fp_bk_of c58)⟩⟩ (by (try dsimp only); omega)
      · refine lv_aload_n hx hb dX6_split_61 rfl (lv_at hl 2 rfl) ?_
        refine lv_aload_n hx hb dX6_split_62 rfl (lv_at hl 2 rfl) ?_
        refine lv_aload_n hx hb dX6_split_63 rfl (lv_at hl 3 rfl) ?_
        refine lv_iload_n hx hb dX6_split_64 rfl (lv_at hl 1 rfl) ?_
        refine lv_iload_n hx hb dX6_split_65 rfl (lv_at hl 0 rfl) ?_
        refine mt_calli (wr := [(kd, .inl (cy 0, n, .inl g1)), (vl, .inl (cy 3, n, .inl g2))]) (va_runV (As := [.ref t, .int (nI a), .int (nI (a + 1))]) (rest := [.ref h0]) ⟨hx, hb, hml, hown, hts⟩ (c_kindOf l D cy e h0 kd vl (nI cn1) (nI ix) va1 t lim rm len n9 f a (a + 1) H.size hle (by omega) (by omega) (by omega) hft) (cwV 3 hts gX6_split_X6_kindOf rfl rfl rfl (by decide +kernel) ⟨Nat.le_of_ble_eq_true rfl, Nat.le_of_ble_eq_true rfl⟩) (mt_preV hP hD hK hS hA hG [0, 3, 4] rfl (by decide) (q := (RX6, TX6, 5)) (ci := 7) (q0 := 0) rfl rfl) rfl rfl hl.1 rfl (lv_room (Nat.le_of_ble_eq_true rfl)) dX6_split_66 ⟨(Nat.le_of_ble_eq_true rfl), (Nat.le_of_ble_eq_true rfl)⟩) hP hD hS hA [0, 3, 4] [1, 2] rfl rfl (by decide) (by decide) (fun r66 u H locs hw hP hD hS => ?_)
        obtain ⟨va2_66, rfl⟩ : ∃ z, z = u := ⟨_, rfl⟩
        have hP : va_P D vwCl [(kd, .inl (cy 0, n, .inl g1)), (vl, .inl (cy 3, n, .inl g2)), (h0, .inr (7, [.ref kd, .ref vl, .int (nI cn1), .int (nI ix), .int va2_66])), (t, .inr (1, [.int lim, .ref rm, .int (nI len)])), (rm, .inl (cy 0, n9, .inl f))] H := hP
        have hD : va_D A [(kd, .inl (cy 0, n, .inl g1)), (vl, .inl (cy 3, n, .inl g2)), (h0, .inr (7, [.ref kd, .ref vl, .int (nI cn1), .int (nI ix), .int va2_66])), (t, .inr (1, [.int lim, .ref rm, .int (nI len)])), (rm, .inl (cy 0, n9, .inl f))] := hD
        replace hw : r66 = fp_k (fp_wf f a (a + 1)) ((a + 1) - a) ∧ va2_66 = fp_v (fp_wf f a (a + 1)) ((a + 1) - a) := hw
        refine W.widen (k := 0) (n := 0) (by omega) (by omega) ?_
        have hk66 := hw
        refine mt_callv (wr := [(t, .inr (1, [.int lim, .ref rm, .int (nI len)])), (rm, .inl (cy 0, n9, .inl f))]) (va_runV (As := [.int r66]) (rest := []) ⟨hx, hb, hml, hown, hts⟩ (c_keep l D cy e h0 kd vl cn1 ix va2_66 n g1 g2 r66 H.size (by omega) hn) (cwV 1 hts gX6_split_X6_keep rfl rfl rfl (by decide +kernel) ⟨Nat.le_of_ble_eq_true rfl, Nat.le_of_ble_eq_true rfl⟩) (mt_preV hP hD hK hS hA hG [2, 0, 1] rfl (by decide) (q := (RX6, TX6, 5)) (ci := 7) (q0 := 2) rfl rfl) rfl rfl hl.1 rfl (lv_room (Nat.le_of_ble_eq_true rfl)) dX6_split_69 ⟨(Nat.le_of_ble_eq_true rfl), (Nat.le_of_ble_eq_true rfl)⟩) hP hD hS hA [2, 0, 1] [3, 4] rfl rfl (by decide) (by decide) (fun u H locs hw hP hD hS => ?_)
        obtain ⟨cnt2_69, f12_69, f22_69⟩ := u
        have hP : va_P D vwCl [(t, .inr (1, [.int lim, .ref rm, .int (nI len)])), (rm, .inl (cy 0, n9, .inl f)), (h0, .inr (7, [.ref kd, .ref vl, .int (nI cnt2_69), .int (nI ix), .int va2_66])), (kd, .inl (cy 0, n, .inl f12_69)), (vl, .inl (cy 3, n, .inl f22_69))] H := hP
        have hD : va_D A [(t, .inr (1, [.int lim, .ref rm, .int (nI len)])), (rm, .inl (cy 0, n9, .inl f)), (h0, .inr (7, [.ref kd, .ref vl, .int (nI cnt2_69), .int (nI ix), .int va2_66])), (kd, .inl (cy 0, n, .inl f12_69)), (vl, .inl (cy 3, n, .inl f22_69))] := hD
        replace hw : cnt2_69 ≤ n ∧ cn1 ≤ cnt2_69 ∧ (cn1 < n → cnt2_69 = cn1 + 1 ∧ f12_69 = upd g1 cn1 (vp_nar .byte r66.toInt8.toInt32) ∧ f22_69 = upd g2 cn1 (vp_nar .short va2_66.toInt16.toInt32)) := hw
        refine W.widen (k := 0) (n := 0) (by omega) (by omega) ?_
        obtain ⟨hk1, hk2, hk69⟩ := hw
        refine lv_iload_n hx hb dX6_split_72 rfl (lv_at hl 0 rfl) ?_
        refine lv_istore_n (lv' := [(2, .int (nI (a + 1))), (3, .int (nI (a + 1))), (0, .ref h0), (1, .ref t)]) hx hb dX6_split_73 rfl hl (by decide) rfl (fun ls hl => ?_)
        refine lv_goto (tgt := 2) hx hb dX6_split_74 (by decide) ?_
        obtain ⟨hs1, hs2, hs3⟩ := hk69 (by omega)
        exact ih2 ((a + 1), cnt2_69, va2_66, f12_69, f22_69) _ _ ls ⟨hP.sub [2, 3, 4, 0, 1] rfl, hD.sub [2, 3, 4, 0, 1] (by decide) rfl, hS, lv_sub hl [0, 2, 3] rfl, ⟨by omega, by omega, by rw [hs1, hs2, hs3]; exact fp_sp_w hI3 hlt (fp_bk_no c58) (fp_end_b (fp_in_no c22)) hk66.1 hk66.2⟩⟩ (by (try dsimp only); omega)
    · refine lp_W (σ := Nat) (Wf := fun H locs ls => W p l ev _ s m _ below meth c H locs (0) (0) _ (F0 m 25 ls [])) (fun b H locs ls => va_P D vwCl [(h0, .inr (7, [.ref kd, .ref vl, .int (nI cn1), .int (nI ix), .int va1])), (kd, .inl (cy 0, n, .inl g1)), (vl, .inl (cy 3, n, .inl g2)), (t, .inr (1, [.int lim, .ref rm, .int (nI len)])), (rm, .inl (cy 0, n9, .inl f))] H ∧ va_D A [(h0, .inr (7, [.ref kd, .ref vl, .int (nI cn1), .int (nI ix), .int va1])), (kd, .inl (cy 0, n, .inl g1)), (vl, .inl (cy 3, n, .inl g2)), (t, .inr (1, [.int lim, .ref rm, .int (nI len)])), (rm, .inl (cy 0, n9, .inl f))] ∧ va_S A s.heap H locs ∧ lv_has ls 4 [(3, .int (nI b)), (2, .int (nI a)), (0, .ref h0), (1, .ref t)] ∧ (a < b ∧ b ≤ len ∧ fp_we f len a b)) (fun b => len - b) ?_ (a + 1) _ _ ls ⟨hP, hD, hS, lv_sub hl [0, 1, 2, 3] rfl, ⟨by omega, by omega, fp_we_0 (fp_in_of c22).1⟩⟩
      intro zz9 H locs ls hI ih
      obtain ⟨b, rfl⟩ : ∃ z, z = zz9 := ⟨_, rfl⟩
      obtain ⟨hP, hD, hS, hl, hI⟩ := hI
      have ih25 := ih
      have hI25 := hI
      have hP : va_P D vwCl [(h0, .inr (7, [.ref kd, .ref vl, .int (nI cn1), .int (nI ix), .int va1])), (kd, .inl (cy 0, n, .inl g1)), (vl, .inl (cy 3, n, .inl g2)), (t, .inr (1, [.int lim, .ref rm, .int (nI len)])), (rm, .inl (cy 0, n9, .inl f))] H := hP
      have hD : va_D A [(h0, .inr (7, [.ref kd, .ref vl, .int (nI cn1), .int (nI ix), .int va1])), (kd, .inl (cy 0, n, .inl g1)), (vl, .inl (cy 3, n, .inl g2)), (t, .inr (1, [.int lim, .ref rm, .int (nI len)])), (rm, .inl (cy 0, n9, .inl f))] := hD
      have hl : lv_has ls 4 [(3, .int (nI b)), (2, .int (nI a)), (0, .ref h0), (1, .ref t)] := hl
      obtain ⟨hJ1, hJ2, hJ3⟩ := hI
      refine lv_iload_n hx hb dX6_split_25 rfl (lv_at hl 0 rfl) ?_
      refine lv_aload_n hx hb dX6_split_26 rfl (lv_at hl 3 rfl) ?_
      refine pu_calli (va_runV (As := []) (rest := [.int (nI b)]) ⟨hx, hb, hml, hown, hts⟩ (c_Bytes_length l D cy e t lim rm (nI len) ) (cwV 0 hts gX6_split_X0_length rfl rfl rfl (by decide +kernel) ⟨Nat.le_of_ble_eq_true rfl, Nat.le_of_ble_eq_true rfl⟩) (pu_preV hP hK hS hG [3] rfl (q := (RX0, TX0, 3)) (ci := 1) (q0 := 3) rfl rfl) rfl rfl hl.1 rfl (lv_room (Nat.le_of_ble_eq_true rfl)) dX6_split_27 ⟨(Nat.le_of_ble_eq_true rfl), (Nat.le_of_ble_eq_true rfl)⟩) hP hS (fun H locs hP hS => ?_)
      have hP : va_P D vwCl [(h0, .inr (7, [.ref kd, .ref vl, .int (nI cn1), .int (nI ix), .int va1])), (kd, .inl (cy 0, n, .inl g1)), (vl, .inl (cy 3, n, .inl g2)), (t, .inr (1, [.int lim, .ref rm, .int (nI len)])), (rm, .inl (cy 0, n9, .inl f))] H := hP
      refine lv_icmp_ge (tgt := 50) hx hb dX6_split_30 (by decide) (fun c30 => ?_) (fun c30 => ?_)
      · have hgb : len ≤ b := (nI_leI (by omega) (by omega)).mp c30
        refine lv_aload_n hx hb dX6_split_50 rfl (lv_at hl 3 rfl) ?_
        refine lv_iload_n hx hb dX6_split_51 rfl (lv_at hl 1 rfl) ?_
        refine pu_calli (va_runV (As := [.int (nI a)]) (rest := []) ⟨hx, hb, hml, hown, hts⟩ (c_Bytes_at l D cy e t lim rm len n9 f (nI a) hle (by omega)) (cwV 1 hts gX6_split_X0_at rfl rfl rfl (by decide +kernel) ⟨Nat.le_of_ble_eq_true rfl, Nat.le_of_ble_eq_true rfl⟩) (pu_preV hP hK hS hG [3, 4] rfl (q := (RX0, TX0, 3)) (ci := 1) (q0 := 3) rfl rfl) rfl rfl hl.1 rfl (lv_room (Nat.le_of_ble_eq_true rfl)) dX6_split_52 ⟨(Nat.le_of_ble_eq_true rfl), (Nat.le_of_ble_eq_true rfl)⟩) hP hS (fun H locs hP hS => ?_)
        have hP : va_P D vwCl [(h0, .inr (7, [.ref kd, .ref vl, .int (nI cn1), .int (nI ix), .int va1])), (kd, .inl (cy 0, n, .inl g1)), (vl, .inl (cy 3, n, .inl g2)), (t, .inr (1, [.int lim, .ref rm, .int (nI len)])), (rm, .inl (cy 0, n9, .inl f))] H := hP
        refine lv_topi (fun x_5 ex_5 => ?_)
        obtain rfl : x_5 = f a := by rw [ex_5]; exact fp_bat (by omega) (by omega)
        refine pu_calli (va_runS (As := [.int (f a)]) (rest := []) ⟨hx, hb, hml, hown, hts⟩ (c_isBlank l D cy e (f a) ) (va_cwS 1 hts gX6_split_X6_isBlank rfl rfl rfl (by decide +kernel) ⟨Nat.le_of_ble_eq_true rfl, Nat.le_of_ble_eq_true rfl⟩) (pu_preS hP hK hS hG [] rfl) rfl rfl hl.1 rfl (lv_room (Nat.le_of_ble_eq_true rfl)) dX6_split_55 ⟨(Nat.le_of_ble_eq_true rfl), (Nat.le_of_ble_eq_true rfl)⟩) hP hS (fun H locs hP hS => ?_)
        have hP : va_P D vwCl [(h0, .inr (7, [.ref kd, .ref vl, .int (nI cn1), .int (nI ix), .int va1])), (kd, .inl (cy 0, n, .inl g1)), (vl, .inl (cy 3, n, .inl g2)), (t, .inr (1, [.int lim, .ref rm, .int (nI len)])), (rm, .inl (cy 0, n9, .inl f))] H := hP
        refine lv_if_ne (tgt := 72) hx hb dX6_split_58 (by decide) (fun c58 => absurd (if_neg (fp_in_of c22).1) c58) (fun _ => ?_)
        refine lv_aload_n hx hb dX6_split_61 rfl (lv_at hl 2 rfl) ?_
        refine lv_aload_n hx hb dX6_split_62 rfl (lv_at hl 2 rfl) ?_
        refine lv_aload_n hx hb dX6_split_63 rfl (lv_at hl 3 rfl) ?_
        refine lv_iload_n hx hb dX6_split_64 rfl (lv_at hl 1 rfl) ?_
        refine lv_iload_n hx hb dX6_split_65 rfl (lv_at hl 0 rfl) ?_
        refine mt_calli (wr := [(kd, .inl (cy 0, n, .inl g1)), (vl, .inl (cy 3, n, .inl g2))]) (va_runV (As := [.ref t, .int (nI a), .int (nI b)]) (rest := [.ref h0]) ⟨hx, hb, hml, hown, hts⟩ (c_kindOf l D cy e h0 kd vl (nI cn1) (nI ix) va1 t lim rm len n9 f a b H.size hle (by omega) (by omega) (by omega) hft) (cwV 3 hts gX6_split_X6_kindOf rfl rfl rfl (by decide +kernel) ⟨Nat.le_of_ble_eq_true rfl, Nat.le_of_ble_eq_true rfl⟩) (mt_preV hP hD hK hS hA hG [0, 3, 4] rfl (by decide) (q := (RX6, TX6, 5)) (ci := 7) (q0 := 0) rfl rfl) rfl rfl hl.1 rfl (lv_room (Nat.le_of_ble_eq_true rfl)) dX6_split_66 ⟨(Nat.le_of_ble_eq_true rfl), (Nat.le_of_ble_eq_true rfl)⟩) hP hD hS hA [0, 3, 4] [1, 2] rfl rfl (by decide) (by decide) (fun r66 u H locs hw hP hD hS => ?_)
        obtain ⟨va2_66, rfl⟩ : ∃ z, z = u := ⟨_, rfl⟩
        have hP : va_P D vwCl [(kd, .inl (cy 0, n, .inl g1)), (vl, .inl (cy 3, n, .inl g2)), (h0, .inr (7, [.ref kd, .ref vl, .int (nI cn1), .int (nI ix), .int va2_66])), (t, .inr (1, [.int lim, .ref rm, .int (nI len)])), (rm, .inl (cy 0, n9, .inl f))] H := hP
        have hD : va_D A [(kd, .inl (cy 0, n, .inl g1)), (vl, .inl (cy 3, n, .inl g2)), (h0, .inr (7, [.ref kd, .ref vl, .int (nI cn1), .int (nI ix), .int va2_66])), (t, .inr (1, [.int lim, .ref rm, .int (nI len)])), (rm, .inl (cy 0, n9, .inl f))] := hD
        replace hw : r66 = fp_k (fp_wf f a b) (b - a) ∧ va2_66 = fp_v (fp_wf f a b) (b - a) := hw
        refine W.widen (k := 0) (n := 0) (by omega) (by omega) ?_
        have hk66 := hw
        refine mt_callv (wr := [(t, .inr (1, [.int lim, .ref rm, .int (nI len)])), (rm, .inl (cy 0, n9, .inl f))]) (va_runV (As := [.int r66]) (rest := []) ⟨hx, hb, hml, hown, hts⟩ (c_keep l D cy e h0 kd vl cn1 ix va2_66 n g1 g2 r66 H.size (by omega) hn) (cwV 1 hts gX6_split_X6_keep rfl rfl rfl (by decide +kernel) ⟨Nat.le_of_ble_eq_true rfl, Nat.le_of_ble_eq_true rfl⟩) (mt_preV hP hD hK hS hA hG [2, 0, 1] rfl (by decide) (q := (RX6, TX6, 5)) (ci := 7) (q0 := 2) rfl rfl) rfl rfl hl.1 rfl (lv_room (Nat.le_of_ble_eq_true rfl)) dX6_split_69 ⟨(Nat.le_of_ble_eq_true rfl), (Nat.le_of_ble_eq_true rfl)⟩) hP hD hS hA [2, 0, 1] [3, 4] rfl rfl (by decide) (by decide) (fun u H locs hw hP hD hS => ?_)
        obtain ⟨cnt2_69, f12_69, f22_69⟩ := u
        have hP : va_P D vwCl [(t, .inr (1, [.int lim, .ref rm, .int (nI len)])), (rm, .inl (cy 0, n9, .inl f)), (h0, .inr (7, [.ref kd, .ref vl, .int (nI cnt2_69), .int (nI ix), .int va2_66])), (kd, .inl (cy 0, n, .inl f12_69)), (vl, .inl (cy 3, n, .inl f22_69))] H := hP
        have hD : va_D A [(t, .inr (1, [.int lim, .ref rm, .int (nI len)])), (rm, .inl (cy 0, n9, .inl f)), (h0, .inr (7, [.ref kd, .ref vl, .int (nI cnt2_69), .int (nI ix), .int va2_66])), (kd, .inl (cy 0, n, .inl f12_69)), (vl, .inl (cy 3, n, .inl f22_69))] := hD
        replace hw : cnt2_69 ≤ n ∧ cn1 ≤ cnt2_69 ∧ (cn1 < n → cnt2_69 = cn1 + 1 ∧ f12_69 = upd g1 cn1 (vp_nar .byte r66.toInt8.toInt32) ∧ f22_69 = upd g2 cn1 (vp_nar .short va2_66.toInt16.toInt32)) := hw
        refine W.widen (k := 0) (n := 0) (by omega) (by omega) ?_
        obtain ⟨hk1, hk2, hk69⟩ := hw
        refine lv_iload_n hx hb dX6_split_72 rfl (lv_at hl 0 rfl) ?_
        refine lv_istore_n (lv' := [(2, .int (nI b)), (3, .int (nI b)), (0, .ref h0), (1, .ref t)]) hx hb dX6_split_73 rfl hl (by decide) rfl (fun ls hl => ?_)
        refine lv_goto (tgt := 2) hx hb dX6_split_74 (by decide) ?_
        obtain ⟨hs1, hs2, hs3⟩ := hk69 (by omega)
        exact ih2 (b, cnt2_69, va2_66, f12_69, f22_69) _ _ ls ⟨hP.sub [2, 3, 4, 0, 1] rfl, hD.sub [2, 3, 4, 0, 1] (by decide) rfl, hS, lv_sub hl [0, 2, 3] rfl, ⟨by omega, by omega, by rw [hs1, hs2, hs3]; exact fp_sp_w hI3 hlt (fp_in_of c22).1 (fp_we_len hJ3 (fp_in_of c22).2 hgb) hk66.1 hk66.2⟩⟩ (by (try dsimp only); omega)
      · have hlt2 : b < len := pk_nle (by omega) c30
        refine lv_aload_n hx hb dX6_split_33 rfl (lv_at hl 3 rfl) ?_
        refine lv_iload_n hx hb dX6_split_34 rfl (lv_at hl 0 rfl) ?_
        refine pu_calli (va_runV (As := [.int (nI b)]) (rest := []) ⟨hx, hb, hml, hown, hts⟩ (c_Bytes_at l D cy e t lim rm len n9 f (nI b) hle (by omega)) (cwV 1 hts gX6_split_X0_at rfl rfl rfl (by decide +kernel) ⟨Nat.le_of_ble_eq_true rfl, Nat.le_of_ble_eq_true rfl⟩) (pu_preV hP hK hS hG [3, 4] rfl (q := (RX0, TX0, 3)) (ci := 1) (q0 := 3) rfl rfl) rfl rfl hl.1 rfl (lv_room (Nat.le_of_ble_eq_true rfl)) dX6_split_35 ⟨(Nat.le_of_ble_eq_true rfl), (Nat.le_of_ble_eq_true rfl)⟩) hP hS (fun H locs hP hS => ?_)
        have hP : va_P D vwCl [(h0, .inr (7, [.ref kd, .ref vl, .int (nI cn1), .int (nI ix), .int va1])), (kd, .inl (cy 0, n, .inl g1)), (vl, .inl (cy 3, n, .inl g2)), (t, .inr (1, [.int lim, .ref rm, .int (nI len)])), (rm, .inl (cy 0, n9, .inl f))] H := hP
        refine lv_topi (fun x_6 ex_6 => ?_)
        obtain rfl : x_6 = f b := by rw [ex_6]; exact fp_bat (by omega) (by omega)
        refine pu_calli (va_runS (As := [.int (f b)]) (rest := []) ⟨hx, hb, hml, hown, hts⟩ (c_isInner l D cy e (f b) ) (va_cwS 1 hts gX6_split_X6_isInner rfl rfl rfl (by decide +kernel) ⟨Nat.le_of_ble_eq_true rfl, Nat.le_of_ble_eq_true rfl⟩) (pu_preS hP hK hS hG [] rfl) rfl rfl hl.1 rfl (lv_room (Nat.le_of_ble_eq_true rfl)) dX6_split_38 ⟨(Nat.le_of_ble_eq_true rfl), (Nat.le_of_ble_eq_true rfl)⟩) hP hS (fun H locs hP hS => ?_)
        have hP : va_P D vwCl [(h0, .inr (7, [.ref kd, .ref vl, .int (nI cn1), .int (nI ix), .int va1])), (kd, .inl (cy 0, n, .inl g1)), (vl, .inl (cy 3, n, .inl g2)), (t, .inr (1, [.int lim, .ref rm, .int (nI len)])), (rm, .inl (cy 0, n9, .inl f))] H := hP
        refine lv_if_eq (tgt := 50) hx hb dX6_split_41 (by decide) (fun c41 => ?_) (fun c41 => ?_)
        · refine lv_aload_n hx hb dX6_split_50 rfl (lv_at hl 3 rfl) ?_
          refine lv_iload_n hx hb dX6_split_51 rfl (lv_at hl 1 rfl) ?_
          refine pu_calli (va_runV (As := [.int (nI a)]) (rest := []) ⟨hx, hb, hml, hown, hts⟩ (c_Bytes_at l D cy e t lim rm len n9 f (nI a) hle (by omega)) (cwV 1 hts gX6_split_X0_at rfl rfl rfl (by decide +kernel) ⟨Nat.le_of_ble_eq_true rfl, Nat.le_of_ble_eq_true rfl⟩) (pu_preV hP hK hS hG [3, 4] rfl (q := (RX0, TX0, 3)) (ci := 1) (q0 := 3) rfl rfl) rfl rfl hl.1 rfl (lv_room (Nat.le_of_ble_eq_true rfl)) dX6_split_52 ⟨(Nat.le_of_ble_eq_true rfl), (Nat.le_of_ble_eq_true rfl)⟩) hP hS (fun H locs hP hS => ?_)
          have hP : va_P D vwCl [(h0, .inr (7, [.ref kd, .ref vl, .int (nI cn1), .int (nI ix), .int va1])), (kd, .inl (cy 0, n, .inl g1)), (vl, .inl (cy 3, n, .inl g2)), (t, .inr (1, [.int lim, .ref rm, .int (nI len)])), (rm, .inl (cy 0, n9, .inl f))] H := hP
          refine lv_topi (fun x_7 ex_7 => ?_)
          obtain rfl : x_7 = f a := by rw [ex_7]; exact fp_bat (by omega) (by omega)
          refine pu_calli (va_runS (As := [.int (f a)]) (rest := []) ⟨hx, hb, hml, hown, hts⟩ (c_isBlank l D cy e (f a) ) (va_cwS 1 hts gX6_split_X6_isBlank rfl rfl rfl (by decide +kernel) ⟨Nat.le_of_ble_eq_true rfl, Nat.le_of_ble_eq_true rfl⟩) (pu_preS hP hK hS hG [] rfl) rfl rfl hl.1 rfl (lv_room (Nat.le_of_ble_eq_true rfl)) dX6_split_55 ⟨(Nat.le_of_ble_eq_true rfl), (Nat.le_of_ble_eq_true rfl)⟩) hP hS (fun H locs hP hS => ?_)
          have hP : va_P D vwCl [(h0, .inr (7, [.ref kd, .ref vl, .int (nI cn1), .int (nI ix), .int va1])), (kd, .inl (cy 0, n, .inl g1)), (vl, .inl (cy 3, n, .inl g2)), (t, .inr (1, [.int lim, .ref rm, .int (nI len)])), (rm, .inl (cy 0, n9, .inl f))] H := hP
          refine lv_if_ne (tgt := 72) hx hb dX6_split_58 (by decide) (fun c58 => absurd (if_neg (fp_in_of c22).1) c58) (fun _ => ?_)
          refine lv_aload_n hx hb dX6_split_61 rfl (lv_at hl 2 rfl) ?_
          refine lv_aload_n hx hb dX6_split_62 rfl (lv_at hl 2 rfl) ?_
          refine lv_aload_n hx hb dX6_split_63 rfl (lv_at hl 3 rfl) ?_
          refine lv_iload_n hx hb dX6_split_64 rfl (lv_at hl 1 rfl) ?_
          refine lv_iload_n hx hb dX6_split_65 rfl (lv_at hl 0 rfl) ?_
          refine mt_calli (wr := [(kd, .inl (cy 0, n, .inl g1)), (vl, .inl (cy 3, n, .inl g2))]) (va_runV (As := [.ref t, .int (nI a), .int (nI b)]) (rest := [.ref h0]) ⟨hx, hb, hml, hown, hts⟩ (c_kindOf l D cy e h0 kd vl (nI cn1) (nI ix) va1 t lim rm len n9 f a b H.size hle (by omega) (by omega) (by omega) hft) (cwV 3 hts gX6_split_X6_kindOf rfl rfl rfl (by decide +kernel) ⟨Nat.le_of_ble_eq_true rfl, Nat.le_of_ble_eq_true rfl⟩) (mt_preV hP hD hK hS hA hG [0, 3, 4] rfl (by decide) (q := (RX6, TX6, 5)) (ci := 7) (q0 := 0) rfl rfl) rfl rfl hl.1 rfl (lv_room (Nat.le_of_ble_eq_true rfl)) dX6_split_66 ⟨(Nat.le_of_ble_eq_true rfl), (Nat.le_of_ble_eq_true rfl)⟩) hP hD hS hA [0, 3, 4] [1, 2] rfl rfl (by decide) (by decide) (fun r66 u H locs hw hP hD hS => ?_)
          obtain ⟨va2_66, rfl⟩ : ∃ z, z = u := ⟨_, rfl⟩
          have hP : va_P D vwCl [(kd, .inl (cy 0, n, .inl g1)), (vl, .inl (cy 3, n, .inl g2)), (h0, .inr (7, [.ref kd, .ref vl, .int (nI cn1), .int (nI ix), .int va2_66])), (t, .inr (1, [.int lim, .ref rm, .int (nI len)])), (rm, .inl (cy 0, n9, .inl f))] H := hP
          have hD : va_D A [(kd, .inl (cy 0, n, .inl g1)), (vl, .inl (cy 3, n, .inl g2)), (h0, .inr (7, [.ref kd, .ref vl, .int (nI cn1), .int (nI ix), .int va2_66])), (t, .inr (1, [.int lim, .ref rm, .int (nI len)])), (rm, .inl (cy 0, n9, .inl f))] := hD
          replace hw : r66 = fp_k (fp_wf f a b) (b - a) ∧ va2_66 = fp_v (fp_wf f a b) (b - a) := hw
          refine W.widen (k := 0) (n := 0) (by omega) (by omega) ?_
          have hk66 := hw
          refine mt_callv (wr := [(t, .inr (1, [.int lim, .ref rm, .int (nI len)])), (rm, .inl (cy 0, n9, .inl f))]) (va_runV (As := [.int r66]) (rest := []) ⟨hx, hb, hml, hown, hts⟩ (c_keep l D cy e h0 kd vl cn1 ix va2_66 n g1 g2 r66 H.size (by omega) hn) (cwV 1 hts gX6_split_X6_keep rfl rfl rfl (by decide +kernel) ⟨Nat.le_of_ble_eq_true rfl, Nat.le_of_ble_eq_true rfl⟩) (mt_preV hP hD hK hS hA hG [2, 0, 1] rfl (by decide) (q := (RX6, TX6, 5)) (ci := 7) (q0 := 2) rfl rfl) rfl rfl hl.1 rfl (lv_room (Nat.le_of_ble_eq_true rfl)) dX6_split_69 ⟨(Nat.le_of_ble_eq_true rfl), (Nat.le_of_ble_eq_true rfl)⟩) hP hD hS hA [2, 0, 1] [3, 4] rfl rfl (by decide) (by decide) (fun u H locs hw hP hD hS => ?_)
          obtain ⟨cnt2_69, f12_69, f22_69⟩ := u
          have hP : va_P D vwCl [(t, .inr (1, [.int lim, .ref rm, .int (nI len)])), (rm, .inl (cy 0, n9, .inl f)), (h0, .inr (7, [.ref kd, .ref vl, .int (nI cnt2_69), .int (nI ix), .int va2_66])), (kd, .inl (cy 0, n, .inl f12_69)), (vl, .inl (cy 3, n, .inl f22_69))] H := hP
          have hD : va_D A [(t, .inr (1, [.int lim, .ref rm, .int (nI len)])), (rm, .inl (cy 0, n9, .inl f)), (h0, .inr (7, [.ref kd, .ref vl, .int (nI cnt2_69), .int (nI ix), .int va2_66])), (kd, .inl (cy 0, n, .inl f12_69)), (vl, .inl (cy 3, n, .inl f22_69))] := hD
          replace hw : cnt2_69 ≤ n ∧ cn1 ≤ cnt2_69 ∧ (cn1 < n → cnt2_69 = cn1 + 1 ∧ f12_69 = upd g1 cn1 (vp_nar .byte r66.toInt8.toInt32) ∧ f22_69 = upd g2 cn1 (vp_nar .short va2_66.toInt16.toInt32)) := hw
          refine W.widen (k := 0) (n := 0) (by omega) (by omega) ?_
          obtain ⟨hk1, hk2, hk69⟩ := hw
          refine lv_iload_n hx hb dX6_split_72 rfl (lv_at hl 0 rfl) ?_
          refine lv_istore_n (lv' := [(2, .int (nI b)), (3, .int (nI b)), (0, .ref h0), (1, .ref t)]) hx hb dX6_split_73 rfl hl (by decide) rfl (fun ls hl => ?_)
          refine lv_goto (tgt := 2) hx hb dX6_split_74 (by decide) ?_
          obtain ⟨hs1, hs2, hs3⟩ := hk69 (by omega)
          exact ih2 (b, cnt2_69, va2_66, f12_69, f22_69) _ _ ls ⟨hP.sub [2, 3, 4, 0, 1] rfl, hD.sub [2, 3, 4, 0, 1] (by decide) rfl, hS, lv_sub hl [0, 2, 3] rfl, ⟨by omega, by omega, by rw [hs1, hs2, hs3]; exact fp_sp_w hI3 hlt (fp_in_of c22).1 (fp_we_stop hJ3 (fp_in_of c22).2 hlt2 (fp_in_no c41)) hk66.1 hk66.2⟩⟩ (by (try dsimp only); omega)
        · refine lv_iinc (v := nI (b + 1)) (lv' := [(3, .int (nI (b + 1))), (2, .int (nI a)), (0, .ref h0), (1, .ref t)]) hx hb dX6_split_44 hl (k := 0) rfl (nI_1 b) (by decide) rfl (fun ls hl => ?_)
          refine lv_goto (tgt := 25) hx hb dX6_split_47 (by decide) ?_
          exact ih25 (b + 1) _ _ ls ⟨hP.sub [0, 1, 2, 3, 4] rfl, hD.sub [0, 1, 2, 3, 4] (by decide) rfl, hS, lv_sub hl [0, 1, 2, 3] rfl, ⟨by omega, by omega, fp_we_s hJ3 (fp_in_of c22).2 hlt2 (fp_in_of c41)⟩⟩ (by (try dsimp only); omega)
