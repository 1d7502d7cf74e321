-- deps: 51

def eat (f : Nat → Int32) (sz : Nat) (i : Int32) : Int32 := if i < 0 ∨ ¬ i < nI sz then -1 else f i.toNatClampNeg
def icd (w : Int32) : Int32 := if w < 0 ∨ ¬ w < 16 then 0 else 1
theorem cd_in {w : Int32} {n : Nat} (h : ¬ icd w = 0) (h2 : ¬ nI n ≤ w) (hn : n < 65536) : vp_in w n := by
  unfold icd at h
  split at h
  · exact absurd rfl h
  · rename_i h9
    exact pk_inlt (len := n) (fun h0 => h9 (Or.inl h0)) (Int32.not_le.mp h2) (Nat.le_refl _) (by omega)
theorem pk_nlt1 {t : Nat} (h : ¬ nI t < 1) : 1 ≤ t := by
  rcases Nat.eq_zero_or_pos t with rfl | h1
  · exact absurd (show nI 0 < (1 : Int32) by decide) h
  · exact h1
theorem pk_nlt2 {t : Nat} (h : ¬ nI t < 2) : 2 ≤ t := by
  rcases Nat.lt_or_ge t 2 with h1 | h1
  · have h3 : t = 0 ∨ t = 1 := by omega
    rcases h3 with rfl | rfl
    · exact absurd (show nI 0 < (2 : Int32) by decide) h
    · exact absurd (show nI 1 < (2 : Int32) by decide) h
  · exact h1
theorem pk_dec {t : Nat} (h : 1 ≤ t) : nI t + -1 = nI (t - 1) := by
  have h1 := pk_sub (a := t) (b := 1) h
  rw [← h1, Int32.sub_eq_add_neg]
  rfl
set_option maxHeartbeats 4000000 in
set_option maxRecDepth 100000 in
theorem c_Expr_size (l : Launch) (D : va_G) (cy : Nat → ClassId) (e : Nat → Nat)  (h0 : Nat) (cd : Nat) (sz0 : Int32) (st : Nat)  : Met l yX1_size wsX1_size ({ frames := 0, cells := 0, slots := 0, locals := 0 }) (va_Pc [.ref h0] (pu_B D cy e [(h0, .inr (2, [.ref cd, .int sz0, .ref st]))])) (va_Qi (fun (r : Int32) (_ : Unit) => r = sz0) (fun _ _ => True) (fun _ => False)) 0 0 (fun _ => False) := by
  refine Met.ofW (cc := cX1_size) (maxL := 1) (ret := (some .int)) (by decide) rfl ?_
  intro p ev s m args below meth c s₁ B hml hv
  obtain ⟨rfl, hP, hK, hG⟩ := hv
  have hx := B.exec
  have hb := B.bytes
  have hr := B.returns
  have hts := atoms_spec (ws := wsX1_size) B.pre
  have hown : s.vm.findClass RX1 = some m.cls := findClass_of_methodNamed B.named
  have hlocks := B.notSynchronized
  have hS : va_S (fun _ => False) s.heap s.heap [] := va_S.rf
  have hP : va_P D vwCl [(h0, .inr (2, [.ref cd, .int sz0, .ref st]))] s.heap := hP
  have iX1 : ∀ w ∈ wsX10, w ∈ wsX1_size := fun w h => List.mem_cons_of_mem _ (List.mem_append_right _ h)
  have hl := lv_entry ([.ref h0]) (n := 1) (Nat.le_of_ble_eq_true rfl)
  rw [lg_entry_eq]
  generalize (lg_sl ([.ref h0]) ++ List.replicate (1 - (lg_sl ([.ref h0])).length) Slot.unset).toArray = ls at hl ⊢
  have hl : lv_has ls 1 [(0, .ref h0)] := hl
  refine lv_aload_n hx hb dX1_size_0 rfl (lv_at hl 0 rfl) ?_
  refine va_get (D := D) (ci := 2) (v := .int sz0) (C := RX1) (T := TX1) (N := 3) hx hb hts iX1 hown hK hP 0 rfl rfl 1 (by decide) (hts (.fieldLink RX1 25 "InterlockTables$Expressions" "size" "I") (by decide +kernel)) (fun _ h9 => h9) rfl dX1_size_1 ?_
  exact W.iret hx hb hr (fun t ht hW => ⟨⟨_, (), rfl, rfl, trivial⟩, hS.F ht⟩) hS.2.2 dX1_size_4

set_option maxHeartbeats 4000000 in
set_option maxRecDepth 100000 in
theorem c_Expr_at (l : Launch) (D : va_G) (cy : Nat → ClassId) (e : Nat → Nat)  (h0 : Nat) (cd : Nat) (sz0 : Nat) (st : Nat) (n : Nat) (f : Nat → Int32) (i : Int32) (hsz : sz0 ≤ n) (hn : n < 65536) : Met l yX1_at wsX1_at ({ frames := 0, cells := 0, slots := 0, locals := 0 }) (va_Pc [.ref h0, .int i] (pu_B D cy e [(h0, .inr (2, [.ref cd, .int (nI sz0), .ref st])), (cd, .inl (cy 0, n, .inl f))])) (va_Qi (fun (r : Int32) (_ : Unit) => r = eat f sz0 i) (fun _ _ => True) (fun _ => False)) 0 0 (fun _ => False) := by
  refine Met.ofW (cc := cX1_at) (maxL := 2) (ret := (some .int)) (by decide) rfl ?_
  intro p ev s m args below meth c s₁ B hml hv
  obtain ⟨rfl, hP, hK, hG⟩ := hv
  have hx := B.exec
  have hb := B.bytes
  have hr := B.returns
  have hts := atoms_spec (ws := wsX1_at) B.pre
  have hown : s.vm.findClass RX1 = some m.cls := findClass_of_methodNamed B.named
  have hlocks := B.notSynchronized
  have hS : va_S (fun _ => False) s.heap s.heap [] := va_S.rf
  have hP : va_P D vwCl [(h0, .inr (2, [.ref cd, .int (nI sz0), .ref st])), (cd, .inl (cy 0, n, .inl f))] s.heap := hP
  have iX1 : ∀ w ∈ wsX10, w ∈ wsX1_at := fun w h => List.mem_cons_of_mem _ (List.mem_append_right _ h)
  have hl := lv_entry ([.ref h0, .int i]) (n := 2) (Nat.le_of_ble_eq_true rfl)
  rw [lg_entry_eq]
  generalize (lg_sl ([.ref h0, .int i]) ++ List.replicate (2 - (lg_sl ([.ref h0, .int i])).length) Slot.unset).toArray = ls at hl ⊢
  have hl : lv_has ls 2 [(0, .ref h0), (1, .int i)] := hl
  refine lv_iload_n hx hb dX1_at_0 rfl (lv_at hl 1 rfl) ?_
  refine lv_if_lt (tgt := 12) hx hb dX1_at_1 (by decide) (fun c1 => ?_) (fun c1 => ?_)
  · refine lv_iconst (v := -1) hx hb dX1_at_12 (by decide +kernel) ?_
    refine lv_goto (tgt := 22) hx hb dX1_at_13 (by decide) ?_
    exact W.iret hx hb hr (fun t ht hW => ⟨⟨_, (), rfl, by simp [eat, c1], trivial⟩, hS.F ht⟩) hS.2.2 dX1_at_22
  · refine lv_iload_n hx hb dX1_at_4 rfl (lv_at hl 1 rfl) ?_
    refine lv_aload_n hx hb dX1_at_5 rfl (lv_at hl 0 rfl) ?_
    refine va_get (D := D) (ci := 2) (v := .int (nI sz0)) (C := RX1) (T := TX1) (N := 3) hx hb hts iX1 hown hK hP 0 rfl rfl 1 (by decide) (hts (.fieldLink RX1 25 "InterlockTables$Expressions" "size" "I") (by decide +kernel)) (fun _ h9 => h9) rfl dX1_at_6 ?_
    refine lv_icmp_lt (tgt := 16) hx hb dX1_at_9 (by decide) (fun c9 => ?_) (fun c9 => ?_)
    · refine lv_aload_n hx hb dX1_at_16 rfl (lv_at hl 0 rfl) ?_
      refine va_get (D := D) (ci := 2) (v := .ref cd) (C := RX1) (T := TX1) (N := 3) hx hb hts iX1 hown hK hP 0 rfl rfl 0 (by decide) (hts (.fieldLink RX1 21 "InterlockTables$Expressions" "code" "[B") (by decide +kernel)) (fun _ h9 => h9) rfl dX1_at_17 ?_
      refine lv_iload_n hx hb dX1_at_20 rfl (lv_at hl 1 rfl) ?_
      refine va_bald hx hb hK hP 1 0 rfl rfl (pk_inlt c1 c9 hsz (by omega)) dX1_at_21 ?_
      exact W.iret hx hb hr (fun t ht hW => ⟨⟨_, (), rfl, by simp [eat, c1, c9], trivial⟩, hS.F ht⟩) hS.2.2 dX1_at_22
    · refine lv_iconst (v := -1) hx hb dX1_at_12 (by decide +kernel) ?_
      refine lv_goto (tgt := 22) hx hb dX1_at_13 (by decide) ?_
      exact W.iret hx hb hr (fun t ht hW => ⟨⟨_, (), rfl, by simp [eat, c1, c9], trivial⟩, hS.F ht⟩) hS.2.2 dX1_at_22

set_option maxHeartbeats 4000000 in
set_option maxRecDepth 100000 in
theorem c_Expr_add (l : Launch) (D : va_G) (cy : Nat → ClassId) (e : Nat → Nat)  (h0 : Nat) (cd : Nat) (sz0 : Nat) (st : Nat) (n : Nat) (f : Nat → Int32) (w : Int32) (sz : Nat) (hsz : sz0 ≤ n) (hn : n < 65536) : Met l yX1_add wsX1_add ({ frames := 0, cells := 0, slots := 0, locals := 0 }) (va_Pc [.ref h0, .int w] (mt_B D cy e [(h0, .inr (2, [.ref cd, .int (nI sz0), .ref st])), (cd, .inl (cy 0, n, .inl f))] sz)) (va_Qv (fun (u : Nat × (Nat → Int32)) => match u with | (sz2, f2) => sz2 ≤ n ∧ sz0 ≤ sz2 ∧ (sz0 < n → sz2 = sz0 + 1 ∧ f2 = upd f sz0 (vp_nar .byte w.toInt8.toInt32))) (mt_Q D (fun (u : Nat × (Nat → Int32)) => match u with | (sz2, f2) => [(h0, .inr (2, [.ref cd, .int (nI sz2), .ref st])), (cd, .inl (cy 0, n, .inl f2))]) (va_A [(h0, .inr (2, [.ref cd, .int (nI sz0), .ref st])), (cd, .inl (cy 0, n, .inl f))] sz)) (va_A [(h0, .inr (2, [.ref cd, .int (nI sz0), .ref st])), (cd, .inl (cy 0, n, .inl f))] sz)) (0) (0) (va_A [(h0, .inr (2, [.ref cd, .int (nI sz0), .ref st])), (cd, .inl (cy 0, n, .inl f))] sz) := by
  refine Met.ofW (cc := cX1_add) (maxL := 2) (ret := none) (by decide) rfl ?_
  intro p ev s m args below meth c s₁ B hml hv
  obtain ⟨rfl, hsz, hP, hK, hD0, hG⟩ := hv
  have hx := B.exec
  have hb := B.bytes
  have hr := B.returns
  have hts := atoms_spec (ws := wsX1_add) B.pre
  have hown : s.vm.findClass RX1 = some m.cls := findClass_of_methodNamed B.named
  have hlocks := B.notSynchronized
  subst hsz
  have hD := hD0.self (sz := s.heap.size)
  generalize hAe : va_A [(h0, .inr (2, [.ref cd, .int (nI sz0), .ref st])), (cd, .inl (cy 0, n, .inl f))] s.heap.size = A at hD hG ⊢
  have hA : ∀ q : Nat, s.heap.size ≤ q → A q := fun q h => by rw [← hAe]; exact Or.inr h
  have hS : va_S A s.heap s.heap [] := va_S.rf
  have hP : va_P D vwCl [(h0, .inr (2, [.ref cd, .int (nI sz0), .ref st])), (cd, .inl (cy 0, n, .inl f))] s.heap := hP
  have iX1 : ∀ w ∈ wsX10, w ∈ wsX1_add := fun w h => List.mem_cons_of_mem _ (List.mem_append_right _ h)
  have hl := lv_entry ([.ref h0, .int w]) (n := 2) (Nat.le_of_ble_eq_true rfl)
  rw [lg_entry_eq]
  generalize (lg_sl ([.ref h0, .int w]) ++ List.replicate (2 - (lg_sl ([.ref h0, .int w])).length) Slot.unset).toArray = ls at hl ⊢
  have hl : lv_has ls 2 [(0, .ref h0), (1, .int w)] := hl
  refine lv_aload_n hx hb dX1_add_0 rfl (lv_at hl 0 rfl) ?_
  refine va_get (D := D) (ci := 2) (v := .int (nI sz0)) (C := RX1) (T := TX1) (N := 3) hx hb hts iX1 hown hK hP 0 rfl rfl 1 (by decide) (hts (.fieldLink RX1 25 "InterlockTables$Expressions" "size" "I") (by decide +kernel)) (fun _ h9 => h9) rfl dX1_add_1 ?_
  refine lv_aload_n hx hb dX1_add_4 rfl (lv_at hl 0 rfl) ?_
  refine va_get (D := D) (ci := 2) (v := .ref cd) (C := RX1) (T := TX1) (N := 3) hx hb hts iX1 hown hK hP 0 rfl rfl 0 (by decide) (hts (.fieldLink RX1 21 "InterlockTables$Expressions" "code" "[B") (by decide +kernel)) (fun _ h9 => h9) rfl dX1_add_5 ?_
  refine va_alen hx hb hK hP 1 0 rfl rfl (v := nI n) rfl dX1_add_8 ?_
  refine lv_icmp_ge (tgt := 33) hx hb dX1_add_9 (by decide) (fun c9 => ?_) (fun c9 => ?_)
  · have hge : n ≤ sz0 := (nI_leI (by omega) (by omega)).mp c9
    have hP9 : va_P D vwCl [(h0, .inr (2, [.ref cd, .int (nI sz0), .ref st])), (cd, .inl (cy 0, n, .inl f))] s.heap := hP.sub [0, 1] rfl
    have hD9 : va_D A [(h0, .inr (2, [.ref cd, .int (nI sz0), .ref st])), (cd, .inl (cy 0, n, .inl f))] := hD.sub [0, 1] (by decide) rfl
    refine W.widen (k := 0) (n := 0) (by omega) (by omega) ?_
    exact W.vret hx hb hr (fun t ht hW => ⟨⟨(sz0, f), rfl, ⟨hsz, Nat.le_refl _, fun q9 => absurd q9 (by omega)⟩, by rw [ht]; exact hP9, hD9⟩, hS.F ht⟩) hS.2.2 dX1_add_33
  · have hlt : sz0 < n := pk_nle (by omega) c9
    refine lv_aload_n hx hb dX1_add_12 rfl (lv_at hl 0 rfl) ?_
    refine va_get (D := D) (ci := 2) (v := .ref cd) (C := RX1) (T := TX1) (N := 3) hx hb hts iX1 hown hK hP 0 rfl rfl 0 (by decide) (hts (.fieldLink RX1 21 "InterlockTables$Expressions" "code" "[B") (by decide +kernel)) (fun _ h9 => h9) rfl dX1_add_13 ?_
    refine lv_aload_n hx hb dX1_add_16 rfl (lv_at hl 0 rfl) ?_
    refine va_get (D := D) (ci := 2) (v := .int (nI sz0)) (C := RX1) (T := TX1) (N := 3) hx hb hts iX1 hown hK hP 0 rfl rfl 1 (by decide) (hts (.fieldLink RX1 25 "InterlockTables$Expressions" "size" "I") (by decide +kernel)) (fun _ h9 => h9) rfl dX1_add_17 ?_
    refine lv_iload_n hx hb dX1_add_20 rfl (lv_at hl 1 rfl) ?_
    refine lv_i2b (v := w.toInt8.toInt32) hx hb dX1_add_21 (rfl) ?_
    refine va_bast hx hb hK hP hD hS 1 0 rfl rfl (vp_in_nI (by omega) (by omega)) dX1_add_22 (fun H locs hP hD hS => ?_)
    have hP : va_P D vwCl [(h0, .inr (2, [.ref cd, .int (nI sz0), .ref st])), (cd, .inl (cy 0, n, .inl (upd f (nI sz0).toNatClampNeg (vp_nar .byte w.toInt8.toInt32))))] H := hP
    have hD : va_D A [(h0, .inr (2, [.ref cd, .int (nI sz0), .ref st])), (cd, .inl (cy 0, n, .inl (upd f (nI sz0).toNatClampNeg (vp_nar .byte w.toInt8.toInt32))))] := hD
    have ef_22 : (upd f (nI sz0).toNatClampNeg (vp_nar .byte w.toInt8.toInt32)) = (upd f sz0 (vp_nar .byte w.toInt8.toInt32)) := by rw [nI_clamp (by omega)]
    rw [ef_22] at hP hD
    refine lv_aload_n hx hb dX1_add_23 rfl (lv_at hl 0 rfl) ?_
    refine lv_dup hx hb dX1_add_24 rfl ?_
    refine va_get (D := D) (ci := 2) (v := .int (nI sz0)) (C := RX1) (T := TX1) (N := 3) hx hb hts iX1 hown hK hP 0 rfl rfl 1 (by decide) (hts (.fieldLink RX1 25 "InterlockTables$Expressions" "size" "I") (by decide +kernel)) (fun _ h9 => h9) rfl dX1_add_25 ?_
    refine lv_iconst (v := 1) hx hb dX1_add_28 (by decide +kernel) ?_
    refine lv_iadd hx hb dX1_add_29 ?_
    refine lv_topi (fun x_1 ex_1 => ?_)
    obtain rfl : x_1 = nI (sz0 + 1) := by rw [ex_1]; exact nI_1 sz0
    refine va_put (D := D) (ci := 2) (v := .int (nI (sz0 + 1))) (ty := .int) (C := RX1) (T := TX1) (N := 3) hx hb hts iX1 tyX1 tyX1_ok nmX1 hown hK hP hD hS 0 rfl rfl 1 (by decide) (hts (.fieldLink RX1 25 "InterlockTables$Expressions" "size" "I") (by decide +kernel)) (fun _ h9 => h9) rfl (by decide +kernel) rfl rfl (Nat.le_of_ble_eq_true rfl) dX1_add_30 (fun H locs hP hD hS => ?_)
    have hP : va_P D vwCl [(h0, .inr (2, [.ref cd, .int (nI (sz0 + 1)), .ref st])), (cd, .inl (cy 0, n, .inl (upd f sz0 (vp_nar .byte w.toInt8.toInt32))))] H := hP
    have hD : va_D A [(h0, .inr (2, [.ref cd, .int (nI (sz0 + 1)), .ref st])), (cd, .inl (cy 0, n, .inl (upd f sz0 (vp_nar .byte w.toInt8.toInt32))))] := hD
    have hP9 : va_P D vwCl [(h0, .inr (2, [.ref cd, .int (nI (sz0 + 1)), .ref st])), (cd, .inl (cy 0, n, .inl (upd f sz0 (vp_nar .byte w.toInt8.toInt32))))] H := hP.sub [0, 1] rfl
    have hD9 : va_D A [(h0, .inr (2, [.ref cd, .int (nI (sz0 + 1)), .ref st])), (cd, .inl (cy 0, n, .inl (upd f sz0 (vp_nar .byte w.toInt8.toInt32))))] := hD.sub [0, 1] (by decide) rfl
    refine W.widen (k := 0) (n := 0) (by omega) (by omega) ?_
    exact W.vret hx hb hr (fun t ht hW => ⟨⟨((sz0 + 1), (upd f sz0 (vp_nar .byte w.toInt8.toInt32))), rfl, ⟨by omega, by omega, fun _ => ⟨rfl, rfl⟩⟩, by rw [ht]; exact hP9, hD9⟩, hS.F ht⟩) hS.2.2 dX1_add_33

set_option maxHeartbeats 4000000 in
set_option maxRecDepth 100000 in
theorem c_isCondition (l : Launch) (D : va_G) (cy : Nat → ClassId) (e : Nat → Nat)  (w : Int32)  : Met l yX1_isCondition wsX1_isCondition ({ frames := 0, cells := 0, slots := 0, locals := 0 }) (va_Pc [.int w] (pu_B D cy e [])) (va_Qi (fun (r : Int32) (_ : Unit) => r = icd w) (fun _ _ => True) (fun _ => False)) 0 0 (fun _ => False) := by
  refine Met.ofW (cc := cX1_isCondition) (maxL := 1) (ret := (some .boolean)) (by decide) rfl ?_
  intro p ev s m args below meth c s₁ B hml hv
  obtain ⟨rfl, hP, hK, hG⟩ := hv
  have hx := B.exec
  have hb := B.bytes
  have hr := B.returns
  have hts := atoms_spec (ws := wsX1_isCondition) B.pre
  have hown : s.vm.findClass RX1 = some m.cls := findClass_of_methodNamed B.named
  have hlocks := B.notSynchronized
  have hS : va_S (fun _ => False) s.heap s.heap [] := va_S.rf
  have hP : va_P D vwCl [] s.heap := hP
  have hl := lv_entry ([.int w]) (n := 1) (Nat.le_of_ble_eq_true rfl)
  rw [lg_entry_eq]
  generalize (lg_sl ([.int w]) ++ List.replicate (1 - (lg_sl ([.int w])).length) Slot.unset).toArray = ls at hl ⊢
  have hl : lv_has ls 1 [(0, .int w)] := hl
  refine lv_iload_n hx hb dX1_isCondition_0 rfl (lv_at hl 0 rfl) ?_
  refine lv_if_lt (tgt := 14) hx hb dX1_isCondition_1 (by decide) (fun c1 => ?_) (fun c1 => ?_)
  · refine lv_iconst (v := 0) hx hb dX1_isCondition_14 (by decide +kernel) ?_
    exact W.zret hx hb hr rfl (fun t ht hW => ⟨⟨_, (), rfl, by simp [icd, c1], trivial⟩, hS.F ht⟩) hS.2.2 dX1_isCondition_15
  · refine lv_iload_n hx hb dX1_isCondition_4 rfl (lv_at hl 0 rfl) ?_
    refine lv_bipush (v := 16) hx hb dX1_isCondition_5 (by decide +kernel) ?_
    refine lv_icmp_ge (tgt := 14) hx hb dX1_isCondition_7 (by decide) (fun c7 => ?_) (fun c7 => ?_)
    · refine lv_iconst (v := 0) hx hb dX1_isCondition_14 (by decide +kernel) ?_
      exact W.zret hx hb hr rfl (fun t ht hW => ⟨⟨_, (), rfl, by simp [icd, c1, c7], trivial⟩, hS.F ht⟩) hS.2.2 dX1_isCondition_15
    · refine lv_iconst (v := 1) hx hb dX1_isCondition_10 (by decide +kernel) ?_
      refine lv_goto (tgt := 15) hx hb dX1_isCondition_11 (by decide) ?_
      exact W.zret hx hb hr rfl (fun t ht hW => ⟨⟨_, (), rfl, by simp [icd, c1, c7], trivial⟩, hS.F ht⟩) hS.2.2 dX1_isCondition_15

set_option maxHeartbeats 4000000 in
set_option maxRecDepth 100000 in
theorem c_join (l : Launch) (D : va_G) (cy : Nat → ClassId) (e : Nat → Nat)  (w : Int32) (a : Int64) (b : Int64)  : Met l yX1_join wsX1_join ({ frames := 0, cells := 0, slots := 0, locals := 0 }) (va_Pc [.int w, .long a, .long b] (pu_B D cy e [])) (va_Ql (fun (r : Int64) (_ : Unit) => True) (fun _ _ => True) (fun _ => False)) 0 0 (fun _ => False) := by
  refine Met.ofW (cc := cX1_join) (maxL := 5) (ret := (some .long)) (by decide) rfl ?_
  intro p ev s m args below meth c s₁ B hml hv
  obtain ⟨rfl, hP, hK, hG⟩ := hv
  have hx := B.exec
  have hb := B.bytes
  have hr := B.returns
  have hts := atoms_spec (ws := wsX1_join) B.pre
  have hown : s.vm.findClass RX1 = some m.cls := findClass_of_methodNamed B.named
  have hlocks := B.notSynchronized
  have hS : va_S (fun _ => False) s.heap s.heap [] := va_S.rf
  have hP : va_P D vwCl [] s.heap := hP
  have hl := lv_entry ([.int w, .long a, .long b]) (n := 5) (Nat.le_of_ble_eq_true rfl)
  rw [lg_entry_eq]
  generalize (lg_sl ([.int w, .long a, .long b]) ++ List.replicate (5 - (lg_sl ([.int w, .long a, .long b])).length) Slot.unset).toArray = ls at hl ⊢
  have hl : lv_has ls 5 [(0, .int w), (1, .long a), (3, .long b)] := hl
  refine lv_iload_n hx hb dX1_join_0 rfl (lv_at hl 0 rfl) ?_
  refine lv_bipush (v := 17) hx hb dX1_join_1 (by decide +kernel) ?_
  refine lv_icmp_ne (tgt := 12) hx hb dX1_join_3 (by decide) (fun c3 => ?_) (fun c3 => ?_)
  · refine lv_lload_n hx hb dX1_join_12 rfl (lv_at hl 1 rfl) ?_
    refine lv_lload_n hx hb dX1_join_13 rfl (lv_at hl 2 rfl) ?_
    refine lv_lor hx hb dX1_join_14 ?_
    exact W.lret hx hb hr (fun t ht hW => ⟨⟨_, (), rfl, trivial, trivial⟩, hS.F ht⟩) hS.2.2 dX1_join_15
  · refine lv_lload_n hx hb dX1_join_6 rfl (lv_at hl 1 rfl) ?_
    refine lv_lload_n hx hb dX1_join_7 rfl (lv_at hl 2 rfl) ?_
    refine lv_land hx hb dX1_join_8 ?_
    refine lv_goto (tgt := 15) hx hb dX1_join_9 (by decide) ?_
    exact W.lret hx hb hr (fun t ht hW => ⟨⟨_, (), rfl, trivial, trivial⟩, hS.F ht⟩) hS.2.2 dX1_join_15

set_option maxHeartbeats 4000000 in
set_option maxRecDepth 100000 in
theorem c_Expr_valueOf (l : Launch) (D : va_G) (cy : Nat → ClassId) (e : Nat → Nat)  (h0 : Nat) (cd : Nat) (sz0 : Nat) (st : Nat) (n : Nat) (f : Nat → Int32) (g : Nat → Int64) (se : Nat) (n3 : Nat) (sf : Nat → Int64) (s0 : Int32) (e0 : Int32) (sz : Nat) (hsz : sz0 ≤ n) (hn : n < 65536) (hn3 : n3 < 65536) : Met l yX1_valueOf wsX1_valueOf ({ frames := 1, cells := 0, slots := 0, locals := 24 }) (va_Pc [.ref h0, .int s0, .int e0, .ref se] (mt_B D cy e [(h0, .inr (2, [.ref cd, .int (nI sz0), .ref st])), (cd, .inl (cy 0, n, .inl f)), (st, .inl (cy 2, 32, .inr (.inl g))), (se, .inl (cy 2, n3, .inr (.inl sf)))] sz)) (va_Ql (fun (r : Int64) (g2 : (Nat → Int64)) => True) (mt_Q D (fun g2 => [(h0, .inr (2, [.ref cd, .int (nI sz0), .ref st])), (cd, .inl (cy 0, n, .inl f)), (st, .inl (cy 2, 32, .inr (.inl g2))), (se, .inl (cy 2, n3, .inr (.inl sf)))]) (va_A [(h0, .inr (2, [.ref cd, .int (nI sz0), .ref st])), (cd, .inl (cy 0, n, .inl f)), (st, .inl (cy 2, 32, .inr (.inl g))), (se, .inl (cy 2, n3, .inr (.inl sf)))] sz)) (va_A [(h0, .inr (2, [.ref cd, .int (nI sz0), .ref st])), (cd, .inl (cy 0, n, .inl f)), (st, .inl (cy 2, 32, .inr (.inl g))), (se, .inl (cy 2, n3, .inr (.inl sf)))] sz)) (0) (0) (va_A [(h0, .inr (2, [.ref cd, .int (nI sz0), .ref st])), (cd, .inl (cy 0, n, .inl f)), (st, .inl (cy 2, 32, .inr (.inl g))), (se, .inl (cy 2, n3, .inr (.inl sf)))] sz) := by
  refine Met.ofW (cc := cX1_valueOf) (maxL := 7) (ret := (some .long)) (by decide) rfl ?_
  intro p ev s m args below meth c s₁ B hml hv
  obtain ⟨rfl, hsz, hP, hK, hD0, hG⟩ := hv
  have hx := B.exec
  have hb := B.bytes
  have hr := B.returns
  have hts := atoms_spec (ws := wsX1_valueOf) B.pre
  have hown : s.vm.findClass RX1 = some m.cls := findClass_of_methodNamed B.named
  have hlocks := B.notSynchronized
  subst hsz
  have hD := hD0.self (sz := s.heap.size)
  generalize hAe : va_A [(h0, .inr (2, [.ref cd, .int (nI sz0), .ref st])), (cd, .inl (cy 0, n, .inl f)), (st, .inl (cy 2, 32, .inr (.inl g))), (se, .inl (cy 2, n3, .inr (.inl sf)))] s.heap.size = A at hD hG ⊢
  have hA : ∀ q : Nat, s.heap.size ≤ q → A q := fun q h => by rw [← hAe]; exact Or.inr h
  have hS : va_S A s.heap s.heap [] := va_S.rf
  have hP : va_P D vwCl [(h0, .inr (2, [.ref cd, .int (nI sz0), .ref st])), (cd, .inl (cy 0, n, .inl f)), (st, .inl (cy 2, 32, .inr (.inl g))), (se, .inl (cy 2, n3, .inr (.inl sf)))] s.heap := hP
  have iX1 : ∀ w ∈ wsX10, w ∈ wsX1_valueOf := fun w h => List.mem_cons_of_mem _ (List.mem_append_right _ h)
  have hl := lv_entry ([.ref h0, .int s0, .int e0, .ref se]) (n := 7) (Nat.le_of_ble_eq_true rfl)
  rw [lg_entry_eq]
  generalize (lg_sl ([.ref h0, .int s0, .int e0, .ref se]) ++ List.replicate (7 - (lg_sl ([.ref h0, .int s0, .int e0, .ref se])).length) Slot.unset).toArray = ls at hl ⊢
  have hl : lv_has ls 7 [(0, .ref h0), (1, .int s0), (2, .int e0), (3, .ref se)] := hl
  refine lv_iconst (v := 0) hx hb dX1_valueOf_0 (by decide +kernel) ?_
  refine lv_topi (fun x_1 ex_1 => ?_)
  obtain rfl : x_1 = nI 0 := by rw [ex_1]; exact nI_0.symm
  refine lv_istore (lv' := [(4, .int (nI 0)), (0, .ref h0), (1, .int s0), (2, .int e0), (3, .ref se)]) hx hb dX1_valueOf_1 hl (by decide) rfl (fun ls hl => ?_)
  refine lv_iload_n hx hb dX1_valueOf_3 rfl (lv_at hl 2 rfl) ?_
  refine lv_istore (lv' := [(5, .int s0), (4, .int (nI 0)), (0, .ref h0), (1, .int s0), (2, .int e0), (3, .ref se)]) hx hb dX1_valueOf_4 hl (by decide) rfl (fun ls hl => ?_)
  refine lp_W (σ := Nat × Int32 × (Nat → Int64)) (Wf := fun H locs ls => W p l ev _ s m _ below meth c H locs (0) (0) _ (F0 m 6 ls [])) (fun zz9 H locs ls => match zz9 with | (tp, i, gs) => va_P D vwCl [(h0, .inr (2, [.ref cd, .int (nI sz0), .ref st])), (cd, .inl (cy 0, n, .inl f)), (st, .inl (cy 2, 32, .inr (.inl gs))), (se, .inl (cy 2, n3, .inr (.inl sf)))] H ∧ va_D A [(h0, .inr (2, [.ref cd, .int (nI sz0), .ref st])), (cd, .inl (cy 0, n, .inl f)), (st, .inl (cy 2, 32, .inr (.inl gs))), (se, .inl (cy 2, n3, .inr (.inl sf)))] ∧ va_S A s.heap H locs ∧ lv_has ls 7 [(5, .int i), (4, .int (nI tp)), (0, .ref h0), (1, .int s0), (2, .int e0), (3, .ref se)] ∧ (tp ≤ 32)) (fun zz9 => match zz9 with | (tp, i, gs) => (e0.toInt - i.toInt).toNat) ?_ (0, s0, g) _ _ ls ⟨hP, hD, hS, lv_sub hl [0, 1, 2, 3, 4, 5] rfl, by decide⟩
  intro zz9 H locs ls hI ih
  obtain ⟨tp, i, gs⟩ := zz9
  obtain ⟨hP, hD, hS, hl, hI⟩ := hI
  have ih6 := ih
  have hI6 := hI
  have hP : va_P D vwCl [(h0, .inr (2, [.ref cd, .int (nI sz0), .ref st])), (cd, .inl (cy 0, n, .inl f)), (st, .inl (cy 2, 32, .inr (.inl gs))), (se, .inl (cy 2, n3, .inr (.inl sf)))] H := hP
  have hD : va_D A [(h0, .inr (2, [.ref cd, .int (nI sz0), .ref st])), (cd, .inl (cy 0, n, .inl f)), (st, .inl (cy 2, 32, .inr (.inl gs))), (se, .inl (cy 2, n3, .inr (.inl sf)))] := hD
  have hl : lv_has ls 7 [(5, .int i), (4, .int (nI tp)), (0, .ref h0), (1, .int s0), (2, .int e0), (3, .ref se)] := hl
  refine lv_iload hx hb dX1_valueOf_6 (lv_at hl 0 rfl) ?_
  refine lv_iload_n hx hb dX1_valueOf_8 rfl (lv_at hl 4 rfl) ?_
  refine lv_icmp_ge (tgt := 145) hx hb dX1_valueOf_9 (by decide) (fun c9 => ?_) (fun c9 => ?_)
  · refine lv_iload hx hb dX1_valueOf_145 (lv_at hl 1 rfl) ?_
    refine lv_if_le (tgt := 159) hx hb dX1_valueOf_147 (by decide) (fun c147 => ?_) (fun c147 => ?_)
    · refine lv_lconst (v := 0) hx hb dX1_valueOf_159 (by decide +kernel) ?_
      have hP9 : va_P D vwCl [(h0, .inr (2, [.ref cd, .int (nI sz0), .ref st])), (cd, .inl (cy 0, n, .inl f)), (st, .inl (cy 2, 32, .inr (.inl gs))), (se, .inl (cy 2, n3, .inr (.inl sf)))] H := hP.sub [0, 1, 2, 3] rfl
      have hD9 : va_D A [(h0, .inr (2, [.ref cd, .int (nI sz0), .ref st])), (cd, .inl (cy 0, n, .inl f)), (st, .inl (cy 2, 32, .inr (.inl gs))), (se, .inl (cy 2, n3, .inr (.inl sf)))] := hD.sub [0, 1, 2, 3] (by decide) rfl
      refine W.widen (k := 0) (n := 0) (by omega) (by omega) ?_
      exact W.lret hx hb hr (fun t ht hW => ⟨⟨_, gs, rfl, trivial, by rw [ht]; exact hP9, hD9⟩, hS.F ht⟩) hS.2.2 dX1_valueOf_160
    · refine lv_aload_n hx hb dX1_valueOf_150 rfl (lv_at hl 2 rfl) ?_
      refine va_get (D := D) (ci := 2) (v := .ref st) (C := RX1) (T := TX1) (N := 3) hx hb hts iX1 hown hK hP 0 rfl rfl 2 (by decide) (hts (.fieldLink RX1 9 "InterlockTables$Expressions" "stack" "[J") (by decide +kernel)) (fun _ h9 => h9) rfl dX1_valueOf_151 ?_
      refine lv_iconst (v := 0) hx hb dX1_valueOf_154 (by decide +kernel) ?_
      refine va_lald hx hb hK hP 2 2 rfl rfl (by unfold vp_in; decide) dX1_valueOf_155 ?_
      refine lv_goto (tgt := 160) hx hb dX1_valueOf_156 (by decide) ?_
      have hP9 : va_P D vwCl [(h0, .inr (2, [.ref cd, .int (nI sz0), .ref st])), (cd, .inl (cy 0, n, .inl f)), (st, .inl (cy 2, 32, .inr (.inl gs))), (se, .inl (cy 2, n3, .inr (.inl sf)))] H := hP.sub [0, 1, 2, 3] rfl
      have hD9 : va_D A [(h0, .inr (2, [.ref cd, .int (nI sz0), .ref st])), (cd, .inl (cy 0, n, .inl f)), (st, .inl (cy 2, 32, .inr (.inl gs))), (se, .inl (cy 2, n3, .inr (.inl sf)))] := hD.sub [0, 1, 2, 3] (by decide) rfl
      refine W.widen (k := 0) (n := 0) (by omega) (by omega) ?_
      exact W.lret hx hb hr (fun t ht hW => ⟨⟨_, gs, rfl, trivial, by rw [ht]; exact hP9, hD9⟩, hS.F ht⟩) hS.2.2 dX1_valueOf_160
  · refine lv_aload_n hx hb dX1_valueOf_12 rfl (lv_at hl 2 rfl) ?_
    refine lv_iload hx hb dX1_valueOf_13 (lv_at hl 0 rfl) ?_
    refine pu_calli (va_runV (As := [.int i]) (rest := []) ⟨hx, hb, hml, hown, hts⟩ (c_Expr_at l D cy e h0 cd sz0 st n f i (by first | assumption | omega | decide +kernel) (by first | assumption | omega | decide +kernel)) (cwV 1 hts gX1_valueOf_X1_at rfl rfl rfl (by decide +kernel) ⟨Nat.le_of_ble_eq_true rfl, Nat.le_of_ble_eq_true rfl⟩) (pu_preV hP hK hS hG [0, 1] rfl (q := (RX1, TX1, 3)) (ci := 2) (q0 := 0) rfl rfl) rfl rfl hl.1 rfl (lv_room (Nat.le_of_ble_eq_true rfl)) dX1_valueOf_15 ⟨(Nat.le_of_ble_eq_true rfl), (Nat.le_of_ble_eq_true rfl)⟩) hP hS (fun H locs hP hS => ?_)
    have hP : va_P D vwCl [(h0, .inr (2, [.ref cd, .int (nI sz0), .ref st])), (cd, .inl (cy 0, n, .inl f)), (st, .inl (cy 2, 32, .inr (.inl gs))), (se, .inl (cy 2, n3, .inr (.inl sf)))] H := hP
    refine lv_istore (lv' := [(6, .int (eat f sz0 i)), (5, .int i), (4, .int (nI tp)), (0, .ref h0), (1, .int s0), (2, .int e0), (3, .ref se)]) hx hb dX1_valueOf_18 hl (by decide) rfl (fun ls hl => ?_)
    refine lv_iload hx hb dX1_valueOf_20 (lv_at hl 0 rfl) ?_
    refine pu_calli (va_runS (As := [.int (eat f sz0 i)]) (rest := []) ⟨hx, hb, hml, hown, hts⟩ (c_isCondition l D cy e (eat f sz0 i) ) (va_cwS 1 hts gX1_valueOf_X1_isCondition rfl rfl rfl (by decide +kernel) ⟨Nat.le_of_ble_eq_true rfl, Nat.le_of_ble_eq_true rfl⟩) (pu_preS hP hK hS hG [] rfl) rfl rfl hl.1 rfl (lv_room (Nat.le_of_ble_eq_true rfl)) dX1_valueOf_22 ⟨(Nat.le_of_ble_eq_true rfl), (Nat.le_of_ble_eq_true rfl)⟩) hP hS (fun H locs hP hS => ?_)
    have hP : va_P D vwCl [(h0, .inr (2, [.ref cd, .int (nI sz0), .ref st])), (cd, .inl (cy 0, n, .inl f)), (st, .inl (cy 2, 32, .inr (.inl gs))), (se, .inl (cy 2, n3, .inr (.inl sf)))] H := hP
    refine lv_if_eq (tgt := 62) hx hb dX1_valueOf_25 (by decide) (fun c25 => ?_) (fun c25 => ?_)
    · refine lv_iload hx hb dX1_valueOf_62 (lv_at hl 0 rfl) ?_
      refine lv_bipush (v := 16) hx hb dX1_valueOf_64 (by decide +kernel) ?_
      refine lv_icmp_ne (tgt := 100) hx hb dX1_valueOf_66 (by decide) (fun c66 => ?_) (fun c66 => ?_)
      · refine lv_iload hx hb dX1_valueOf_100 (lv_at hl 2 rfl) ?_
        refine lv_iconst (v := 2) hx hb dX1_valueOf_102 (by decide +kernel) ?_
        refine lv_icmp_lt (tgt := 139) hx hb dX1_valueOf_103 (by decide) (fun c103 => ?_) (fun c103 => ?_)
        · refine lv_iinc (v := i + 1) (lv' := [(5, .int (i + 1)), (6, .int (eat f sz0 i)), (4, .int (nI tp)), (0, .ref h0), (1, .int s0), (2, .int e0), (3, .ref se)]) hx hb dX1_valueOf_139 hl (k := 1) rfl (rfl) (by decide) rfl (fun ls hl => ?_)
          refine lv_goto (tgt := 6) hx hb dX1_valueOf_142 (by decide) ?_
          exact ih6 (tp, (i + 1), gs) _ _ ls ⟨hP.sub [0, 1, 2, 3] rfl, hD.sub [0, 1, 2, 3] (by decide) rfl, hS, lv_sub hl [0, 2, 3, 4, 5, 6] rfl, by omega⟩ (by (try dsimp only); exact qk_mu (Int32.not_le.mp c9))
        · have ht2 : 2 ≤ tp := pk_nlt2 c103
          refine lv_iinc (v := nI (tp - 1)) (lv' := [(4, .int (nI (tp - 1))), (6, .int (eat f sz0 i)), (5, .int i), (0, .ref h0), (1, .int s0), (2, .int e0), (3, .ref se)]) hx hb dX1_valueOf_106 hl (k := 2) rfl (pk_dec (by omega)) (by decide) rfl (fun ls hl => ?_)
          refine lv_aload_n hx hb dX1_valueOf_109 rfl (lv_at hl 3 rfl) ?_
          refine va_get (D := D) (ci := 2) (v := .ref st) (C := RX1) (T := TX1) (N := 3) hx hb hts iX1 hown hK hP 0 rfl rfl 2 (by decide) (hts (.fieldLink RX1 9 "InterlockTables$Expressions" "stack" "[J") (by decide +kernel)) (fun _ h9 => h9) rfl dX1_valueOf_110 ?_
          refine lv_iload hx hb dX1_valueOf_113 (lv_at hl 0 rfl) ?_
          refine lv_iconst (v := 1) hx hb dX1_valueOf_115 (by decide +kernel) ?_
          refine lv_isub hx hb dX1_valueOf_116 ?_
          refine lv_topi (fun x_2 ex_2 => ?_)
          obtain rfl : x_2 = nI (tp - 1 - 1) := by rw [ex_2]; exact pk_sub (b := 1) (by omega)
          refine lv_iload hx hb dX1_valueOf_117 (lv_at hl 1 rfl) ?_
          refine lv_aload_n hx hb dX1_valueOf_119 rfl (lv_at hl 3 rfl) ?_
          refine va_get (D := D) (ci := 2) (v := .ref st) (C := RX1) (T := TX1) (N := 3) hx hb hts iX1 hown hK hP 0 rfl rfl 2 (by decide) (hts (.fieldLink RX1 9 "InterlockTables$Expressions" "stack" "[J") (by decide +kernel)) (fun _ h9 => h9) rfl dX1_valueOf_120 ?_
          refine lv_iload hx hb dX1_valueOf_123 (lv_at hl 0 rfl) ?_
          refine lv_iconst (v := 1) hx hb dX1_valueOf_125 (by decide +kernel) ?_
          refine lv_isub hx hb dX1_valueOf_126 ?_
          refine lv_topi (fun x_3 ex_3 => ?_)
          obtain rfl : x_3 = nI (tp - 1 - 1) := by rw [ex_3]; exact pk_sub (b := 1) (by omega)
          refine va_lald hx hb hK hP 2 2 rfl rfl (vp_in_nI (by omega) (by omega)) dX1_valueOf_127 ?_
          refine lv_aload_n hx hb dX1_valueOf_128 rfl (lv_at hl 3 rfl) ?_
          refine va_get (D := D) (ci := 2) (v := .ref st) (C := RX1) (T := TX1) (N := 3) hx hb hts iX1 hown hK hP 0 rfl rfl 2 (by decide) (hts (.fieldLink RX1 9 "InterlockTables$Expressions" "stack" "[J") (by decide +kernel)) (fun _ h9 => h9) rfl dX1_valueOf_129 ?_
          refine lv_iload hx hb dX1_valueOf_132 (lv_at hl 0 rfl) ?_
          refine va_lald hx hb hK hP 2 2 rfl rfl (vp_in_nI (by omega) (by omega)) dX1_valueOf_134 ?_
          refine pu_callnl (va_runS (As := [.int (eat f sz0 i), .long (gs (nI (tp - 1 - 1)).toNatClampNeg), .long (gs (nI (tp - 1)).toNatClampNeg)]) (rest := [.int (nI (tp - 1 - 1)), .ref st]) ⟨hx, hb, hml, hown, hts⟩ (c_join l D cy e (eat f sz0 i) (gs (nI (tp - 1 - 1)).toNatClampNeg) (gs (nI (tp - 1)).toNatClampNeg) ) (va_cwS 3 hts gX1_valueOf_X1_join rfl rfl rfl (by decide +kernel) ⟨Nat.le_of_ble_eq_true rfl, Nat.le_of_ble_eq_true rfl⟩) (pu_preS hP hK hS hG [] rfl) rfl rfl hl.1 rfl (lv_room (Nat.le_of_ble_eq_true rfl)) dX1_valueOf_135 ⟨(Nat.le_of_ble_eq_true rfl), (Nat.le_of_ble_eq_true rfl)⟩) hP hS (fun r135 H locs hw hP hS => ?_)
          have hP : va_P D vwCl [(h0, .inr (2, [.ref cd, .int (nI sz0), .ref st])), (cd, .inl (cy 0, n, .inl f)), (st, .inl (cy 2, 32, .inr (.inl gs))), (se, .inl (cy 2, n3, .inr (.inl sf)))] H := hP
          replace hw : True := hw
          refine va_last hx hb hK hP hD hS 2 2 rfl rfl (vp_in_nI (by omega) (by omega)) dX1_valueOf_138 (fun H locs hP hD hS => ?_)
          have hP : va_P D vwCl [(h0, .inr (2, [.ref cd, .int (nI sz0), .ref st])), (cd, .inl (cy 0, n, .inl f)), (st, .inl (cy 2, 32, .inr (.inl (vp_updL gs (nI (tp - 1 - 1)).toNatClampNeg r135)))), (se, .inl (cy 2, n3, .inr (.inl sf)))] H := hP
          have hD : va_D A [(h0, .inr (2, [.ref cd, .int (nI sz0), .ref st])), (cd, .inl (cy 0, n, .inl f)), (st, .inl (cy 2, 32, .inr (.inl (vp_updL gs (nI (tp - 1 - 1)).toNatClampNeg r135)))), (se, .inl (cy 2, n3, .inr (.inl sf)))] := hD
          refine lv_iinc (v := i + 1) (lv' := [(5, .int (i + 1)), (4, .int (nI (tp - 1))), (6, .int (eat f sz0 i)), (0, .ref h0), (1, .int s0), (2, .int e0), (3, .ref se)]) hx hb dX1_valueOf_139 hl (k := 2) rfl (rfl) (by decide) rfl (fun ls hl => ?_)
          refine lv_goto (tgt := 6) hx hb dX1_valueOf_142 (by decide) ?_
          exact ih6 ((tp - 1), (i + 1), (vp_updL gs (nI (tp - 1 - 1)).toNatClampNeg r135)) _ _ ls ⟨hP.sub [0, 1, 2, 3] rfl, hD.sub [0, 1, 2, 3] (by decide) rfl, hS, lv_sub hl [0, 1, 3, 4, 5, 6] rfl, by omega⟩ (by (try dsimp only); exact qk_mu (Int32.not_le.mp c9))
      · refine lv_iload hx hb dX1_valueOf_69 (lv_at hl 2 rfl) ?_
        refine lv_iconst (v := 1) hx hb dX1_valueOf_71 (by decide +kernel) ?_
        refine lv_icmp_lt (tgt := 100) hx hb dX1_valueOf_72 (by decide) (fun c72 => ?_) (fun c72 => ?_)
        · refine lv_iload hx hb dX1_valueOf_100 (lv_at hl 2 rfl) ?_
          refine lv_iconst (v := 2) hx hb dX1_valueOf_102 (by decide +kernel) ?_
          refine lv_icmp_lt (tgt := 139) hx hb dX1_valueOf_103 (by decide) (fun c103 => ?_) (fun c103 => ?_)
          · refine lv_iinc (v := i + 1) (lv' := [(5, .int (i + 1)), (6, .int (eat f sz0 i)), (4, .int (nI tp)), (0, .ref h0), (1, .int s0), (2, .int e0), (3, .ref se)]) hx hb dX1_valueOf_139 hl (k := 1) rfl (rfl) (by decide) rfl (fun ls hl => ?_)
            refine lv_goto (tgt := 6) hx hb dX1_valueOf_142 (by decide) ?_
            exact ih6 (tp, (i + 1), gs) _ _ ls ⟨hP.sub [0, 1, 2, 3] rfl, hD.sub [0, 1, 2, 3] (by decide) rfl, hS, lv_sub hl [0, 2, 3, 4, 5, 6] rfl, by omega⟩ (by (try dsimp only); exact qk_mu (Int32.not_le.mp c9))
          · have ht2 : 2 ≤ tp := pk_nlt2 c103
            refine lv_iinc (v := nI (tp - 1)) (lv' := [(4, .int (nI (tp - 1))), (6, .int (eat f sz0 i)), (5, .int i), (0, .ref h0), (1, .int s0), (2, .int e0), (3, .ref se)]) hx hb dX1_valueOf_106 hl (k := 2) rfl (pk_dec (by omega)) (by decide) rfl (fun ls hl => ?_)
            refine lv_aload_n hx hb dX1_valueOf_109 rfl (lv_at hl 3 rfl) ?_
            refine va_get (D := D) (ci := 2) (v := .ref st) (C := RX1) (T := TX1) (N := 3) hx hb hts iX1 hown hK hP 0 rfl rfl 2 (by decide) (hts (.fieldLink RX1 9 "InterlockTables$Expressions" "stack" "[J") (by decide +kernel)) (fun _ h9 => h9) rfl dX1_valueOf_110 ?_
            refine lv_iload hx hb dX1_valueOf_113 (lv_at hl 0 rfl) ?_
            refine lv_iconst (v := 1) hx hb dX1_valueOf_115 (by decide +kernel) ?_
            refine lv_isub hx hb dX1_valueOf_116 ?_
            refine lv_topi (fun x_4 ex_4 => ?_)
            obtain rfl : x_4 = nI (tp - 1 - 1) := by rw [ex_4]; exact pk_sub (b := 1) (by omega)
            refine lv_iload hx hb dX1_valueOf_117 (lv_at hl 1 rfl) ?_
            refine lv_aload_n hx hb dX1_valueOf_119 rfl (lv_at hl 3 rfl) ?_
            refine va_get (D := D) (ci := 2) (v := .ref st) (C := RX1) (T := TX1) (N := 3) hx hb hts iX1 hown hK hP 0 rfl rfl 2 (by decide) (hts (.fieldLink RX1 9 "InterlockTables$Expressions" "stack" "[J") (by decide +kernel)) (fun _ h9 => h9) rfl dX1_valueOf_120 ?_
            refine lv_iload hx hb dX1_valueOf_123 (lv_at hl 0 rfl) ?_
            refine lv_iconst (v := 1) hx hb dX1_valueOf_125 (by decide +kernel) ?_
            refine lv_isub hx hb dX1_valueOf_126 ?_
            refine lv_topi (fun x_5 ex_5 => ?_)
            obtain rfl : x_5 = nI (tp - 1 - 1) := by rw [ex_5]; exact pk_sub (b := 1) (by omega)
            refine va_lald hx hb hK hP 2 2 rfl rfl (vp_in_nI (by omega) (by omega)) dX1_valueOf_127 ?_
            refine lv_aload_n hx hb dX1_valueOf_128 rfl (lv_at hl 3 rfl) ?_
            refine va_get (D := D) (ci := 2) (v := .ref st) (C := RX1) (T := TX1) (N := 3) hx hb hts iX1 hown hK hP 0 rfl rfl 2 (by decide) (hts (.fieldLink RX1 9 "InterlockTables$Expressions" "stack" "[J") (by decide +kernel)) (fun _ h9 => h9) rfl dX1_valueOf_129 ?_
            refine lv_iload hx hb dX1_valueOf_132 (lv_at hl 0 rfl) ?_
            refine va_lald hx hb hK hP 2 2 rfl rfl (vp_in_nI (by omega) (by omega)) dX1_valueOf_134 ?_
            refine pu_callnl (va_runS (As := [.int (eat f sz0 i), .long (gs (nI (tp - 1 - 1)).toNatClampNeg), .long (gs (nI (tp - 1)).toNatClampNeg)]) (rest := [.int (nI (tp - 1 - 1)), .ref st]) ⟨hx, hb, hml, hown, hts⟩ (c_join l D cy e (eat f sz0 i) (gs (nI (tp - 1 - 1)).toNatClampNeg) (gs (nI (tp - 1)).toNatClampNeg) ) (va_cwS 3 hts gX1_valueOf_X1_join rfl rfl rfl (by decide +kernel) ⟨Nat.le_of_ble_eq_true rfl, Nat.le_of_ble_eq_true rfl⟩) (pu_preS hP hK hS hG [] rfl) rfl rfl hl.1 rfl (lv_room (Nat.le_of_ble_eq_true rfl)) dX1_valueOf_135 ⟨(Nat.le_of_ble_eq_true rfl), (Nat.le_of_ble_eq_true rfl)⟩) hP hS (fun r135 H locs hw hP hS => ?_)
            have hP : va_P D vwCl [(h0, .inr (2, [.ref cd, .int (nI sz0), .ref st])), (cd, .inl (cy 0, n, .inl f)), (st, .inl (cy 2, 32, .inr (.inl gs))), (se, .inl (cy 2, n3, .inr (.inl sf)))] H := hP
            replace hw : True := hw
            refine va_last hx hb hK hP hD hS 2 2 rfl rfl (vp_in_nI (by omega) (by omega)) dX1_valueOf_138 (fun H locs hP hD hS => ?_)
            have hP : va_P D vwCl [(h0, .inr (2, [.ref cd, .int (nI sz0), .ref st])), (cd, .inl (cy 0, n, .inl f)), (st, .inl (cy 2, 32, .inr (.inl (vp_updL gs (nI (tp - 1 - 1)).toNatClampNeg r135)))), (se, .inl (cy 2, n3, .inr (.inl sf)))] H := hP
            have hD : va_D A [(h0, .inr (2, [.ref cd, .int (nI sz0), .ref st])), (cd, .inl (cy 0, n, .inl f)), (st, .inl (cy 2, 32, .inr (.inl (vp_updL gs (nI (tp - 1 - 1)).toNatClampNeg r135)))), (se, .inl (cy 2, n3, .inr (.inl sf)))] := hD
            refine lv_iinc (v := i + 1) (lv' := [(5, .int (i + 1)), (4, .int (nI (tp - 1))), (6, .int (eat f sz0 i)), (0, .ref h0), (1, .int s0), (2, .int e0), (3, .ref se)]) hx hb dX1_valueOf_139 hl (k := 2) rfl (rfl) (by decide) rfl (fun ls hl => ?_)
            refine lv_goto (tgt := 6) hx hb dX1_valueOf_142 (by decide) ?_
            exact ih6 ((tp - 1), (i + 1), (vp_updL gs (nI (tp - 1 - 1)).toNatClampNeg r135)) _ _ ls ⟨hP.sub [0, 1, 2, 3] rfl, hD.sub [0, 1, 2, 3] (by decide) rfl, hS, lv_sub hl [0, 1, 3, 4, 5, 6] rfl, by omega⟩ (by (try dsimp only); exact qk_mu (Int32.not_le.mp c9))
        · have ht1 : 1 ≤ tp := pk_nlt1 c72
          refine lv_aload_n hx hb dX1_valueOf_75 rfl (lv_at hl 3 rfl) ?_
          refine va_get (D := D) (ci := 2) (v := .ref st) (C := RX1) (T := TX1) (N := 3) hx hb hts iX1 hown hK hP 0 rfl rfl 2 (by decide) (hts (.fieldLink RX1 9 "InterlockTables$Expressions" "stack" "[J") (by decide +kernel)) (fun _ h9 => h9) rfl dX1_valueOf_76 ?_
          refine lv_iload hx hb dX1_valueOf_79 (lv_at hl 2 rfl) ?_
          refine lv_iconst (v := 1) hx hb dX1_valueOf_81 (by decide +kernel) ?_
          refine lv_isub hx hb dX1_valueOf_82 ?_
          refine lv_topi (fun x_6 ex_6 => ?_)
          obtain rfl : x_6 = nI (tp - 1) := by rw [ex_6]; exact pk_sub (b := 1) (by omega)
          refine lv_aload_n hx hb dX1_valueOf_83 rfl (lv_at hl 3 rfl) ?_
          refine va_get (D := D) (ci := 2) (v := .ref st) (C := RX1) (T := TX1) (N := 3) hx hb hts iX1 hown hK hP 0 rfl rfl 2 (by decide) (hts (.fieldLink RX1 9 "InterlockTables$Expressions" "stack" "[J") (by decide +kernel)) (fun _ h9 => h9) rfl dX1_valueOf_84 ?_
          refine lv_iload hx hb dX1_valueOf_87 (lv_at hl 2 rfl) ?_
          refine lv_iconst (v := 1) hx hb dX1_valueOf_89 (by decide +kernel) ?_
          refine lv_isub hx hb dX1_valueOf_90 ?_
          refine lv_topi (fun x_7 ex_7 => ?_)
          obtain rfl : x_7 = nI (tp - 1) := by rw [ex_7]; exact pk_sub (b := 1) (by omega)
          refine va_lald hx hb hK hP 2 2 rfl rfl (vp_in_nI (by omega) (by omega)) dX1_valueOf_91 ?_
          refine lv_ldc2 (v := -1) hx hb hown (hts (.constantLong RX1 37 (-1)) (by decide +kernel)) dX1_valueOf_92 ?_
          refine lv_lxor hx hb dX1_valueOf_95 ?_
          refine va_last hx hb hK hP hD hS 2 2 rfl rfl (vp_in_nI (by omega) (by omega)) dX1_valueOf_96 (fun H locs hP hD hS => ?_)
          have hP : va_P D vwCl [(h0, .inr (2, [.ref cd, .int (nI sz0), .ref st])), (cd, .inl (cy 0, n, .inl f)), (st, .inl (cy 2, 32, .inr (.inl (vp_updL gs (nI (tp - 1)).toNatClampNeg ((gs (nI (tp - 1)).toNatClampNeg) ^^^ (-1)))))), (se, .inl (cy 2, n3, .inr (.inl sf)))] H := hP
          have hD : va_D A [(h0, .inr (2, [.ref cd, .int (nI sz0), .ref st])), (cd, .inl (cy 0, n, .inl f)), (st, .inl (cy 2, 32, .inr (.inl (vp_updL gs (nI (tp - 1)).toNatClampNeg ((gs (nI (tp - 1)).toNatClampNeg) ^^^ (-1)))))), (se, .inl (cy 2, n3, .inr (.inl sf)))] := hD
          refine lv_goto (tgt := 139) hx hb dX1_valueOf_97 (by decide) ?_
          refine lv_iinc (v := i + 1) (lv' := [(5, .int (i + 1)), (6, .int (eat f sz0 i)), (4, .int (nI tp)), (0, .ref h0), (1, .int s0), (2, .int e0), (3, .ref se)]) hx hb dX1_valueOf_139 hl (k := 1) rfl (rfl) (by decide) rfl (fun ls hl => ?_)
          refine lv_goto (tgt := 6) hx hb dX1_valueOf_142 (by decide) ?_
          exact ih6 (tp, (i + 1), (vp_updL gs (nI (tp - 1)).toNatClampNeg ((gs (nI (tp - 1)).toNatClampNeg) ^^^ (-1)))) _ _ ls ⟨hP.sub [0, 1, 2, 3] rfl, hD.sub [0, 1, 2, 3] (by decide) rfl, hS, lv_sub hl [0, 2, 3, 4, 5, 6] rfl, by omega⟩ (by (try dsimp only); exact qk_mu (Int32.not_le.mp c9))
    · refine lv_iload hx hb dX1_valueOf_28 (lv_at hl 2 rfl) ?_
      refine lv_aload_n hx hb dX1_valueOf_30 rfl (lv_at hl 3 rfl) ?_
      refine va_get (D := D) (ci := 2) (v := .ref st) (C := RX1) (T := TX1) (N := 3) hx hb hts iX1 hown hK hP 0 rfl rfl 2 (by decide) (hts (.fieldLink RX1 9 "InterlockTables$Expressions" "stack" "[J") (by decide +kernel)) (fun _ h9 => h9) rfl dX1_valueOf_31 ?_
      refine va_alen hx hb hK hP 2 2 rfl rfl (v := 32) rfl dX1_valueOf_34 ?_
      refine lv_icmp_ge (tgt := 139) hx hb dX1_valueOf_35 (by decide) (fun c35 => ?_) (fun c35 => ?_)
      · refine lv_iinc (v := i + 1) (lv' := [(5, .int (i + 1)), (6, .int (eat f sz0 i)), (4, .int (nI tp)), (0, .ref h0), (1, .int s0), (2, .int e0), (3, .ref se)]) hx hb dX1_valueOf_139 hl (k := 1) rfl (rfl) (by decide) rfl (fun ls hl => ?_)
        refine lv_goto (tgt := 6) hx hb dX1_valueOf_142 (by decide) ?_
        exact ih6 (tp, (i + 1), gs) _ _ ls ⟨hP.sub [0, 1, 2, 3] rfl, hD.sub [0, 1, 2, 3] (by decide) rfl, hS, lv_sub hl [0, 2, 3, 4, 5, 6] rfl, by omega⟩ (by (try dsimp only); exact qk_mu (Int32.not_le.mp c9))
      · have ht : tp < 32 := pk_nle (b := tp) (a := 32) (by omega) c35
        refine lv_iload hx hb dX1_valueOf_38 (lv_at hl 0 rfl) ?_
        refine lv_aload_n hx hb dX1_valueOf_40 rfl (lv_at hl 6 rfl) ?_
        refine va_alen hx hb hK hP 3 2 rfl rfl (v := nI n3) rfl dX1_valueOf_41 ?_
        refine lv_icmp_ge (tgt := 139) hx hb dX1_valueOf_42 (by decide) (fun c42 => ?_) (fun c42 => ?_)
        · refine lv_iinc (v := i + 1) (lv' := [(5, .int (i + 1)), (6, .int (eat f sz0 i)), (4, .int (nI tp)), (0, .ref h0), (1, .int s0), (2, .int e0), (3, .ref se)]) hx hb dX1_valueOf_139 hl (k := 1) rfl (rfl) (by decide) rfl (fun ls hl => ?_)
          refine lv_goto (tgt := 6) hx hb dX1_valueOf_142 (by decide) ?_
          exact ih6 (tp, (i + 1), gs) _ _ ls ⟨hP.sub [0, 1, 2, 3] rfl, hD.sub [0, 1, 2, 3] (by decide) rfl, hS, lv_sub hl [0, 2, 3, 4, 5, 6] rfl, by omega⟩ (by (try dsimp only); exact qk_mu (Int32.not_le.mp c9))
        · refine lv_aload_n hx hb dX1_valueOf_45 rfl (lv_at hl 3 rfl) ?_
          refine va_get (D := D) (ci := 2) (v := .ref st) (C := RX1) (T := TX1) (N := 3) hx hb hts iX1 hown hK hP 0 rfl rfl 2 (by decide) (hts (.fieldLink RX1 9 "InterlockTables$Expressions" "stack" "[J") (by decide +kernel)) (fun _ h9 => h9) rfl dX1_valueOf_46 ?_
          refine lv_iload hx hb dX1_valueOf_49 (lv_at hl 2 rfl) ?_
          refine lv_aload_n hx hb dX1_valueOf_51 rfl (lv_at hl 6 rfl) ?_
          refine lv_iload hx hb dX1_valueOf_52 (lv_at hl 0 rfl) ?_
          refine va_lald hx hb hK hP 3 2 rfl rfl (cd_in c25 c42 hn3) dX1_valueOf_54 ?_
          refine va_last hx hb hK hP hD hS 2 2 rfl rfl (vp_in_nI (by omega) (by omega)) dX1_valueOf_55 (fun H locs hP hD hS => ?_)
          have hP : va_P D vwCl [(h0, .inr (2, [.ref cd, .int (nI sz0), .ref st])), (cd, .inl (cy 0, n, .inl f)), (st, .inl (cy 2, 32, .inr (.inl (vp_updL gs (nI tp).toNatClampNeg (sf (eat f sz0 i).toNatClampNeg))))), (se, .inl (cy 2, n3, .inr (.inl sf)))] H := hP
          have hD : va_D A [(h0, .inr (2, [.ref cd, .int (nI sz0), .ref st])), (cd, .inl (cy 0, n, .inl f)), (st, .inl (cy 2, 32, .inr (.inl (vp_updL gs (nI tp).toNatClampNeg (sf (eat f sz0 i).toNatClampNeg))))), (se, .inl (cy 2, n3, .inr (.inl sf)))] := hD
          refine lv_iinc (v := nI (tp + 1)) (lv' := [(4, .int (nI (tp + 1))), (6, .int (eat f sz0 i)), (5, .int i), (0, .ref h0), (1, .int s0), (2, .int e0), (3, .ref se)]) hx hb dX1_valueOf_56 hl (k := 2) rfl (nI_1 tp) (by decide) rfl (fun ls hl => ?_)
          refine lv_goto (tgt := 139) hx hb dX1_valueOf_59 (by decide) ?_
          refine lv_iinc (v := i + 1) (lv' := [(5, .int (i + 1)), (4, .int (nI (tp + 1))), (6, .int (eat f sz0 i)), (0, .ref h0), (1, .int s0), (2, .int e0), (3, .ref se)]) hx hb dX1_valueOf_139 hl (k := 2) rfl (rfl) (by decide) rfl (fun ls hl => ?_)
          refine lv_goto (tgt := 6) hx hb dX1_valueOf_142 (by decide) ?_
          exact ih6 ((tp + 1), (i + 1), (vp_updL gs (nI tp).toNatClampNeg (sf (eat f sz0 i).toNatClampNeg))) _ _ ls ⟨hP.sub [0, 1, 2, 3] rfl, hD.sub [0, 1, 2, 3] (by decide) rfl, hS, lv_sub hl [0, 1, 3, 4, 5, 6] rfl, by omega⟩ (by (try dsimp only); exact qk_mu (Int32.not_le.mp c9))
