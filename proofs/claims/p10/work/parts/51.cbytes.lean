-- deps: 50
set_option maxHeartbeats 4000000 in
set_option maxRecDepth 100000 in
/-- copyOf: a longer array of bytes -/
theorem c_copyOfB (l : Launch) (D : va_G) (cy : Nat → ClassId) (e : Nat → Nat)  (a0 : Nat) (n : Nat) (f : Nat → Int32) (k : Nat) (sz : Nat) (h1 : n < k) (h2 : k ≤ 65536) (hf : sb_Fit f) : Met l yJ7_copyOf_9075b wsJ7_copyOf_9075b ({ frames := 1, cells := 1, slots := k, locals := 60 }) (va_Pc [.ref a0, .int (nI k)] (mt_B D cy e [(a0, .inl (cy 0, n, .inl f))] sz)) (va_Qq (fun (r : Option Nat) (u : Nat × (Nat → Int32)) => match u with | (a2, f2) => r = some a2 ∧ sb_Fit f2 ∧ ∀ j, j < n → f2 j = f j) (mt_Q D (fun (u : Nat × (Nat → Int32)) => match u with | (a2, f2) => [(a0, .inl (cy 0, n, .inl f)), (a2, .inl (cy 0, k, .inl f2))]) (va_A [(a0, .inl (cy 0, n, .inl f))] sz)) (va_A [(a0, .inl (cy 0, n, .inl f))] sz)) (1) (k) (va_A [(a0, .inl (cy 0, n, .inl f))] sz) := by
  refine Met.ofW (cc := cJ7_copyOf_9075b) (maxL := 3) (ret := (some (.array .byte))) (by decide) rfl ?_
  intro p ev s m args below meth c s₁ B hml hv
  obtain ⟨rfl, hsz, hP, hK, hD0, hG⟩ := hv
  have hx := B.exec
  have hb := B.bytes
  have hr := B.returns
  have hts := atoms_spec (ws := wsJ7_copyOf_9075b) B.pre
  have hown : s.vm.findClass RJ7 = some m.cls := findClass_of_methodNamed B.named
  have hlocks := B.notSynchronized
  subst hsz
  have hD := hD0.self (sz := s.heap.size)
  generalize hAe : va_A [(a0, .inl (cy 0, n, .inl f))] s.heap.size = A at hD hG ⊢
  have hA : ∀ q : Nat, s.heap.size ≤ q → A q := fun q h => by rw [← hAe]; exact Or.inr h
  have hS : va_S A s.heap s.heap [] := va_S.rf
  have hP : va_P D vwCl [(a0, .inl (cy 0, n, .inl f))] s.heap := hP
  have hl := lv_entry ([.ref a0, .int (nI k)]) (n := 3) (Nat.le_of_ble_eq_true rfl)
  rw [lg_entry_eq]
  generalize (lg_sl ([.ref a0, .int (nI k)]) ++ List.replicate (3 - (lg_sl ([.ref a0, .int (nI k)])).length) Slot.unset).toArray = ls at hl ⊢
  have hl : lv_has ls 3 [(0, .ref a0), (1, .int (nI k))] := hl
  refine lv_iload_n hx hb dJ7_copyOf_9075b_0 rfl (lv_at hl 1 rfl) ?_
  refine lv_aload_n hx hb dJ7_copyOf_9075b_1 rfl (lv_at hl 0 rfl) ?_
  refine va_alen hx hb hK hP 0 0 rfl rfl (v := nI n) rfl dJ7_copyOf_9075b_2 ?_
  refine lv_icmp_ne (tgt := 14) hx hb dJ7_copyOf_9075b_3 (by decide) (fun _ => ?_) (fun c3 => absurd c3 (fun h9 => absurd ((nI_eq (by omega) (by omega)).mp h9) (by omega)))
  refine lv_iload_n hx hb dJ7_copyOf_9075b_14 rfl (lv_at hl 1 rfl) ?_
  refine na_new (atype := .byte) (ty := .byte) (a0 := (k, .inl (fun _ => 0))) (N' := k) hx hb (hts (.arrayClass .byte) (by decide +kernel)) rfl 0 rfl hK hP hD hS hA (fun _ => rfl) (nI_pos (by omega)) (nI_clamp (by omega)) (by simp only [componentBytes]; omega) (Nat.le_of_ble_eq_true rfl) (show 0 + k ≤ k from by omega) dJ7_copyOf_9075b_15 (fun a15 H hP hD hS => ?_)
  have hP : va_P D vwCl [(a0, .inl (cy 0, n, .inl f)), (a15, .inl (cy 0, k, .inl (fun _ => 0)))] H := hP
  have hD : va_D A [(a0, .inl (cy 0, n, .inl f)), (a15, .inl (cy 0, k, .inl (fun _ => 0)))] := hD
  refine W.widen (k := 1) (n := k) (by omega) (by omega) ?_
  refine lv_astore_n (lv' := [(2, .ref a15), (0, .ref a0), (1, .int (nI k))]) hx hb dJ7_copyOf_9075b_17 rfl hl (by decide) rfl (fun ls hl => ?_)
  refine lv_aload_n hx hb dJ7_copyOf_9075b_18 rfl (lv_at hl 1 rfl) ?_
  refine lv_iconst (v := 0) hx hb dJ7_copyOf_9075b_19 (by decide +kernel) ?_
  refine lv_aload_n hx hb dJ7_copyOf_9075b_20 rfl (lv_at hl 0 rfl) ?_
  refine lv_iconst (v := 0) hx hb dJ7_copyOf_9075b_21 (by decide +kernel) ?_
  refine lv_aload_n hx hb dJ7_copyOf_9075b_22 rfl (lv_at hl 1 rfl) ?_
  refine va_alen hx hb hK hP 0 0 rfl rfl (v := nI n) rfl dJ7_copyOf_9075b_23 ?_
  refine lv_iload_n hx hb dJ7_copyOf_9075b_24 rfl (lv_at hl 2 rfl) ?_
  refine va_mmin hx hb (by rw [hml]; exact hl.1.symm) hown (hts (.methodLink RJ7 304 Lib.Math.min.name) (by decide +kernel)) (hts (.static Lib.Math.min.name) (by decide +kernel)) (hts (.initialized "java/lang/Math") (by decide +kernel)) (hts (.code Lib.Math.min.name Lib.Math.min.code 2 (some .int)) (by decide +kernel)) (Nat.le_of_ble_eq_true rfl) (Nat.le_of_ble_eq_true rfl) (Nat.le_of_ble_eq_true rfl) (show k + 0 ≤ k from by omega) dJ7_copyOf_9075b_25 ?_
  refine lv_topi (fun x_1 ex_1 => ?_)
  obtain rfl : x_1 = nI n := by rw [ex_1]; rw [if_neg (fun h9 => absurd (qk_lt (by omega) (by omega) h9) (by omega))]
  refine va_copyi (ty := .byte) hx hb (by rw [hml]; exact hl.1.symm) hown (hts (.methodLink RJ7 150 arraycopyName) (by decide +kernel)) (hts (.native arraycopyName) (by decide +kernel)) (hts (.static arraycopyName) (by decide +kernel)) (hts (.initialized "java/lang/System") (by decide +kernel)) hK hP hD hS 0 1 0 0 rfl rfl rfl rfl rfl (by decide) (by decide) (nI_pos (by omega)) (by rw [nI_clamp (by omega)]; show 0 + n ≤ n; omega) (by rw [nI_clamp (by omega)]; show 0 + n ≤ k; omega) (fun i _ => hf _) (Nat.le_of_ble_eq_true rfl) (Nat.le_of_ble_eq_true rfl) dJ7_copyOf_9075b_28 (fun H locs hP hD hS => ?_)
  have hP : va_P D vwCl [(a0, .inl (cy 0, n, .inl f)), (a15, .inl (cy 0, k, .inl (va_cpy f (fun _ => 0) (0 : Int32).toNatClampNeg (0 : Int32).toNatClampNeg ((nI n) : Int32).toNatClampNeg)))] H := hP
  have hD : va_D A [(a0, .inl (cy 0, n, .inl f)), (a15, .inl (cy 0, k, .inl (va_cpy f (fun _ => 0) (0 : Int32).toNatClampNeg (0 : Int32).toNatClampNeg ((nI n) : Int32).toNatClampNeg)))] := hD
  refine lv_aload_n hx hb dJ7_copyOf_9075b_31 rfl (lv_at hl 0 rfl) ?_
  have hP9 : va_P D vwCl [(a0, .inl (cy 0, n, .inl f)), (a15, .inl (cy 0, k, .inl (va_cpy f (fun _ => 0) (0 : Int32).toNatClampNeg (0 : Int32).toNatClampNeg ((nI n) : Int32).toNatClampNeg)))] H := hP.sub [0, 1] rfl
  have hD9 : va_D A [(a0, .inl (cy 0, n, .inl f)), (a15, .inl (cy 0, k, .inl (va_cpy f (fun _ => 0) (0 : Int32).toNatClampNeg (0 : Int32).toNatClampNeg ((nI n) : Int32).toNatClampNeg)))] := hD.sub [0, 1] (by decide) rfl
  refine W.widen (k := 1) (n := k) (by omega) (by omega) ?_
  exact W.aret hx hb hr (Or.inr ⟨_, rfl⟩) (Or.inr ⟨_, rfl⟩) (fun t ht hW => ⟨⟨some a15, (a15, (va_cpy f (fun _ => 0) (0 : Int32).toNatClampNeg (0 : Int32).toNatClampNeg ((nI n) : Int32).toNatClampNeg)), rfl, ⟨rfl, sb_fitC hf sb_fit0, fun j hj => fp_cpy0 (by omega) hj⟩, by rw [ht]; exact hP9, hD9⟩, hS.F ht⟩) hS.2.2 dJ7_copyOf_9075b_32

set_option maxHeartbeats 4000000 in
set_option maxRecDepth 100000 in
theorem c_Bytes_length (l : Launch) (D : va_G) (cy : Nat → ClassId) (e : Nat → Nat)  (h0 : Nat) (lim : Int32) (rm : Nat) (len : Int32)  : Met l yX0_length wsX0_length ({ frames := 0, cells := 0, slots := 0, locals := 0 }) (va_Pc [.ref h0] (pu_B D cy e [(h0, .inr (1, [.int lim, .ref rm, .int len]))])) (va_Qi (fun (r : Int32) (_ : Unit) => r = len) (fun _ _ => True) (fun _ => False)) 0 0 (fun _ => False) := by
  refine Met.ofW (cc := cX0_length) (maxL := 1) (ret := (some .int)) (by decide) rfl ?_
  intro p ev s m args below meth c s₁ B hml hv
  obtain ⟨rfl, hP, hK, hG⟩ := hv
  have hx := B.exec
  have hb := B.bytes
  have hr := B.returns
  have hts := atoms_spec (ws := wsX0_length) B.pre
  have hown : s.vm.findClass RX0 = some m.cls := findClass_of_methodNamed B.named
  have hlocks := B.notSynchronized
  have hS : va_S (fun _ => False) s.heap s.heap [] := va_S.rf
  have hP : va_P D vwCl [(h0, .inr (1, [.int lim, .ref rm, .int len]))] s.heap := hP
  have iX0 : ∀ w ∈ wsX00, w ∈ wsX0_length := fun w h => List.mem_cons_of_mem _ (List.mem_append_right _ h)
  have hl := lv_entry ([.ref h0]) (n := 1) (Nat.le_of_ble_eq_true rfl)
  rw [lg_entry_eq]
  generalize (lg_sl ([.ref h0]) ++ List.replicate (1 - (lg_sl ([.ref h0])).length) Slot.unset).toArray = ls at hl ⊢
  have hl : lv_has ls 1 [(0, .ref h0)] := hl
  refine lv_aload_n hx hb dX0_length_0 rfl (lv_at hl 0 rfl) ?_
  refine va_get (D := D) (ci := 1) (v := .int len) (C := RX0) (T := TX0) (N := 3) hx hb hts iX0 hown hK hP 0 rfl rfl 2 (by decide) (hts (.fieldLink RX0 19 "InterlockTables$Bytes" "length" "I") (by decide +kernel)) (fun _ h9 => h9) rfl dX0_length_1 ?_
  exact W.iret hx hb hr (fun t ht hW => ⟨⟨_, (), rfl, rfl, trivial⟩, hS.F ht⟩) hS.2.2 dX0_length_4

set_option maxHeartbeats 4000000 in
set_option maxRecDepth 100000 in
theorem c_Bytes_at (l : Launch) (D : va_G) (cy : Nat → ClassId) (e : Nat → Nat)  (h0 : Nat) (lim : Int32) (rm : Nat) (len : Nat) (n : Nat) (f : Nat → Int32) (i : Int32) (hle : len ≤ n) (hn : n < 2 ^ 31) : Met l yX0_at wsX0_at ({ frames := 0, cells := 0, slots := 0, locals := 0 }) (va_Pc [.ref h0, .int i] (pu_B D cy e [(h0, .inr (1, [.int lim, .ref rm, .int (nI len)])), (rm, .inl (cy 0, n, .inl f))])) (va_Qi (fun (r : Int32) (_ : Unit) => r = if i < 0 ∨ ¬ i < nI len then -1 else f i.toNatClampNeg) (fun _ _ => True) (fun _ => False)) 0 0 (fun _ => False) := by
  refine Met.ofW (cc := cX0_at) (maxL := 2) (ret := (some .int)) (by decide) rfl ?_
  intro p ev s m args below meth c s₁ B hml hv
  obtain ⟨rfl, hP, hK, hG⟩ := hv
  have hx := B.exec
  have hb := B.bytes
  have hr := B.returns
  have hts := atoms_spec (ws := wsX0_at) B.pre
  have hown : s.vm.findClass RX0 = some m.cls := findClass_of_methodNamed B.named
  have hlocks := B.notSynchronized
  have hS : va_S (fun _ => False) s.heap s.heap [] := va_S.rf
  have hP : va_P D vwCl [(h0, .inr (1, [.int lim, .ref rm, .int (nI len)])), (rm, .inl (cy 0, n, .inl f))] s.heap := hP
  have iX0 : ∀ w ∈ wsX00, w ∈ wsX0_at := fun w h => List.mem_cons_of_mem _ (List.mem_append_right _ h)
  have hl := lv_entry ([.ref h0, .int i]) (n := 2) (Nat.le_of_ble_eq_true rfl)
  rw [lg_entry_eq]
  generalize (lg_sl ([.ref h0, .int i]) ++ List.replicate (2 - (lg_sl ([.ref h0, .int i])).length) Slot.unset).toArray = ls at hl ⊢
  have hl : lv_has ls 2 [(0, .ref h0), (1, .int i)] := hl
  refine lv_iload_n hx hb dX0_at_0 rfl (lv_at hl 1 rfl) ?_
  refine lv_if_lt (tgt := 12) hx hb dX0_at_1 (by decide) (fun c1 => ?_) (fun c1 => ?_)
  · refine lv_iconst (v := -1) hx hb dX0_at_12 (by decide +kernel) ?_
    refine lv_goto (tgt := 22) hx hb dX0_at_13 (by decide) ?_
    exact W.iret hx hb hr (fun t ht hW => ⟨⟨_, (), rfl, by simp [c1], trivial⟩, hS.F ht⟩) hS.2.2 dX0_at_22
  · refine lv_iload_n hx hb dX0_at_4 rfl (lv_at hl 1 rfl) ?_
    refine lv_aload_n hx hb dX0_at_5 rfl (lv_at hl 0 rfl) ?_
    refine va_get (D := D) (ci := 1) (v := .int (nI len)) (C := RX0) (T := TX0) (N := 3) hx hb hts iX0 hown hK hP 0 rfl rfl 2 (by decide) (hts (.fieldLink RX0 19 "InterlockTables$Bytes" "length" "I") (by decide +kernel)) (fun _ h9 => h9) rfl dX0_at_6 ?_
    refine lv_icmp_lt (tgt := 16) hx hb dX0_at_9 (by decide) (fun c9 => ?_) (fun c9 => ?_)
    · refine lv_aload_n hx hb dX0_at_16 rfl (lv_at hl 0 rfl) ?_
      refine va_get (D := D) (ci := 1) (v := .ref rm) (C := RX0) (T := TX0) (N := 3) hx hb hts iX0 hown hK hP 0 rfl rfl 1 (by decide) (hts (.fieldLink RX0 15 "InterlockTables$Bytes" "room" "[B") (by decide +kernel)) (fun _ h9 => h9) rfl dX0_at_17 ?_
      refine lv_iload_n hx hb dX0_at_20 rfl (lv_at hl 1 rfl) ?_
      refine va_bald hx hb hK hP 1 0 rfl rfl (pk_inlt c1 c9 hle hn) dX0_at_21 ?_
      exact W.iret hx hb hr (fun t ht hW => ⟨⟨_, (), rfl, by simp [c1, c9], trivial⟩, hS.F ht⟩) hS.2.2 dX0_at_22
    · refine lv_iconst (v := -1) hx hb dX0_at_12 (by decide +kernel) ?_
      refine lv_goto (tgt := 22) hx hb dX0_at_13 (by decide) ?_
      exact W.iret hx hb hr (fun t ht hW => ⟨⟨_, (), rfl, by simp [c1, c9], trivial⟩, hS.F ht⟩) hS.2.2 dX0_at_22

set_option maxHeartbeats 4000000 in
set_option maxRecDepth 100000 in
theorem c_Bytes_empty (l : Launch) (D : va_G) (cy : Nat → ClassId) (e : Nat → Nat)  (h0 : Nat) (lim : Int32) (rm : Nat) (len : Int32) (sz : Nat)  : Met l yX0_empty wsX0_empty ({ frames := 0, cells := 0, slots := 0, locals := 0 }) (va_Pc [.ref h0] (mt_B D cy e [(h0, .inr (1, [.int lim, .ref rm, .int len]))] sz)) (va_Qv (fun (_ : Unit) => True) (mt_Q D (fun (_ : Unit) => [(h0, .inr (1, [.int lim, .ref rm, .int (nI 0)]))]) (va_A [(h0, .inr (1, [.int lim, .ref rm, .int len]))] sz)) (va_A [(h0, .inr (1, [.int lim, .ref rm, .int len]))] sz)) (0) (0) (va_A [(h0, .inr (1, [.int lim, .ref rm, .int len]))] sz) := by
  refine Met.ofW (cc := cX0_empty) (maxL := 1) (ret := none) (by decide) rfl ?_
  intro p ev s m args below meth c s₁ B hml hv
  obtain ⟨rfl, hsz, hP, hK, hD0, hG⟩ := hv
  have hx := B.exec
  have hb := B.bytes
  have hr := B.returns
  have hts := atoms_spec (ws := wsX0_empty) B.pre
  have hown : s.vm.findClass RX0 = some m.cls := findClass_of_methodNamed B.named
  have hlocks := B.notSynchronized
  subst hsz
  have hD := hD0.self (sz := s.heap.size)
  generalize hAe : va_A [(h0, .inr (1, [.int lim, .ref rm, .int len]))] s.heap.size = A at hD hG ⊢
  have hA : ∀ q : Nat, s.heap.size ≤ q → A q := fun q h => by rw [← hAe]; exact Or.inr h
  have hS : va_S A s.heap s.heap [] := va_S.rf
  have hP : va_P D vwCl [(h0, .inr (1, [.int lim, .ref rm, .int len]))] s.heap := hP
  have iX0 : ∀ w ∈ wsX00, w ∈ wsX0_empty := fun w h => List.mem_cons_of_mem _ (List.mem_append_right _ h)
  have hl := lv_entry ([.ref h0]) (n := 1) (Nat.le_of_ble_eq_true rfl)
  rw [lg_entry_eq]
  generalize (lg_sl ([.ref h0]) ++ List.replicate (1 - (lg_sl ([.ref h0])).length) Slot.unset).toArray = ls at hl ⊢
  have hl : lv_has ls 1 [(0, .ref h0)] := hl
  refine lv_aload_n hx hb dX0_empty_0 rfl (lv_at hl 0 rfl) ?_
  refine lv_iconst (v := 0) hx hb dX0_empty_1 (by decide +kernel) ?_
  refine lv_topi (fun x_1 ex_1 => ?_)
  obtain rfl : x_1 = nI 0 := by rw [ex_1]; exact nI_0.symm
  refine va_put (D := D) (ci := 1) (v := .int (nI 0)) (ty := .int) (C := RX0) (T := TX0) (N := 3) hx hb hts iX0 tyX0 tyX0_ok nmX0 hown hK hP hD hS 0 rfl rfl 2 (by decide) (hts (.fieldLink RX0 19 "InterlockTables$Bytes" "length" "I") (by decide +kernel)) (fun _ h9 => h9) rfl (by decide +kernel) rfl rfl (Nat.le_of_ble_eq_true rfl) dX0_empty_2 (fun H locs hP hD hS => ?_)
  have hP : va_P D vwCl [(h0, .inr (1, [.int lim, .ref rm, .int (nI 0)]))] H := hP
  have hD : va_D A [(h0, .inr (1, [.int lim, .ref rm, .int (nI 0)]))] := hD
  have hP9 : va_P D vwCl [(h0, .inr (1, [.int lim, .ref rm, .int (nI 0)]))] H := hP.sub [0] rfl
  have hD9 : va_D A [(h0, .inr (1, [.int lim, .ref rm, .int (nI 0)]))] := hD.sub [0] (by decide) rfl
  refine W.widen (k := 0) (n := 0) (by omega) (by omega) ?_
  exact W.vret hx hb hr (fun t ht hW => ⟨⟨(), rfl, trivial, by rw [ht]; exact hP9, hD9⟩, hS.F ht⟩) hS.2.2 dX0_empty_5

set_option maxHeartbeats 4000000 in
set_option maxRecDepth 100000 in
/-- add -/
theorem c_Bytes_add (l : Launch) (D : va_G) (cy : Nat → ClassId) (e : Nat → Nat)  (h0 : Nat) (lim : Nat) (rm : Nat) (len : Nat) (n : Nat) (f : Nat → Int32) (b : Int32) (sz : Nat) (hlim : lim ≤ 6000) (hle : len ≤ n) (hn : 1 ≤ n ∧ n ≤ 8192) (hf : sb_Fit f) : Met l yX0_add wsX0_add ({ frames := 2, cells := if len < lim ∧ n ≤ len then 1 else 0, slots := if len < lim ∧ n ≤ len then 2 * n else 0, locals := 82 }) (va_Pc [.ref h0, .int b] (mt_B D cy e [(h0, .inr (1, [.int (nI lim), .ref rm, .int (nI len)])), (rm, .inl (cy 0, n, .inl f))] sz)) (va_Qi (fun (r : Int32) (u : Nat × Nat × Nat × (Nat → Int32)) => match u with | (rm2, n2, len2, f2) => (r = 0 ∧ lim ≤ len ∧ rm2 = rm ∧ n2 = n ∧ len2 = len ∧ f2 = f) ∨ (r = 1 ∧ len < lim ∧ len2 = len + 1 ∧ sb_Fit f2 ∧ ((len < n ∧ n2 = n ∧ rm2 = rm) ∨ (n ≤ len ∧ n2 = 2 * n)) ∧ (∀ j, j < len → f2 j = f j) ∧ f2 len = vp_nar .byte b.toInt8.toInt32)) (mt_Q D (fun (u : Nat × Nat × Nat × (Nat → Int32)) => match u with | (rm2, n2, len2, f2) => [(h0, .inr (1, [.int (nI lim), .ref rm2, .int (nI len2)])), (rm2, .inl (cy 0, n2, .inl f2))]) (va_A [(h0, .inr (1, [.int (nI lim), .ref rm, .int (nI len)])), (rm, .inl (cy 0, n, .inl f))] sz)) (va_A [(h0, .inr (1, [.int (nI lim), .ref rm, .int (nI len)])), (rm, .inl (cy 0, n, .inl f))] sz)) (if len < lim ∧ n ≤ len then 1 else 0) (if len < lim ∧ n ≤ len then 2 * n else 0) (va_A [(h0, .inr (1, [.int (nI lim), .ref rm, .int (nI len)])), (rm, .inl (cy 0, n, .inl f))] sz) := by
  refine Met.ofW (cc := cX0_add) (maxL := 2) (ret := (some .boolean)) (by decide) rfl ?_
  intro p ev s m args below meth c s₁ B hml hv
  obtain ⟨rfl, hsz, hP, hK, hD0, hG⟩ := hv
  have hx := B.exec
  have hb := B.bytes
  have hr := B.returns
  have hts := atoms_spec (ws := wsX0_add) B.pre
  have hown : s.vm.findClass RX0 = some m.cls := findClass_of_methodNamed B.named
  have hlocks := B.notSynchronized
  subst hsz
  have hD := hD0.self (sz := s.heap.size)
  generalize hAe : va_A [(h0, .inr (1, [.int (nI lim), .ref rm, .int (nI len)])), (rm, .inl (cy 0, n, .inl f))] s.heap.size = A at hD hG ⊢
  have hA : ∀ q : Nat, s.heap.size ≤ q → A q := fun q h => by rw [← hAe]; exact Or.inr h
  have hS : va_S A s.heap s.heap [] := va_S.rf
  have hP : va_P D vwCl [(h0, .inr (1, [.int (nI lim), .ref rm, .int (nI len)])), (rm, .inl (cy 0, n, .inl f))] s.heap := hP
  have iX0 : ∀ w ∈ wsX00, w ∈ wsX0_add := fun w h => List.mem_cons_of_mem _ (List.mem_append_right _ h)
  have hl := lv_entry ([.ref h0, .int b]) (n := 2) (Nat.le_of_ble_eq_true rfl)
  rw [lg_entry_eq]
  generalize (lg_sl ([.ref h0, .int b]) ++ List.replicate (2 - (lg_sl ([.ref h0, .int b])).length) Slot.unset).toArray = ls at hl ⊢
  have hl : lv_has ls 2 [(0, .ref h0), (1, .int b)] := hl
  refine lv_aload_n hx hb dX0_add_0 rfl (lv_at hl 0 rfl) ?_
  refine va_get (D := D) (ci := 1) (v := .int (nI len)) (C := RX0) (T := TX0) (N := 3) hx hb hts iX0 hown hK hP 0 rfl rfl 2 (by decide) (hts (.fieldLink RX0 19 "InterlockTables$Bytes" "length" "I") (by decide +kernel)) (fun _ h9 => h9) rfl dX0_add_1 ?_
  refine lv_aload_n hx hb dX0_add_4 rfl (lv_at hl 0 rfl) ?_
  refine va_get (D := D) (ci := 1) (v := .int (nI lim)) (C := RX0) (T := TX0) (N := 3) hx hb hts iX0 hown hK hP 0 rfl rfl 0 (by decide) (hts (.fieldLink RX0 9 "InterlockTables$Bytes" "limit" "I") (by decide +kernel)) (fun _ h9 => h9) rfl dX0_add_5 ?_
  refine lv_icmp_lt (tgt := 13) hx hb dX0_add_8 (by decide) (fun c8 => ?_) (fun c8 => ?_)
  · have hlt8 : len < lim := qk_lt (by omega) (by omega) c8
    refine lv_aload_n hx hb dX0_add_13 rfl (lv_at hl 0 rfl) ?_
    refine va_get (D := D) (ci := 1) (v := .int (nI len)) (C := RX0) (T := TX0) (N := 3) hx hb hts iX0 hown hK hP 0 rfl rfl 2 (by decide) (hts (.fieldLink RX0 19 "InterlockTables$Bytes" "length" "I") (by decide +kernel)) (fun _ h9 => h9) rfl dX0_add_14 ?_
    refine lv_aload_n hx hb dX0_add_17 rfl (lv_at hl 0 rfl) ?_
    refine va_get (D := D) (ci := 1) (v := .ref rm) (C := RX0) (T := TX0) (N := 3) hx hb hts iX0 hown hK hP 0 rfl rfl 1 (by decide) (hts (.fieldLink RX0 15 "InterlockTables$Bytes" "room" "[B") (by decide +kernel)) (fun _ h9 => h9) rfl dX0_add_18 ?_
    refine va_alen hx hb hK hP 1 0 rfl rfl (v := nI n) rfl dX0_add_21 ?_
    refine lv_icmp_lt (tgt := 43) hx hb dX0_add_22 (by decide) (fun c22 => ?_) (fun c22 => ?_)
    · have hlt22 : len < n := qk_lt (by omega) (by omega) c22
      refine lv_aload_n hx hb dX0_add_43 rfl (lv_at hl 0 rfl) ?_
      refine va_get (D := D) (ci := 1) (v := .ref rm) (C := RX0) (T := TX0) (N := 3) hx hb hts iX0 hown hK hP 0 rfl rfl 1 (by decide) (hts (.fieldLink RX0 15 "InterlockTables$Bytes" "room" "[B") (by decide +kernel)) (fun _ h9 => h9) rfl dX0_add_44 ?_
      refine lv_aload_n hx hb dX0_add_47 rfl (lv_at hl 0 rfl) ?_
      refine va_get (D := D) (ci := 1) (v := .int (nI len)) (C := RX0) (T := TX0) (N := 3) hx hb hts iX0 hown hK hP 0 rfl rfl 2 (by decide) (hts (.fieldLink RX0 19 "InterlockTables$Bytes" "length" "I") (by decide +kernel)) (fun _ h9 => h9) rfl dX0_add_48 ?_
      refine lv_iload_n hx hb dX0_add_51 rfl (lv_at hl 1 rfl) ?_
      refine lv_i2b (v := b.toInt8.toInt32) hx hb dX0_add_52 (rfl) ?_
      refine va_bast hx hb hK hP hD hS 1 0 rfl rfl (vp_in_nI (by omega) (by omega)) dX0_add_53 (fun H locs hP hD hS => ?_)
      have hP : va_P D vwCl [(h0, .inr (1, [.int (nI lim), .ref rm, .int (nI len)])), (rm, .inl (cy 0, n, .inl (upd f (nI len).toNatClampNeg (vp_nar .byte b.toInt8.toInt32))))] H := hP
      have hD : va_D A [(h0, .inr (1, [.int (nI lim), .ref rm, .int (nI len)])), (rm, .inl (cy 0, n, .inl (upd f (nI len).toNatClampNeg (vp_nar .byte b.toInt8.toInt32))))] := hD
      have ef_53 : (upd f (nI len).toNatClampNeg (vp_nar .byte b.toInt8.toInt32)) = (upd f len (vp_nar .byte b.toInt8.toInt32)) := by rw [nI_clamp (by omega)]
      rw [ef_53] at hP hD
      refine lv_aload_n hx hb dX0_add_54 rfl (lv_at hl 0 rfl) ?_
      refine lv_dup hx hb dX0_add_55 rfl ?_
      refine va_get (D := D) (ci := 1) (v := .int (nI len)) (C := RX0) (T := TX0) (N := 3) hx hb hts iX0 hown hK hP 0 rfl rfl 2 (by decide) (hts (.fieldLink RX0 19 "InterlockTables$Bytes" "length" "I") (by decide +kernel)) (fun _ h9 => h9) rfl dX0_add_56 ?_
      refine lv_iconst (v := 1) hx hb dX0_add_59 (by decide +kernel) ?_
      refine lv_iadd hx hb dX0_add_60 ?_
      refine lv_topi (fun x_1 ex_1 => ?_)
      obtain rfl : x_1 = nI (len + 1) := by rw [ex_1]; exact nI_1 len
      refine va_put (D := D) (ci := 1) (v := .int (nI (len + 1))) (ty := .int) (C := RX0) (T := TX0) (N := 3) hx hb hts iX0 tyX0 tyX0_ok nmX0 hown hK hP hD hS 0 rfl rfl 2 (by decide) (hts (.fieldLink RX0 19 "InterlockTables$Bytes" "length" "I") (by decide +kernel)) (fun _ h9 => h9) rfl (by decide +kernel) rfl rfl (Nat.le_of_ble_eq_true rfl) dX0_add_61 (fun H locs hP hD hS => ?_)
      have hP : va_P D vwCl [(h0, .inr (1, [.int (nI lim), .ref rm, .int (nI (len + 1))])), (rm, .inl (cy 0, n, .inl (upd f len (vp_nar .byte b.toInt8.toInt32))))] H := hP
      have hD : va_D A [(h0, .inr (1, [.int (nI lim), .ref rm, .int (nI (len + 1))])), (rm, .inl (cy 0, n, .inl (upd f len (vp_nar .byte b.toInt8.toInt32))))] := hD
      refine lv_iconst (v := 1) hx hb dX0_add_64 (by decide +kernel) ?_
      have hP9 : va_P D vwCl [(h0, .inr (1, [.int (nI lim), .ref rm, .int (nI (len + 1))])), (rm, .inl (cy 0, n, .inl (upd f len (vp_nar .byte b.toInt8.toInt32))))] H := hP.sub [0, 1] rfl
      have hD9 : va_D A [(h0, .inr (1, [.int (nI lim), .ref rm, .int (nI (len + 1))])), (rm, .inl (cy 0, n, .inl (upd f len (vp_nar .byte b.toInt8.toInt32))))] := hD.sub [0, 1] (by decide) rfl
      refine W.widen (k := if len < lim ∧ n ≤ len then 1 else 0) (n := if len < lim ∧ n ≤ len then 2 * n else 0) (by omega) (by omega) ?_
      exact W.zret hx hb hr rfl (fun t ht hW => ⟨⟨_, (rm, n, (len + 1), (upd f len (vp_nar .byte b.toInt8.toInt32))), rfl, Or.inr ⟨rfl, hlt8, rfl, sb_fitU hf (fitB _), Or.inl ⟨hlt22, rfl, rfl⟩, fun j hj => pk_un (by omega), pk_us⟩, by rw [ht]; exact hP9, hD9⟩, hS.F ht⟩) hS.2.2 dX0_add_65
    · have hge : n ≤ len := qk_nge (by omega) c22
      refine lv_aload_n hx hb dX0_add_25 rfl (lv_at hl 0 rfl) ?_
      refine lv_aload_n hx hb dX0_add_26 rfl (lv_at hl 0 rfl) ?_
      refine va_get (D := D) (ci := 1) (v := .ref rm) (C := RX0) (T := TX0) (N := 3) hx hb hts iX0 hown hK hP 0 rfl rfl 1 (by decide) (hts (.fieldLink RX0 15 "InterlockTables$Bytes" "room" "[B") (by decide +kernel)) (fun _ h9 => h9) rfl dX0_add_27 ?_
      refine lv_iconst (v := 2) hx hb dX0_add_30 (by decide +kernel) ?_
      refine lv_aload_n hx hb dX0_add_31 rfl (lv_at hl 0 rfl) ?_
      refine va_get (D := D) (ci := 1) (v := .ref rm) (C := RX0) (T := TX0) (N := 3) hx hb hts iX0 hown hK hP 0 rfl rfl 1 (by decide) (hts (.fieldLink RX0 15 "InterlockTables$Bytes" "room" "[B") (by decide +kernel)) (fun _ h9 => h9) rfl dX0_add_32 ?_
      refine va_alen hx hb hK hP 1 0 rfl rfl (v := nI n) rfl dX0_add_35 ?_
      refine lv_imul hx hb dX0_add_36 ?_
      refine lv_topi (fun x_2 ex_2 => ?_)
      obtain rfl : x_2 = nI (2 * n) := by rw [ex_2]; exact pk_mul 2 n
      refine mt_callq (wr := [(h0, .inr (1, [.int (nI lim), .ref rm, .int (nI len)]))]) (va_runS (As := [.ref rm, .int (nI (2 * n))]) (rest := [.ref h0]) ⟨hx, hb, hml, hown, hts⟩ (c_copyOfB l D cy e rm n f (2 * n) s.heap.size (by omega) (by omega) hf) (va_cwS 2 hts gX0_add_J7_copyOf_9075b rfl rfl rfl (by decide +kernel) ⟨Nat.le_of_ble_eq_true rfl, Nat.le_of_ble_eq_true rfl⟩) (mt_preS hP hD hK hS hA hG [1] rfl (by decide)) rfl rfl hl.1 rfl (lv_room (Nat.le_of_ble_eq_true rfl)) dX0_add_37 ⟨show 0 + 1 ≤ (if len < lim ∧ n ≤ len then 1 else 0) from by rw [if_pos ⟨hlt8, hge⟩]; omega, show 0 + 2 * n ≤ (if len < lim ∧ n ≤ len then 2 * n else 0) from by rw [if_pos ⟨hlt8, hge⟩]; omega⟩) hP hD hS hA [1] [0] rfl rfl (by decide) (by decide) (fun r37 u H locs hw hP hD hS => ?_)
      obtain ⟨a2_37, f2_37⟩ := u
      have hP : va_P D vwCl [(h0, .inr (1, [.int (nI lim), .ref rm, .int (nI len)])), (rm, .inl (cy 0, n, .inl f)), (a2_37, .inl (cy 0, 2 * n, .inl f2_37))] H := hP
      have hD : va_D A [(h0, .inr (1, [.int (nI lim), .ref rm, .int (nI len)])), (rm, .inl (cy 0, n, .inl f)), (a2_37, .inl (cy 0, 2 * n, .inl f2_37))] := hD
      replace hw : r37 = some a2_37 ∧ sb_Fit f2_37 ∧ ∀ j, j < n → f2_37 j = f j := hw
      refine W.widen (k := 1) (n := 2 * n) (by omega) (by omega) ?_
      have hw37 := hw
      obtain rfl : r37 = some a2_37 := hw.1
      refine va_put (D := D) (ci := 1) (v := .ref a2_37) (ty := (.array .byte)) (C := RX0) (T := TX0) (N := 3) hx hb hts iX0 tyX0 tyX0_ok nmX0 hown hK hP hD hS 0 rfl rfl 1 (by decide) (hts (.fieldLink RX0 15 "InterlockTables$Bytes" "room" "[B") (by decide +kernel)) (fun _ h9 => h9) rfl (by decide +kernel) rfl rfl (Nat.le_of_ble_eq_true rfl) dX0_add_40 (fun H locs hP hD hS => ?_)
      have hP : va_P D vwCl [(h0, .inr (1, [.int (nI lim), .ref a2_37, .int (nI len)])), (rm, .inl (cy 0, n, .inl f)), (a2_37, .inl (cy 0, 2 * n, .inl f2_37))] H := hP
      have hD : va_D A [(h0, .inr (1, [.int (nI lim), .ref a2_37, .int (nI len)])), (rm, .inl (cy 0, n, .inl f)), (a2_37, .inl (cy 0, 2 * n, .inl f2_37))] := hD
      refine lv_aload_n hx hb dX0_add_43 rfl (lv_at hl 0 rfl) ?_
      refine va_get (D := D) (ci := 1) (v := .ref a2_37) (C := RX0) (T := TX0) (N := 3) hx hb hts iX0 hown hK hP 0 rfl rfl 1 (by decide) (hts (.fieldLink RX0 15 "InterlockTables$Bytes" "room" "[B") (by decide +kernel)) (fun _ h9 => h9) rfl dX0_add_44 ?_
      refine lv_aload_n hx hb dX0_add_47 rfl (lv_at hl 0 rfl) ?_
      refine va_get (D := D) (ci := 1) (v := .int (nI len)) (C := RX0) (T := TX0) (N := 3) hx hb hts iX0 hown hK hP 0 rfl rfl 2 (by decide) (hts (.fieldLink RX0 19 "InterlockTables$Bytes" "length" "I") (by decide +kernel)) (fun _ h9 => h9) rfl dX0_add_48 ?_
      refine lv_iload_n hx hb dX0_add_51 rfl (lv_at hl 1 rfl) ?_
      refine lv_i2b (v := b.toInt8.toInt32) hx hb dX0_add_52 (rfl) ?_
      refine va_bast hx hb hK hP hD hS 2 0 rfl rfl (vp_in_nI (by omega) (by omega)) dX0_add_53 (fun H locs hP hD hS => ?_)
      have hP : va_P D vwCl [(h0, .inr (1, [.int (nI lim), .ref a2_37, .int (nI len)])), (rm, .inl (cy 0, n, .inl f)), (a2_37, .inl (cy 0, 2 * n, .inl (upd f2_37 (nI len).toNatClampNeg (vp_nar .byte b.toInt8.toInt32))))] H := hP
      have hD : va_D A [(h0, .inr (1, [.int (nI lim), .ref a2_37, .int (nI len)])), (rm, .inl (cy 0, n, .inl f)), (a2_37, .inl (cy 0, 2 * n, .inl (upd f2_37 (nI len).toNatClampNeg (vp_nar .byte b.toInt8.toInt32))))] := hD
      have ef_53 : (upd f2_37 (nI len).toNatClampNeg (vp_nar .byte b.toInt8.toInt32)) = (upd f2_37 len (vp_nar .byte b.toInt8.toInt32)) := by rw [nI_clamp (by omega)]
      rw [ef_53] at hP hD
      refine lv_aload_n hx hb dX0_add_54 rfl (lv_at hl 0 rfl) ?_
      refine lv_dup hx hb dX0_add_55 rfl ?_
      refine va_get (D := D) (ci := 1) (v := .int (nI len)) (C := RX0) (T := TX0) (N := 3) hx hb hts iX0 hown hK hP 0 rfl rfl 2 (by decide) (hts (.fieldLink RX0 19 "InterlockTables$Bytes" "length" "I") (by decide +kernel)) (fun _ h9 => h9) rfl dX0_add_56 ?_
      refine lv_iconst (v := 1) hx hb dX0_add_59 (by decide +kernel) ?_
      refine lv_iadd hx hb dX0_add_60 ?_
      refine lv_topi (fun x_3 ex_3 => ?_)
      obtain rfl : x_3 = nI (len + 1) := by rw [ex_3]; exact nI_1 len
      refine va_put (D := D) (ci := 1) (v := .int (nI (len + 1))) (ty := .int) (C := RX0) (T := TX0) (N := 3) hx hb hts iX0 tyX0 tyX0_ok nmX0 hown hK hP hD hS 0 rfl rfl 2 (by decide) (hts (.fieldLink RX0 19 "InterlockTables$Bytes" "length" "I") (by decide +kernel)) (fun _ h9 => h9) rfl (by decide +kernel) rfl rfl (Nat.le_of_ble_eq_true rfl) dX0_add_61 (fun H locs hP hD hS => ?_)
      have hP : va_P D vwCl [(h0, .inr (1, [.int (nI lim), .ref a2_37, .int (nI (len + 1))])), (rm, .inl (cy 0, n, .inl f)), (a2_37, .inl (cy 0, 2 * n, .inl (upd f2_37 len (vp_nar .byte b.toInt8.toInt32))))] H := hP
      have hD : va_D A [(h0, .inr (1, [.int (nI lim), .ref a2_37, .int (nI (len + 1))])), (rm, .inl (cy 0, n, .inl f)), (a2_37, .inl (cy 0, 2 * n, .inl (upd f2_37 len (vp_nar .byte b.toInt8.toInt32))))] := hD
      refine lv_iconst (v := 1) hx hb dX0_add_64 (by decide +kernel) ?_
      have hP9 : va_P D vwCl [(h0, .inr (1, [.int (nI lim), .ref a2_37, .int (nI (len + 1))])), (a2_37, .inl (cy 0, 2 * n, .inl (upd f2_37 len (vp_nar .byte b.toInt8.toInt32))))] H := hP.sub [0, 2] rfl
      have hD9 : va_D A [(h0, .inr (1, [.int (nI lim), .ref a2_37, .int (nI (len + 1))])), (a2_37, .inl (cy 0, 2 * n, .inl (upd f2_37 len (vp_nar .byte b.toInt8.toInt32))))] := hD.sub [0, 2] (by decide) rfl
      refine W.widen (k := if len < lim ∧ n ≤ len then 1 else 0) (n := if len < lim ∧ n ≤ len then 2 * n else 0) (by rw [if_pos ⟨hlt8, hge⟩]; omega) (by rw [if_pos ⟨hlt8, hge⟩]; omega) ?_
      exact W.zret hx hb hr rfl (fun t ht hW => ⟨⟨_, (a2_37, (2 * n), (len + 1), (upd f2_37 len (vp_nar .byte b.toInt8.toInt32))), rfl, Or.inr ⟨rfl, hlt8, rfl, sb_fitU hw37.2.1 (fitB _), Or.inr ⟨hge, rfl⟩, fun j hj => (pk_un (by omega)).trans (hw37.2.2 j (by omega)), pk_us⟩, by rw [ht]; exact hP9, hD9⟩, hS.F ht⟩) hS.2.2 dX0_add_65
  · refine lv_iconst (v := 0) hx hb dX0_add_11 (by decide +kernel) ?_
    have hP9 : va_P D vwCl [(h0, .inr (1, [.int (nI lim), .ref rm, .int (nI len)])), (rm, .inl (cy 0, n, .inl f))] s.heap := hP.sub [0, 1] rfl
    have hD9 : va_D A [(h0, .inr (1, [.int (nI lim), .ref rm, .int (nI len)])), (rm, .inl (cy 0, n, .inl f))] := hD.sub [0, 1] (by decide) rfl
    refine W.widen (k := if len < lim ∧ n ≤ len then 1 else 0) (n := if len < lim ∧ n ≤ len then 2 * n else 0) (by omega) (by omega) ?_
    exact W.zret hx hb hr rfl (fun t ht hW => ⟨⟨_, (rm, n, len, f), rfl, Or.inl ⟨rfl, qk_nge (by omega) c8, rfl, rfl, rfl, rfl⟩, by rw [ht]; exact hP9, hD9⟩, hS.F ht⟩) hS.2.2 dX0_add_12
