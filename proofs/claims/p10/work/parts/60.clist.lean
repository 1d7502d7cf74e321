-- deps: 52 59

theorem pk_mx1 {k : Nat} (h : 1 ≤ k) (hk : k < 2 ^ 31) : (if nI 1 < nI k then nI k else nI 1) = nI k := by
  by_cases h1 : 1 < k
  · exact if_pos (nI_lt h1 hk)
  · have e1 : k = 1 := by omega
    subst e1
    exact if_neg (nI_nlt (by omega) (by decide))
theorem pk_sub1 {n : Nat} : nI (n + 1) - nI n = nI 1 := by
  have k := pk_sub (a := n + 1) (b := n) (by omega)
  rw [Nat.add_sub_cancel_left] at k
  exact k
theorem pk_half {n : Nat} (hn : n < 2 ^ 31) : nI n >>> ((1 : Int32) &&& 31) = nI (n / 2) := by
  have k := pk_shrN (n := n) hn ((1 : Int32) &&& 31) 1 (by decide)
  rw [Nat.pow_one] at k
  exact k
set_option maxHeartbeats 4000000 in
set_option maxRecDepth 100000 in
theorem c_newLength (l : Launch) (D : va_G) (cy : Nat → ClassId) (e : Nat → Nat)  (n : Nat) (k : Nat) (hk : 1 ≤ k ∧ k ≤ 65536) (hn : n ≤ 65536) : Met l yJ8_newLength_cabcc wsJ8_newLength_cabcc ({ frames := 1, cells := 0, slots := 0, locals := 14 }) (va_Pc [.int (nI n), .int (nI 1), .int (nI k)] (pu_B D cy e [])) (va_Qi (fun (r : Int32) (_ : Unit) => r = nI (n + k)) (fun _ _ => True) (fun _ => False)) 0 0 (fun _ => False) := by
  refine Met.ofW (cc := cJ8_newLength_cabcc) (maxL := 4) (ret := (some .int)) (by decide) rfl ?_
  intro p ev s m args below meth c s₁ B hml hv
  obtain ⟨rfl, hP, hK, hG⟩ := hv
  have hx := B.exec
  have hb := B.bytes
  have hr := B.returns
  have hts := atoms_spec (ws := wsJ8_newLength_cabcc) B.pre
  have hown : s.vm.findClass RJ8 = some m.cls := findClass_of_methodNamed B.named
  have hlocks := B.notSynchronized
  have hS : va_S (fun _ => False) s.heap s.heap [] := va_S.rf
  have hP : va_P D vwCl [] s.heap := hP
  have hl := lv_entry ([.int (nI n), .int (nI 1), .int (nI k)]) (n := 4) (Nat.le_of_ble_eq_true rfl)
  rw [lg_entry_eq]
  generalize (lg_sl ([.int (nI n), .int (nI 1), .int (nI k)]) ++ List.replicate (4 - (lg_sl ([.int (nI n), .int (nI 1), .int (nI k)])).length) Slot.unset).toArray = ls at hl ⊢
  have hl : lv_has ls 4 [(0, .int (nI n)), (1, .int (nI 1)), (2, .int (nI k))] := hl
  refine lv_iload_n hx hb dJ8_newLength_cabcc_0 rfl (lv_at hl 0 rfl) ?_
  refine lv_iload_n hx hb dJ8_newLength_cabcc_1 rfl (lv_at hl 1 rfl) ?_
  refine lv_iload_n hx hb dJ8_newLength_cabcc_2 rfl (lv_at hl 2 rfl) ?_
  refine va_mmax hx hb (by rw [hml]; exact hl.1.symm) hown (hts (.methodLink RJ8 194 Lib.Math.max.name) (by decide +kernel)) (hts (.static Lib.Math.max.name) (by decide +kernel)) (hts (.initialized "java/lang/Math") (by decide +kernel)) (hts (.code Lib.Math.max.name Lib.Math.max.code 2 (some .int)) (by decide +kernel)) (Nat.le_of_ble_eq_true rfl) (Nat.le_of_ble_eq_true rfl) (Nat.le_of_ble_eq_true rfl) (Nat.le_of_ble_eq_true rfl) dJ8_newLength_cabcc_3 ?_
  refine lv_topi (fun x_1 ex_1 => ?_)
  obtain rfl : x_1 = nI k := by rw [ex_1]; exact pk_mx1 hk.1 (by omega)
  refine lv_iadd hx hb dJ8_newLength_cabcc_6 ?_
  refine lv_topi (fun x_2 ex_2 => ?_)
  obtain rfl : x_2 = nI (n + k) := by rw [ex_2]; exact nI_add n k
  refine lv_istore_n (lv' := [(3, .int (nI (n + k))), (0, .int (nI n)), (1, .int (nI 1)), (2, .int (nI k))]) hx hb dJ8_newLength_cabcc_7 rfl hl (by decide) rfl (fun ls hl => ?_)
  refine lv_iconst (v := 0) hx hb dJ8_newLength_cabcc_8 (by decide +kernel) ?_
  refine lv_iload_n hx hb dJ8_newLength_cabcc_9 rfl (lv_at hl 0 rfl) ?_
  refine lv_icmp_ge (tgt := 21) hx hb dJ8_newLength_cabcc_10 (by decide) (fun c10 => absurd c10 (fun h9 => absurd ((nI_leI (a := n + k) (b := 0) (by omega) (by decide)).mp h9) (by omega))) (fun _ => ?_)
  refine lv_iload_n hx hb dJ8_newLength_cabcc_13 rfl (lv_at hl 0 rfl) ?_
  refine lv_ldc (v := 2147483639) hx hb hown (hts (.constant RJ8 200 (2147483639)) (by decide +kernel)) dJ8_newLength_cabcc_14 ?_
  refine lv_icmp_gt (tgt := 21) hx hb dJ8_newLength_cabcc_16 (by decide) (fun c16 => absurd c16 (fun h9 => absurd ((nI_ltI (a := 2147483639) (b := n + k) (by decide) (by omega)).mp h9) (by omega))) (fun _ => ?_)
  refine lv_iload_n hx hb dJ8_newLength_cabcc_19 rfl (lv_at hl 0 rfl) ?_
  exact W.iret hx hb hr (fun t ht hW => ⟨⟨_, (), rfl, rfl, trivial⟩, hS.F ht⟩) hS.2.2 dJ8_newLength_cabcc_20

set_option maxHeartbeats 4000000 in
set_option maxRecDepth 100000 in
theorem c_copyOfO3 (l : Launch) (D : va_G) (cy : Nat → ClassId) (e : Nat → Nat)  (ea : Nat) (n : Nat) (f : Nat → Option Nat) (rs : List rwT) (k : Nat) (sz : Nat) (hls : lsok e ea n f rs) (hfull : rs.length = n) (hk : n < k ∧ k ≤ 65536) : Met l yJ7_copyOf_6403c wsJ7_copyOf_6403c ({ frames := 1, cells := 1, slots := k, locals := 60 }) (va_Pc [.ref ea, .int (nI k), .ref (e 2)] (mt_B D cy e ([(ea, .inl (cy 5, n, .inr (.inr (.inr (.inr f)))))] ++ (rpool cy rs)) sz)) (va_Qq (fun (r : Option Nat) (a2 : Nat) => r = some a2) (mt_Q D (fun a2 => ([(ea, .inl (cy 5, n, .inr (.inr (.inr (.inr f))))), (a2, .inl (cy 5, k, .inr (.inr (.inr (.inr (va_cpy f (fun _ => none) 0 0 n))))))] ++ (rpool cy rs))) (va_A ([(ea, .inl (cy 5, n, .inr (.inr (.inr (.inr f)))))] ++ (rpool cy rs)) sz)) (va_A ([(ea, .inl (cy 5, n, .inr (.inr (.inr (.inr f)))))] ++ (rpool cy rs)) sz)) (1) (k) (va_A ([(ea, .inl (cy 5, n, .inr (.inr (.inr (.inr f)))))] ++ (rpool cy rs)) sz) := by
  refine Met.ofW (cc := cJ7_copyOf_6403c) (maxL := 4) (ret := (some (.array (.object "java/lang/Object")))) (by decide) rfl ?_
  intro p ev s m args below meth c s₁ B hml hv
  obtain ⟨rfl, hsz, hP, hK, hD0, hG⟩ := hv
  have hx := B.exec
  have hb := B.bytes
  have hr := B.returns
  have hts := atoms_spec (ws := wsJ7_copyOf_6403c) B.pre
  have hown : s.vm.findClass RJ7 = some m.cls := findClass_of_methodNamed B.named
  have hlocks := B.notSynchronized
  subst hsz
  have hD := hD0.self (sz := s.heap.size)
  generalize hAe : va_A ([(ea, .inl (cy 5, n, .inr (.inr (.inr (.inr f)))))] ++ (rpool cy rs)) s.heap.size = A at hD hG ⊢
  have hA : ∀ q : Nat, s.heap.size ≤ q → A q := fun q h => by rw [← hAe]; exact Or.inr h
  have hS : va_S A s.heap s.heap [] := va_S.rf
  have hP : va_P D vwCl ([(ea, .inl (cy 5, n, .inr (.inr (.inr (.inr f)))))] ++ (rpool cy rs)) s.heap := hP
  have hl := lv_entry ([.ref ea, .int (nI k), .ref (e 2)]) (n := 4) (Nat.le_of_ble_eq_true rfl)
  rw [lg_entry_eq]
  generalize (lg_sl ([.ref ea, .int (nI k), .ref (e 2)]) ++ List.replicate (4 - (lg_sl ([.ref ea, .int (nI k), .ref (e 2)])).length) Slot.unset).toArray = ls at hl ⊢
  have hl : lv_has ls 4 [(0, .ref ea), (1, .int (nI k)), (2, .ref (e 2))] := hl
  refine lv_aload_n hx hb dJ7_copyOf_6403c_0 rfl (lv_at hl 2 rfl) ?_
  refine va_ldcM (mi := e 2) hx hb hown (hts (.classLink RJ7 110 "[Ljava/lang/Object;") (by decide +kernel)) hG.gX.2.2.2.2.2.2.2.2.1 dJ7_copyOf_6403c_1 ?_
  refine lv_acmp_ne (rx := some (e 2)) (ry := some (e 2)) (tgt := 13) hx hb dJ7_copyOf_6403c_3 (by decide) (fun h9 => absurd rfl h9) (fun _ => ?_)
  refine lv_iload_n hx hb dJ7_copyOf_6403c_6 rfl (lv_at hl 1 rfl) ?_
  refine nq_new (N' := k) hx hb hown (hts (.classLink RJ7 2 "java/lang/Object") (by decide +kernel)) hK hG hP hD hS hA (nI_pos (by omega)) (nI_clamp (by omega)) (by omega) (Nat.le_of_ble_eq_true rfl) (show 0 + k ≤ k from by omega) dJ7_copyOf_6403c_7 (fun a7 H hP hD hS => ?_)
  replace hP := tl_Pp tl_snoc hP
  replace hD := tl_Dp tl_snoc hD
  have hP : va_P D vwCl ([(ea, .inl (cy 5, n, .inr (.inr (.inr (.inr f))))), (a7, .inl (cy 5, k, .inr (.inr (.inr (.inr (fun _ => none))))))] ++ (rpool cy rs)) H := hP
  have hD : va_D A ([(ea, .inl (cy 5, n, .inr (.inr (.inr (.inr f))))), (a7, .inl (cy 5, k, .inr (.inr (.inr (.inr (fun _ => none))))))] ++ (rpool cy rs)) := hD
  refine W.widen (k := 1) (n := k) (by omega) (by omega) ?_
  refine lv_goto (tgt := 24) hx hb dJ7_copyOf_6403c_10 (by decide) ?_
  refine lv_astore_n (lv' := [(3, .ref a7), (0, .ref ea), (1, .int (nI k)), (2, .ref (e 2))]) hx hb dJ7_copyOf_6403c_24 rfl hl (by decide) rfl (fun ls hl => ?_)
  refine lv_aload_n hx hb dJ7_copyOf_6403c_25 rfl (lv_at hl 1 rfl) ?_
  refine lv_iconst (v := 0) hx hb dJ7_copyOf_6403c_26 (by decide +kernel) ?_
  refine lv_aload_n hx hb dJ7_copyOf_6403c_27 rfl (lv_at hl 0 rfl) ?_
  refine lv_iconst (v := 0) hx hb dJ7_copyOf_6403c_28 (by decide +kernel) ?_
  refine lv_aload_n hx hb dJ7_copyOf_6403c_29 rfl (lv_at hl 1 rfl) ?_
  refine va_alen hx hb hK hP 0 5 rfl rfl (v := nI n) rfl dJ7_copyOf_6403c_30 ?_
  refine lv_iload_n hx hb dJ7_copyOf_6403c_31 rfl (lv_at hl 2 rfl) ?_
  refine va_mmin hx hb (by rw [hml]; exact hl.1.symm) hown (hts (.methodLink RJ7 304 Lib.Math.min.name) (by decide +kernel)) (hts (.static Lib.Math.min.name) (by decide +kernel)) (hts (.initialized "java/lang/Math") (by decide +kernel)) (hts (.code Lib.Math.min.name Lib.Math.min.code 2 (some .int)) (by decide +kernel)) (Nat.le_of_ble_eq_true rfl) (Nat.le_of_ble_eq_true rfl) (Nat.le_of_ble_eq_true rfl) (show k + 0 ≤ k from by omega) dJ7_copyOf_6403c_32 ?_
  refine lv_topi (fun x_1 ex_1 => ?_)
  obtain rfl : x_1 = nI n := by rw [ex_1]; rw [if_neg (fun h9 => absurd (qk_lt (by omega) (by omega) h9) (by omega))]
  refine va_copyM (E0 := "java/lang/Object") (E1 := "java/lang/Object") hx hb (by rw [hml]; exact hl.1.symm) hown (hts (.methodLink RJ7 150 arraycopyName) (by decide +kernel)) (hts (.native arraycopyName) (by decide +kernel)) (hts (.static arraycopyName) (by decide +kernel)) (hts (.initialized "java/lang/System") (by decide +kernel)) hK hP hD hS 0 1 5 5 rfl rfl rfl rfl (by decide) (by decide) (nI_pos (by omega)) (by rw [nI_clamp (by omega), sb_cl0]; omega) (by rw [nI_clamp (by omega), sb_cl0]; omega) (fun i hi y hy => pool_any hK hG hP hls i (by rw [nI_clamp (by omega)] at hi; omega) y (by rw [sb_cl0, Nat.zero_add] at hy; exact hy)) (Nat.le_of_ble_eq_true rfl) (Nat.le_of_ble_eq_true rfl) dJ7_copyOf_6403c_35 (fun H locs hP hD hS => ?_)
  have hP : va_P D vwCl ([(ea, .inl (cy 5, n, .inr (.inr (.inr (.inr f))))), (a7, .inl (cy 5, k, .inr (.inr (.inr (.inr (va_cpy f (fun _ => none) (0 : Int32).toNatClampNeg (0 : Int32).toNatClampNeg ((nI n) : Int32).toNatClampNeg))))))] ++ (rpool cy rs)) H := hP
  have hD : va_D A ([(ea, .inl (cy 5, n, .inr (.inr (.inr (.inr f))))), (a7, .inl (cy 5, k, .inr (.inr (.inr (.inr (va_cpy f (fun _ => none) (0 : Int32).toNatClampNeg (0 : Int32).toNatClampNeg ((nI n) : Int32).toNatClampNeg))))))] ++ (rpool cy rs)) := hD
  have ef_35 : (va_cpy f (fun _ => none) (0 : Int32).toNatClampNeg (0 : Int32).toNatClampNeg ((nI n) : Int32).toNatClampNeg) = (va_cpy f (fun _ => none) 0 0 n) := by rw [nI_clamp (by omega), sb_cl0]
  rw [ef_35] at hP hD
  refine lv_aload_n hx hb dJ7_copyOf_6403c_38 rfl (lv_at hl 0 rfl) ?_
  have hP9 : va_P D vwCl ([(ea, .inl (cy 5, n, .inr (.inr (.inr (.inr f))))), (a7, .inl (cy 5, k, .inr (.inr (.inr (.inr (va_cpy f (fun _ => none) 0 0 n))))))] ++ (rpool cy rs)) H := tl_subP hP [0, 1] rfl
  have hD9 : va_D A ([(ea, .inl (cy 5, n, .inr (.inr (.inr (.inr f))))), (a7, .inl (cy 5, k, .inr (.inr (.inr (.inr (va_cpy f (fun _ => none) 0 0 n))))))] ++ (rpool cy rs)) := tl_subD hD [0, 1] (by decide) rfl
  refine W.widen (k := 1) (n := k) (by omega) (by omega) ?_
  exact W.aret hx hb hr (Or.inr ⟨_, rfl⟩) (Or.inr ⟨_, rfl⟩) (fun t ht hW => ⟨⟨some a7, a7, rfl, rfl, by rw [ht]; exact hP9, hD9⟩, hS.F ht⟩) hS.2.2 dJ7_copyOf_6403c_39

set_option maxHeartbeats 4000000 in
set_option maxRecDepth 100000 in
theorem c_copyOfO2 (l : Launch) (D : va_G) (cy : Nat → ClassId) (e : Nat → Nat)  (ea : Nat) (n : Nat) (f : Nat → Option Nat) (rs : List rwT) (k : Nat) (sz : Nat) (hls : lsok e ea n f rs) (hfull : rs.length = n) (hk : n < k ∧ k ≤ 65536) : Met l yJ7_copyOf_1904c wsJ7_copyOf_1904c ({ frames := 2, cells := 1, slots := k, locals := 83 }) (va_Pc [.ref ea, .int (nI k)] (mt_B D cy e ([(ea, .inl (cy 5, n, .inr (.inr (.inr (.inr f)))))] ++ (rpool cy rs)) sz)) (va_Qq (fun (r : Option Nat) (a2 : Nat) => r = some a2) (mt_Q D (fun a2 => ([(ea, .inl (cy 5, n, .inr (.inr (.inr (.inr f))))), (a2, .inl (cy 5, k, .inr (.inr (.inr (.inr (va_cpy f (fun _ => none) 0 0 n))))))] ++ (rpool cy rs))) (va_A ([(ea, .inl (cy 5, n, .inr (.inr (.inr (.inr f)))))] ++ (rpool cy rs)) sz)) (va_A ([(ea, .inl (cy 5, n, .inr (.inr (.inr (.inr f)))))] ++ (rpool cy rs)) sz)) (1) (k) (va_A ([(ea, .inl (cy 5, n, .inr (.inr (.inr (.inr f)))))] ++ (rpool cy rs)) sz) := by
  refine Met.ofW (cc := cJ7_copyOf_1904c) (maxL := 2) (ret := (some (.array (.object "java/lang/Object")))) (by decide) rfl ?_
  intro p ev s m args below meth c s₁ B hml hv
  obtain ⟨rfl, hsz, hP, hK, hD0, hG⟩ := hv
  have hx := B.exec
  have hb := B.bytes
  have hr := B.returns
  have hts := atoms_spec (ws := wsJ7_copyOf_1904c) B.pre
  have hown : s.vm.findClass RJ7 = some m.cls := findClass_of_methodNamed B.named
  have hlocks := B.notSynchronized
  subst hsz
  have hD := hD0.self (sz := s.heap.size)
  generalize hAe : va_A ([(ea, .inl (cy 5, n, .inr (.inr (.inr (.inr f)))))] ++ (rpool cy rs)) s.heap.size = A at hD hG ⊢
  have hA : ∀ q : Nat, s.heap.size ≤ q → A q := fun q h => by rw [← hAe]; exact Or.inr h
  have hS : va_S A s.heap s.heap [] := va_S.rf
  have hP : va_P D vwCl ([(ea, .inl (cy 5, n, .inr (.inr (.inr (.inr f)))))] ++ (rpool cy rs)) s.heap := hP
  have hl := lv_entry ([.ref ea, .int (nI k)]) (n := 2) (Nat.le_of_ble_eq_true rfl)
  rw [lg_entry_eq]
  generalize (lg_sl ([.ref ea, .int (nI k)]) ++ List.replicate (2 - (lg_sl ([.ref ea, .int (nI k)])).length) Slot.unset).toArray = ls at hl ⊢
  have hl : lv_has ls 2 [(0, .ref ea), (1, .int (nI k))] := hl
  refine lv_aload_n hx hb dJ7_copyOf_1904c_0 rfl (lv_at hl 0 rfl) ?_
  refine lv_iload_n hx hb dJ7_copyOf_1904c_1 rfl (lv_at hl 1 rfl) ?_
  refine lv_aload_n hx hb dJ7_copyOf_1904c_2 rfl (lv_at hl 0 rfl) ?_
  refine va_getC (C := "[Ljava/lang/Object;") (mi := e 2) hx hb (by rw [hml]; exact hl.1.symm) hown (hts (.methodLink RJ7 86 ⟨"java/lang/Object", "getClass", "()Ljava/lang/Class;"⟩) (by decide +kernel)) (va_Nw.use rfl hG.gX.2.2.2.2.2.2.2.2.2) (hts (.selects "[Ljava/lang/Object;" ⟨"java/lang/Object", "getClass", "()Ljava/lang/Class;"⟩ ⟨"java/lang/Object", "getClass", "()Ljava/lang/Class;"⟩) (by decide +kernel)) (hts (.instanceMethod ⟨"java/lang/Object", "getClass", "()Ljava/lang/Class;"⟩) (by decide +kernel)) (hts (.native ⟨"java/lang/Object", "getClass", "()Ljava/lang/Class;"⟩) (by decide +kernel)) hG.gX.2.2.2.2.2.2.2.2.1 (oa_cls hK hP 0 rfl) (Nat.le_of_ble_eq_true rfl) (Nat.le_of_ble_eq_true rfl) dJ7_copyOf_1904c_3 ?_
  refine mt_callqP (w1 := (fun a2 => [(ea, .inl (cy 5, n, .inr (.inr (.inr (.inr f))))), (a2, .inl (cy 5, k, .inr (.inr (.inr (.inr (va_cpy f (fun _ => none) 0 0 n))))))])) (T1 := (fun a2 => rpool cy rs)) (wr := []) (va_runS (As := [.ref ea, .int (nI k), .ref (e 2)]) (rest := []) ⟨hx, hb, hml, hown, hts⟩ (c_copyOfO3 l D cy e ea n f rs k s.heap.size hls hfull hk) (va_cwS 3 hts gJ7_copyOf_1904c_J7_copyOf_6403c rfl rfl rfl (by decide +kernel) ⟨Nat.le_of_ble_eq_true rfl, Nat.le_of_ble_eq_true rfl⟩) (mt_preST hP hD hK hS hA hG [0] rfl (by decide)) rfl rfl hl.1 rfl (lv_room (Nat.le_of_ble_eq_true rfl)) dJ7_copyOf_1904c_6 ⟨(Nat.le_of_ble_eq_true rfl), (show 0 + k ≤ k from by omega)⟩) hP hD hS hA [0] [] rfl rfl (by decide) (by decide) (fun r6 u H locs hw hP hD hS => ?_)
  obtain ⟨a2_6, rfl⟩ : ∃ z, z = u := ⟨_, rfl⟩
  have hP : va_P D vwCl ([(ea, .inl (cy 5, n, .inr (.inr (.inr (.inr f))))), (a2_6, .inl (cy 5, k, .inr (.inr (.inr (.inr (va_cpy f (fun _ => none) 0 0 n))))))] ++ (rpool cy rs)) H := hP
  have hD : va_D A ([(ea, .inl (cy 5, n, .inr (.inr (.inr (.inr f))))), (a2_6, .inl (cy 5, k, .inr (.inr (.inr (.inr (va_cpy f (fun _ => none) 0 0 n))))))] ++ (rpool cy rs)) := hD
  replace hw : r6 = some a2_6 := hw
  refine W.widen (k := 1) (n := k) (by omega) (by omega) ?_
  obtain rfl : r6 = some a2_6 := hw
  have hP9 : va_P D vwCl ([(ea, .inl (cy 5, n, .inr (.inr (.inr (.inr f))))), (a2_6, .inl (cy 5, k, .inr (.inr (.inr (.inr (va_cpy f (fun _ => none) 0 0 n))))))] ++ (rpool cy rs)) H := tl_subP hP [0, 1] rfl
  have hD9 : va_D A ([(ea, .inl (cy 5, n, .inr (.inr (.inr (.inr f))))), (a2_6, .inl (cy 5, k, .inr (.inr (.inr (.inr (va_cpy f (fun _ => none) 0 0 n))))))] ++ (rpool cy rs)) := tl_subD hD [0, 1] (by decide) rfl
  refine W.widen (k := 1) (n := k) (by omega) (by omega) ?_
  exact W.aret hx hb hr (Or.inr ⟨_, rfl⟩) (Or.inr ⟨_, rfl⟩) (fun t ht hW => ⟨⟨some a2_6, a2_6, rfl, rfl, by rw [ht]; exact hP9, hD9⟩, hS.F ht⟩) hS.2.2 dJ7_copyOf_1904c_9

set_option maxHeartbeats 4000000 in
set_option maxRecDepth 100000 in
theorem c_grow1 (l : Launch) (D : va_G) (cy : Nat → ClassId) (e : Nat → Nat)  (h0 : Nat) (mod : Int32) (ea : Nat) (n : Nat) (f : Nat → Option Nat) (rs : List rwT) (sz : Nat) (hls : lsok e ea n f rs) (hfull : rs.length = n) (hn : 10 ≤ n ∧ n ≤ 100) : Met l yJx4a65c_grow_92f84 wsJx4a65c_grow_92f84 ({ frames := 3, cells := 1, slots := n + n / 2, locals := 104 }) (va_Pc [.ref h0, .int (nI (n + 1))] (mt_B D cy e ([(h0, .inr (0, [.int mod, .ref ea, .int (nI n)])), (ea, .inl (cy 5, n, .inr (.inr (.inr (.inr f)))))] ++ (rpool cy rs)) sz)) (va_Qq (fun (r : Option Nat) (a2 : Nat) => r = some a2) (mt_Q D (fun a2 => ([(h0, .inr (0, [.int mod, .ref a2, .int (nI n)])), (a2, .inl (cy 5, n + n / 2, .inr (.inr (.inr (.inr (va_cpy f (fun _ => none) 0 0 n))))))] ++ (rpool cy rs))) (va_A ([(h0, .inr (0, [.int mod, .ref ea, .int (nI n)])), (ea, .inl (cy 5, n, .inr (.inr (.inr (.inr f)))))] ++ (rpool cy rs)) sz)) (va_A ([(h0, .inr (0, [.int mod, .ref ea, .int (nI n)])), (ea, .inl (cy 5, n, .inr (.inr (.inr (.inr f)))))] ++ (rpool cy rs)) sz)) (1) (n + n / 2) (va_A ([(h0, .inr (0, [.int mod, .ref ea, .int (nI n)])), (ea, .inl (cy 5, n, .inr (.inr (.inr (.inr f)))))] ++ (rpool cy rs)) sz) := by
  refine Met.ofW (cc := cJx4a65c_grow_92f84) (maxL := 4) (ret := (some (.array (.object "java/lang/Object")))) (by decide) rfl ?_
  intro p ev s m args below meth c s₁ B hml hv
  obtain ⟨rfl, hsz, hP, hK, hD0, hG⟩ := hv
  have hx := B.exec
  have hb := B.bytes
  have hr := B.returns
  have hts := atoms_spec (ws := wsJx4a65c_grow_92f84) B.pre
  have hown : s.vm.findClass RJx4a65c = some m.cls := findClass_of_methodNamed B.named
  have hlocks := B.notSynchronized
  subst hsz
  have hD := hD0.self (sz := s.heap.size)
  generalize hAe : va_A ([(h0, .inr (0, [.int mod, .ref ea, .int (nI n)])), (ea, .inl (cy 5, n, .inr (.inr (.inr (.inr f)))))] ++ (rpool cy rs)) s.heap.size = A at hD hG ⊢
  have hA : ∀ q : Nat, s.heap.size ≤ q → A q := fun q h => by rw [← hAe]; exact Or.inr h
  have hS : va_S A s.heap s.heap [] := va_S.rf
  have hP : va_P D vwCl ([(h0, .inr (0, [.int mod, .ref ea, .int (nI n)])), (ea, .inl (cy 5, n, .inr (.inr (.inr (.inr f)))))] ++ (rpool cy rs)) s.heap := hP
  have iJx4a65c : ∀ w ∈ wsJx4a65c0, w ∈ wsJx4a65c_grow_92f84 := fun w h => List.mem_cons_of_mem _ (List.mem_append_right _ h)
  have hl := lv_entry ([.ref h0, .int (nI (n + 1))]) (n := 4) (Nat.le_of_ble_eq_true rfl)
  rw [lg_entry_eq]
  generalize (lg_sl ([.ref h0, .int (nI (n + 1))]) ++ List.replicate (4 - (lg_sl ([.ref h0, .int (nI (n + 1))])).length) Slot.unset).toArray = ls at hl ⊢
  have hl : lv_has ls 4 [(0, .ref h0), (1, .int (nI (n + 1)))] := hl
  refine lv_aload_n hx hb dJx4a65c_grow_92f84_0 rfl (lv_at hl 0 rfl) ?_
  refine va_get (D := D) (ci := 0) (v := .ref ea) (C := RJx4a65c) (T := TJx4a65c) (N := 3) hx hb hts iJx4a65c hown hK hP 0 rfl rfl 1 (by decide) (hts (.fieldLink RJx4a65c 9 "java/util/ArrayList" "elementData" "[Ljava/lang/Object;") (by decide +kernel)) (fun _ h9 => h9) rfl dJx4a65c_grow_92f84_1 ?_
  refine va_alen hx hb hK hP 1 5 rfl rfl (v := nI n) rfl dJx4a65c_grow_92f84_4 ?_
  refine lv_istore_n (lv' := [(2, .int (nI n)), (0, .ref h0), (1, .int (nI (n + 1)))]) hx hb dJx4a65c_grow_92f84_5 rfl hl (by decide) rfl (fun ls hl => ?_)
  refine lv_iload_n hx hb dJx4a65c_grow_92f84_6 rfl (lv_at hl 0 rfl) ?_
  refine lv_if_gt (tgt := 20) hx hb dJx4a65c_grow_92f84_7 (by decide) (fun _ => ?_) (fun c7 => absurd (show nI 0 < nI n from nI_lt (by omega) (by omega)) c7)
  refine lv_iload_n hx hb dJx4a65c_grow_92f84_20 rfl (lv_at hl 0 rfl) ?_
  refine lv_iload_n hx hb dJx4a65c_grow_92f84_21 rfl (lv_at hl 2 rfl) ?_
  refine lv_iload_n hx hb dJx4a65c_grow_92f84_22 rfl (lv_at hl 0 rfl) ?_
  refine lv_isub hx hb dJx4a65c_grow_92f84_23 ?_
  refine lv_topi (fun x_1 ex_1 => ?_)
  obtain rfl : x_1 = nI 1 := by rw [ex_1]; exact pk_sub1
  refine lv_iload_n hx hb dJx4a65c_grow_92f84_24 rfl (lv_at hl 0 rfl) ?_
  refine lv_iconst (v := 1) hx hb dJx4a65c_grow_92f84_25 (by decide +kernel) ?_
  refine lv_ishr hx hb dJx4a65c_grow_92f84_26 ?_
  refine lv_topi (fun x_2 ex_2 => ?_)
  obtain rfl : x_2 = nI (n / 2) := by rw [ex_2]; exact pk_half (by omega)
  refine pu_calli (va_runS (As := [.int (nI n), .int (nI 1), .int (nI (n / 2))]) (rest := []) ⟨hx, hb, hml, hown, hts⟩ (c_newLength l D cy e n (n / 2) (by omega) (by omega)) (va_cwS 3 hts gJx4a65c_grow_92f84_J8_newLength_cabcc rfl rfl rfl (by decide +kernel) ⟨Nat.le_of_ble_eq_true rfl, Nat.le_of_ble_eq_true rfl⟩) (pu_preS hP hK hS hG [] rfl) rfl rfl hl.1 rfl (lv_room (Nat.le_of_ble_eq_true rfl)) dJx4a65c_grow_92f84_27 ⟨(Nat.le_of_ble_eq_true rfl), (show 0 + 0 ≤ n + n / 2 from by omega)⟩) hP hS (fun H locs hP hS => ?_)
  have hP : va_P D vwCl ([(h0, .inr (0, [.int mod, .ref ea, .int (nI n)])), (ea, .inl (cy 5, n, .inr (.inr (.inr (.inr f)))))] ++ (rpool cy rs)) H := hP
  refine lv_istore_n (lv' := [(3, .int (nI (n + n / 2))), (2, .int (nI n)), (0, .ref h0), (1, .int (nI (n + 1)))]) hx hb dJx4a65c_grow_92f84_30 rfl hl (by decide) rfl (fun ls hl => ?_)
  refine lv_aload_n hx hb dJx4a65c_grow_92f84_31 rfl (lv_at hl 2 rfl) ?_
  refine lv_aload_n hx hb dJx4a65c_grow_92f84_32 rfl (lv_at hl 2 rfl) ?_
  refine va_get (D := D) (ci := 0) (v := .ref ea) (C := RJx4a65c) (T := TJx4a65c) (N := 3) hx hb hts iJx4a65c hown hK hP 0 rfl rfl 1 (by decide) (hts (.fieldLink RJx4a65c 9 "java/util/ArrayList" "elementData" "[Ljava/lang/Object;") (by decide +kernel)) (fun _ h9 => h9) rfl dJx4a65c_grow_92f84_33 ?_
  refine lv_iload_n hx hb dJx4a65c_grow_92f84_36 rfl (lv_at hl 0 rfl) ?_
  refine mt_callqP (w1 := (fun a2 => [(ea, .inl (cy 5, n, .inr (.inr (.inr (.inr f))))), (a2, .inl (cy 5, n + n / 2, .inr (.inr (.inr (.inr (va_cpy f (fun _ => none) 0 0 n))))))])) (T1 := (fun a2 => rpool cy rs)) (wr := [(h0, .inr (0, [.int mod, .ref ea, .int (nI n)]))]) (va_runS (As := [.ref ea, .int (nI (n + n / 2))]) (rest := [.ref h0]) ⟨hx, hb, hml, hown, hts⟩ (c_copyOfO2 l D cy e ea n f rs (n + n / 2) H.size hls hfull (by omega)) (va_cwS 2 hts gJx4a65c_grow_92f84_J7_copyOf_1904c rfl rfl rfl (by decide +kernel) ⟨Nat.le_of_ble_eq_true rfl, Nat.le_of_ble_eq_true rfl⟩) (mt_preST hP hD hK hS hA hG [1] rfl (by decide)) rfl rfl hl.1 rfl (lv_room (Nat.le_of_ble_eq_true rfl)) dJx4a65c_grow_92f84_37 ⟨(Nat.le_of_ble_eq_true rfl), (show 0 + (n + n / 2) ≤ n + n / 2 from by omega)⟩) hP hD hS hA [1] [0] rfl rfl (by decide) (by decide) (fun r37 u H locs hw hP hD hS => ?_)
  obtain ⟨a2_37, rfl⟩ : ∃ z, z = u := ⟨_, rfl⟩
  have hP : va_P D vwCl ([(h0, .inr (0, [.int mod, .ref ea, .int (nI n)])), (ea, .inl (cy 5, n, .inr (.inr (.inr (.inr f))))), (a2_37, .inl (cy 5, n + n / 2, .inr (.inr (.inr (.inr (va_cpy f (fun _ => none) 0 0 n))))))] ++ (rpool cy rs)) H := hP
  have hD : va_D A ([(h0, .inr (0, [.int mod, .ref ea, .int (nI n)])), (ea, .inl (cy 5, n, .inr (.inr (.inr (.inr f))))), (a2_37, .inl (cy 5, n + n / 2, .inr (.inr (.inr (.inr (va_cpy f (fun _ => none) 0 0 n))))))] ++ (rpool cy rs)) := hD
  replace hw : r37 = some a2_37 := hw
  refine W.widen (k := 1) (n := n + n / 2) (by omega) (by omega) ?_
  obtain rfl : r37 = some a2_37 := hw
  refine lv_dup_x1 hx hb dJx4a65c_grow_92f84_40 rfl rfl ?_
  refine va_put (D := D) (ci := 0) (v := .ref a2_37) (ty := (.array (.object "java/lang/Object"))) (C := RJx4a65c) (T := TJx4a65c) (N := 3) hx hb hts iJx4a65c tyJx4a65c tyJx4a65c_ok nmJx4a65c hown hK hP hD hS 0 rfl rfl 1 (by decide) (hts (.fieldLink RJx4a65c 9 "java/util/ArrayList" "elementData" "[Ljava/lang/Object;") (by decide +kernel)) (fun _ h9 => h9) rfl (by decide +kernel) rfl rfl (Nat.le_of_ble_eq_true rfl) dJx4a65c_grow_92f84_41 (fun H locs hP hD hS => ?_)
  have hP : va_P D vwCl ([(h0, .inr (0, [.int mod, .ref a2_37, .int (nI n)])), (ea, .inl (cy 5, n, .inr (.inr (.inr (.inr f))))), (a2_37, .inl (cy 5, n + n / 2, .inr (.inr (.inr (.inr (va_cpy f (fun _ => none) 0 0 n))))))] ++ (rpool cy rs)) H := hP
  have hD : va_D A ([(h0, .inr (0, [.int mod, .ref a2_37, .int (nI n)])), (ea, .inl (cy 5, n, .inr (.inr (.inr (.inr f))))), (a2_37, .inl (cy 5, n + n / 2, .inr (.inr (.inr (.inr (va_cpy f (fun _ => none) 0 0 n))))))] ++ (rpool cy rs)) := hD
  have hP9 : va_P D vwCl ([(h0, .inr (0, [.int mod, .ref a2_37, .int (nI n)])), (a2_37, .inl (cy 5, n + n / 2, .inr (.inr (.inr (.inr (va_cpy f (fun _ => none) 0 0 n))))))] ++ (rpool cy rs)) H := tl_subP hP [0, 2] rfl
  have hD9 : va_D A ([(h0, .inr (0, [.int mod, .ref a2_37, .int (nI n)])), (a2_37, .inl (cy 5, n + n / 2, .inr (.inr (.inr (.inr (va_cpy f (fun _ => none) 0 0 n))))))] ++ (rpool cy rs)) := tl_subD hD [0, 2] (by decide) rfl
  refine W.widen (k := 1) (n := n + n / 2) (by omega) (by omega) ?_
  exact W.aret hx hb hr (Or.inr ⟨_, rfl⟩) (Or.inr ⟨_, rfl⟩) (fun t ht hW => ⟨⟨some a2_37, a2_37, rfl, rfl, by rw [ht]; exact hP9, hD9⟩, hS.F ht⟩) hS.2.2 dJx4a65c_grow_92f84_44

set_option maxHeartbeats 4000000 in
set_option maxRecDepth 100000 in
theorem c_grow1f (l : Launch) (D : va_G) (cy : Nat → ClassId) (e : Nat → Nat)  (h0 : Nat) (mod : Int32) (sz : Nat)  : Met l yJx4a65c_grow_92f84 wsJx4a65c_grow_92f84 ({ frames := 1, cells := 1, slots := 10, locals := 14 }) (va_Pc [.ref h0, .int (nI 1)] (mt_B D cy e [(h0, .inr (0, [.int mod, .ref (e 0), .int (nI 0)]))] sz)) (va_Qq (fun (r : Option Nat) (a2 : Nat) => r = some a2) (mt_Q D (fun a2 => [(h0, .inr (0, [.int mod, .ref a2, .int (nI 0)])), (a2, .inl (cy 5, 10, .inr (.inr (.inr (.inr (fun _ => none))))))]) (va_A [(h0, .inr (0, [.int mod, .ref (e 0), .int (nI 0)]))] sz)) (va_A [(h0, .inr (0, [.int mod, .ref (e 0), .int (nI 0)]))] sz)) (1) (10) (va_A [(h0, .inr (0, [.int mod, .ref (e 0), .int (nI 0)]))] sz) := by
  refine Met.ofW (cc := cJx4a65c_grow_92f84) (maxL := 4) (ret := (some (.array (.object "java/lang/Object")))) (by decide) rfl ?_
  intro p ev s m args below meth c s₁ B hml hv
  obtain ⟨rfl, hsz, hP, hK, hD0, hG⟩ := hv
  have hx := B.exec
  have hb := B.bytes
  have hr := B.returns
  have hts := atoms_spec (ws := wsJx4a65c_grow_92f84) B.pre
  have hown : s.vm.findClass RJx4a65c = some m.cls := findClass_of_methodNamed B.named
  have hlocks := B.notSynchronized
  subst hsz
  have hD := hD0.self (sz := s.heap.size)
  generalize hAe : va_A [(h0, .inr (0, [.int mod, .ref (e 0), .int (nI 0)]))] s.heap.size = A at hD hG ⊢
  have hA : ∀ q : Nat, s.heap.size ≤ q → A q := fun q h => by rw [← hAe]; exact Or.inr h
  have hS : va_S A s.heap s.heap [] := va_S.rf
  have hP : va_P D vwCl [(h0, .inr (0, [.int mod, .ref (e 0), .int (nI 0)]))] s.heap := hP
  have iJx4a65c : ∀ w ∈ wsJx4a65c0, w ∈ wsJx4a65c_grow_92f84 := fun w h => List.mem_cons_of_mem _ (List.mem_append_right _ h)
  have hl := lv_entry ([.ref h0, .int (nI 1)]) (n := 4) (Nat.le_of_ble_eq_true rfl)
  rw [lg_entry_eq]
  generalize (lg_sl ([.ref h0, .int (nI 1)]) ++ List.replicate (4 - (lg_sl ([.ref h0, .int (nI 1)])).length) Slot.unset).toArray = ls at hl ⊢
  have hl : lv_has ls 4 [(0, .ref h0), (1, .int (nI 1))] := hl
  refine lv_aload_n hx hb dJx4a65c_grow_92f84_0 rfl (lv_at hl 0 rfl) ?_
  refine va_get (D := D) (ci := 0) (v := .ref (e 0)) (C := RJx4a65c) (T := TJx4a65c) (N := 3) hx hb hts iJx4a65c hown hK hP 0 rfl rfl 1 (by decide) (hts (.fieldLink RJx4a65c 9 "java/util/ArrayList" "elementData" "[Ljava/lang/Object;") (by decide +kernel)) (fun _ h9 => h9) rfl dJx4a65c_grow_92f84_1 ?_
  refine va_tlen hx hb hG.gX.2.2.2.2.1 hS (v := nI 0) rfl dJx4a65c_grow_92f84_4 ?_
  refine lv_istore_n (lv' := [(2, .int (nI 0)), (0, .ref h0), (1, .int (nI 1))]) hx hb dJx4a65c_grow_92f84_5 rfl hl (by decide) rfl (fun ls hl => ?_)
  refine lv_iload_n hx hb dJx4a65c_grow_92f84_6 rfl (lv_at hl 0 rfl) ?_
  refine lv_if_gt (tgt := 20) hx hb dJx4a65c_grow_92f84_7 (by decide) (fun c7 => absurd c7 (by decide)) (fun _ => ?_)
  refine lv_aload_n hx hb dJx4a65c_grow_92f84_10 rfl (lv_at hl 1 rfl) ?_
  refine va_get (D := D) (ci := 0) (v := .ref (e 0)) (C := RJx4a65c) (T := TJx4a65c) (N := 3) hx hb hts iJx4a65c hown hK hP 0 rfl rfl 1 (by decide) (hts (.fieldLink RJx4a65c 9 "java/util/ArrayList" "elementData" "[Ljava/lang/Object;") (by decide +kernel)) (fun _ h9 => h9) rfl dJx4a65c_grow_92f84_11 ?_
  refine va_gets (v := .ref (e 0)) hx hb hG.z0 hS hown (hts (.fieldLink RJx4a65c 39 "java/util/ArrayList" "DEFAULTCAPACITY_EMPTY_ELEMENTDATA" "[Ljava/lang/Object;") (by decide +kernel)) (fun _ h9 => h9) dJx4a65c_grow_92f84_14 ?_
  refine lv_acmp_eq (rx := some (e 0)) (ry := some (e 0)) (tgt := 45) hx hb dJx4a65c_grow_92f84_17 (by decide) (fun _ => ?_) (fun h9 => absurd rfl h9)
  refine lv_aload_n hx hb dJx4a65c_grow_92f84_45 rfl (lv_at hl 1 rfl) ?_
  refine lv_bipush (v := 10) hx hb dJx4a65c_grow_92f84_46 (by decide +kernel) ?_
  refine lv_iload_n hx hb dJx4a65c_grow_92f84_48 rfl (lv_at hl 2 rfl) ?_
  refine va_mmax hx hb (by rw [hml]; exact hl.1.symm) hown (hts (.methodLink RJx4a65c 79 Lib.Math.max.name) (by decide +kernel)) (hts (.static Lib.Math.max.name) (by decide +kernel)) (hts (.initialized "java/lang/Math") (by decide +kernel)) (hts (.code Lib.Math.max.name Lib.Math.max.code 2 (some .int)) (by decide +kernel)) (Nat.le_of_ble_eq_true rfl) (Nat.le_of_ble_eq_true rfl) (Nat.le_of_ble_eq_true rfl) (Nat.le_of_ble_eq_true rfl) dJx4a65c_grow_92f84_49 ?_
  refine lv_topi (fun x_1 ex_1 => ?_)
  obtain rfl : x_1 = 10 := by rw [ex_1]; decide
  refine nq_new (N' := 10) hx hb hown (hts (.classLink RJx4a65c 7 "java/lang/Object") (by decide +kernel)) hK hG hP hD hS hA (by decide) (by decide) (by decide) (Nat.le_of_ble_eq_true rfl) (Nat.le_of_ble_eq_true rfl) dJx4a65c_grow_92f84_52 (fun a52 H hP hD hS => ?_)
  have hP : va_P D vwCl [(h0, .inr (0, [.int mod, .ref (e 0), .int (nI 0)])), (a52, .inl (cy 5, 10, .inr (.inr (.inr (.inr (fun _ => none))))))] H := hP
  have hD : va_D A [(h0, .inr (0, [.int mod, .ref (e 0), .int (nI 0)])), (a52, .inl (cy 5, 10, .inr (.inr (.inr (.inr (fun _ => none))))))] := hD
  refine W.widen (k := 1) (n := 10) (by omega) (by omega) ?_
  refine lv_dup_x1 hx hb dJx4a65c_grow_92f84_55 rfl rfl ?_
  refine va_put (D := D) (ci := 0) (v := .ref a52) (ty := (.array (.object "java/lang/Object"))) (C := RJx4a65c) (T := TJx4a65c) (N := 3) hx hb hts iJx4a65c tyJx4a65c tyJx4a65c_ok nmJx4a65c hown hK hP hD hS 0 rfl rfl 1 (by decide) (hts (.fieldLink RJx4a65c 9 "java/util/ArrayList" "elementData" "[Ljava/lang/Object;") (by decide +kernel)) (fun _ h9 => h9) rfl (by decide +kernel) rfl rfl (Nat.le_of_ble_eq_true rfl) dJx4a65c_grow_92f84_56 (fun H locs hP hD hS => ?_)
  have hP : va_P D vwCl [(h0, .inr (0, [.int mod, .ref a52, .int (nI 0)])), (a52, .inl (cy 5, 10, .inr (.inr (.inr (.inr (fun _ => none))))))] H := hP
  have hD : va_D A [(h0, .inr (0, [.int mod, .ref a52, .int (nI 0)])), (a52, .inl (cy 5, 10, .inr (.inr (.inr (.inr (fun _ => none))))))] := hD
  have hP9 : va_P D vwCl [(h0, .inr (0, [.int mod, .ref a52, .int (nI 0)])), (a52, .inl (cy 5, 10, .inr (.inr (.inr (.inr (fun _ => none))))))] H := hP.sub [0, 1] rfl
  have hD9 : va_D A [(h0, .inr (0, [.int mod, .ref a52, .int (nI 0)])), (a52, .inl (cy 5, 10, .inr (.inr (.inr (.inr (fun _ => none))))))] := hD.sub [0, 1] (by decide) rfl
  refine W.widen (k := 1) (n := 10) (by omega) (by omega) ?_
  exact W.aret hx hb hr (Or.inr ⟨_, rfl⟩) (Or.inr ⟨_, rfl⟩) (fun t ht hW => ⟨⟨some a52, a52, rfl, rfl, by rw [ht]; exact hP9, hD9⟩, hS.F ht⟩) hS.2.2 dJx4a65c_grow_92f84_59

set_option maxHeartbeats 4000000 in
set_option maxRecDepth 100000 in
theorem c_grow0 (l : Launch) (D : va_G) (cy : Nat → ClassId) (e : Nat → Nat)  (h0 : Nat) (mod : Int32) (ea : Nat) (n : Nat) (f : Nat → Option Nat) (rs : List rwT) (sz : Nat) (hls : lsok e ea n f rs) (hfull : rs.length = n) (hn : 10 ≤ n ∧ n ≤ 100) : Met l yJx4a65c_grow_d5877 wsJx4a65c_grow_d5877 ({ frames := 4, cells := 1, slots := n + n / 2, locals := 127 }) (va_Pc [.ref h0] (mt_B D cy e ([(h0, .inr (0, [.int mod, .ref ea, .int (nI n)])), (ea, .inl (cy 5, n, .inr (.inr (.inr (.inr f)))))] ++ (rpool cy rs)) sz)) (va_Qq (fun (r : Option Nat) (a2 : Nat) => r = some a2) (mt_Q D (fun a2 => ([(h0, .inr (0, [.int mod, .ref a2, .int (nI n)])), (a2, .inl (cy 5, n + n / 2, .inr (.inr (.inr (.inr (va_cpy f (fun _ => none) 0 0 n))))))] ++ (rpool cy rs))) (va_A ([(h0, .inr (0, [.int mod, .ref ea, .int (nI n)])), (ea, .inl (cy 5, n, .inr (.inr (.inr (.inr f)))))] ++ (rpool cy rs)) sz)) (va_A ([(h0, .inr (0, [.int mod, .ref ea, .int (nI n)])), (ea, .inl (cy 5, n, .inr (.inr (.inr (.inr f)))))] ++ (rpool cy rs)) sz)) (1) (n + n / 2) (va_A ([(h0, .inr (0, [.int mod, .ref ea, .int (nI n)])), (ea, .inl (cy 5, n, .inr (.inr (.inr (.inr f)))))] ++ (rpool cy rs)) sz) := by
  refine Met.ofW (cc := cJx4a65c_grow_d5877) (maxL := 1) (ret := (some (.array (.object "java/lang/Object")))) (by decide) rfl ?_
  intro p ev s m args below meth c s₁ B hml hv
  obtain ⟨rfl, hsz, hP, hK, hD0, hG⟩ := hv
  have hx := B.exec
  have hb := B.bytes
  have hr := B.returns
  have hts := atoms_spec (ws := wsJx4a65c_grow_d5877) B.pre
  have hown : s.vm.findClass RJx4a65c = some m.cls := findClass_of_methodNamed B.named
  have hlocks := B.notSynchronized
  subst hsz
  have hD := hD0.self (sz := s.heap.size)
  generalize hAe : va_A ([(h0, .inr (0, [.int mod, .ref ea, .int (nI n)])), (ea, .inl (cy 5, n, .inr (.inr (.inr (.inr f)))))] ++ (rpool cy rs)) s.heap.size = A at hD hG ⊢
  have hA : ∀ q : Nat, s.heap.size ≤ q → A q := fun q h => by rw [← hAe]; exact Or.inr h
  have hS : va_S A s.heap s.heap [] := va_S.rf
  have hP : va_P D vwCl ([(h0, .inr (0, [.int mod, .ref ea, .int (nI n)])), (ea, .inl (cy 5, n, .inr (.inr (.inr (.inr f)))))] ++ (rpool cy rs)) s.heap := hP
  have iJx4a65c : ∀ w ∈ wsJx4a65c0, w ∈ wsJx4a65c_grow_d5877 := fun w h => List.mem_cons_of_mem _ (List.mem_append_right _ h)
  have hl := lv_entry ([.ref h0]) (n := 1) (Nat.le_of_ble_eq_true rfl)
  rw [lg_entry_eq]
  generalize (lg_sl ([.ref h0]) ++ List.replicate (1 - (lg_sl ([.ref h0])).length) Slot.unset).toArray = ls at hl ⊢
  have hl : lv_has ls 1 [(0, .ref h0)] := hl
  refine lv_aload_n hx hb dJx4a65c_grow_d5877_0 rfl (lv_at hl 0 rfl) ?_
  refine lv_aload_n hx hb dJx4a65c_grow_d5877_1 rfl (lv_at hl 0 rfl) ?_
  refine va_get (D := D) (ci := 0) (v := .int (nI n)) (C := RJx4a65c) (T := TJx4a65c) (N := 3) hx hb hts iJx4a65c hown hK hP 0 rfl rfl 2 (by decide) (hts (.fieldLink RJx4a65c 48 "java/util/ArrayList" "size" "I") (by decide +kernel)) (fun _ h9 => h9) rfl dJx4a65c_grow_d5877_2 ?_
  refine lv_iconst (v := 1) hx hb dJx4a65c_grow_d5877_5 (by decide +kernel) ?_
  refine lv_iadd hx hb dJx4a65c_grow_d5877_6 ?_
  refine lv_topi (fun x_1 ex_1 => ?_)
  obtain rfl : x_1 = nI (n + 1) := by rw [ex_1]; exact nI_1 n
  refine mt_callqP (w1 := (fun a2 => [(h0, .inr (0, [.int mod, .ref a2, .int (nI n)])), (a2, .inl (cy 5, n + n / 2, .inr (.inr (.inr (.inr (va_cpy f (fun _ => none) 0 0 n))))))])) (T1 := (fun a2 => rpool cy rs)) (wr := []) (va_runV (As := [.int (nI (n + 1))]) (rest := []) ⟨hx, hb, hml, hown, hts⟩ (c_grow1 l D cy e h0 mod ea n f rs s.heap.size hls hfull hn) (cwV 1 hts gJx4a65c_grow_d5877_Jx4a65c_grow_92f84 rfl rfl rfl (by decide +kernel) ⟨Nat.le_of_ble_eq_true rfl, Nat.le_of_ble_eq_true rfl⟩) (mt_preVT hP hD hK hS hA hG [0, 1] rfl (by decide) (q := (RJx4a65c, TJx4a65c, 3)) (ci := 0) (q0 := 0) rfl rfl) rfl rfl hl.1 rfl (lv_room (Nat.le_of_ble_eq_true rfl)) dJx4a65c_grow_d5877_7 ⟨(Nat.le_of_ble_eq_true rfl), (show 0 + (n + n / 2) ≤ n + n / 2 from by omega)⟩) hP hD hS hA [0, 1] [] rfl rfl (by decide) (by decide) (fun r7 u H locs hw hP hD hS => ?_)
  obtain ⟨a2_7, rfl⟩ : ∃ z, z = u := ⟨_, rfl⟩
  have hP : va_P D vwCl ([(h0, .inr (0, [.int mod, .ref a2_7, .int (nI n)])), (a2_7, .inl (cy 5, n + n / 2, .inr (.inr (.inr (.inr (va_cpy f (fun _ => none) 0 0 n))))))] ++ (rpool cy rs)) H := hP
  have hD : va_D A ([(h0, .inr (0, [.int mod, .ref a2_7, .int (nI n)])), (a2_7, .inl (cy 5, n + n / 2, .inr (.inr (.inr (.inr (va_cpy f (fun _ => none) 0 0 n))))))] ++ (rpool cy rs)) := hD
  replace hw : r7 = some a2_7 := hw
  refine W.widen (k := 1) (n := n + n / 2) (by omega) (by omega) ?_
  obtain rfl : r7 = some a2_7 := hw
  have hP9 : va_P D vwCl ([(h0, .inr (0, [.int mod, .ref a2_7, .int (nI n)])), (a2_7, .inl (cy 5, n + n / 2, .inr (.inr (.inr (.inr (va_cpy f (fun _ => none) 0 0 n))))))] ++ (rpool cy rs)) H := tl_subP hP [0, 1] rfl
  have hD9 : va_D A ([(h0, .inr (0, [.int mod, .ref a2_7, .int (nI n)])), (a2_7, .inl (cy 5, n + n / 2, .inr (.inr (.inr (.inr (va_cpy f (fun _ => none) 0 0 n))))))] ++ (rpool cy rs)) := tl_subD hD [0, 1] (by decide) rfl
  refine W.widen (k := 1) (n := n + n / 2) (by omega) (by omega) ?_
  exact W.aret hx hb hr (Or.inr ⟨_, rfl⟩) (Or.inr ⟨_, rfl⟩) (fun t ht hW => ⟨⟨some a2_7, a2_7, rfl, rfl, by rw [ht]; exact hP9, hD9⟩, hS.F ht⟩) hS.2.2 dJx4a65c_grow_d5877_10

set_option maxHeartbeats 4000000 in
set_option maxRecDepth 100000 in
theorem c_grow0f (l : Launch) (D : va_G) (cy : Nat → ClassId) (e : Nat → Nat)  (h0 : Nat) (mod : Int32) (sz : Nat)  : Met l yJx4a65c_grow_d5877 wsJx4a65c_grow_d5877 ({ frames := 2, cells := 1, slots := 10, locals := 37 }) (va_Pc [.ref h0] (mt_B D cy e [(h0, .inr (0, [.int mod, .ref (e 0), .int (nI 0)]))] sz)) (va_Qq (fun (r : Option Nat) (a2 : Nat) => r = some a2) (mt_Q D (fun a2 => [(h0, .inr (0, [.int mod, .ref a2, .int (nI 0)])), (a2, .inl (cy 5, 10, .inr (.inr (.inr (.inr (fun _ => none))))))]) (va_A [(h0, .inr (0, [.int mod, .ref (e 0), .int (nI 0)]))] sz)) (va_A [(h0, .inr (0, [.int mod, .ref (e 0), .int (nI 0)]))] sz)) (1) (10) (va_A [(h0, .inr (0, [.int mod, .ref (e 0), .int (nI 0)]))] sz) := by
  refine Met.ofW (cc := cJx4a65c_grow_d5877) (maxL := 1) (ret := (some (.array (.object "java/lang/Object")))) (by decide) rfl ?_
  intro p ev s m args below meth c s₁ B hml hv
  obtain ⟨rfl, hsz, hP, hK, hD0, hG⟩ := hv
  have hx := B.exec
  have hb := B.bytes
  have hr := B.returns
  have hts := atoms_spec (ws := wsJx4a65c_grow_d5877) B.pre
  have hown : s.vm.findClass RJx4a65c = some m.cls := findClass_of_methodNamed B.named
  have hlocks := B.notSynchronized
  subst hsz
  have hD := hD0.self (sz := s.heap.size)
  generalize hAe : va_A [(h0, .inr (0, [.int mod, .ref (e 0), .int (nI 0)]))] s.heap.size = A at hD hG ⊢
  have hA : ∀ q : Nat, s.heap.size ≤ q → A q := fun q h => by rw [← hAe]; exact Or.inr h
  have hS : va_S A s.heap s.heap [] := va_S.rf
  have hP : va_P D vwCl [(h0, .inr (0, [.int mod, .ref (e 0), .int (nI 0)]))] s.heap := hP
  have iJx4a65c : ∀ w ∈ wsJx4a65c0, w ∈ wsJx4a65c_grow_d5877 := fun w h => List.mem_cons_of_mem _ (List.mem_append_right _ h)
  have hl := lv_entry ([.ref h0]) (n := 1) (Nat.le_of_ble_eq_true rfl)
  rw [lg_entry_eq]
  generalize (lg_sl ([.ref h0]) ++ List.replicate (1 - (lg_sl ([.ref h0])).length) Slot.unset).toArray = ls at hl ⊢
  have hl : lv_has ls 1 [(0, .ref h0)] := hl
  refine lv_aload_n hx hb dJx4a65c_grow_d5877_0 rfl (lv_at hl 0 rfl) ?_
  refine lv_aload_n hx hb dJx4a65c_grow_d5877_1 rfl (lv_at hl 0 rfl) ?_
  refine va_get (D := D) (ci := 0) (v := .int (nI 0)) (C := RJx4a65c) (T := TJx4a65c) (N := 3) hx hb hts iJx4a65c hown hK hP 0 rfl rfl 2 (by decide) (hts (.fieldLink RJx4a65c 48 "java/util/ArrayList" "size" "I") (by decide +kernel)) (fun _ h9 => h9) rfl dJx4a65c_grow_d5877_2 ?_
  refine lv_iconst (v := 1) hx hb dJx4a65c_grow_d5877_5 (by decide +kernel) ?_
  refine lv_iadd hx hb dJx4a65c_grow_d5877_6 ?_
  refine lv_topi (fun x_1 ex_1 => ?_)
  obtain rfl : x_1 = nI 1 := by rw [ex_1]; exact nI_1 0
  refine mt_callq (wr := []) (va_runV (As := [.int (nI 1)]) (rest := []) ⟨hx, hb, hml, hown, hts⟩ (c_grow1f l D cy e h0 mod s.heap.size ) (cwV 1 hts gJx4a65c_grow_d5877_Jx4a65c_grow_92f84 rfl rfl rfl (by decide +kernel) ⟨Nat.le_of_ble_eq_true rfl, Nat.le_of_ble_eq_true rfl⟩) (mt_preV hP hD hK hS hA hG [0] rfl (by decide) (q := (RJx4a65c, TJx4a65c, 3)) (ci := 0) (q0 := 0) rfl rfl) rfl rfl hl.1 rfl (lv_room (Nat.le_of_ble_eq_true rfl)) dJx4a65c_grow_d5877_7 ⟨(Nat.le_of_ble_eq_true rfl), (Nat.le_of_ble_eq_true rfl)⟩) hP hD hS hA [0] [] rfl rfl (by decide) (by decide) (fun r7 u H locs hw hP hD hS => ?_)
  obtain ⟨a2_7, rfl⟩ : ∃ z, z = u := ⟨_, rfl⟩
  have hP : va_P D vwCl [(h0, .inr (0, [.int mod, .ref a2_7, .int (nI 0)])), (a2_7, .inl (cy 5, 10, .inr (.inr (.inr (.inr (fun _ => none))))))] H := hP
  have hD : va_D A [(h0, .inr (0, [.int mod, .ref a2_7, .int (nI 0)])), (a2_7, .inl (cy 5, 10, .inr (.inr (.inr (.inr (fun _ => none))))))] := hD
  replace hw : r7 = some a2_7 := hw
  refine W.widen (k := 1) (n := 10) (by omega) (by omega) ?_
  obtain rfl : r7 = some a2_7 := hw
  have hP9 : va_P D vwCl [(h0, .inr (0, [.int mod, .ref a2_7, .int (nI 0)])), (a2_7, .inl (cy 5, 10, .inr (.inr (.inr (.inr (fun _ => none))))))] H := hP.sub [0, 1] rfl
  have hD9 : va_D A [(h0, .inr (0, [.int mod, .ref a2_7, .int (nI 0)])), (a2_7, .inl (cy 5, 10, .inr (.inr (.inr (.inr (fun _ => none))))))] := hD.sub [0, 1] (by decide) rfl
  refine W.widen (k := 1) (n := 10) (by omega) (by omega) ?_
  exact W.aret hx hb hr (Or.inr ⟨_, rfl⟩) (Or.inr ⟨_, rfl⟩) (fun t ht hW => ⟨⟨some a2_7, a2_7, rfl, rfl, by rw [ht]; exact hP9, hD9⟩, hS.F ht⟩) hS.2.2 dJx4a65c_grow_d5877_10

set_option maxHeartbeats 4000000 in
set_option maxRecDepth 100000 in
theorem c_add_a3r (l : Launch) (D : va_G) (cy : Nat → ClassId) (e : Nat → Nat)  (h0 : Nat) (mod : Int32) (ea : Nat) (n : Nat) (f : Nat → Option Nat) (sc : Nat) (r0 : Nat) (aa : Nat) (x1 : Int32) (x2 : Int32) (x3 : Int32) (x4 : Int32) (x5 : Int32) (x6 : Int32) (x7 : Int32) (x8 : Int32) (x9 : Int32) (x10 : Int32) (x11 : Int32) (x12 : Int32) (sz : Nat) (hsz : sc < n ∧ n ≤ 65536) : Met l yJx4a65c_add_72be8 wsJx4a65c_add_72be8 ({ frames := 0, cells := 0, slots := 0, locals := 0 }) (va_Pc [.ref h0, .ref r0, .ref ea, .int (nI sc)] (mt_B D cy e [(h0, .inr (0, [.int mod, .ref ea, .int (nI sc)])), (ea, .inl (cy 5, n, .inr (.inr (.inr (.inr f))))), (r0, .inr (4, [.ref aa, .int x1, .int x2, .int x3, .int x4, .int x5, .int x6, .int x7, .int x8, .int x9, .int x10, .int x11, .int x12]))] sz)) (va_Qv (fun (_ : Unit) => True) (mt_Q D (fun (_ : Unit) => [(h0, .inr (0, [.int mod, .ref ea, .int (nI (sc + 1))])), (ea, .inl (cy 5, n, .inr (.inr (.inr (.inr (va_up f sc (some r0))))))), (r0, .inr (4, [.ref aa, .int x1, .int x2, .int x3, .int x4, .int x5, .int x6, .int x7, .int x8, .int x9, .int x10, .int x11, .int x12]))]) (va_A [(h0, .inr (0, [.int mod, .ref ea, .int (nI sc)])), (ea, .inl (cy 5, n, .inr (.inr (.inr (.inr f))))), (r0, .inr (4, [.ref aa, .int x1, .int x2, .int x3, .int x4, .int x5, .int x6, .int x7, .int x8, .int x9, .int x10, .int x11, .int x12]))] sz)) (va_A [(h0, .inr (0, [.int mod, .ref ea, .int (nI sc)])), (ea, .inl (cy 5, n, .inr (.inr (.inr (.inr f))))), (r0, .inr (4, [.ref aa, .int x1, .int x2, .int x3, .int x4, .int x5, .int x6, .int x7, .int x8, .int x9, .int x10, .int x11, .int x12]))] sz)) (0) (0) (va_A [(h0, .inr (0, [.int mod, .ref ea, .int (nI sc)])), (ea, .inl (cy 5, n, .inr (.inr (.inr (.inr f))))), (r0, .inr (4, [.ref aa, .int x1, .int x2, .int x3, .int x4, .int x5, .int x6, .int x7, .int x8, .int x9, .int x10, .int x11, .int x12]))] sz) := by
  refine Met.ofW (cc := cJx4a65c_add_72be8) (maxL := 4) (ret := none) (by decide) rfl ?_
  intro p ev s m args below meth c s₁ B hml hv
  obtain ⟨rfl, hsz, hP, hK, hD0, hG⟩ := hv
  have hx := B.exec
  have hb := B.bytes
  have hr := B.returns
  have hts := atoms_spec (ws := wsJx4a65c_add_72be8) B.pre
  have hown : s.vm.findClass RJx4a65c = some m.cls := findClass_of_methodNamed B.named
  have hlocks := B.notSynchronized
  subst hsz
  have hD := hD0.self (sz := s.heap.size)
  generalize hAe : va_A [(h0, .inr (0, [.int mod, .ref ea, .int (nI sc)])), (ea, .inl (cy 5, n, .inr (.inr (.inr (.inr f))))), (r0, .inr (4, [.ref aa, .int x1, .int x2, .int x3, .int x4, .int x5, .int x6, .int x7, .int x8, .int x9, .int x10, .int x11, .int x12]))] s.heap.size = A at hD hG ⊢
  have hA : ∀ q : Nat, s.heap.size ≤ q → A q := fun q h => by rw [← hAe]; exact Or.inr h
  have hS : va_S A s.heap s.heap [] := va_S.rf
  have hP : va_P D vwCl [(h0, .inr (0, [.int mod, .ref ea, .int (nI sc)])), (ea, .inl (cy 5, n, .inr (.inr (.inr (.inr f))))), (r0, .inr (4, [.ref aa, .int x1, .int x2, .int x3, .int x4, .int x5, .int x6, .int x7, .int x8, .int x9, .int x10, .int x11, .int x12]))] s.heap := hP
  have iJx4a65c : ∀ w ∈ wsJx4a65c0, w ∈ wsJx4a65c_add_72be8 := fun w h => List.mem_cons_of_mem _ (List.mem_append_right _ h)
  have hl := lv_entry ([.ref h0, .ref r0, .ref ea, .int (nI sc)]) (n := 4) (Nat.le_of_ble_eq_true rfl)
  rw [lg_entry_eq]
  generalize (lg_sl ([.ref h0, .ref r0, .ref ea, .int (nI sc)]) ++ List.replicate (4 - (lg_sl ([.ref h0, .ref r0, .ref ea, .int (nI sc)])).length) Slot.unset).toArray = ls at hl ⊢
  have hl : lv_has ls 4 [(0, .ref h0), (1, .ref r0), (2, .ref ea), (3, .int (nI sc))] := hl
  refine lv_iload_n hx hb dJx4a65c_add_72be8_0 rfl (lv_at hl 3 rfl) ?_
  refine lv_aload_n hx hb dJx4a65c_add_72be8_1 rfl (lv_at hl 2 rfl) ?_
  refine va_alen hx hb hK hP 1 5 rfl rfl (v := nI n) rfl dJx4a65c_add_72be8_2 ?_
  refine lv_icmp_ne (tgt := 11) hx hb dJx4a65c_add_72be8_3 (by decide) (fun _ => ?_) (fun c3 => absurd c3 (fun h9 => absurd ((nI_eq (by omega) (by omega)).mp h9) (by omega)))
  refine lv_aload_n hx hb dJx4a65c_add_72be8_11 rfl (lv_at hl 2 rfl) ?_
  refine lv_iload_n hx hb dJx4a65c_add_72be8_12 rfl (lv_at hl 3 rfl) ?_
  refine lv_aload_n hx hb dJx4a65c_add_72be8_13 rfl (lv_at hl 1 rfl) ?_
  refine va_astqO hx hb hK hP hD hS 1 5 2 4 (r := (RX3, TX3, 13)) rfl rfl hG.gX.2.2.2.2.2.2.1 rfl rfl (vp_in_nI (by omega) (by omega)) dJx4a65c_add_72be8_14 (fun H locs hP hD hS => ?_)
  have hP : va_P D vwCl [(h0, .inr (0, [.int mod, .ref ea, .int (nI sc)])), (ea, .inl (cy 5, n, .inr (.inr (.inr (.inr (va_up f ((nI sc)).toNatClampNeg (some r0))))))), (r0, .inr (4, [.ref aa, .int x1, .int x2, .int x3, .int x4, .int x5, .int x6, .int x7, .int x8, .int x9, .int x10, .int x11, .int x12]))] H := hP
  have hD : va_D A [(h0, .inr (0, [.int mod, .ref ea, .int (nI sc)])), (ea, .inl (cy 5, n, .inr (.inr (.inr (.inr (va_up f ((nI sc)).toNatClampNeg (some r0))))))), (r0, .inr (4, [.ref aa, .int x1, .int x2, .int x3, .int x4, .int x5, .int x6, .int x7, .int x8, .int x9, .int x10, .int x11, .int x12]))] := hD
  have ef_14 : (va_up f ((nI sc)).toNatClampNeg (some r0)) = (va_up f sc (some r0)) := by rw [nI_clamp (by omega)]
  rw [ef_14] at hP hD
  refine lv_aload_n hx hb dJx4a65c_add_72be8_15 rfl (lv_at hl 0 rfl) ?_
  refine lv_iload_n hx hb dJx4a65c_add_72be8_16 rfl (lv_at hl 3 rfl) ?_
  refine lv_iconst (v := 1) hx hb dJx4a65c_add_72be8_17 (by decide +kernel) ?_
  refine lv_iadd hx hb dJx4a65c_add_72be8_18 ?_
  refine lv_topi (fun x_1 ex_1 => ?_)
  obtain rfl : x_1 = nI (sc + 1) := by rw [ex_1]; exact nI_1 sc
  refine va_put (D := D) (ci := 0) (v := .int (nI (sc + 1))) (ty := .int) (C := RJx4a65c) (T := TJx4a65c) (N := 3) hx hb hts iJx4a65c tyJx4a65c tyJx4a65c_ok nmJx4a65c hown hK hP hD hS 0 rfl rfl 2 (by decide) (hts (.fieldLink RJx4a65c 48 "java/util/ArrayList" "size" "I") (by decide +kernel)) (fun _ h9 => h9) rfl (by decide +kernel) rfl rfl (Nat.le_of_ble_eq_true rfl) dJx4a65c_add_72be8_19 (fun H locs hP hD hS => ?_)
  have hP : va_P D vwCl [(h0, .inr (0, [.int mod, .ref ea, .int (nI (sc + 1))])), (ea, .inl (cy 5, n, .inr (.inr (.inr (.inr (va_up f sc (some r0))))))), (r0, .inr (4, [.ref aa, .int x1, .int x2, .int x3, .int x4, .int x5, .int x6, .int x7, .int x8, .int x9, .int x10, .int x11, .int x12]))] H := hP
  have hD : va_D A [(h0, .inr (0, [.int mod, .ref ea, .int (nI (sc + 1))])), (ea, .inl (cy 5, n, .inr (.inr (.inr (.inr (va_up f sc (some r0))))))), (r0, .inr (4, [.ref aa, .int x1, .int x2, .int x3, .int x4, .int x5, .int x6, .int x7, .int x8, .int x9, .int x10, .int x11, .int x12]))] := hD
  have hP9 : va_P D vwCl [(h0, .inr (0, [.int mod, .ref ea, .int (nI (sc + 1))])), (ea, .inl (cy 5, n, .inr (.inr (.inr (.inr (va_up f sc (some r0))))))), (r0, .inr (4, [.ref aa, .int x1, .int x2, .int x3, .int x4, .int x5, .int x6, .int x7, .int x8, .int x9, .int x10, .int x11, .int x12]))] H := hP.sub [0, 1, 2] rfl
  have hD9 : va_D A [(h0, .inr (0, [.int mod, .ref ea, .int (nI (sc + 1))])), (ea, .inl (cy 5, n, .inr (.inr (.inr (.inr (va_up f sc (some r0))))))), (r0, .inr (4, [.ref aa, .int x1, .int x2, .int x3, .int x4, .int x5, .int x6, .int x7, .int x8, .int x9, .int x10, .int x11, .int x12]))] := hD.sub [0, 1, 2] (by decide) rfl
  refine W.widen (k := 0) (n := 0) (by omega) (by omega) ?_
  exact W.vret hx hb hr (fun t ht hW => ⟨⟨(), rfl, trivial, by rw [ht]; exact hP9, hD9⟩, hS.F ht⟩) hS.2.2 dJx4a65c_add_72be8_22

set_option maxHeartbeats 4000000 in
set_option maxRecDepth 100000 in
theorem c_add_a3f (l : Launch) (D : va_G) (cy : Nat → ClassId) (e : Nat → Nat)  (h0 : Nat) (mod : Int32) (r0 : Nat) (aa : Nat) (x1 : Int32) (x2 : Int32) (x3 : Int32) (x4 : Int32) (x5 : Int32) (x6 : Int32) (x7 : Int32) (x8 : Int32) (x9 : Int32) (x10 : Int32) (x11 : Int32) (x12 : Int32) (sz : Nat)  : Met l yJx4a65c_add_72be8 wsJx4a65c_add_72be8 ({ frames := 3, cells := 1, slots := 10, locals := 57 }) (va_Pc [.ref h0, .ref r0, .ref (e 0), .int (nI 0)] (mt_B D cy e [(h0, .inr (0, [.int mod, .ref (e 0), .int (nI 0)])), (r0, .inr (4, [.ref aa, .int x1, .int x2, .int x3, .int x4, .int x5, .int x6, .int x7, .int x8, .int x9, .int x10, .int x11, .int x12]))] sz)) (va_Qv (fun (a2 : Nat) => True) (mt_Q D (fun a2 => [(h0, .inr (0, [.int mod, .ref a2, .int (nI 1)])), (a2, .inl (cy 5, 10, .inr (.inr (.inr (.inr (va_up (fun _ => none) 0 (some r0))))))), (r0, .inr (4, [.ref aa, .int x1, .int x2, .int x3, .int x4, .int x5, .int x6, .int x7, .int x8, .int x9, .int x10, .int x11, .int x12]))]) (va_A [(h0, .inr (0, [.int mod, .ref (e 0), .int (nI 0)])), (r0, .inr (4, [.ref aa, .int x1, .int x2, .int x3, .int x4, .int x5, .int x6, .int x7, .int x8, .int x9, .int x10, .int x11, .int x12]))] sz)) (va_A [(h0, .inr (0, [.int mod, .ref (e 0), .int (nI 0)])), (r0, .inr (4, [.ref aa, .int x1, .int x2, .int x3, .int x4, .int x5, .int x6, .int x7, .int x8, .int x9, .int x10, .int x11, .int x12]))] sz)) (1) (10) (va_A [(h0, .inr (0, [.int mod, .ref (e 0), .int (nI 0)])), (r0, .inr (4, [.ref aa, .int x1, .int x2, .int x3, .int x4, .int x5, .int x6, .int x7, .int x8, .int x9, .int x10, .int x11, .int x12]))] sz) := by
  refine Met.ofW (cc := cJx4a65c_add_72be8) (maxL := 4) (ret := none) (by decide) rfl ?_
  intro p ev s m args below meth c s₁ B hml hv
  obtain ⟨rfl, hsz, hP, hK, hD0, hG⟩ := hv
  have hx := B.exec
  have hb := B.bytes
  have hr := B.returns
  have hts := atoms_spec (ws := wsJx4a65c_add_72be8) B.pre
  have hown : s.vm.findClass RJx4a65c = some m.cls := findClass_of_methodNamed B.named
  have hlocks := B.notSynchronized
  subst hsz
  have hD := hD0.self (sz := s.heap.size)
  generalize hAe : va_A [(h0, .inr (0, [.int mod, .ref (e 0), .int (nI 0)])), (r0, .inr (4, [.ref aa, .int x1, .int x2, .int x3, .int x4, .int x5, .int x6, .int x7, .int x8, .int x9, .int x10, .int x11, .int x12]))] s.heap.size = A at hD hG ⊢
  have hA : ∀ q : Nat, s.heap.size ≤ q → A q := fun q h => by rw [← hAe]; exact Or.inr h
  have hS : va_S A s.heap s.heap [] := va_S.rf
  have hP : va_P D vwCl [(h0, .inr (0, [.int mod, .ref (e 0), .int (nI 0)])), (r0, .inr (4, [.ref aa, .int x1, .int x2, .int x3, .int x4, .int x5, .int x6, .int x7, .int x8, .int x9, .int x10, .int x11, .int x12]))] s.heap := hP
  have iJx4a65c : ∀ w ∈ wsJx4a65c0, w ∈ wsJx4a65c_add_72be8 := fun w h => List.mem_cons_of_mem _ (List.mem_append_right _ h)
  have hl := lv_entry ([.ref h0, .ref r0, .ref (e 0), .int (nI 0)]) (n := 4) (Nat.le_of_ble_eq_true rfl)
  rw [lg_entry_eq]
  generalize (lg_sl ([.ref h0, .ref r0, .ref (e 0), .int (nI 0)]) ++ List.replicate (4 - (lg_sl ([.ref h0, .ref r0, .ref (e 0), .int (nI 0)])).length) Slot.unset).toArray = ls at hl ⊢
  have hl : lv_has ls 4 [(0, .ref h0), (1, .ref r0), (2, .ref (e 0)), (3, .int (nI 0))] := hl
  refine lv_iload_n hx hb dJx4a65c_add_72be8_0 rfl (lv_at hl 3 rfl) ?_
  refine lv_aload_n hx hb dJx4a65c_add_72be8_1 rfl (lv_at hl 2 rfl) ?_
  refine va_tlen hx hb hG.gX.2.2.2.2.1 hS (v := nI 0) rfl dJx4a65c_add_72be8_2 ?_
  refine lv_icmp_ne (tgt := 11) hx hb dJx4a65c_add_72be8_3 (by decide) (fun c3 => absurd rfl c3) (fun _ => ?_)
  refine lv_aload_n hx hb dJx4a65c_add_72be8_6 rfl (lv_at hl 0 rfl) ?_
  refine mt_callq (wr := [(r0, .inr (4, [.ref aa, .int x1, .int x2, .int x3, .int x4, .int x5, .int x6, .int x7, .int x8, .int x9, .int x10, .int x11, .int x12]))]) (va_runV (As := []) (rest := []) ⟨hx, hb, hml, hown, hts⟩ (c_grow0f l D cy e h0 mod s.heap.size ) (cwV 0 hts gJx4a65c_add_72be8_Jx4a65c_grow_d5877 rfl rfl rfl (by decide +kernel) ⟨Nat.le_of_ble_eq_true rfl, Nat.le_of_ble_eq_true rfl⟩) (mt_preV hP hD hK hS hA hG [0] rfl (by decide) (q := (RJx4a65c, TJx4a65c, 3)) (ci := 0) (q0 := 0) rfl rfl) rfl rfl hl.1 rfl (lv_room (Nat.le_of_ble_eq_true rfl)) dJx4a65c_add_72be8_7 ⟨(Nat.le_of_ble_eq_true rfl), (Nat.le_of_ble_eq_true rfl)⟩) hP hD hS hA [0] [1] rfl rfl (by decide) (by decide) (fun r7 u H locs hw hP hD hS => ?_)
  obtain ⟨a2_7, rfl⟩ : ∃ z, z = u := ⟨_, rfl⟩
  have hP : va_P D vwCl [(r0, .inr (4, [.ref aa, .int x1, .int x2, .int x3, .int x4, .int x5, .int x6, .int x7, .int x8, .int x9, .int x10, .int x11, .int x12])), (h0, .inr (0, [.int mod, .ref a2_7, .int (nI 0)])), (a2_7, .inl (cy 5, 10, .inr (.inr (.inr (.inr (fun _ => none))))))] H := hP
  have hD : va_D A [(r0, .inr (4, [.ref aa, .int x1, .int x2, .int x3, .int x4, .int x5, .int x6, .int x7, .int x8, .int x9, .int x10, .int x11, .int x12])), (h0, .inr (0, [.int mod, .ref a2_7, .int (nI 0)])), (a2_7, .inl (cy 5, 10, .inr (.inr (.inr (.inr (fun _ => none))))))] := hD
  replace hw : r7 = some a2_7 := hw
  refine W.widen (k := 1) (n := 10) (by omega) (by omega) ?_
  obtain rfl : r7 = some a2_7 := hw
  refine lv_astore_n (lv' := [(2, .ref a2_7), (0, .ref h0), (1, .ref r0), (3, .int (nI 0))]) hx hb dJx4a65c_add_72be8_10 rfl hl (by decide) rfl (fun ls hl => ?_)
  refine lv_aload_n hx hb dJx4a65c_add_72be8_11 rfl (lv_at hl 0 rfl) ?_
  refine lv_iload_n hx hb dJx4a65c_add_72be8_12 rfl (lv_at hl 3 rfl) ?_
  refine lv_aload_n hx hb dJx4a65c_add_72be8_13 rfl (lv_at hl 2 rfl) ?_
  refine va_astqO hx hb hK hP hD hS 2 5 0 4 (r := (RX3, TX3, 13)) rfl rfl hG.gX.2.2.2.2.2.2.1 rfl rfl (by unfold vp_in; decide) dJx4a65c_add_72be8_14 (fun H locs hP hD hS => ?_)
  have hP : va_P D vwCl [(r0, .inr (4, [.ref aa, .int x1, .int x2, .int x3, .int x4, .int x5, .int x6, .int x7, .int x8, .int x9, .int x10, .int x11, .int x12])), (h0, .inr (0, [.int mod, .ref a2_7, .int (nI 0)])), (a2_7, .inl (cy 5, 10, .inr (.inr (.inr (.inr (va_up (fun _ => none) ((nI 0)).toNatClampNeg (some r0)))))))] H := hP
  have hD : va_D A [(r0, .inr (4, [.ref aa, .int x1, .int x2, .int x3, .int x4, .int x5, .int x6, .int x7, .int x8, .int x9, .int x10, .int x11, .int x12])), (h0, .inr (0, [.int mod, .ref a2_7, .int (nI 0)])), (a2_7, .inl (cy 5, 10, .inr (.inr (.inr (.inr (va_up (fun _ => none) ((nI 0)).toNatClampNeg (some r0)))))))] := hD
  have ef_14 : (va_up (fun _ => none) ((nI 0)).toNatClampNeg (some r0)) = (va_up (fun _ => none) 0 (some r0)) := by rw [nI_clamp (by decide)]
  rw [ef_14] at hP hD
  refine lv_aload_n hx hb dJx4a65c_add_72be8_15 rfl (lv_at hl 1 rfl) ?_
  refine lv_iload_n hx hb dJx4a65c_add_72be8_16 rfl (lv_at hl 3 rfl) ?_
  refine lv_iconst (v := 1) hx hb dJx4a65c_add_72be8_17 (by decide +kernel) ?_
  refine lv_iadd hx hb dJx4a65c_add_72be8_18 ?_
  refine lv_topi (fun x_1 ex_1 => ?_)
  obtain rfl : x_1 = nI 1 := by rw [ex_1]; exact nI_1 0
  refine va_put (D := D) (ci := 0) (v := .int (nI 1)) (ty := .int) (C := RJx4a65c) (T := TJx4a65c) (N := 3) hx hb hts iJx4a65c tyJx4a65c tyJx4a65c_ok nmJx4a65c hown hK hP hD hS 1 rfl rfl 2 (by decide) (hts (.fieldLink RJx4a65c 48 "java/util/ArrayList" "size" "I") (by decide +kernel)) (fun _ h9 => h9) rfl (by decide +kernel) rfl rfl (Nat.le_of_ble_eq_true rfl) dJx4a65c_add_72be8_19 (fun H locs hP hD hS => ?_)
  have hP : va_P D vwCl [(r0, .inr (4, [.ref aa, .int x1, .int x2, .int x3, .int x4, .int x5, .int x6, .int x7, .int x8, .int x9, .int x10, .int x11, .int x12])), (h0, .inr (0, [.int mod, .ref a2_7, .int (nI 1)])), (a2_7, .inl (cy 5, 10, .inr (.inr (.inr (.inr (va_up (fun _ => none) 0 (some r0)))))))] H := hP
  have hD : va_D A [(r0, .inr (4, [.ref aa, .int x1, .int x2, .int x3, .int x4, .int x5, .int x6, .int x7, .int x8, .int x9, .int x10, .int x11, .int x12])), (h0, .inr (0, [.int mod, .ref a2_7, .int (nI 1)])), (a2_7, .inl (cy 5, 10, .inr (.inr (.inr (.inr (va_up (fun _ => none) 0 (some r0)))))))] := hD
  have hP9 : va_P D vwCl [(h0, .inr (0, [.int mod, .ref a2_7, .int (nI 1)])), (a2_7, .inl (cy 5, 10, .inr (.inr (.inr (.inr (va_up (fun _ => none) 0 (some r0))))))), (r0, .inr (4, [.ref aa, .int x1, .int x2, .int x3, .int x4, .int x5, .int x6, .int x7, .int x8, .int x9, .int x10, .int x11, .int x12]))] H := hP.sub [1, 2, 0] rfl
  have hD9 : va_D A [(h0, .inr (0, [.int mod, .ref a2_7, .int (nI 1)])), (a2_7, .inl (cy 5, 10, .inr (.inr (.inr (.inr (va_up (fun _ => none) 0 (some r0))))))), (r0, .inr (4, [.ref aa, .int x1, .int x2, .int x3, .int x4, .int x5, .int x6, .int x7, .int x8, .int x9, .int x10, .int x11, .int x12]))] := hD.sub [1, 2, 0] (by decide) rfl
  refine W.widen (k := 1) (n := 10) (by omega) (by omega) ?_
  exact W.vret hx hb hr (fun t ht hW => ⟨⟨a2_7, rfl, trivial, by rw [ht]; exact hP9, hD9⟩, hS.F ht⟩) hS.2.2 dJx4a65c_add_72be8_22

set_option maxHeartbeats 4000000 in
set_option maxRecDepth 100000 in
theorem c_add_a3g (l : Launch) (D : va_G) (cy : Nat → ClassId) (e : Nat → Nat)  (h0 : Nat) (mod : Int32) (ea : Nat) (n : Nat) (f : Nat → Option Nat) (rs : List rwT) (r0 : Nat) (aa : Nat) (x1 : Int32) (x2 : Int32) (x3 : Int32) (x4 : Int32) (x5 : Int32) (x6 : Int32) (x7 : Int32) (x8 : Int32) (x9 : Int32) (x10 : Int32) (x11 : Int32) (x12 : Int32) (sz : Nat) (hls : lsok e ea n f rs) (hfull : rs.length = n) (hn : 10 ≤ n ∧ n ≤ 100) : Met l yJx4a65c_add_72be8 wsJx4a65c_add_72be8 ({ frames := 5, cells := 1, slots := n + n / 2, locals := 147 }) (va_Pc [.ref h0, .ref r0, .ref ea, .int (nI n)] (mt_B D cy e ([(h0, .inr (0, [.int mod, .ref ea, .int (nI n)])), (ea, .inl (cy 5, n, .inr (.inr (.inr (.inr f))))), (r0, .inr (4, [.ref aa, .int x1, .int x2, .int x3, .int x4, .int x5, .int x6, .int x7, .int x8, .int x9, .int x10, .int x11, .int x12]))] ++ (rpool cy rs)) sz)) (va_Qv (fun (a2 : Nat) => True) (mt_Q D (fun a2 => ([(h0, .inr (0, [.int mod, .ref a2, .int (nI (n + 1))])), (a2, .inl (cy 5, n + n / 2, .inr (.inr (.inr (.inr (va_up (va_cpy f (fun _ => none) 0 0 n) n (some r0))))))), (r0, .inr (4, [.ref aa, .int x1, .int x2, .int x3, .int x4, .int x5, .int x6, .int x7, .int x8, .int x9, .int x10, .int x11, .int x12]))] ++ (rpool cy rs))) (va_A ([(h0, .inr (0, [.int mod, .ref ea, .int (nI n)])), (ea, .inl (cy 5, n, .inr (.inr (.inr (.inr f))))), (r0, .inr (4, [.ref aa, .int x1, .int x2, .int x3, .int x4, .int x5, .int x6, .int x7, .int x8, .int x9, .int x10, .int x11, .int x12]))] ++ (rpool cy rs)) sz)) (va_A ([(h0, .inr (0, [.int mod, .ref ea, .int (nI n)])), (ea, .inl (cy 5, n, .inr (.inr (.inr (.inr f))))), (r0, .inr (4, [.ref aa, .int x1, .int x2, .int x3, .int x4, .int x5, .int x6, .int x7, .int x8, .int x9, .int x10, .int x11, .int x12]))] ++ (rpool cy rs)) sz)) (1) (n + n / 2) (va_A ([(h0, .inr (0, [.int mod, .ref ea, .int (nI n)])), (ea, .inl (cy 5, n, .inr (.inr (.inr (.inr f))))), (r0, .inr (4, [.ref aa, .int x1, .int x2, .int x3, .int x4, .int x5, .int x6, .int x7, .int x8, .int x9, .int x10, .int x11, .int x12]))] ++ (rpool cy rs)) sz) := by
  refine Met.ofW (cc := cJx4a65c_add_72be8) (maxL := 4) (ret := none) (by decide) rfl ?_
  intro p ev s m args below meth c s₁ B hml hv
  obtain ⟨rfl, hsz, hP, hK, hD0, hG⟩ := hv
  have hx := B.exec
  have hb := B.bytes
  have hr := B.returns
  have hts := atoms_spec (ws := wsJx4a65c_add_72be8) B.pre
  have hown : s.vm.findClass RJx4a65c = some m.cls := findClass_of_methodNamed B.named
  have hlocks := B.notSynchronized
  subst hsz
  have hD := hD0.self (sz := s.heap.size)
  generalize hAe : va_A ([(h0, .inr (0, [.int mod, .ref ea, .int (nI n)])), (ea, .inl (cy 5, n, .inr (.inr (.inr (.inr f))))), (r0, .inr (4, [.ref aa, .int x1, .int x2, .int x3, .int x4, .int x5, .int x6, .int x7, .int x8, .int x9, .int x10, .int x11, .int x12]))] ++ (rpool cy rs)) s.heap.size = A at hD hG ⊢
  have hA : ∀ q : Nat, s.heap.size ≤ q → A q := fun q h => by rw [← hAe]; exact Or.inr h
  have hS : va_S A s.heap s.heap [] := va_S.rf
  have hP : va_P D vwCl ([(h0, .inr (0, [.int mod, .ref ea, .int (nI n)])), (ea, .inl (cy 5, n, .inr (.inr (.inr (.inr f))))), (r0, .inr (4, [.ref aa, .int x1, .int x2, .int x3, .int x4, .int x5, .int x6, .int x7, .int x8, .int x9, .int x10, .int x11, .int x12]))] ++ (rpool cy rs)) s.heap := hP
  have iJx4a65c : ∀ w ∈ wsJx4a65c0, w ∈ wsJx4a65c_add_72be8 := fun w h => List.mem_cons_of_mem _ (List.mem_append_right _ h)
  have hl := lv_entry ([.ref h0, .ref r0, .ref ea, .int (nI n)]) (n := 4) (Nat.le_of_ble_eq_true rfl)
  rw [lg_entry_eq]
  generalize (lg_sl ([.ref h0, .ref r0, .ref ea, .int (nI n)]) ++ List.replicate (4 - (lg_sl ([.ref h0, .ref r0, .ref ea, .int (nI n)])).length) Slot.unset).toArray = ls at hl ⊢
  have hl : lv_has ls 4 [(0, .ref h0), (1, .ref r0), (2, .ref ea), (3, .int (nI n))] := hl
  refine lv_iload_n hx hb dJx4a65c_add_72be8_0 rfl (lv_at hl 3 rfl) ?_
  refine lv_aload_n hx hb dJx4a65c_add_72be8_1 rfl (lv_at hl 2 rfl) ?_
  refine va_alen hx hb hK hP 1 5 rfl rfl (v := nI n) rfl dJx4a65c_add_72be8_2 ?_
  refine lv_icmp_ne (tgt := 11) hx hb dJx4a65c_add_72be8_3 (by decide) (fun c3 => absurd rfl c3) (fun _ => ?_)
  refine lv_aload_n hx hb dJx4a65c_add_72be8_6 rfl (lv_at hl 0 rfl) ?_
  refine mt_callqP (w1 := (fun a2 => [(h0, .inr (0, [.int mod, .ref a2, .int (nI n)])), (a2, .inl (cy 5, n + n / 2, .inr (.inr (.inr (.inr (va_cpy f (fun _ => none) 0 0 n))))))])) (T1 := (fun a2 => rpool cy rs)) (wr := [(r0, .inr (4, [.ref aa, .int x1, .int x2, .int x3, .int x4, .int x5, .int x6, .int x7, .int x8, .int x9, .int x10, .int x11, .int x12]))]) (va_runV (As := []) (rest := []) ⟨hx, hb, hml, hown, hts⟩ (c_grow0 l D cy e h0 mod ea n f rs s.heap.size hls hfull hn) (cwV 0 hts gJx4a65c_add_72be8_Jx4a65c_grow_d5877 rfl rfl rfl (by decide +kernel) ⟨Nat.le_of_ble_eq_true rfl, Nat.le_of_ble_eq_true rfl⟩) (mt_preVT hP hD hK hS hA hG [0, 1] rfl (by decide) (q := (RJx4a65c, TJx4a65c, 3)) (ci := 0) (q0 := 0) rfl rfl) rfl rfl hl.1 rfl (lv_room (Nat.le_of_ble_eq_true rfl)) dJx4a65c_add_72be8_7 ⟨(Nat.le_of_ble_eq_true rfl), (show 0 + (n + n / 2) ≤ n + n / 2 from by omega)⟩) hP hD hS hA [0, 1] [2] rfl rfl (by decide) (by decide) (fun r7 u H locs hw hP hD hS => ?_)
  obtain ⟨a2_7, rfl⟩ : ∃ z, z = u := ⟨_, rfl⟩
  have hP : va_P D vwCl ([(r0, .inr (4, [.ref aa, .int x1, .int x2, .int x3, .int x4, .int x5, .int x6, .int x7, .int x8, .int x9, .int x10, .int x11, .int x12])), (h0, .inr (0, [.int mod, .ref a2_7, .int (nI n)])), (a2_7, .inl (cy 5, n + n / 2, .inr (.inr (.inr (.inr (va_cpy f (fun _ => none) 0 0 n))))))] ++ (rpool cy rs)) H := hP
  have hD : va_D A ([(r0, .inr (4, [.ref aa, .int x1, .int x2, .int x3, .int x4, .int x5, .int x6, .int x7, .int x8, .int x9, .int x10, .int x11, .int x12])), (h0, .inr (0, [.int mod, .ref a2_7, .int (nI n)])), (a2_7, .inl (cy 5, n + n / 2, .inr (.inr (.inr (.inr (va_cpy f (fun _ => none) 0 0 n))))))] ++ (rpool cy rs)) := hD
  replace hw : r7 = some a2_7 := hw
  refine W.widen (k := 1) (n := n + n / 2) (by omega) (by omega) ?_
  obtain rfl : r7 = some a2_7 := hw
  refine lv_astore_n (lv' := [(2, .ref a2_7), (0, .ref h0), (1, .ref r0), (3, .int (nI n))]) hx hb dJx4a65c_add_72be8_10 rfl hl (by decide) rfl (fun ls hl => ?_)
  refine lv_aload_n hx hb dJx4a65c_add_72be8_11 rfl (lv_at hl 0 rfl) ?_
  refine lv_iload_n hx hb dJx4a65c_add_72be8_12 rfl (lv_at hl 3 rfl) ?_
  refine lv_aload_n hx hb dJx4a65c_add_72be8_13 rfl (lv_at hl 2 rfl) ?_
  refine va_astqO hx hb hK hP hD hS 2 5 0 4 (r := (RX3, TX3, 13)) rfl rfl hG.gX.2.2.2.2.2.2.1 rfl rfl (vp_in_nI (by omega) (by omega)) dJx4a65c_add_72be8_14 (fun H locs hP hD hS => ?_)
  have hP : va_P D vwCl ([(r0, .inr (4, [.ref aa, .int x1, .int x2, .int x3, .int x4, .int x5, .int x6, .int x7, .int x8, .int x9, .int x10, .int x11, .int x12])), (h0, .inr (0, [.int mod, .ref a2_7, .int (nI n)])), (a2_7, .inl (cy 5, n + n / 2, .inr (.inr (.inr (.inr (va_up (va_cpy f (fun _ => none) 0 0 n) ((nI n)).toNatClampNeg (some r0)))))))] ++ (rpool cy rs)) H := hP
  have hD : va_D A ([(r0, .inr (4, [.ref aa, .int x1, .int x2, .int x3, .int x4, .int x5, .int x6, .int x7, .int x8, .int x9, .int x10, .int x11, .int x12])), (h0, .inr (0, [.int mod, .ref a2_7, .int (nI n)])), (a2_7, .inl (cy 5, n + n / 2, .inr (.inr (.inr (.inr (va_up (va_cpy f (fun _ => none) 0 0 n) ((nI n)).toNatClampNeg (some r0)))))))] ++ (rpool cy rs)) := hD
  have ef_14 : (va_up (va_cpy f (fun _ => none) 0 0 n) ((nI n)).toNatClampNeg (some r0)) = (va_up (va_cpy f (fun _ => none) 0 0 n) n (some r0)) := by rw [nI_clamp (by omega)]
  rw [ef_14] at hP hD
  refine lv_aload_n hx hb dJx4a65c_add_72be8_15 rfl (lv_at hl 1 rfl) ?_
  refine lv_iload_n hx hb dJx4a65c_add_72be8_16 rfl (lv_at hl 3 rfl) ?_
  refine lv_iconst (v := 1) hx hb dJx4a65c_add_72be8_17 (by decide +kernel) ?_
  refine lv_iadd hx hb dJx4a65c_add_72be8_18 ?_
  refine lv_topi (fun x_1 ex_1 => ?_)
  obtain rfl : x_1 = nI (n + 1) := by rw [ex_1]; exact nI_1 n
  refine va_put (D := D) (ci := 0) (v := .int (nI (n + 1))) (ty := .int) (C := RJx4a65c) (T := TJx4a65c) (N := 3) hx hb hts iJx4a65c tyJx4a65c tyJx4a65c_ok nmJx4a65c hown hK hP hD hS 1 rfl rfl 2 (by decide) (hts (.fieldLink RJx4a65c 48 "java/util/ArrayList" "size" "I") (by decide +kernel)) (fun _ h9 => h9) rfl (by decide +kernel) rfl rfl (Nat.le_of_ble_eq_true rfl) dJx4a65c_add_72be8_19 (fun H locs hP hD hS => ?_)
  have hP : va_P D vwCl ([(r0, .inr (4, [.ref aa, .int x1, .int x2, .int x3, .int x4, .int x5, .int x6, .int x7, .int x8, .int x9, .int x10, .int x11, .int x12])), (h0, .inr (0, [.int mod, .ref a2_7, .int (nI (n + 1))])), (a2_7, .inl (cy 5, n + n / 2, .inr (.inr (.inr (.inr (va_up (va_cpy f (fun _ => none) 0 0 n) n (some r0)))))))] ++ (rpool cy rs)) H := hP
  have hD : va_D A ([(r0, .inr (4, [.ref aa, .int x1, .int x2, .int x3, .int x4, .int x5, .int x6, .int x7, .int x8, .int x9, .int x10, .int x11, .int x12])), (h0, .inr (0, [.int mod, .ref a2_7, .int (nI (n + 1))])), (a2_7, .inl (cy 5, n + n / 2, .inr (.inr (.inr (.inr (va_up (va_cpy f (fun _ => none) 0 0 n) n (some r0)))))))] ++ (rpool cy rs)) := hD
  have hP9 : va_P D vwCl ([(h0, .inr (0, [.int mod, .ref a2_7, .int (nI (n + 1))])), (a2_7, .inl (cy 5, n + n / 2, .inr (.inr (.inr (.inr (va_up (va_cpy f (fun _ => none) 0 0 n) n (some r0))))))), (r0, .inr (4, [.ref aa, .int x1, .int x2, .int x3, .int x4, .int x5, .int x6, .int x7, .int x8, .int x9, .int x10, .int x11, .int x12]))] ++ (rpool cy rs)) H := tl_subP hP [1, 2, 0] rfl
  have hD9 : va_D A ([(h0, .inr (0, [.int mod, .ref a2_7, .int (nI (n + 1))])), (a2_7, .inl (cy 5, n + n / 2, .inr (.inr (.inr (.inr (va_up (va_cpy f (fun _ => none) 0 0 n) n (some r0))))))), (r0, .inr (4, [.ref aa, .int x1, .int x2, .int x3, .int x4, .int x5, .int x6, .int x7, .int x8, .int x9, .int x10, .int x11, .int x12]))] ++ (rpool cy rs)) := tl_subD hD [1, 2, 0] (by decide) rfl
  refine W.widen (k := 1) (n := n + n / 2) (by omega) (by omega) ?_
  exact W.vret hx hb hr (fun t ht hW => ⟨⟨a2_7, rfl, trivial, by rw [ht]; exact hP9, hD9⟩, hS.F ht⟩) hS.2.2 dJx4a65c_add_72be8_22

set_option maxHeartbeats 4000000 in
set_option maxRecDepth 100000 in
theorem c_add_a1r (l : Launch) (D : va_G) (cy : Nat → ClassId) (e : Nat → Nat)  (h0 : Nat) (mod : Int32) (ea : Nat) (n : Nat) (f : Nat → Option Nat) (sc : Nat) (r0 : Nat) (aa : Nat) (x1 : Int32) (x2 : Int32) (x3 : Int32) (x4 : Int32) (x5 : Int32) (x6 : Int32) (x7 : Int32) (x8 : Int32) (x9 : Int32) (x10 : Int32) (x11 : Int32) (x12 : Int32) (sz : Nat) (hsz : sc < n ∧ n ≤ 65536) : Met l yJx4a65c_add_9ea2d wsJx4a65c_add_9ea2d ({ frames := 1, cells := 0, slots := 0, locals := 23 }) (va_Pc [.ref h0, .ref r0] (mt_B D cy e [(h0, .inr (0, [.int mod, .ref ea, .int (nI sc)])), (ea, .inl (cy 5, n, .inr (.inr (.inr (.inr f))))), (r0, .inr (4, [.ref aa, .int x1, .int x2, .int x3, .int x4, .int x5, .int x6, .int x7, .int x8, .int x9, .int x10, .int x11, .int x12]))] sz)) (va_Qi (fun (r : Int32) (_ : Unit) => r = 1) (mt_Q D (fun (_ : Unit) => [(h0, .inr (0, [.int (mod + 1), .ref ea, .int (nI (sc + 1))])), (ea, .inl (cy 5, n, .inr (.inr (.inr (.inr (va_up f sc (some r0))))))), (r0, .inr (4, [.ref aa, .int x1, .int x2, .int x3, .int x4, .int x5, .int x6, .int x7, .int x8, .int x9, .int x10, .int x11, .int x12]))]) (va_A [(h0, .inr (0, [.int mod, .ref ea, .int (nI sc)])), (ea, .inl (cy 5, n, .inr (.inr (.inr (.inr f))))), (r0, .inr (4, [.ref aa, .int x1, .int x2, .int x3, .int x4, .int x5, .int x6, .int x7, .int x8, .int x9, .int x10, .int x11, .int x12]))] sz)) (va_A [(h0, .inr (0, [.int mod, .ref ea, .int (nI sc)])), (ea, .inl (cy 5, n, .inr (.inr (.inr (.inr f))))), (r0, .inr (4, [.ref aa, .int x1, .int x2, .int x3, .int x4, .int x5, .int x6, .int x7, .int x8, .int x9, .int x10, .int x11, .int x12]))] sz)) (0) (0) (va_A [(h0, .inr (0, [.int mod, .ref ea, .int (nI sc)])), (ea, .inl (cy 5, n, .inr (.inr (.inr (.inr f))))), (r0, .inr (4, [.ref aa, .int x1, .int x2, .int x3, .int x4, .int x5, .int x6, .int x7, .int x8, .int x9, .int x10, .int x11, .int x12]))] sz) := by
  refine Met.ofW (cc := cJx4a65c_add_9ea2d) (maxL := 2) (ret := (some .boolean)) (by decide) rfl ?_
  intro p ev s m args below meth c s₁ B hml hv
  obtain ⟨rfl, hsz, hP, hK, hD0, hG⟩ := hv
  have hx := B.exec
  have hb := B.bytes
  have hr := B.returns
  have hts := atoms_spec (ws := wsJx4a65c_add_9ea2d) B.pre
  have hown : s.vm.findClass RJx4a65c = some m.cls := findClass_of_methodNamed B.named
  have hlocks := B.notSynchronized
  subst hsz
  have hD := hD0.self (sz := s.heap.size)
  generalize hAe : va_A [(h0, .inr (0, [.int mod, .ref ea, .int (nI sc)])), (ea, .inl (cy 5, n, .inr (.inr (.inr (.inr f))))), (r0, .inr (4, [.ref aa, .int x1, .int x2, .int x3, .int x4, .int x5, .int x6, .int x7, .int x8, .int x9, .int x10, .int x11, .int x12]))] s.heap.size = A at hD hG ⊢
  have hA : ∀ q : Nat, s.heap.size ≤ q → A q := fun q h => by rw [← hAe]; exact Or.inr h
  have hS : va_S A s.heap s.heap [] := va_S.rf
  have hP : va_P D vwCl [(h0, .inr (0, [.int mod, .ref ea, .int (nI sc)])), (ea, .inl (cy 5, n, .inr (.inr (.inr (.inr f))))), (r0, .inr (4, [.ref aa, .int x1, .int x2, .int x3, .int x4, .int x5, .int x6, .int x7, .int x8, .int x9, .int x10, .int x11, .int x12]))] s.heap := hP
  have iJx4a65c : ∀ w ∈ wsJx4a65c0, w ∈ wsJx4a65c_add_9ea2d := fun w h => List.mem_cons_of_mem _ (List.mem_append_right _ h)
  have hl := lv_entry ([.ref h0, .ref r0]) (n := 2) (Nat.le_of_ble_eq_true rfl)
  rw [lg_entry_eq]
  generalize (lg_sl ([.ref h0, .ref r0]) ++ List.replicate (2 - (lg_sl ([.ref h0, .ref r0])).length) Slot.unset).toArray = ls at hl ⊢
  have hl : lv_has ls 2 [(0, .ref h0), (1, .ref r0)] := hl
  refine lv_aload_n hx hb dJx4a65c_add_9ea2d_0 rfl (lv_at hl 0 rfl) ?_
  refine lv_dup hx hb dJx4a65c_add_9ea2d_1 rfl ?_
  refine va_get (D := D) (ci := 0) (v := .int mod) (C := RJx4a65c) (T := TJx4a65c) (N := 3) hx hb hts iJx4a65c hown hK hP 0 rfl rfl 0 (by decide) (hts (.fieldLink RJx4a65c 63 "java/util/ArrayList" "modCount" "I") (by decide +kernel)) (fun x9 h9 => u_same (hts (.sameField "java/util/ArrayList" "java/util/AbstractList" "modCount" "I") (by decide +kernel)) x9 h9) rfl dJx4a65c_add_9ea2d_2 ?_
  refine lv_iconst (v := 1) hx hb dJx4a65c_add_9ea2d_5 (by decide +kernel) ?_
  refine lv_iadd hx hb dJx4a65c_add_9ea2d_6 ?_
  refine va_put (D := D) (ci := 0) (v := .int (mod + 1)) (ty := .int) (C := RJx4a65c) (T := TJx4a65c) (N := 3) hx hb hts iJx4a65c tyJx4a65c tyJx4a65c_ok nmJx4a65c hown hK hP hD hS 0 rfl rfl 0 (by decide) (hts (.fieldLink RJx4a65c 63 "java/util/ArrayList" "modCount" "I") (by decide +kernel)) (fun x9 h9 => u_same (hts (.sameField "java/util/ArrayList" "java/util/AbstractList" "modCount" "I") (by decide +kernel)) x9 h9) rfl (by decide +kernel) rfl rfl (Nat.le_of_ble_eq_true rfl) dJx4a65c_add_9ea2d_7 (fun H locs hP hD hS => ?_)
  have hP : va_P D vwCl [(h0, .inr (0, [.int (mod + 1), .ref ea, .int (nI sc)])), (ea, .inl (cy 5, n, .inr (.inr (.inr (.inr f))))), (r0, .inr (4, [.ref aa, .int x1, .int x2, .int x3, .int x4, .int x5, .int x6, .int x7, .int x8, .int x9, .int x10, .int x11, .int x12]))] H := hP
  have hD : va_D A [(h0, .inr (0, [.int (mod + 1), .ref ea, .int (nI sc)])), (ea, .inl (cy 5, n, .inr (.inr (.inr (.inr f))))), (r0, .inr (4, [.ref aa, .int x1, .int x2, .int x3, .int x4, .int x5, .int x6, .int x7, .int x8, .int x9, .int x10, .int x11, .int x12]))] := hD
  refine lv_aload_n hx hb dJx4a65c_add_9ea2d_10 rfl (lv_at hl 0 rfl) ?_
  refine lv_aload_n hx hb dJx4a65c_add_9ea2d_11 rfl (lv_at hl 1 rfl) ?_
  refine lv_aload_n hx hb dJx4a65c_add_9ea2d_12 rfl (lv_at hl 0 rfl) ?_
  refine va_get (D := D) (ci := 0) (v := .ref ea) (C := RJx4a65c) (T := TJx4a65c) (N := 3) hx hb hts iJx4a65c hown hK hP 0 rfl rfl 1 (by decide) (hts (.fieldLink RJx4a65c 9 "java/util/ArrayList" "elementData" "[Ljava/lang/Object;") (by decide +kernel)) (fun _ h9 => h9) rfl dJx4a65c_add_9ea2d_13 ?_
  refine lv_aload_n hx hb dJx4a65c_add_9ea2d_16 rfl (lv_at hl 0 rfl) ?_
  refine va_get (D := D) (ci := 0) (v := .int (nI sc)) (C := RJx4a65c) (T := TJx4a65c) (N := 3) hx hb hts iJx4a65c hown hK hP 0 rfl rfl 2 (by decide) (hts (.fieldLink RJx4a65c 48 "java/util/ArrayList" "size" "I") (by decide +kernel)) (fun _ h9 => h9) rfl dJx4a65c_add_9ea2d_17 ?_
  refine mt_callv (wr := []) (va_runV (As := [.ref r0, .ref ea, .int (nI sc)]) (rest := []) ⟨hx, hb, hml, hown, hts⟩ (c_add_a3r l D cy e h0 (mod + 1) ea n f sc r0 aa x1 x2 x3 x4 x5 x6 x7 x8 x9 x10 x11 x12 H.size hsz) (cwV 3 hts gJx4a65c_add_9ea2d_Jx4a65c_add_72be8 rfl rfl rfl (by decide +kernel) ⟨Nat.le_of_ble_eq_true rfl, Nat.le_of_ble_eq_true rfl⟩) (mt_preV hP hD hK hS hA hG [0, 1, 2] rfl (by decide) (q := (RJx4a65c, TJx4a65c, 3)) (ci := 0) (q0 := 0) rfl rfl) rfl rfl hl.1 rfl (lv_room (Nat.le_of_ble_eq_true rfl)) dJx4a65c_add_9ea2d_20 ⟨(Nat.le_of_ble_eq_true rfl), (Nat.le_of_ble_eq_true rfl)⟩) hP hD hS hA [0, 1, 2] [] rfl rfl (by decide) (by decide) (fun u H locs hw hP hD hS => ?_)
  have hP : va_P D vwCl [(h0, .inr (0, [.int (mod + 1), .ref ea, .int (nI (sc + 1))])), (ea, .inl (cy 5, n, .inr (.inr (.inr (.inr (va_up f sc (some r0))))))), (r0, .inr (4, [.ref aa, .int x1, .int x2, .int x3, .int x4, .int x5, .int x6, .int x7, .int x8, .int x9, .int x10, .int x11, .int x12]))] H := hP
  have hD : va_D A [(h0, .inr (0, [.int (mod + 1), .ref ea, .int (nI (sc + 1))])), (ea, .inl (cy 5, n, .inr (.inr (.inr (.inr (va_up f sc (some r0))))))), (r0, .inr (4, [.ref aa, .int x1, .int x2, .int x3, .int x4, .int x5, .int x6, .int x7, .int x8, .int x9, .int x10, .int x11, .int x12]))] := hD
  replace hw : True := hw
  refine W.widen (k := 0) (n := 0) (by omega) (by omega) ?_
  refine lv_iconst (v := 1) hx hb dJx4a65c_add_9ea2d_23 (by decide +kernel) ?_
  have hP9 : va_P D vwCl [(h0, .inr (0, [.int (mod + 1), .ref ea, .int (nI (sc + 1))])), (ea, .inl (cy 5, n, .inr (.inr (.inr (.inr (va_up f sc (some r0))))))), (r0, .inr (4, [.ref aa, .int x1, .int x2, .int x3, .int x4, .int x5, .int x6, .int x7, .int x8, .int x9, .int x10, .int x11, .int x12]))] H := hP.sub [0, 1, 2] rfl
  have hD9 : va_D A [(h0, .inr (0, [.int (mod + 1), .ref ea, .int (nI (sc + 1))])), (ea, .inl (cy 5, n, .inr (.inr (.inr (.inr (va_up f sc (some r0))))))), (r0, .inr (4, [.ref aa, .int x1, .int x2, .int x3, .int x4, .int x5, .int x6, .int x7, .int x8, .int x9, .int x10, .int x11, .int x12]))] := hD.sub [0, 1, 2] (by decide) rfl
  refine W.widen (k := 0) (n := 0) (by omega) (by omega) ?_
  exact W.zret hx hb hr rfl (fun t ht hW => ⟨⟨_, (), rfl, rfl, by rw [ht]; exact hP9, hD9⟩, hS.F ht⟩) hS.2.2 dJx4a65c_add_9ea2d_24

set_option maxHeartbeats 4000000 in
set_option maxRecDepth 100000 in
theorem c_add_a1f (l : Launch) (D : va_G) (cy : Nat → ClassId) (e : Nat → Nat)  (h0 : Nat) (mod : Int32) (r0 : Nat) (aa : Nat) (x1 : Int32) (x2 : Int32) (x3 : Int32) (x4 : Int32) (x5 : Int32) (x6 : Int32) (x7 : Int32) (x8 : Int32) (x9 : Int32) (x10 : Int32) (x11 : Int32) (x12 : Int32) (sz : Nat)  : Met l yJx4a65c_add_9ea2d wsJx4a65c_add_9ea2d ({ frames := 4, cells := 1, slots := 10, locals := 80 }) (va_Pc [.ref h0, .ref r0] (mt_B D cy e [(h0, .inr (0, [.int mod, .ref (e 0), .int (nI 0)])), (r0, .inr (4, [.ref aa, .int x1, .int x2, .int x3, .int x4, .int x5, .int x6, .int x7, .int x8, .int x9, .int x10, .int x11, .int x12]))] sz)) (va_Qi (fun (r : Int32) (a2 : Nat) => r = 1) (mt_Q D (fun a2 => [(h0, .inr (0, [.int (mod + 1), .ref a2, .int (nI 1)])), (a2, .inl (cy 5, 10, .inr (.inr (.inr (.inr (va_up (fun _ => none) 0 (some r0))))))), (r0, .inr (4, [.ref aa, .int x1, .int x2, .int x3, .int x4, .int x5, .int x6, .int x7, .int x8, .int x9, .int x10, .int x11, .int x12]))]) (va_A [(h0, .inr (0, [.int mod, .ref (e 0), .int (nI 0)])), (r0, .inr (4, [.ref aa, .int x1, .int x2, .int x3, .int x4, .int x5, .int x6, .int x7, .int x8, .int x9, .int x10, .int x11, .int x12]))] sz)) (va_A [(h0, .inr (0, [.int mod, .ref (e 0), .int (nI 0)])), (r0, .inr (4, [.ref aa, .int x1, .int x2, .int x3, .int x4, .int x5, .int x6, .int x7, .int x8, .int x9, .int x10, .int x11, .int x12]))] sz)) (1) (10) (va_A [(h0, .inr (0, [.int mod, .ref (e 0), .int (nI 0)])), (r0, .inr (4, [.ref aa, .int x1, .int x2, .int x3, .int x4, .int x5, .int x6, .int x7, .int x8, .int x9, .int x10, .int x11, .int x12]))] sz) := by
  refine Met.ofW (cc := cJx4a65c_add_9ea2d) (maxL := 2) (ret := (some .boolean)) (by decide) rfl ?_
  intro p ev s m args below meth c s₁ B hml hv
  obtain ⟨rfl, hsz, hP, hK, hD0, hG⟩ := hv
  have hx := B.exec
  have hb := B.bytes
  have hr := B.returns
  have hts := atoms_spec (ws := wsJx4a65c_add_9ea2d) B.pre
  have hown : s.vm.findClass RJx4a65c = some m.cls := findClass_of_methodNamed B.named
  have hlocks := B.notSynchronized
  subst hsz
  have hD := hD0.self (sz := s.heap.size)
  generalize hAe : va_A [(h0, .inr (0, [.int mod, .ref (e 0), .int (nI 0)])), (r0, .inr (4, [.ref aa, .int x1, .int x2, .int x3, .int x4, .int x5, .int x6, .int x7, .int x8, .int x9, .int x10, .int x11, .int x12]))] s.heap.size = A at hD hG ⊢
  have hA : ∀ q : Nat, s.heap.size ≤ q → A q := fun q h => by rw [← hAe]; exact Or.inr h
  have hS : va_S A s.heap s.heap [] := va_S.rf
  have hP : va_P D vwCl [(h0, .inr (0, [.int mod, .ref (e 0), .int (nI 0)])), (r0, .inr (4, [.ref aa, .int x1, .int x2, .int x3, .int x4, .int x5, .int x6, .int x7, .int x8, .int x9, .int x10, .int x11, .int x12]))] s.heap := hP
  have iJx4a65c : ∀ w ∈ wsJx4a65c0, w ∈ wsJx4a65c_add_9ea2d := fun w h => List.mem_cons_of_mem _ (List.mem_append_right _ h)
  have hl := lv_entry ([.ref h0, .ref r0]) (n := 2) (Nat.le_of_ble_eq_true rfl)
  rw [lg_entry_eq]
  generalize (lg_sl ([.ref h0, .ref r0]) ++ List.replicate (2 - (lg_sl ([.ref h0, .ref r0])).length) Slot.unset).toArray = ls at hl ⊢
  have hl : lv_has ls 2 [(0, .ref h0), (1, .ref r0)] := hl
  refine lv_aload_n hx hb dJx4a65c_add_9ea2d_0 rfl (lv_at hl 0 rfl) ?_
  refine lv_dup hx hb dJx4a65c_add_9ea2d_1 rfl ?_
  refine va_get (D := D) (ci := 0) (v := .int mod) (C := RJx4a65c) (T := TJx4a65c) (N := 3) hx hb hts iJx4a65c hown hK hP 0 rfl rfl 0 (by decide) (hts (.fieldLink RJx4a65c 63 "java/util/ArrayList" "modCount" "I") (by decide +kernel)) (fun x9 h9 => u_same (hts (.sameField "java/util/ArrayList" "java/util/AbstractList" "modCount" "I") (by decide +kernel)) x9 h9) rfl dJx4a65c_add_9ea2d_2 ?_
  refine lv_iconst (v := 1) hx hb dJx4a65c_add_9ea2d_5 (by decide +kernel) ?_
  refine lv_iadd hx hb dJx4a65c_add_9ea2d_6 ?_
  refine va_put (D := D) (ci := 0) (v := .int (mod + 1)) (ty := .int) (C := RJx4a65c) (T := TJx4a65c) (N := 3) hx hb hts iJx4a65c tyJx4a65c tyJx4a65c_ok nmJx4a65c hown hK hP hD hS 0 rfl rfl 0 (by decide) (hts (.fieldLink RJx4a65c 63 "java/util/ArrayList" "modCount" "I") (by decide +kernel)) (fun x9 h9 => u_same (hts (.sameField "java/util/ArrayList" "java/util/AbstractList" "modCount" "I") (by decide +kernel)) x9 h9) rfl (by decide +kernel) rfl rfl (Nat.le_of_ble_eq_true rfl) dJx4a65c_add_9ea2d_7 (fun H locs hP hD hS => ?_)
  have hP : va_P D vwCl [(h0, .inr (0, [.int (mod + 1), .ref (e 0), .int (nI 0)])), (r0, .inr (4, [.ref aa, .int x1, .int x2, .int x3, .int x4, .int x5, .int x6, .int x7, .int x8, .int x9, .int x10, .int x11, .int x12]))] H := hP
  have hD : va_D A [(h0, .inr (0, [.int (mod + 1), .ref (e 0), .int (nI 0)])), (r0, .inr (4, [.ref aa, .int x1, .int x2, .int x3, .int x4, .int x5, .int x6, .int x7, .int x8, .int x9, .int x10, .int x11, .int x12]))] := hD
  refine lv_aload_n hx hb dJx4a65c_add_9ea2d_10 rfl (lv_at hl 0 rfl) ?_
  refine lv_aload_n hx hb dJx4a65c_add_9ea2d_11 rfl (lv_at hl 1 rfl) ?_
  refine lv_aload_n hx hb dJx4a65c_add_9ea2d_12 rfl (lv_at hl 0 rfl) ?_
  refine va_get (D := D) (ci := 0) (v := .ref (e 0)) (C := RJx4a65c) (T := TJx4a65c) (N := 3) hx hb hts iJx4a65c hown hK hP 0 rfl rfl 1 (by decide) (hts (.fieldLink RJx4a65c 9 "java/util/ArrayList" "elementData" "[Ljava/lang/Object;") (by decide +kernel)) (fun _ h9 => h9) rfl dJx4a65c_add_9ea2d_13 ?_
  refine lv_aload_n hx hb dJx4a65c_add_9ea2d_16 rfl (lv_at hl 0 rfl) ?_
  refine va_get (D := D) (ci := 0) (v := .int (nI 0)) (C := RJx4a65c) (T := TJx4a65c) (N := 3) hx hb hts iJx4a65c hown hK hP 0 rfl rfl 2 (by decide) (hts (.fieldLink RJx4a65c 48 "java/util/ArrayList" "size" "I") (by decide +kernel)) (fun _ h9 => h9) rfl dJx4a65c_add_9ea2d_17 ?_
  refine mt_callv (wr := []) (va_runV (As := [.ref r0, .ref (e 0), .int (nI 0)]) (rest := []) ⟨hx, hb, hml, hown, hts⟩ (c_add_a3f l D cy e h0 (mod + 1) r0 aa x1 x2 x3 x4 x5 x6 x7 x8 x9 x10 x11 x12 H.size ) (cwV 3 hts gJx4a65c_add_9ea2d_Jx4a65c_add_72be8 rfl rfl rfl (by decide +kernel) ⟨Nat.le_of_ble_eq_true rfl, Nat.le_of_ble_eq_true rfl⟩) (mt_preV hP hD hK hS hA hG [0, 1] rfl (by decide) (q := (RJx4a65c, TJx4a65c, 3)) (ci := 0) (q0 := 0) rfl rfl) rfl rfl hl.1 rfl (lv_room (Nat.le_of_ble_eq_true rfl)) dJx4a65c_add_9ea2d_20 ⟨(Nat.le_of_ble_eq_true rfl), (Nat.le_of_ble_eq_true rfl)⟩) hP hD hS hA [0, 1] [] rfl rfl (by decide) (by decide) (fun u H locs hw hP hD hS => ?_)
  obtain ⟨a2_20, rfl⟩ : ∃ z, z = u := ⟨_, rfl⟩
  have hP : va_P D vwCl [(h0, .inr (0, [.int (mod + 1), .ref a2_20, .int (nI 1)])), (a2_20, .inl (cy 5, 10, .inr (.inr (.inr (.inr (va_up (fun _ => none) 0 (some r0))))))), (r0, .inr (4, [.ref aa, .int x1, .int x2, .int x3, .int x4, .int x5, .int x6, .int x7, .int x8, .int x9, .int x10, .int x11, .int x12]))] H := hP
  have hD : va_D A [(h0, .inr (0, [.int (mod + 1), .ref a2_20, .int (nI 1)])), (a2_20, .inl (cy 5, 10, .inr (.inr (.inr (.inr (va_up (fun _ => none) 0 (some r0))))))), (r0, .inr (4, [.ref aa, .int x1, .int x2, .int x3, .int x4, .int x5, .int x6, .int x7, .int x8, .int x9, .int x10, .int x11, .int x12]))] := hD
  replace hw : True := hw
  refine W.widen (k := 1) (n := 10) (by omega) (by omega) ?_
  refine lv_iconst (v := 1) hx hb dJx4a65c_add_9ea2d_23 (by decide +kernel) ?_
  have hP9 : va_P D vwCl [(h0, .inr (0, [.int (mod + 1), .ref a2_20, .int (nI 1)])), (a2_20, .inl (cy 5, 10, .inr (.inr (.inr (.inr (va_up (fun _ => none) 0 (some r0))))))), (r0, .inr (4, [.ref aa, .int x1, .int x2, .int x3, .int x4, .int x5, .int x6, .int x7, .int x8, .int x9, .int x10, .int x11, .int x12]))] H := hP.sub [0, 1, 2] rfl
  have hD9 : va_D A [(h0, .inr (0, [.int (mod + 1), .ref a2_20, .int (nI 1)])), (a2_20, .inl (cy 5, 10, .inr (.inr (.inr (.inr (va_up (fun _ => none) 0 (some r0))))))), (r0, .inr (4, [.ref aa, .int x1, .int x2, .int x3, .int x4, .int x5, .int x6, .int x7, .int x8, .int x9, .int x10, .int x11, .int x12]))] := hD.sub [0, 1, 2] (by decide) rfl
  refine W.widen (k := 1) (n := 10) (by omega) (by omega) ?_
  exact W.zret hx hb hr rfl (fun t ht hW => ⟨⟨_, a2_20, rfl, rfl, by rw [ht]; exact hP9, hD9⟩, hS.F ht⟩) hS.2.2 dJx4a65c_add_9ea2d_24

set_option maxHeartbeats 4000000 in
set_option maxRecDepth 100000 in
theorem c_add_a1g (l : Launch) (D : va_G) (cy : Nat → ClassId) (e : Nat → Nat)  (h0 : Nat) (mod : Int32) (ea : Nat) (n : Nat) (f : Nat → Option Nat) (rs : List rwT) (r0 : Nat) (aa : Nat) (x1 : Int32) (x2 : Int32) (x3 : Int32) (x4 : Int32) (x5 : Int32) (x6 : Int32) (x7 : Int32) (x8 : Int32) (x9 : Int32) (x10 : Int32) (x11 : Int32) (x12 : Int32) (sz : Nat) (hls : lsok e ea n f rs) (hfull : rs.length = n) (hn : 10 ≤ n ∧ n ≤ 100) : Met l yJx4a65c_add_9ea2d wsJx4a65c_add_9ea2d ({ frames := 6, cells := 1, slots := n + n / 2, locals := 170 }) (va_Pc [.ref h0, .ref r0] (mt_B D cy e ([(h0, .inr (0, [.int mod, .ref ea, .int (nI n)])), (ea, .inl (cy 5, n, .inr (.inr (.inr (.inr f))))), (r0, .inr (4, [.ref aa, .int x1, .int x2, .int x3, .int x4, .int x5, .int x6, .int x7, .int x8, .int x9, .int x10, .int x11, .int x12]))] ++ (rpool cy rs)) sz)) (va_Qi (fun (r : Int32) (a2 : Nat) => r = 1) (mt_Q D (fun a2 => ([(h0, .inr (0, [.int (mod + 1), .ref a2, .int (nI (n + 1))])), (a2, .inl (cy 5, n + n / 2, .inr (.inr (.inr (.inr (va_up (va_cpy f (fun _ => none) 0 0 n) n (some r0))))))), (r0, .inr (4, [.ref aa, .int x1, .int x2, .int x3, .int x4, .int x5, .int x6, .int x7, .int x8, .int x9, .int x10, .int x11, .int x12]))] ++ (rpool cy rs))) (va_A ([(h0, .inr (0, [.int mod, .ref ea, .int (nI n)])), (ea, .inl (cy 5, n, .inr (.inr (.inr (.inr f))))), (r0, .inr (4, [.ref aa, .int x1, .int x2, .int x3, .int x4, .int x5, .int x6, .int x7, .int x8, .int x9, .int x10, .int x11, .int x12]))] ++ (rpool cy rs)) sz)) (va_A ([(h0, .inr (0, [.int mod, .ref ea, .int (nI n)])), (ea, .inl (cy 5, n, .inr (.inr (.inr (.inr f))))), (r0, .inr (4, [.ref aa, .int x1, .int x2, .int x3, .int x4, .int x5, .int x6, .int x7, .int x8, .int x9, .int x10, .int x11, .int x12]))] ++ (rpool cy rs)) sz)) (1) (n + n / 2) (va_A ([(h0, .inr (0, [.int mod, .ref ea, .int (nI n)])), (ea, .inl (cy 5, n, .inr (.inr (.inr (.inr f))))), (r0, .inr (4, [.ref aa, .int x1, .int x2, .int x3, .int x4, .int x5, .int x6, .int x7, .int x8, .int x9, .int x10, .int x11, .int x12]))] ++ (rpool cy rs)) sz) := by
  refine Met.ofW (cc := cJx4a65c_add_9ea2d) (maxL := 2) (ret := (some .boolean)) (by decide) rfl ?_
  intro p ev s m args below meth c s₁ B hml hv
  obtain ⟨rfl, hsz, hP, hK, hD0, hG⟩ := hv
  have hx := B.exec
  have hb := B.bytes
  have hr := B.returns
  have hts := atoms_spec (ws := wsJx4a65c_add_9ea2d) B.pre
  have hown : s.vm.findClass RJx4a65c = some m.cls := findClass_of_methodNamed B.named
  have hlocks := B.notSynchronized
  subst hsz
  have hD := hD0.self (sz := s.heap.size)
  generalize hAe : va_A ([(h0, .inr (0, [.int mod, .ref ea, .int (nI n)])), (ea, .inl (cy 5, n, .inr (.inr (.inr (.inr f))))), (r0, .inr (4, [.ref aa, .int x1, .int x2, .int x3, .int x4, .int x5, .int x6, .int x7, .int x8, .int x9, .int x10, .int x11, .int x12]))] ++ (rpool cy rs)) s.heap.size = A at hD hG ⊢
  have hA : ∀ q : Nat, s.heap.size ≤ q → A q := fun q h => by rw [← hAe]; exact Or.inr h
  have hS : va_S A s.heap s.heap [] := va_S.rf
  have hP : va_P D vwCl ([(h0, .inr (0, [.int mod, .ref ea, .int (nI n)])), (ea, .inl (cy 5, n, .inr (.inr (.inr (.inr f))))), (r0, .inr (4, [.ref aa, .int x1, .int x2, .int x3, .int x4, .int x5, .int x6, .int x7, .int x8, .int x9, .int x10, .int x11, .int x12]))] ++ (rpool cy rs)) s.heap := hP
  have iJx4a65c : ∀ w ∈ wsJx4a65c0, w ∈ wsJx4a65c_add_9ea2d := fun w h => List.mem_cons_of_mem _ (List.mem_append_right _ h)
  have hl := lv_entry ([.ref h0, .ref r0]) (n := 2) (Nat.le_of_ble_eq_true rfl)
  rw [lg_entry_eq]
  generalize (lg_sl ([.ref h0, .ref r0]) ++ List.replicate (2 - (lg_sl ([.ref h0, .ref r0])).length) Slot.unset).toArray = ls at hl ⊢
  have hl : lv_has ls 2 [(0, .ref h0), (1, .ref r0)] := hl
  refine lv_aload_n hx hb dJx4a65c_add_9ea2d_0 rfl (lv_at hl 0 rfl) ?_
  refine lv_dup hx hb dJx4a65c_add_9ea2d_1 rfl ?_
  refine va_get (D := D) (ci := 0) (v := .int mod) (C := RJx4a65c) (T := TJx4a65c) (N := 3) hx hb hts iJx4a65c hown hK hP 0 rfl rfl 0 (by decide) (hts (.fieldLink RJx4a65c 63 "java/util/ArrayList" "modCount" "I") (by decide +kernel)) (fun x9 h9 => u_same (hts (.sameField "java/util/ArrayList" "java/util/AbstractList" "modCount" "I") (by decide +kernel)) x9 h9) rfl dJx4a65c_add_9ea2d_2 ?_
  refine lv_iconst (v := 1) hx hb dJx4a65c_add_9ea2d_5 (by decide +kernel) ?_
  refine lv_iadd hx hb dJx4a65c_add_9ea2d_6 ?_
  refine va_put (D := D) (ci := 0) (v := .int (mod + 1)) (ty := .int) (C := RJx4a65c) (T := TJx4a65c) (N := 3) hx hb hts iJx4a65c tyJx4a65c tyJx4a65c_ok nmJx4a65c hown hK hP hD hS 0 rfl rfl 0 (by decide) (hts (.fieldLink RJx4a65c 63 "java/util/ArrayList" "modCount" "I") (by decide +kernel)) (fun x9 h9 => u_same (hts (.sameField "java/util/ArrayList" "java/util/AbstractList" "modCount" "I") (by decide +kernel)) x9 h9) rfl (by decide +kernel) rfl rfl (Nat.le_of_ble_eq_true rfl) dJx4a65c_add_9ea2d_7 (fun H locs hP hD hS => ?_)
  have hP : va_P D vwCl ([(h0, .inr (0, [.int (mod + 1), .ref ea, .int (nI n)])), (ea, .inl (cy 5, n, .inr (.inr (.inr (.inr f))))), (r0, .inr (4, [.ref aa, .int x1, .int x2, .int x3, .int x4, .int x5, .int x6, .int x7, .int x8, .int x9, .int x10, .int x11, .int x12]))] ++ (rpool cy rs)) H := hP
  have hD : va_D A ([(h0, .inr (0, [.int (mod + 1), .ref ea, .int (nI n)])), (ea, .inl (cy 5, n, .inr (.inr (.inr (.inr f))))), (r0, .inr (4, [.ref aa, .int x1, .int x2, .int x3, .int x4, .int x5, .int x6, .int x7, .int x8, .int x9, .int x10, .int x11, .int x12]))] ++ (rpool cy rs)) := hD
  refine lv_aload_n hx hb dJx4a65c_add_9ea2d_10 rfl (lv_at hl 0 rfl) ?_
  refine lv_aload_n hx hb dJx4a65c_add_9ea2d_11 rfl (lv_at hl 1 rfl) ?_
  refine lv_aload_n hx hb dJx4a65c_add_9ea2d_12 rfl (lv_at hl 0 rfl) ?_
  refine va_get (D := D) (ci := 0) (v := .ref ea) (C := RJx4a65c) (T := TJx4a65c) (N := 3) hx hb hts iJx4a65c hown hK hP 0 rfl rfl 1 (by decide) (hts (.fieldLink RJx4a65c 9 "java/util/ArrayList" "elementData" "[Ljava/lang/Object;") (by decide +kernel)) (fun _ h9 => h9) rfl dJx4a65c_add_9ea2d_13 ?_
  refine lv_aload_n hx hb dJx4a65c_add_9ea2d_16 rfl (lv_at hl 0 rfl) ?_
  refine va_get (D := D) (ci := 0) (v := .int (nI n)) (C := RJx4a65c) (T := TJx4a65c) (N := 3) hx hb hts iJx4a65c hown hK hP 0 rfl rfl 2 (by decide) (hts (.fieldLink RJx4a65c 48 "java/util/ArrayList" "size" "I") (by decide +kernel)) (fun _ h9 => h9) rfl dJx4a65c_add_9ea2d_17 ?_
  refine mt_callvP (w1 := (fun a2 => [(h0, .inr (0, [.int (mod + 1), .ref a2, .int (nI (n + 1))])), (a2, .inl (cy 5, n + n / 2, .inr (.inr (.inr (.inr (va_up (va_cpy f (fun _ => none) 0 0 n) n (some r0))))))), (r0, .inr (4, [.ref aa, .int x1, .int x2, .int x3, .int x4, .int x5, .int x6, .int x7, .int x8, .int x9, .int x10, .int x11, .int x12]))])) (T1 := (fun a2 => rpool cy rs)) (wr := []) (va_runV (As := [.ref r0, .ref ea, .int (nI n)]) (rest := []) ⟨hx, hb, hml, hown, hts⟩ (c_add_a3g l D cy e h0 (mod + 1) ea n f rs r0 aa x1 x2 x3 x4 x5 x6 x7 x8 x9 x10 x11 x12 H.size hls hfull hn) (cwV 3 hts gJx4a65c_add_9ea2d_Jx4a65c_add_72be8 rfl rfl rfl (by decide +kernel) ⟨Nat.le_of_ble_eq_true rfl, Nat.le_of_ble_eq_true rfl⟩) (mt_preVT hP hD hK hS hA hG [0, 1, 2] rfl (by decide) (q := (RJx4a65c, TJx4a65c, 3)) (ci := 0) (q0 := 0) rfl rfl) rfl rfl hl.1 rfl (lv_room (Nat.le_of_ble_eq_true rfl)) dJx4a65c_add_9ea2d_20 ⟨(Nat.le_of_ble_eq_true rfl), (show 0 + (n + n / 2) ≤ n + n / 2 from by omega)⟩) hP hD hS hA [0, 1, 2] [] rfl rfl (by decide) (by decide) (fun u H locs hw hP hD hS => ?_)
  obtain ⟨a2_20, rfl⟩ : ∃ z, z = u := ⟨_, rfl⟩
  have hP : va_P D vwCl ([(h0, .inr (0, [.int (mod + 1), .ref a2_20, .int (nI (n + 1))])), (a2_20, .inl (cy 5, n + n / 2, .inr (.inr (.inr (.inr (va_up (va_cpy f (fun _ => none) 0 0 n) n (some r0))))))), (r0, .inr (4, [.ref aa, .int x1, .int x2, .int x3, .int x4, .int x5, .int x6, .int x7, .int x8, .int x9, .int x10, .int x11, .int x12]))] ++ (rpool cy rs)) H := hP
  have hD : va_D A ([(h0, .inr (0, [.int (mod + 1), .ref a2_20, .int (nI (n + 1))])), (a2_20, .inl (cy 5, n + n / 2, .inr (.inr (.inr (.inr (va_up (va_cpy f (fun _ => none) 0 0 n) n (some r0))))))), (r0, .inr (4, [.ref aa, .int x1, .int x2, .int x3, .int x4, .int x5, .int x6, .int x7, .int x8, .int x9, .int x10, .int x11, .int x12]))] ++ (rpool cy rs)) := hD
  replace hw : True := hw
  refine W.widen (k := 1) (n := n + n / 2) (by omega) (by omega) ?_
  refine lv_iconst (v := 1) hx hb dJx4a65c_add_9ea2d_23 (by decide +kernel) ?_
  have hP9 : va_P D vwCl ([(h0, .inr (0, [.int (mod + 1), .ref a2_20, .int (nI (n + 1))])), (a2_20, .inl (cy 5, n + n / 2, .inr (.inr (.inr (.inr (va_up (va_cpy f (fun _ => none) 0 0 n) n (some r0))))))), (r0, .inr (4, [.ref aa, .int x1, .int x2, .int x3, .int x4, .int x5, .int x6, .int x7, .int x8, .int x9, .int x10, .int x11, .int x12]))] ++ (rpool cy rs)) H := tl_subP hP [0, 1, 2] rfl
  have hD9 : va_D A ([(h0, .inr (0, [.int (mod + 1), .ref a2_20, .int (nI (n + 1))])), (a2_20, .inl (cy 5, n + n / 2, .inr (.inr (.inr (.inr (va_up (va_cpy f (fun _ => none) 0 0 n) n (some r0))))))), (r0, .inr (4, [.ref aa, .int x1, .int x2, .int x3, .int x4, .int x5, .int x6, .int x7, .int x8, .int x9, .int x10, .int x11, .int x12]))] ++ (rpool cy rs)) := tl_subD hD [0, 1, 2] (by decide) rfl
  refine W.widen (k := 1) (n := n + n / 2) (by omega) (by omega) ?_
  exact W.zret hx hb hr rfl (fun t ht hW => ⟨⟨_, a2_20, rfl, rfl, by rw [ht]; exact hP9, hD9⟩, hS.F ht⟩) hS.2.2 dJx4a65c_add_9ea2d_24

set_option maxHeartbeats 4000000 in
set_option maxRecDepth 100000 in
theorem c_elementData (l : Launch) (D : va_G) (cy : Nat → ClassId) (e : Nat → Nat)  (h0 : Nat) (mod : Int32) (ea : Nat) (sc : Nat) (n : Nat) (f : Nat → Option Nat) (i : Nat) (q : Nat) (hi : i < sc ∧ sc ≤ n ∧ n ≤ 65536) (hq : f i = some q) : Met l yJx4a65c_elementData_915e3 wsJx4a65c_elementData_915e3 ({ frames := 0, cells := 0, slots := 0, locals := 0 }) (va_Pc [.ref h0, .int (nI i)] (pu_B D cy e [(h0, .inr (0, [.int mod, .ref ea, .int (nI sc)])), (ea, .inl (cy 5, n, .inr (.inr (.inr (.inr f)))))])) (va_Qq (fun (r : Option Nat) (_ : Unit) => r = some q) (fun _ _ => True) (fun _ => False)) 0 0 (fun _ => False) := by
  refine Met.ofW (cc := cJx4a65c_elementData_915e3) (maxL := 2) (ret := (some (.object "java/lang/Object"))) (by decide) rfl ?_
  intro p ev s m args below meth c s₁ B hml hv
  obtain ⟨rfl, hP, hK, hG⟩ := hv
  have hx := B.exec
  have hb := B.bytes
  have hr := B.returns
  have hts := atoms_spec (ws := wsJx4a65c_elementData_915e3) B.pre
  have hown : s.vm.findClass RJx4a65c = some m.cls := findClass_of_methodNamed B.named
  have hlocks := B.notSynchronized
  have hS : va_S (fun _ => False) s.heap s.heap [] := va_S.rf
  have hP : va_P D vwCl [(h0, .inr (0, [.int mod, .ref ea, .int (nI sc)])), (ea, .inl (cy 5, n, .inr (.inr (.inr (.inr f)))))] s.heap := hP
  have iJx4a65c : ∀ w ∈ wsJx4a65c0, w ∈ wsJx4a65c_elementData_915e3 := fun w h => List.mem_cons_of_mem _ (List.mem_append_right _ h)
  have hl := lv_entry ([.ref h0, .int (nI i)]) (n := 2) (Nat.le_of_ble_eq_true rfl)
  rw [lg_entry_eq]
  generalize (lg_sl ([.ref h0, .int (nI i)]) ++ List.replicate (2 - (lg_sl ([.ref h0, .int (nI i)])).length) Slot.unset).toArray = ls at hl ⊢
  have hl : lv_has ls 2 [(0, .ref h0), (1, .int (nI i))] := hl
  refine lv_aload_n hx hb dJx4a65c_elementData_915e3_0 rfl (lv_at hl 0 rfl) ?_
  refine va_get (D := D) (ci := 0) (v := .ref ea) (C := RJx4a65c) (T := TJx4a65c) (N := 3) hx hb hts iJx4a65c hown hK hP 0 rfl rfl 1 (by decide) (hts (.fieldLink RJx4a65c 9 "java/util/ArrayList" "elementData" "[Ljava/lang/Object;") (by decide +kernel)) (fun _ h9 => h9) rfl dJx4a65c_elementData_915e3_1 ?_
  refine lv_iload_n hx hb dJx4a65c_elementData_915e3_4 rfl (lv_at hl 1 rfl) ?_
  refine aldq_s (q := q) hx hb hK hP 1 rfl (vp_in_nI (by omega) (by omega)) (by rw [nI_clamp (by omega)]; exact hq) dJx4a65c_elementData_915e3_5 ?_
  exact W.aret hx hb hr (Or.inl ⟨_, rfl⟩) (Or.inr ⟨_, rfl⟩) (fun t ht hW => ⟨⟨some q, (), rfl, rfl, trivial⟩, hS.F ht⟩) hS.2.2 dJx4a65c_elementData_915e3_6

set_option maxHeartbeats 4000000 in
set_option maxRecDepth 100000 in
theorem c_checkIndex15 (l : Launch) (D : va_G) (cy : Nat → ClassId) (e : Nat → Nat)  (i : Int32) (n : Int32) (h0 : ¬ i < 0) (h1 : i < n) : Met l yJ15_checkIndex_7cf53 wsJ15_checkIndex_7cf53 ({ frames := 1, cells := 0, slots := 0, locals := 22 }) (va_Pc [.int i, .int n] (pu_B D cy e [])) (va_Qi (fun (r : Int32) (_ : Unit) => r = i) (fun _ _ => True) (fun _ => False)) 0 0 (fun _ => False) := by
  refine Met.ofW (cc := cJ15_checkIndex_7cf53) (maxL := 2) (ret := (some .int)) (by decide) rfl ?_
  intro p ev s m args below meth c s₁ B hml hv
  obtain ⟨rfl, hP, hK, hG⟩ := hv
  have hx := B.exec
  have hb := B.bytes
  have hr := B.returns
  have hts := atoms_spec (ws := wsJ15_checkIndex_7cf53) B.pre
  have hown : s.vm.findClass RJ15 = some m.cls := findClass_of_methodNamed B.named
  have hlocks := B.notSynchronized
  have hS : va_S (fun _ => False) s.heap s.heap [] := va_S.rf
  have hP : va_P D vwCl [] s.heap := hP
  have hl := lv_entry ([.int i, .int n]) (n := 2) (Nat.le_of_ble_eq_true rfl)
  rw [lg_entry_eq]
  generalize (lg_sl ([.int i, .int n]) ++ List.replicate (2 - (lg_sl ([.int i, .int n])).length) Slot.unset).toArray = ls at hl ⊢
  have hl : lv_has ls 2 [(0, .int i), (1, .int n)] := hl
  refine lv_iload_n hx hb dJ15_checkIndex_7cf53_0 rfl (lv_at hl 0 rfl) ?_
  refine lv_iload_n hx hb dJ15_checkIndex_7cf53_1 rfl (lv_at hl 1 rfl) ?_
  refine lv_null hx hb dJ15_checkIndex_7cf53_2 ?_
  refine pu_calli (va_runS (As := [.int i, .int n, .null]) (rest := []) ⟨hx, hb, hml, hown, hts⟩ (c_checkIndex3n l D cy e i n (by first | assumption | omega | decide +kernel) (by first | assumption | omega | decide +kernel)) (va_cwS 3 hts gJ15_checkIndex_7cf53_J3_checkIndex_8e157 rfl rfl rfl (by decide +kernel) ⟨Nat.le_of_ble_eq_true rfl, Nat.le_of_ble_eq_true rfl⟩) (pu_preS hP hK hS hG [] rfl) rfl rfl hl.1 rfl (lv_room (Nat.le_of_ble_eq_true rfl)) dJ15_checkIndex_7cf53_3 ⟨(Nat.le_of_ble_eq_true rfl), (Nat.le_of_ble_eq_true rfl)⟩) hP hS (fun H locs hP hS => ?_)
  have hP : va_P D vwCl [] H := hP
  exact W.iret hx hb hr (fun t ht hW => ⟨⟨_, (), rfl, rfl, trivial⟩, hS.F ht⟩) hS.2.2 dJ15_checkIndex_7cf53_6

set_option maxHeartbeats 4000000 in
set_option maxRecDepth 100000 in
theorem c_get (l : Launch) (D : va_G) (cy : Nat → ClassId) (e : Nat → Nat)  (h0 : Nat) (mod : Int32) (ea : Nat) (sc : Nat) (n : Nat) (f : Nat → Option Nat) (i : Nat) (q : Nat) (hi : i < sc ∧ sc ≤ n ∧ n ≤ 65536) (hq : f i = some q) : Met l yJx4a65c_get_915e3 wsJx4a65c_get_915e3 ({ frames := 2, cells := 0, slots := 0, locals := 43 }) (va_Pc [.ref h0, .int (nI i)] (pu_B D cy e [(h0, .inr (0, [.int mod, .ref ea, .int (nI sc)])), (ea, .inl (cy 5, n, .inr (.inr (.inr (.inr f)))))])) (va_Qq (fun (r : Option Nat) (_ : Unit) => r = some q) (fun _ _ => True) (fun _ => False)) 0 0 (fun _ => False) := by
  refine Met.ofW (cc := cJx4a65c_get_915e3) (maxL := 2) (ret := (some (.object "java/lang/Object"))) (by decide) rfl ?_
  intro p ev s m args below meth c s₁ B hml hv
  obtain ⟨rfl, hP, hK, hG⟩ := hv
  have hx := B.exec
  have hb := B.bytes
  have hr := B.returns
  have hts := atoms_spec (ws := wsJx4a65c_get_915e3) B.pre
  have hown : s.vm.findClass RJx4a65c = some m.cls := findClass_of_methodNamed B.named
  have hlocks := B.notSynchronized
  have hS : va_S (fun _ => False) s.heap s.heap [] := va_S.rf
  have hP : va_P D vwCl [(h0, .inr (0, [.int mod, .ref ea, .int (nI sc)])), (ea, .inl (cy 5, n, .inr (.inr (.inr (.inr f)))))] s.heap := hP
  have iJx4a65c : ∀ w ∈ wsJx4a65c0, w ∈ wsJx4a65c_get_915e3 := fun w h => List.mem_cons_of_mem _ (List.mem_append_right _ h)
  have hl := lv_entry ([.ref h0, .int (nI i)]) (n := 2) (Nat.le_of_ble_eq_true rfl)
  rw [lg_entry_eq]
  generalize (lg_sl ([.ref h0, .int (nI i)]) ++ List.replicate (2 - (lg_sl ([.ref h0, .int (nI i)])).length) Slot.unset).toArray = ls at hl ⊢
  have hl : lv_has ls 2 [(0, .ref h0), (1, .int (nI i))] := hl
  refine lv_iload_n hx hb dJx4a65c_get_915e3_0 rfl (lv_at hl 1 rfl) ?_
  refine lv_aload_n hx hb dJx4a65c_get_915e3_1 rfl (lv_at hl 0 rfl) ?_
  refine va_get (D := D) (ci := 0) (v := .int (nI sc)) (C := RJx4a65c) (T := TJx4a65c) (N := 3) hx hb hts iJx4a65c hown hK hP 0 rfl rfl 2 (by decide) (hts (.fieldLink RJx4a65c 48 "java/util/ArrayList" "size" "I") (by decide +kernel)) (fun _ h9 => h9) rfl dJx4a65c_get_915e3_2 ?_
  refine pu_calli (va_runS (As := [.int (nI i), .int (nI sc)]) (rest := []) ⟨hx, hb, hml, hown, hts⟩ (c_checkIndex15 l D cy e (nI i) (nI sc) (nI_pos (by omega)) (nI_lt hi.1 (by omega))) (va_cwS 2 hts gJx4a65c_get_915e3_J15_checkIndex_7cf53 rfl rfl rfl (by decide +kernel) ⟨Nat.le_of_ble_eq_true rfl, Nat.le_of_ble_eq_true rfl⟩) (pu_preS hP hK hS hG [] rfl) rfl rfl hl.1 rfl (lv_room (Nat.le_of_ble_eq_true rfl)) dJx4a65c_get_915e3_5 ⟨(Nat.le_of_ble_eq_true rfl), (Nat.le_of_ble_eq_true rfl)⟩) hP hS (fun H locs hP hS => ?_)
  have hP : va_P D vwCl [(h0, .inr (0, [.int mod, .ref ea, .int (nI sc)])), (ea, .inl (cy 5, n, .inr (.inr (.inr (.inr f)))))] H := hP
  refine lv_pop hx hb dJx4a65c_get_915e3_8 rfl ?_
  refine lv_aload_n hx hb dJx4a65c_get_915e3_9 rfl (lv_at hl 0 rfl) ?_
  refine lv_iload_n hx hb dJx4a65c_get_915e3_10 rfl (lv_at hl 1 rfl) ?_
  refine pu_callq (va_runV (As := [.int (nI i)]) (rest := []) ⟨hx, hb, hml, hown, hts⟩ (c_elementData l D cy e h0 mod ea sc n f i q hi hq) (cwV 1 hts gJx4a65c_get_915e3_Jx4a65c_elementData_915e3 rfl rfl rfl (by decide +kernel) ⟨Nat.le_of_ble_eq_true rfl, Nat.le_of_ble_eq_true rfl⟩) (pu_preV hP hK hS hG [0, 1] rfl (q := (RJx4a65c, TJx4a65c, 3)) (ci := 0) (q0 := 0) rfl rfl) rfl rfl hl.1 rfl (lv_room (Nat.le_of_ble_eq_true rfl)) dJx4a65c_get_915e3_11 ⟨(Nat.le_of_ble_eq_true rfl), (Nat.le_of_ble_eq_true rfl)⟩) hP hS (fun H locs hP hS => ?_)
  have hP : va_P D vwCl [(h0, .inr (0, [.int mod, .ref ea, .int (nI sc)])), (ea, .inl (cy 5, n, .inr (.inr (.inr (.inr f)))))] H := hP
  exact W.aret hx hb hr (Or.inl ⟨_, rfl⟩) (Or.inr ⟨_, rfl⟩) (fun t ht hW => ⟨⟨some q, (), rfl, rfl, trivial⟩, hS.F ht⟩) hS.2.2 dJx4a65c_get_915e3_14

set_option maxHeartbeats 4000000 in
set_option maxRecDepth 100000 in
theorem c_AL_size (l : Launch) (D : va_G) (cy : Nat → ClassId) (e : Nat → Nat)  (h0 : Nat) (mod : Int32) (el : Value) (sz0 : Int32)  : Met l yJx4a65c_size_8abf5 wsJx4a65c_size_8abf5 ({ frames := 0, cells := 0, slots := 0, locals := 0 }) (va_Pc [.ref h0] (pu_B D cy e [(h0, .inr (0, [.int mod, el, .int sz0]))])) (va_Qi (fun (r : Int32) (_ : Unit) => r = sz0) (fun _ _ => True) (fun _ => False)) 0 0 (fun _ => False) := by
  refine Met.ofW (cc := cJx4a65c_size_8abf5) (maxL := 1) (ret := (some .int)) (by decide) rfl ?_
  intro p ev s m args below meth c s₁ B hml hv
  obtain ⟨rfl, hP, hK, hG⟩ := hv
  have hx := B.exec
  have hb := B.bytes
  have hr := B.returns
  have hts := atoms_spec (ws := wsJx4a65c_size_8abf5) B.pre
  have hown : s.vm.findClass RJx4a65c = some m.cls := findClass_of_methodNamed B.named
  have hlocks := B.notSynchronized
  have hS : va_S (fun _ => False) s.heap s.heap [] := va_S.rf
  have hP : va_P D vwCl [(h0, .inr (0, [.int mod, el, .int sz0]))] s.heap := hP
  have iJx4a65c : ∀ w ∈ wsJx4a65c0, w ∈ wsJx4a65c_size_8abf5 := fun w h => List.mem_cons_of_mem _ (List.mem_append_right _ h)
  have hl := lv_entry ([.ref h0]) (n := 1) (Nat.le_of_ble_eq_true rfl)
  rw [lg_entry_eq]
  generalize (lg_sl ([.ref h0]) ++ List.replicate (1 - (lg_sl ([.ref h0])).length) Slot.unset).toArray = ls at hl ⊢
  have hl : lv_has ls 1 [(0, .ref h0)] := hl
  refine lv_aload_n hx hb dJx4a65c_size_8abf5_0 rfl (lv_at hl 0 rfl) ?_
  refine va_get (D := D) (ci := 0) (v := .int sz0) (C := RJx4a65c) (T := TJx4a65c) (N := 3) hx hb hts iJx4a65c hown hK hP 0 rfl rfl 2 (by decide) (hts (.fieldLink RJx4a65c 48 "java/util/ArrayList" "size" "I") (by decide +kernel)) (fun _ h9 => h9) rfl dJx4a65c_size_8abf5_1 ?_
  exact W.iret hx hb hr (fun t ht hW => ⟨⟨_, (), rfl, rfl, trivial⟩, hS.F ht⟩) hS.2.2 dJx4a65c_size_8abf5_4
