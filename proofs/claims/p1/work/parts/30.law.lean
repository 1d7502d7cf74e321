set_option maxHeartbeats 8000000 in
set_option maxRecDepth 100000 in
/-- THE LAW, from its entry, for a script of at most 5 ints -/
theorem whole_start {p : Program} {ev : Env} {s : State} {m : MethodId} {below : List Frame} {meth : Method} {c : Code} (l : Launch) {b L : Nat} {xs : Nat → Int32} (hL : L ≤ 5) (C0 : lw_At p s m meth c b L xs) : W p l ev room_1 s m #[Value.ref b] below meth c s.heap [] 0 0 (lw_Z below #[Value.ref b] s) (entryFrame m ([Value.ref b] : List Value).toArray 4) := by
  obtain ⟨hx, hb, hr, hml, hown, hts0, hX, hbl, hlocks, hgv⟩ := C0
  obtain ⟨D, cy, e, hK, hG0⟩ := law_start hts0 hgv
  have hown : s.vm.findClass RL = some m.cls := hown
  have hts : ∀ w ∈ wsL_law, w.before #[Value.ref b] s = true := fun w h => hts0 w (wsL_law_in w h)
  obtain ⟨A, hAe⟩ : ∃ A : Nat → Prop, A = (fun q : Nat => s.heap.size ≤ q) := ⟨_, rfl⟩
  have hA : ∀ q : Nat, s.heap.size ≤ q → A q := fun q h => by rw [hAe]; exact h
  have hbA : ¬ A b := by rw [hAe]; exact Nat.not_le.mpr hbl
  have hG : gl_G e A s s.heap := by rw [hAe]; exact hG0
  have hS : va_S A s.heap s.heap [] := va_S.rf
  have hP : va_P D vwCl [] s.heap := fun k q h => by simp at h
  have hD : va_D A [] := ⟨fun i j p q h => by simp at h, fun k q h => by simp at h⟩
  have iX8 := inlX8
  have iX9 := inlX9
  have hl := lv_entry ([.ref b]) (n := 4) (Nat.le_of_ble_eq_true rfl)
  rw [lg_entry_eq]
  generalize (lg_sl ([.ref b]) ++ List.replicate (4 - (lg_sl ([.ref b])).length) Slot.unset).toArray = ls at hl ⊢
  have hl : lv_has ls 4 [(0, .ref b)] := hl
  refine va_new (ci := 9) (fs := [.null, .null, .null]) (C := RX8) (T := TX8) (N := 3) hx hb hts iX8 tyX8 tyX8_ok hown (hts (.classLink RL 7 RX8) (by decide +kernel)) (hts (.instantiable RX8 3) (by decide +kernel)) (hts (.initialized RX8) (by decide +kernel)) hK hP hD hS hA rfl (by decide +kernel) (Nat.le_of_ble_eq_true rfl) (Nat.le_of_ble_eq_true rfl) dL_law_0 (fun a0 H hP hD hS => ?_)
  have hP : va_P D vwCl [(a0, .inr (9, [.null, .null, .null]))] H := hP
  have hD : va_D A [(a0, .inr (9, [.null, .null, .null]))] := hD
  refine W.widen (k := 1) (n := 3) (by omega) (by omega) ?_
  refine lv_dup hx hb dL_law_3 rfl ?_
  refine mt_callv (va_runI (As := []) (rest := [.ref a0]) ⟨hx, hb, hml, hown, hts⟩ (c_IT_init l D cy e a0 H.size ) (cwI 0 hts gL_law_X8_init rfl rfl rfl (hts (.initialized RX8) (by decide +kernel)) (hts (.methodLink RL 9 yX8_init) (by decide +kernel)) (hts (.instanceMethod yX8_init) (by decide +kernel)) rfl (by decide +kernel) ⟨Nat.le_of_ble_eq_true rfl, Nat.le_of_ble_eq_true rfl⟩) (mt_preS hP hD hK hS hA hG [0] rfl (by decide)) rfl rfl hl.1 rfl (lv_room (Nat.le_of_ble_eq_true rfl)) dL_law_4 ⟨(Nat.le_of_ble_eq_true rfl), (Nat.le_of_ble_eq_true rfl)⟩) hP hD hS hA [0] [] rfl rfl (by decide) (by decide) (fun u H locs hw hP hD hS => ?_)
  obtain ⟨tx_4, rm_4, cn_4, tb_4, ro_4, xp_4, cd_4, st_4⟩ := u
  have hP : va_P D vwCl [(a0, .inr (9, [.ref tx_4, .ref cn_4, .ref tb_4])), (tx_4, .inr (1, [.int (nI 3000), .ref rm_4, .int (nI 0)])), (rm_4, .inl (cy 0, 64, .inl (fun _ => 0))), (cn_4, .inl (cy 2, 16, .inr (.inl (fun _ => 0)))), (tb_4, .inr (6, [.ref ro_4, .ref xp_4, .null, .int 0])), (ro_4, .inr (0, [.int 0, .ref (e 0), .int (nI 0)])), (xp_4, .inr (2, [.ref cd_4, .int (nI 0), .ref st_4])), (cd_4, .inl (cy 0, 0, .inl (fun _ => 0))), (st_4, .inl (cy 2, 32, .inr (.inl (fun _ => 0))))] H := hP
  have hD : va_D A [(a0, .inr (9, [.ref tx_4, .ref cn_4, .ref tb_4])), (tx_4, .inr (1, [.int (nI 3000), .ref rm_4, .int (nI 0)])), (rm_4, .inl (cy 0, 64, .inl (fun _ => 0))), (cn_4, .inl (cy 2, 16, .inr (.inl (fun _ => 0)))), (tb_4, .inr (6, [.ref ro_4, .ref xp_4, .null, .int 0])), (ro_4, .inr (0, [.int 0, .ref (e 0), .int (nI 0)])), (xp_4, .inr (2, [.ref cd_4, .int (nI 0), .ref st_4])), (cd_4, .inl (cy 0, 0, .inl (fun _ => 0))), (st_4, .inl (cy 2, 32, .inr (.inl (fun _ => 0))))] := hD
  replace hw : True := hw
  refine W.widen (k := 9) (n := 128) (by omega) (by omega) ?_
  refine lv_astore_n (lv' := [(1, .ref a0), (0, .ref b)]) hx hb dL_law_7 rfl hl (by decide) rfl (fun ls hl => ?_)
  refine va_new (ci := 10) (fs := [.null, .int 0, .null, .null, .int 0, .int 0, .int 0, .int 0, .null, .null, .null, .int 0, .int 0, .int 0, .null, .null, .null, .null, .null, .null, .int 0, .null, .null, .null, .int 0, .null, .null, .null, .int 0, .null, .null, .int 0]) (C := RX9) (T := TX9) (N := 32) hx hb hts iX9 tyX9 tyX9_ok hown (hts (.classLink RL 10 RX9) (by decide +kernel)) (hts (.instantiable RX9 32) (by decide +kernel)) (hts (.initialized RX9) (by decide +kernel)) hK hP hD hS hA rfl (by decide +kernel) (Nat.le_of_ble_eq_true rfl) (Nat.le_of_ble_eq_true rfl) dL_law_8 (fun a8 H hP hD hS => ?_)
  have hP : va_P D vwCl [(a0, .inr (9, [.ref tx_4, .ref cn_4, .ref tb_4])), (tx_4, .inr (1, [.int (nI 3000), .ref rm_4, .int (nI 0)])), (rm_4, .inl (cy 0, 64, .inl (fun _ => 0))), (cn_4, .inl (cy 2, 16, .inr (.inl (fun _ => 0)))), (tb_4, .inr (6, [.ref ro_4, .ref xp_4, .null, .int 0])), (ro_4, .inr (0, [.int 0, .ref (e 0), .int (nI 0)])), (xp_4, .inr (2, [.ref cd_4, .int (nI 0), .ref st_4])), (cd_4, .inl (cy 0, 0, .inl (fun _ => 0))), (st_4, .inl (cy 2, 32, .inr (.inl (fun _ => 0)))), (a8, .inr (10, [.null, .int 0, .null, .null, .int 0, .int 0, .int 0, .int 0, .null, .null, .null, .int 0, .int 0, .int 0, .null, .null, .null, .null, .null, .null, .int 0, .null, .null, .null, .int 0, .null, .null, .null, .int 0, .null, .null, .int 0]))] H := hP
  have hD : va_D A [(a0, .inr (9, [.ref tx_4, .ref cn_4, .ref tb_4])), (tx_4, .inr (1, [.int (nI 3000), .ref rm_4, .int (nI 0)])), (rm_4, .inl (cy 0, 64, .inl (fun _ => 0))), (cn_4, .inl (cy 2, 16, .inr (.inl (fun _ => 0)))), (tb_4, .inr (6, [.ref ro_4, .ref xp_4, .null, .int 0])), (ro_4, .inr (0, [.int 0, .ref (e 0), .int (nI 0)])), (xp_4, .inr (2, [.ref cd_4, .int (nI 0), .ref st_4])), (cd_4, .inl (cy 0, 0, .inl (fun _ => 0))), (st_4, .inl (cy 2, 32, .inr (.inl (fun _ => 0)))), (a8, .inr (10, [.null, .int 0, .null, .null, .int 0, .int 0, .int 0, .int 0, .null, .null, .null, .int 0, .int 0, .int 0, .null, .null, .null, .null, .null, .null, .int 0, .null, .null, .null, .int 0, .null, .null, .null, .int 0, .null, .null, .int 0]))] := hD
  refine W.widen (k := 10) (n := 160) (by omega) (by omega) ?_
  refine lv_dup hx hb dL_law_11 rfl ?_
  refine mt_callv (va_runI (As := []) (rest := [.ref a8]) ⟨hx, hb, hml, hown, hts⟩ (c_M_init l D cy e a8 H.size ) (cwI 0 hts gL_law_X9_init rfl rfl rfl (hts (.initialized RX9) (by decide +kernel)) (hts (.methodLink RL 12 yX9_init) (by decide +kernel)) (hts (.instanceMethod yX9_init) (by decide +kernel)) rfl (by decide +kernel) ⟨Nat.le_of_ble_eq_true rfl, Nat.le_of_ble_eq_true rfl⟩) (mt_preS hP hD hK hS hA hG [9] rfl (by decide)) rfl rfl hl.1 rfl (lv_room (Nat.le_of_ble_eq_true rfl)) dL_law_12 ⟨(Nat.le_of_ble_eq_true rfl), (Nat.le_of_ble_eq_true rfl)⟩) hP hD hS hA [9] [0, 1, 2, 3, 4, 5, 6, 7, 8] rfl rfl (by decide) (by decide) (fun u H locs hw hP hD hS => ?_)
  obtain ⟨q_12, rfl⟩ : ∃ z, z = u := ⟨_, rfl⟩
  have hP : va_P D vwCl [(a0, .inr (9, [.ref tx_4, .ref cn_4, .ref tb_4])), (tx_4, .inr (1, [.int (nI 3000), .ref rm_4, .int (nI 0)])), (rm_4, .inl (cy 0, 64, .inl (fun _ => 0))), (cn_4, .inl (cy 2, 16, .inr (.inl (fun _ => 0)))), (tb_4, .inr (6, [.ref ro_4, .ref xp_4, .null, .int 0])), (ro_4, .inr (0, [.int 0, .ref (e 0), .int (nI 0)])), (xp_4, .inr (2, [.ref cd_4, .int (nI 0), .ref st_4])), (cd_4, .inl (cy 0, 0, .inl (fun _ => 0))), (st_4, .inl (cy 2, 32, .inr (.inl (fun _ => 0)))), (a8, .inr (10, [.ref (q_12 0), .int (nI 0), .ref (q_12 1), .ref (q_12 2), .int (nI 0), .int (nI 0), .int 0, .int 0, .ref (q_12 3), .ref (q_12 4), .ref (q_12 5), .int (nI 0), .int (nI 0), .int (nI 0), .ref (q_12 6), .ref (q_12 7), .ref (q_12 8), .ref (q_12 9), .ref (q_12 10), .ref (q_12 11), .int (nI 0), .ref (q_12 12), .ref (q_12 13), .ref (q_12 14), .int 0, .ref (q_12 15), .ref (q_12 16), .ref (q_12 17), .int 0, .ref (q_12 18), .ref (q_12 19), .int 0])), (q_12 0, .inl (cy 0, 3000, .inl (fun _ => 0))), (q_12 1, .inl (cy 1, 3001, .inl (fun _ => 0))), (q_12 2, .inl (cy 1, 3001, .inl (fun _ => 0))), (q_12 3, .inl (cy 1, 6000, .inl (fun _ => 0))), (q_12 4, .inl (cy 1, 6000, .inl (fun _ => 0))), (q_12 5, .inl (cy 1, 6000, .inl (fun _ => 0))), (q_12 6, .inl (cy 1, 80, .inl (fun _ => 0))), (q_12 7, .inl (cy 1, 80, .inl (fun _ => 0))), (q_12 8, .inl (cy 1, 640, .inl (fun _ => 0))), (q_12 9, .inl (cy 1, 80, .inl (fun _ => 0))), (q_12 10, .inl (cy 4, 80, .inl (fun _ => 0))), (q_12 11, .inl (cy 1, 80, .inl (fun _ => 0))), (q_12 12, .inl (cy 1, 40, .inl (fun _ => 0))), (q_12 13, .inl (cy 4, 40, .inl (fun _ => 0))), (q_12 14, .inl (cy 1, 40, .inl (fun _ => 0))), (q_12 15, .inl (cy 2, 40960, .inr (.inl (fun _ => 0)))), (q_12 16, .inl (cy 2, 71680, .inr (.inl (fun _ => 0)))), (q_12 17, .inl (cy 2, 1024, .inr (.inl (fun _ => 0)))), (q_12 18, .inl (cy 4, 40, .inl (fun _ => 0))), (q_12 19, .inl (cy 0, 256, .inl (fun _ => 0)))] H := hP
  have hD : va_D A [(a0, .inr (9, [.ref tx_4, .ref cn_4, .ref tb_4])), (tx_4, .inr (1, [.int (nI 3000), .ref rm_4, .int (nI 0)])), (rm_4, .inl (cy 0, 64, .inl (fun _ => 0))), (cn_4, .inl (cy 2, 16, .inr (.inl (fun _ => 0)))), (tb_4, .inr (6, [.ref ro_4, .ref xp_4, .null, .int 0])), (ro_4, .inr (0, [.int 0, .ref (e 0), .int (nI 0)])), (xp_4, .inr (2, [.ref cd_4, .int (nI 0), .ref st_4])), (cd_4, .inl (cy 0, 0, .inl (fun _ => 0))), (st_4, .inl (cy 2, 32, .inr (.inl (fun _ => 0)))), (a8, .inr (10, [.ref (q_12 0), .int (nI 0), .ref (q_12 1), .ref (q_12 2), .int (nI 0), .int (nI 0), .int 0, .int 0, .ref (q_12 3), .ref (q_12 4), .ref (q_12 5), .int (nI 0), .int (nI 0), .int (nI 0), .ref (q_12 6), .ref (q_12 7), .ref (q_12 8), .ref (q_12 9), .ref (q_12 10), .ref (q_12 11), .int (nI 0), .ref (q_12 12), .ref (q_12 13), .ref (q_12 14), .int 0, .ref (q_12 15), .ref (q_12 16), .ref (q_12 17), .int 0, .ref (q_12 18), .ref (q_12 19), .int 0])), (q_12 0, .inl (cy 0, 3000, .inl (fun _ => 0))), (q_12 1, .inl (cy 1, 3001, .inl (fun _ => 0))), (q_12 2, .inl (cy 1, 3001, .inl (fun _ => 0))), (q_12 3, .inl (cy 1, 6000, .inl (fun _ => 0))), (q_12 4, .inl (cy 1, 6000, .inl (fun _ => 0))), (q_12 5, .inl (cy 1, 6000, .inl (fun _ => 0))), (q_12 6, .inl (cy 1, 80, .inl (fun _ => 0))), (q_12 7, .inl (cy 1, 80, .inl (fun _ => 0))), (q_12 8, .inl (cy 1, 640, .inl (fun _ => 0))), (q_12 9, .inl (cy 1, 80, .inl (fun _ => 0))), (q_12 10, .inl (cy 4, 80, .inl (fun _ => 0))), (q_12 11, .inl (cy 1, 80, .inl (fun _ => 0))), (q_12 12, .inl (cy 1, 40, .inl (fun _ => 0))), (q_12 13, .inl (cy 4, 40, .inl (fun _ => 0))), (q_12 14, .inl (cy 1, 40, .inl (fun _ => 0))), (q_12 15, .inl (cy 2, 40960, .inr (.inl (fun _ => 0)))), (q_12 16, .inl (cy 2, 71680, .inr (.inl (fun _ => 0)))), (q_12 17, .inl (cy 2, 1024, .inr (.inl (fun _ => 0)))), (q_12 18, .inl (cy 4, 40, .inl (fun _ => 0))), (q_12 19, .inl (cy 0, 256, .inl (fun _ => 0)))] := hD
  replace hw : True := hw
  refine W.widen (k := 30) (n := 142282) (by omega) (by omega) ?_
  refine lv_astore_n (lv' := [(2, .ref a8), (1, .ref a0), (0, .ref b)]) hx hb dL_law_15 rfl hl (by decide) rfl (fun ls hl => ?_)
  refine lv_iconst (v := 0) hx hb dL_law_16 (by decide +kernel) ?_
  refine lv_istore_n (lv' := [(3, .int 0), (2, .ref a8), (1, .ref a0), (0, .ref b)]) hx hb dL_law_17 rfl hl (by decide) rfl (fun ls hl => ?_)
  rcases (show L < 5 ∨ L = 5 by omega) with hL5 | rfl
  · refine lv_iload_n hx hb dL_law_18 rfl (lv_at hl 0 rfl) ?_
    refine lv_aload_n hx hb dL_law_19 rfl (lv_at hl 3 rfl) ?_
    refine va_slen hx hb hX hbl hbA hS dL_law_20 ?_
    refine lv_iconst (v := 5) hx hb dL_law_21 (by decide +kernel) ?_
    refine lv_isub hx hb dL_law_22 ?_
    refine lv_icmp_gt (tgt := 422) hx hb dL_law_23 (by decide) (fun _ => ?_) (fun c23 => absurd (law_short hL5) c23)
    refine lv_iconst (v := 1) hx hb dL_law_422 (by decide +kernel) ?_
    refine va_forget (fun q hq => by have := hS.2.2 q hq; rw [hAe] at this; exact this) ?_
    refine W.widen (k := 600000) (n := 7302250) (by omega) (by omega) ?_
    exact lw_ret hx hb hr hlocks dL_law_423
  · skip
    refine lv_iload_n hx hb dL_law_18 rfl (lv_at hl 0 rfl) ?_
    refine lv_aload_n hx hb dL_law_19 rfl (lv_at hl 3 rfl) ?_
    refine va_slen hx hb hX hbl hbA hS dL_law_20 ?_
    refine lv_iconst (v := 5) hx hb dL_law_21 (by decide +kernel) ?_
    refine lv_isub hx hb dL_law_22 ?_
    refine lv_icmp_gt (tgt := 422) hx hb dL_law_23 (by decide) (fun c23 => absurd c23 (by decide +kernel)) (fun _ => ?_)
    refine lv_aload_n hx hb dL_law_26 rfl (lv_at hl 3 rfl) ?_
    refine lv_iload_n hx hb dL_law_27 rfl (lv_at hl 0 rfl) ?_
    refine va_sld hx hb hX hbl hbA hS (by unfold vp_in; decide +kernel) dL_law_28 ?_
    refine lv_topi (fun x_1 ex_1 => ?_)
    obtain rfl : x_1 = xs 0 := by rw [ex_1]; rfl
    refine lv_bipush (v := 15) hx hb dL_law_29 (by decide +kernel) ?_
    refine lv_iand hx hb dL_law_31 ?_
    refine lv_topi (fun y ey => ?_)
    obtain ⟨j, hj, ej⟩ := pk_andE (xs 0) (m := 15) 4 (by decide)
    obtain rfl : y = nI j := by rw [ey]; exact ej
    rcases (show j = 0 ∨ j = 1 ∨ j = 2 ∨ j = 3 ∨ j = 4 ∨ j = 5 ∨ j = 6 ∨ j = 7 ∨ j = 8 ∨ j = 9 ∨ j = 10 ∨ j = 11 ∨ j = 12 ∨ j = 13 ∨ j = 14 ∨ j = 15 by omega) with rfl | rfl | rfl | rfl | rfl | rfl | rfl | rfl | rfl | rfl | rfl | rfl | rfl | rfl | rfl | rfl
    · refine lv_tableIn (off := 64) (tgt := 96) hx hb dL_law_32 (by decide +kernel) (by decide +kernel) rfl (by decide) ?_
      refine lv_aload_n hx hb dL_law_96 rfl (lv_at hl 2 rfl) ?_
      refine lv_aload_n hx hb dL_law_97 rfl (lv_at hl 3 rfl) ?_
      refine lv_iload_n hx hb dL_law_98 rfl (lv_at hl 0 rfl) ?_
      refine lv_iconst (v := 1) hx hb dL_law_99 (by decide +kernel) ?_
      refine lv_iadd hx hb dL_law_100 ?_
      refine va_sld hx hb hX hbl hbA hS (by unfold vp_in; decide +kernel) dL_law_101 ?_
      refine lv_topi (fun x_2 ex_2 => ?_)
      obtain rfl : x_2 = xs 1 := by rw [ex_2]; rfl
      refine mt_calli (va_runV (As := [.int (xs 1)]) (rest := []) ⟨hx, hb, hml, hown, hts⟩ (c_IT_unit0 l D cy e a0 tx_4 cn_4 tb_4 rm_4 (xs 1) H.size ) (cwV 1 hts gL_law_X8_unit rfl rfl rfl (by decide +kernel) ⟨Nat.le_of_ble_eq_true rfl, Nat.le_of_ble_eq_true rfl⟩) (mt_preV hP hD hK hS hA hG [0, 1, 2] rfl (by decide) (q := (RX8, TX8, 3)) (ci := 9) (q0 := 0) rfl rfl) rfl rfl hl.1 rfl (lv_room (Nat.le_of_ble_eq_true rfl)) dL_law_102 ⟨(Nat.le_of_ble_eq_true rfl), (Nat.le_of_ble_eq_true rfl)⟩) hP hD hS hA [0, 1, 2] [3, 4, 5, 6, 7, 8, 9, 10, 11, 12, 13, 14, 15, 16, 17, 18, 19, 20, 21, 22, 23, 24, 25, 26, 27, 28, 29] rfl rfl (by decide) (by decide) (fun r102 u H locs hw hP hD hS => ?_)
      have hP : va_P D vwCl [(cn_4, .inl (cy 2, 16, .inr (.inl (fun _ => 0)))), (tb_4, .inr (6, [.ref ro_4, .ref xp_4, .null, .int 0])), (ro_4, .inr (0, [.int 0, .ref (e 0), .int (nI 0)])), (xp_4, .inr (2, [.ref cd_4, .int (nI 0), .ref st_4])), (cd_4, .inl (cy 0, 0, .inl (fun _ => 0))), (st_4, .inl (cy 2, 32, .inr (.inl (fun _ => 0)))), (a8, .inr (10, [.ref (q_12 0), .int (nI 0), .ref (q_12 1), .ref (q_12 2), .int (nI 0), .int (nI 0), .int 0, .int 0, .ref (q_12 3), .ref (q_12 4), .ref (q_12 5), .int (nI 0), .int (nI 0), .int (nI 0), .ref (q_12 6), .ref (q_12 7), .ref (q_12 8), .ref (q_12 9), .ref (q_12 10), .ref (q_12 11), .int (nI 0), .ref (q_12 12), .ref (q_12 13), .ref (q_12 14), .int 0, .ref (q_12 15), .ref (q_12 16), .ref (q_12 17), .int 0, .ref (q_12 18), .ref (q_12 19), .int 0])), (q_12 0, .inl (cy 0, 3000, .inl (fun _ => 0))), (q_12 1, .inl (cy 1, 3001, .inl (fun _ => 0))), (q_12 2, .inl (cy 1, 3001, .inl (fun _ => 0))), (q_12 3, .inl (cy 1, 6000, .inl (fun _ => 0))), (q_12 4, .inl (cy 1, 6000, .inl (fun _ => 0))), (q_12 5, .inl (cy 1, 6000, .inl (fun _ => 0))), (q_12 6, .inl (cy 1, 80, .inl (fun _ => 0))), (q_12 7, .inl (cy 1, 80, .inl (fun _ => 0))), (q_12 8, .inl (cy 1, 640, .inl (fun _ => 0))), (q_12 9, .inl (cy 1, 80, .inl (fun _ => 0))), (q_12 10, .inl (cy 4, 80, .inl (fun _ => 0))), (q_12 11, .inl (cy 1, 80, .inl (fun _ => 0))), (q_12 12, .inl (cy 1, 40, .inl (fun _ => 0))), (q_12 13, .inl (cy 4, 40, .inl (fun _ => 0))), (q_12 14, .inl (cy 1, 40, .inl (fun _ => 0))), (q_12 15, .inl (cy 2, 40960, .inr (.inl (fun _ => 0)))), (q_12 16, .inl (cy 2, 71680, .inr (.inl (fun _ => 0)))), (q_12 17, .inl (cy 2, 1024, .inr (.inl (fun _ => 0)))), (q_12 18, .inl (cy 4, 40, .inl (fun _ => 0))), (q_12 19, .inl (cy 0, 256, .inl (fun _ => 0)))] H := hP
      have hD : va_D A [(cn_4, .inl (cy 2, 16, .inr (.inl (fun _ => 0)))), (tb_4, .inr (6, [.ref ro_4, .ref xp_4, .null, .int 0])), (ro_4, .inr (0, [.int 0, .ref (e 0), .int (nI 0)])), (xp_4, .inr (2, [.ref cd_4, .int (nI 0), .ref st_4])), (cd_4, .inl (cy 0, 0, .inl (fun _ => 0))), (st_4, .inl (cy 2, 32, .inr (.inl (fun _ => 0)))), (a8, .inr (10, [.ref (q_12 0), .int (nI 0), .ref (q_12 1), .ref (q_12 2), .int (nI 0), .int (nI 0), .int 0, .int 0, .ref (q_12 3), .ref (q_12 4), .ref (q_12 5), .int (nI 0), .int (nI 0), .int (nI 0), .ref (q_12 6), .ref (q_12 7), .ref (q_12 8), .ref (q_12 9), .ref (q_12 10), .ref (q_12 11), .int (nI 0), .ref (q_12 12), .ref (q_12 13), .ref (q_12 14), .int 0, .ref (q_12 15), .ref (q_12 16), .ref (q_12 17), .int 0, .ref (q_12 18), .ref (q_12 19), .int 0])), (q_12 0, .inl (cy 0, 3000, .inl (fun _ => 0))), (q_12 1, .inl (cy 1, 3001, .inl (fun _ => 0))), (q_12 2, .inl (cy 1, 3001, .inl (fun _ => 0))), (q_12 3, .inl (cy 1, 6000, .inl (fun _ => 0))), (q_12 4, .inl (cy 1, 6000, .inl (fun _ => 0))), (q_12 5, .inl (cy 1, 6000, .inl (fun _ => 0))), (q_12 6, .inl (cy 1, 80, .inl (fun _ => 0))), (q_12 7, .inl (cy 1, 80, .inl (fun _ => 0))), (q_12 8, .inl (cy 1, 640, .inl (fun _ => 0))), (q_12 9, .inl (cy 1, 80, .inl (fun _ => 0))), (q_12 10, .inl (cy 4, 80, .inl (fun _ => 0))), (q_12 11, .inl (cy 1, 80, .inl (fun _ => 0))), (q_12 12, .inl (cy 1, 40, .inl (fun _ => 0))), (q_12 13, .inl (cy 4, 40, .inl (fun _ => 0))), (q_12 14, .inl (cy 1, 40, .inl (fun _ => 0))), (q_12 15, .inl (cy 2, 40960, .inr (.inl (fun _ => 0)))), (q_12 16, .inl (cy 2, 71680, .inr (.inl (fun _ => 0)))), (q_12 17, .inl (cy 2, 1024, .inr (.inl (fun _ => 0)))), (q_12 18, .inl (cy 4, 40, .inl (fun _ => 0))), (q_12 19, .inl (cy 0, 256, .inl (fun _ => 0)))] := hD
      replace hw : r102 = if xs 1 < 1 ∨ 127 < xs 1 then 0 else 1 := hw
      refine W.widen (k := 30) (n := 142282) (by omega) (by omega) ?_
      have hw102 := hw
      refine lv_aload_n hx hb dL_law_105 rfl (lv_at hl 1 rfl) ?_
      refine lv_aload_n hx hb dL_law_106 rfl (lv_at hl 3 rfl) ?_
      refine lv_iload_n hx hb dL_law_107 rfl (lv_at hl 0 rfl) ?_
      refine lv_iconst (v := 1) hx hb dL_law_108 (by decide +kernel) ?_
      refine lv_iadd hx hb dL_law_109 ?_
      refine va_sld hx hb hX hbl hbA hS (by unfold vp_in; decide +kernel) dL_law_110 ?_
      refine lv_topi (fun x_3 ex_3 => ?_)
      obtain rfl : x_3 = xs 1 := by rw [ex_3]; rfl
      refine mt_calli (va_runV (As := [.int (xs 1)]) (rest := [.int r102]) ⟨hx, hb, hml, hown, hts⟩ (c_M_unit0 l D cy e a8 q_12 (xs 1) H.size ) (cwV 1 hts gL_law_X9_unit rfl rfl rfl (by decide +kernel) ⟨Nat.le_of_ble_eq_true rfl, Nat.le_of_ble_eq_true rfl⟩) (mt_preV hP hD hK hS hA hG [6, 7] rfl (by decide) (q := (RX9, TX9, 32)) (ci := 10) (q0 := 6) rfl rfl) rfl rfl hl.1 rfl (lv_room (Nat.le_of_ble_eq_true rfl)) dL_law_111 ⟨(Nat.le_of_ble_eq_true rfl), (Nat.le_of_ble_eq_true rfl)⟩) hP hD hS hA [6, 7] [0, 1, 2, 3, 4, 5, 8, 9, 10, 11, 12, 13, 14, 15, 16, 17, 18, 19, 20, 21, 22, 23, 24, 25, 26] rfl rfl (by decide) (by decide) (fun r111 u H locs hw hP hD hS => ?_)
      have hP : va_P D vwCl [(cn_4, .inl (cy 2, 16, .inr (.inl (fun _ => 0)))), (tb_4, .inr (6, [.ref ro_4, .ref xp_4, .null, .int 0])), (ro_4, .inr (0, [.int 0, .ref (e 0), .int (nI 0)])), (xp_4, .inr (2, [.ref cd_4, .int (nI 0), .ref st_4])), (cd_4, .inl (cy 0, 0, .inl (fun _ => 0))), (st_4, .inl (cy 2, 32, .inr (.inl (fun _ => 0)))), (q_12 1, .inl (cy 1, 3001, .inl (fun _ => 0))), (q_12 2, .inl (cy 1, 3001, .inl (fun _ => 0))), (q_12 3, .inl (cy 1, 6000, .inl (fun _ => 0))), (q_12 4, .inl (cy 1, 6000, .inl (fun _ => 0))), (q_12 5, .inl (cy 1, 6000, .inl (fun _ => 0))), (q_12 6, .inl (cy 1, 80, .inl (fun _ => 0))), (q_12 7, .inl (cy 1, 80, .inl (fun _ => 0))), (q_12 8, .inl (cy 1, 640, .inl (fun _ => 0))), (q_12 9, .inl (cy 1, 80, .inl (fun _ => 0))), (q_12 10, .inl (cy 4, 80, .inl (fun _ => 0))), (q_12 11, .inl (cy 1, 80, .inl (fun _ => 0))), (q_12 12, .inl (cy 1, 40, .inl (fun _ => 0))), (q_12 13, .inl (cy 4, 40, .inl (fun _ => 0))), (q_12 14, .inl (cy 1, 40, .inl (fun _ => 0))), (q_12 15, .inl (cy 2, 40960, .inr (.inl (fun _ => 0)))), (q_12 16, .inl (cy 2, 71680, .inr (.inl (fun _ => 0)))), (q_12 17, .inl (cy 2, 1024, .inr (.inl (fun _ => 0)))), (q_12 18, .inl (cy 4, 40, .inl (fun _ => 0))), (q_12 19, .inl (cy 0, 256, .inl (fun _ => 0)))] H := hP
      have hD : va_D A [(cn_4, .inl (cy 2, 16, .inr (.inl (fun _ => 0)))), (tb_4, .inr (6, [.ref ro_4, .ref xp_4, .null, .int 0])), (ro_4, .inr (0, [.int 0, .ref (e 0), .int (nI 0)])), (xp_4, .inr (2, [.ref cd_4, .int (nI 0), .ref st_4])), (cd_4, .inl (cy 0, 0, .inl (fun _ => 0))), (st_4, .inl (cy 2, 32, .inr (.inl (fun _ => 0)))), (q_12 1, .inl (cy 1, 3001, .inl (fun _ => 0))), (q_12 2, .inl (cy 1, 3001, .inl (fun _ => 0))), (q_12 3, .inl (cy 1, 6000, .inl (fun _ => 0))), (q_12 4, .inl (cy 1, 6000, .inl (fun _ => 0))), (q_12 5, .inl (cy 1, 6000, .inl (fun _ => 0))), (q_12 6, .inl (cy 1, 80, .inl (fun _ => 0))), (q_12 7, .inl (cy 1, 80, .inl (fun _ => 0))), (q_12 8, .inl (cy 1, 640, .inl (fun _ => 0))), (q_12 9, .inl (cy 1, 80, .inl (fun _ => 0))), (q_12 10, .inl (cy 4, 80, .inl (fun _ => 0))), (q_12 11, .inl (cy 1, 80, .inl (fun _ => 0))), (q_12 12, .inl (cy 1, 40, .inl (fun _ => 0))), (q_12 13, .inl (cy 4, 40, .inl (fun _ => 0))), (q_12 14, .inl (cy 1, 40, .inl (fun _ => 0))), (q_12 15, .inl (cy 2, 40960, .inr (.inl (fun _ => 0)))), (q_12 16, .inl (cy 2, 71680, .inr (.inl (fun _ => 0)))), (q_12 17, .inl (cy 2, 1024, .inr (.inl (fun _ => 0)))), (q_12 18, .inl (cy 4, 40, .inl (fun _ => 0))), (q_12 19, .inl (cy 0, 256, .inl (fun _ => 0)))] := hD
      replace hw : r111 = if xs 1 < 1 ∨ 127 < xs 1 then 0 else 1 := hw
      refine W.widen (k := 30) (n := 142282) (by omega) (by omega) ?_
      have hw111 := hw
      refine lv_icmp_eq (tgt := 416) hx hb dL_law_114 (by decide) (fun _ => ?_) (fun c114 => absurd (by rw [hw102, hw111]) c114)
      refine lv_iinc (v := 0 + 5) (lv' := [(3, .int (0 + 5)), (2, .ref a8), (1, .ref a0), (0, .ref b)]) hx hb dL_law_416 hl (k := 0) rfl (rfl) (by decide) rfl (fun ls hl => ?_)
      refine lv_goto (tgt := 18) hx hb dL_law_419 (by decide) ?_
      refine lv_iload_n hx hb dL_law_18 rfl (lv_at hl 0 rfl) ?_
      refine lv_aload_n hx hb dL_law_19 rfl (lv_at hl 3 rfl) ?_
      refine va_slen hx hb hX hbl hbA hS dL_law_20 ?_
      refine lv_iconst (v := 5) hx hb dL_law_21 (by decide +kernel) ?_
      refine lv_isub hx hb dL_law_22 ?_
      refine lv_icmp_gt (tgt := 422) hx hb dL_law_23 (by decide) (fun _ => ?_) (fun c23 => absurd (by decide +kernel) c23)
      refine lv_iconst (v := 1) hx hb dL_law_422 (by decide +kernel) ?_
      refine va_forget (fun q hq => by have := hS.2.2 q hq; rw [hAe] at this; exact this) ?_
      refine W.widen (k := 600000) (n := 7302250) (by omega) (by omega) ?_
      exact lw_ret hx hb hr hlocks dL_law_423
    · refine lv_tableIn (off := 87) (tgt := 119) hx hb dL_law_32 (by decide +kernel) (by decide +kernel) rfl (by decide) ?_
      refine lv_aload_n hx hb dL_law_119 rfl (lv_at hl 2 rfl) ?_
      refine mt_calli (va_runV (As := []) (rest := []) ⟨hx, hb, hml, hown, hts⟩ (c_IT_read0 l D cy e a0 tx_4 cn_4 tb_4 rm_4 H.size ) (cwV 0 hts gL_law_X8_read rfl rfl rfl (by decide +kernel) ⟨Nat.le_of_ble_eq_true rfl, Nat.le_of_ble_eq_true rfl⟩) (mt_preV hP hD hK hS hA hG [0, 1] rfl (by decide) (q := (RX8, TX8, 3)) (ci := 9) (q0 := 0) rfl rfl) rfl rfl hl.1 rfl (lv_room (Nat.le_of_ble_eq_true rfl)) dL_law_120 ⟨(Nat.le_of_ble_eq_true rfl), (Nat.le_of_ble_eq_true rfl)⟩) hP hD hS hA [0, 1] [2, 3, 4, 5, 6, 7, 8, 9, 10, 11, 12, 13, 14, 15, 16, 17, 18, 19, 20, 21, 22, 23, 24, 25, 26, 27, 28, 29] rfl rfl (by decide) (by decide) (fun r120 u H locs hw hP hD hS => ?_)
      have hP : va_P D vwCl [(rm_4, .inl (cy 0, 64, .inl (fun _ => 0))), (cn_4, .inl (cy 2, 16, .inr (.inl (fun _ => 0)))), (tb_4, .inr (6, [.ref ro_4, .ref xp_4, .null, .int 0])), (ro_4, .inr (0, [.int 0, .ref (e 0), .int (nI 0)])), (xp_4, .inr (2, [.ref cd_4, .int (nI 0), .ref st_4])), (cd_4, .inl (cy 0, 0, .inl (fun _ => 0))), (st_4, .inl (cy 2, 32, .inr (.inl (fun _ => 0)))), (a8, .inr (10, [.ref (q_12 0), .int (nI 0), .ref (q_12 1), .ref (q_12 2), .int (nI 0), .int (nI 0), .int 0, .int 0, .ref (q_12 3), .ref (q_12 4), .ref (q_12 5), .int (nI 0), .int (nI 0), .int (nI 0), .ref (q_12 6), .ref (q_12 7), .ref (q_12 8), .ref (q_12 9), .ref (q_12 10), .ref (q_12 11), .int (nI 0), .ref (q_12 12), .ref (q_12 13), .ref (q_12 14), .int 0, .ref (q_12 15), .ref (q_12 16), .ref (q_12 17), .int 0, .ref (q_12 18), .ref (q_12 19), .int 0])), (q_12 0, .inl (cy 0, 3000, .inl (fun _ => 0))), (q_12 1, .inl (cy 1, 3001, .inl (fun _ => 0))), (q_12 2, .inl (cy 1, 3001, .inl (fun _ => 0))), (q_12 3, .inl (cy 1, 6000, .inl (fun _ => 0))), (q_12 4, .inl (cy 1, 6000, .inl (fun _ => 0))), (q_12 5, .inl (cy 1, 6000, .inl (fun _ => 0))), (q_12 6, .inl (cy 1, 80, .inl (fun _ => 0))), (q_12 7, .inl (cy 1, 80, .inl (fun _ => 0))), (q_12 8, .inl (cy 1, 640, .inl (fun _ => 0))), (q_12 9, .inl (cy 1, 80, .inl (fun _ => 0))), (q_12 10, .inl (cy 4, 80, .inl (fun _ => 0))), (q_12 11, .inl (cy 1, 80, .inl (fun _ => 0))), (q_12 12, .inl (cy 1, 40, .inl (fun _ => 0))), (q_12 13, .inl (cy 4, 40, .inl (fun _ => 0))), (q_12 14, .inl (cy 1, 40, .inl (fun _ => 0))), (q_12 15, .inl (cy 2, 40960, .inr (.inl (fun _ => 0)))), (q_12 16, .inl (cy 2, 71680, .inr (.inl (fun _ => 0)))), (q_12 17, .inl (cy 2, 1024, .inr (.inl (fun _ => 0)))), (q_12 18, .inl (cy 4, 40, .inl (fun _ => 0))), (q_12 19, .inl (cy 0, 256, .inl (fun _ => 0)))] H := hP
      have hD : va_D A [(rm_4, .inl (cy 0, 64, .inl (fun _ => 0))), (cn_4, .inl (cy 2, 16, .inr (.inl (fun _ => 0)))), (tb_4, .inr (6, [.ref ro_4, .ref xp_4, .null, .int 0])), (ro_4, .inr (0, [.int 0, .ref (e 0), .int (nI 0)])), (xp_4, .inr (2, [.ref cd_4, .int (nI 0), .ref st_4])), (cd_4, .inl (cy 0, 0, .inl (fun _ => 0))), (st_4, .inl (cy 2, 32, .inr (.inl (fun _ => 0)))), (a8, .inr (10, [.ref (q_12 0), .int (nI 0), .ref (q_12 1), .ref (q_12 2), .int (nI 0), .int (nI 0), .int 0, .int 0, .ref (q_12 3), .ref (q_12 4), .ref (q_12 5), .int (nI 0), .int (nI 0), .int (nI 0), .ref (q_12 6), .ref (q_12 7), .ref (q_12 8), .ref (q_12 9), .ref (q_12 10), .ref (q_12 11), .int (nI 0), .ref (q_12 12), .ref (q_12 13), .ref (q_12 14), .int 0, .ref (q_12 15), .ref (q_12 16), .ref (q_12 17), .int 0, .ref (q_12 18), .ref (q_12 19), .int 0])), (q_12 0, .inl (cy 0, 3000, .inl (fun _ => 0))), (q_12 1, .inl (cy 1, 3001, .inl (fun _ => 0))), (q_12 2, .inl (cy 1, 3001, .inl (fun _ => 0))), (q_12 3, .inl (cy 1, 6000, .inl (fun _ => 0))), (q_12 4, .inl (cy 1, 6000, .inl (fun _ => 0))), (q_12 5, .inl (cy 1, 6000, .inl (fun _ => 0))), (q_12 6, .inl (cy 1, 80, .inl (fun _ => 0))), (q_12 7, .inl (cy 1, 80, .inl (fun _ => 0))), (q_12 8, .inl (cy 1, 640, .inl (fun _ => 0))), (q_12 9, .inl (cy 1, 80, .inl (fun _ => 0))), (q_12 10, .inl (cy 4, 80, .inl (fun _ => 0))), (q_12 11, .inl (cy 1, 80, .inl (fun _ => 0))), (q_12 12, .inl (cy 1, 40, .inl (fun _ => 0))), (q_12 13, .inl (cy 4, 40, .inl (fun _ => 0))), (q_12 14, .inl (cy 1, 40, .inl (fun _ => 0))), (q_12 15, .inl (cy 2, 40960, .inr (.inl (fun _ => 0)))), (q_12 16, .inl (cy 2, 71680, .inr (.inl (fun _ => 0)))), (q_12 17, .inl (cy 2, 1024, .inr (.inl (fun _ => 0)))), (q_12 18, .inl (cy 4, 40, .inl (fun _ => 0))), (q_12 19, .inl (cy 0, 256, .inl (fun _ => 0)))] := hD
      replace hw : r120 = 0 := hw
      refine W.widen (k := 39) (n := 142332) (by omega) (by omega) ?_
      have hw120 := hw
      refine lv_aload_n hx hb dL_law_123 rfl (lv_at hl 1 rfl) ?_
      refine mt_calli (va_runV (As := []) (rest := [.int r120]) ⟨hx, hb, hml, hown, hts⟩ (c_M_read0 l D cy e a8 q_12 H.size ) (cwV 0 hts gL_law_X9_read rfl rfl rfl (by decide +kernel) ⟨Nat.le_of_ble_eq_true rfl, Nat.le_of_ble_eq_true rfl⟩) (mt_preV hP hD hK hS hA hG [7] rfl (by decide) (q := (RX9, TX9, 32)) (ci := 10) (q0 := 7) rfl rfl) rfl rfl hl.1 rfl (lv_room (Nat.le_of_ble_eq_true rfl)) dL_law_124 ⟨(Nat.le_of_ble_eq_true rfl), (Nat.le_of_ble_eq_true rfl)⟩) hP hD hS hA [7] [0, 1, 2, 3, 4, 5, 6, 8, 9, 10, 11, 12, 13, 14, 15, 16, 17, 18, 19, 20, 21, 22, 23, 24, 25, 26, 27] rfl rfl (by decide) (by decide) (fun r124 u H locs hw hP hD hS => ?_)
      have hP : va_P D vwCl [(rm_4, .inl (cy 0, 64, .inl (fun _ => 0))), (cn_4, .inl (cy 2, 16, .inr (.inl (fun _ => 0)))), (tb_4, .inr (6, [.ref ro_4, .ref xp_4, .null, .int 0])), (ro_4, .inr (0, [.int 0, .ref (e 0), .int (nI 0)])), (xp_4, .inr (2, [.ref cd_4, .int (nI 0), .ref st_4])), (cd_4, .inl (cy 0, 0, .inl (fun _ => 0))), (st_4, .inl (cy 2, 32, .inr (.inl (fun _ => 0)))), (q_12 0, .inl (cy 0, 3000, .inl (fun _ => 0))), (q_12 1, .inl (cy 1, 3001, .inl (fun _ => 0))), (q_12 2, .inl (cy 1, 3001, .inl (fun _ => 0))), (q_12 3, .inl (cy 1, 6000, .inl (fun _ => 0))), (q_12 4, .inl (cy 1, 6000, .inl (fun _ => 0))), (q_12 5, .inl (cy 1, 6000, .inl (fun _ => 0))), (q_12 6, .inl (cy 1, 80, .inl (fun _ => 0))), (q_12 7, .inl (cy 1, 80, .inl (fun _ => 0))), (q_12 8, .inl (cy 1, 640, .inl (fun _ => 0))), (q_12 9, .inl (cy 1, 80, .inl (fun _ => 0))), (q_12 10, .inl (cy 4, 80, .inl (fun _ => 0))), (q_12 11, .inl (cy 1, 80, .inl (fun _ => 0))), (q_12 12, .inl (cy 1, 40, .inl (fun _ => 0))), (q_12 13, .inl (cy 4, 40, .inl (fun _ => 0))), (q_12 14, .inl (cy 1, 40, .inl (fun _ => 0))), (q_12 15, .inl (cy 2, 40960, .inr (.inl (fun _ => 0)))), (q_12 16, .inl (cy 2, 71680, .inr (.inl (fun _ => 0)))), (q_12 17, .inl (cy 2, 1024, .inr (.inl (fun _ => 0)))), (q_12 18, .inl (cy 4, 40, .inl (fun _ => 0))), (q_12 19, .inl (cy 0, 256, .inl (fun _ => 0)))] H := hP
      have hD : va_D A [(rm_4, .inl (cy 0, 64, .inl (fun _ => 0))), (cn_4, .inl (cy 2, 16, .inr (.inl (fun _ => 0)))), (tb_4, .inr (6, [.ref ro_4, .ref xp_4, .null, .int 0])), (ro_4, .inr (0, [.int 0, .ref (e 0), .int (nI 0)])), (xp_4, .inr (2, [.ref cd_4, .int (nI 0), .ref st_4])), (cd_4, .inl (cy 0, 0, .inl (fun _ => 0))), (st_4, .inl (cy 2, 32, .inr (.inl (fun _ => 0)))), (q_12 0, .inl (cy 0, 3000, .inl (fun _ => 0))), (q_12 1, .inl (cy 1, 3001, .inl (fun _ => 0))), (q_12 2, .inl (cy 1, 3001, .inl (fun _ => 0))), (q_12 3, .inl (cy 1, 6000, .inl (fun _ => 0))), (q_12 4, .inl (cy 1, 6000, .inl (fun _ => 0))), (q_12 5, .inl (cy 1, 6000, .inl (fun _ => 0))), (q_12 6, .inl (cy 1, 80, .inl (fun _ => 0))), (q_12 7, .inl (cy 1, 80, .inl (fun _ => 0))), (q_12 8, .inl (cy 1, 640, .inl (fun _ => 0))), (q_12 9, .inl (cy 1, 80, .inl (fun _ => 0))), (q_12 10, .inl (cy 4, 80, .inl (fun _ => 0))), (q_12 11, .inl (cy 1, 80, .inl (fun _ => 0))), (q_12 12, .inl (cy 1, 40, .inl (fun _ => 0))), (q_12 13, .inl (cy 4, 40, .inl (fun _ => 0))), (q_12 14, .inl (cy 1, 40, .inl (fun _ => 0))), (q_12 15, .inl (cy 2, 40960, .inr (.inl (fun _ => 0)))), (q_12 16, .inl (cy 2, 71680, .inr (.inl (fun _ => 0)))), (q_12 17, .inl (cy 2, 1024, .inr (.inl (fun _ => 0)))), (q_12 18, .inl (cy 4, 40, .inl (fun _ => 0))), (q_12 19, .inl (cy 0, 256, .inl (fun _ => 0)))] := hD
      replace hw : r124 = 0 := hw
      refine W.widen (k := 39) (n := 142332) (by omega) (by omega) ?_
      have hw124 := hw
      refine lv_icmp_eq (tgt := 416) hx hb dL_law_127 (by decide) (fun _ => ?_) (fun c127 => absurd (by rw [hw120, hw124]) c127)
      refine lv_iinc (v := 0 + 5) (lv' := [(3, .int (0 + 5)), (2, .ref a8), (1, .ref a0), (0, .ref b)]) hx hb dL_law_416 hl (k := 0) rfl (rfl) (by decide) rfl (fun ls hl => ?_)
      refine lv_goto (tgt := 18) hx hb dL_law_419 (by decide) ?_
      refine lv_iload_n hx hb dL_law_18 rfl (lv_at hl 0 rfl) ?_
      refine lv_aload_n hx hb dL_law_19 rfl (lv_at hl 3 rfl) ?_
      refine va_slen hx hb hX hbl hbA hS dL_law_20 ?_
      refine lv_iconst (v := 5) hx hb dL_law_21 (by decide +kernel) ?_
      refine lv_isub hx hb dL_law_22 ?_
      refine lv_icmp_gt (tgt := 422) hx hb dL_law_23 (by decide) (fun _ => ?_) (fun c23 => absurd (by decide +kernel) c23)
      refine lv_iconst (v := 1) hx hb dL_law_422 (by decide +kernel) ?_
      refine va_forget (fun q hq => by have := hS.2.2 q hq; rw [hAe] at this; exact this) ?_
      refine W.widen (k := 600000) (n := 7302250) (by omega) (by omega) ?_
      exact lw_ret hx hb hr hlocks dL_law_423
    · refine lv_tableIn (off := 100) (tgt := 132) hx hb dL_law_32 (by decide +kernel) (by decide +kernel) rfl (by decide) ?_
      refine lv_aload_n hx hb dL_law_132 rfl (lv_at hl 2 rfl) ?_
      refine lv_aload_n hx hb dL_law_133 rfl (lv_at hl 3 rfl) ?_
      refine lv_iload_n hx hb dL_law_134 rfl (lv_at hl 0 rfl) ?_
      refine lv_iconst (v := 1) hx hb dL_law_135 (by decide +kernel) ?_
      refine lv_iadd hx hb dL_law_136 ?_
      refine va_sld hx hb hX hbl hbA hS (by unfold vp_in; decide +kernel) dL_law_137 ?_
      refine lv_topi (fun x_4 ex_4 => ?_)
      obtain rfl : x_4 = xs 1 := by rw [ex_4]; rfl
      refine lv_aload_n hx hb dL_law_138 rfl (lv_at hl 3 rfl) ?_
      refine lv_iload_n hx hb dL_law_139 rfl (lv_at hl 0 rfl) ?_
      refine lv_iconst (v := 2) hx hb dL_law_140 (by decide +kernel) ?_
      refine lv_iadd hx hb dL_law_141 ?_
      refine va_sld hx hb hX hbl hbA hS (by unfold vp_in; decide +kernel) dL_law_142 ?_
      refine lv_topi (fun x_5 ex_5 => ?_)
      obtain rfl : x_5 = xs 2 := by rw [ex_5]; rfl
      refine lv_if_eq (tgt := 150) hx hb dL_law_143 (by decide) (fun c143 => ?_) (fun c143 => ?_)
      · refine lv_iconst (v := 0) hx hb dL_law_150 (by decide +kernel) ?_
        refine mt_calli (va_runV (As := [.int (xs 1), .int 0]) (rest := []) ⟨hx, hb, hml, hown, hts⟩ (c_IT_condition0 l D cy e a0 tx_4 cn_4 tb_4 (xs 1) 0 H.size ) (cwV 2 hts gL_law_X8_condition rfl rfl rfl (by decide +kernel) ⟨Nat.le_of_ble_eq_true rfl, Nat.le_of_ble_eq_true rfl⟩) (mt_preV hP hD hK hS hA hG [0, 3] rfl (by decide) (q := (RX8, TX8, 3)) (ci := 9) (q0 := 0) rfl rfl) rfl rfl hl.1 rfl (lv_room (Nat.le_of_ble_eq_true rfl)) dL_law_151 ⟨(Nat.le_of_ble_eq_true rfl), (Nat.le_of_ble_eq_true rfl)⟩) hP hD hS hA [0, 3] [1, 2, 4, 5, 6, 7, 8, 9, 10, 11, 12, 13, 14, 15, 16, 17, 18, 19, 20, 21, 22, 23, 24, 25, 26, 27, 28, 29] rfl rfl (by decide) (by decide) (fun r151 u H locs hw hP hD hS => ?_)
        have hP : va_P D vwCl [(tx_4, .inr (1, [.int (nI 3000), .ref rm_4, .int (nI 0)])), (rm_4, .inl (cy 0, 64, .inl (fun _ => 0))), (tb_4, .inr (6, [.ref ro_4, .ref xp_4, .null, .int 0])), (ro_4, .inr (0, [.int 0, .ref (e 0), .int (nI 0)])), (xp_4, .inr (2, [.ref cd_4, .int (nI 0), .ref st_4])), (cd_4, .inl (cy 0, 0, .inl (fun _ => 0))), (st_4, .inl (cy 2, 32, .inr (.inl (fun _ => 0)))), (a8, .inr (10, [.ref (q_12 0), .int (nI 0), .ref (q_12 1), .ref (q_12 2), .int (nI 0), .int (nI 0), .int 0, .int 0, .ref (q_12 3), .ref (q_12 4), .ref (q_12 5), .int (nI 0), .int (nI 0), .int (nI 0), .ref (q_12 6), .ref (q_12 7), .ref (q_12 8), .ref (q_12 9), .ref (q_12 10), .ref (q_12 11), .int (nI 0), .ref (q_12 12), .ref (q_12 13), .ref (q_12 14), .int 0, .ref (q_12 15), .ref (q_12 16), .ref (q_12 17), .int 0, .ref (q_12 18), .ref (q_12 19), .int 0])), (q_12 0, .inl (cy 0, 3000, .inl (fun _ => 0))), (q_12 1, .inl (cy 1, 3001, .inl (fun _ => 0))), (q_12 2, .inl (cy 1, 3001, .inl (fun _ => 0))), (q_12 3, .inl (cy 1, 6000, .inl (fun _ => 0))), (q_12 4, .inl (cy 1, 6000, .inl (fun _ => 0))), (q_12 5, .inl (cy 1, 6000, .inl (fun _ => 0))), (q_12 6, .inl (cy 1, 80, .inl (fun _ => 0))), (q_12 7, .inl (cy 1, 80, .inl (fun _ => 0))), (q_12 8, .inl (cy 1, 640, .inl (fun _ => 0))), (q_12 9, .inl (cy 1, 80, .inl (fun _ => 0))), (q_12 10, .inl (cy 4, 80, .inl (fun _ => 0))), (q_12 11, .inl (cy 1, 80, .inl (fun _ => 0))), (q_12 12, .inl (cy 1, 40, .inl (fun _ => 0))), (q_12 13, .inl (cy 4, 40, .inl (fun _ => 0))), (q_12 14, .inl (cy 1, 40, .inl (fun _ => 0))), (q_12 15, .inl (cy 2, 40960, .inr (.inl (fun _ => 0)))), (q_12 16, .inl (cy 2, 71680, .inr (.inl (fun _ => 0)))), (q_12 17, .inl (cy 2, 1024, .inr (.inl (fun _ => 0)))), (q_12 18, .inl (cy 4, 40, .inl (fun _ => 0))), (q_12 19, .inl (cy 0, 256, .inl (fun _ => 0)))] H := hP
        have hD : va_D A [(tx_4, .inr (1, [.int (nI 3000), .ref rm_4, .int (nI 0)])), (rm_4, .inl (cy 0, 64, .inl (fun _ => 0))), (tb_4, .inr (6, [.ref ro_4, .ref xp_4, .null, .int 0])), (ro_4, .inr (0, [.int 0, .ref (e 0), .int (nI 0)])), (xp_4, .inr (2, [.ref cd_4, .int (nI 0), .ref st_4])), (cd_4, .inl (cy 0, 0, .inl (fun _ => 0))), (st_4, .inl (cy 2, 32, .inr (.inl (fun _ => 0)))), (a8, .inr (10, [.ref (q_12 0), .int (nI 0), .ref (q_12 1), .ref (q_12 2), .int (nI 0), .int (nI 0), .int 0, .int 0, .ref (q_12 3), .ref (q_12 4), .ref (q_12 5), .int (nI 0), .int (nI 0), .int (nI 0), .ref (q_12 6), .ref (q_12 7), .ref (q_12 8), .ref (q_12 9), .ref (q_12 10), .ref (q_12 11), .int (nI 0), .ref (q_12 12), .ref (q_12 13), .ref (q_12 14), .int 0, .ref (q_12 15), .ref (q_12 16), .ref (q_12 17), .int 0, .ref (q_12 18), .ref (q_12 19), .int 0])), (q_12 0, .inl (cy 0, 3000, .inl (fun _ => 0))), (q_12 1, .inl (cy 1, 3001, .inl (fun _ => 0))), (q_12 2, .inl (cy 1, 3001, .inl (fun _ => 0))), (q_12 3, .inl (cy 1, 6000, .inl (fun _ => 0))), (q_12 4, .inl (cy 1, 6000, .inl (fun _ => 0))), (q_12 5, .inl (cy 1, 6000, .inl (fun _ => 0))), (q_12 6, .inl (cy 1, 80, .inl (fun _ => 0))), (q_12 7, .inl (cy 1, 80, .inl (fun _ => 0))), (q_12 8, .inl (cy 1, 640, .inl (fun _ => 0))), (q_12 9, .inl (cy 1, 80, .inl (fun _ => 0))), (q_12 10, .inl (cy 4, 80, .inl (fun _ => 0))), (q_12 11, .inl (cy 1, 80, .inl (fun _ => 0))), (q_12 12, .inl (cy 1, 40, .inl (fun _ => 0))), (q_12 13, .inl (cy 4, 40, .inl (fun _ => 0))), (q_12 14, .inl (cy 1, 40, .inl (fun _ => 0))), (q_12 15, .inl (cy 2, 40960, .inr (.inl (fun _ => 0)))), (q_12 16, .inl (cy 2, 71680, .inr (.inl (fun _ => 0)))), (q_12 17, .inl (cy 2, 1024, .inr (.inl (fun _ => 0)))), (q_12 18, .inl (cy 4, 40, .inl (fun _ => 0))), (q_12 19, .inl (cy 0, 256, .inl (fun _ => 0)))] := hD
        replace hw : r151 = if xs 1 < 0 ∨ ¬ xs 1 < 16 then 0 else if 0 = 0 then 0 else 1 := hw
        refine W.widen (k := 30) (n := 142282) (by omega) (by omega) ?_
        have hw151 := hw
        refine lv_aload_n hx hb dL_law_154 rfl (lv_at hl 1 rfl) ?_
        refine lv_aload_n hx hb dL_law_155 rfl (lv_at hl 3 rfl) ?_
        refine lv_iload_n hx hb dL_law_156 rfl (lv_at hl 0 rfl) ?_
        refine lv_iconst (v := 1) hx hb dL_law_157 (by decide +kernel) ?_
        refine lv_iadd hx hb dL_law_158 ?_
        refine va_sld hx hb hX hbl hbA hS (by unfold vp_in; decide +kernel) dL_law_159 ?_
        refine lv_topi (fun x_6 ex_6 => ?_)
        obtain rfl : x_6 = xs 1 := by rw [ex_6]; rfl
        refine lv_aload_n hx hb dL_law_160 rfl (lv_at hl 3 rfl) ?_
        refine lv_iload_n hx hb dL_law_161 rfl (lv_at hl 0 rfl) ?_
        refine lv_iconst (v := 2) hx hb dL_law_162 (by decide +kernel) ?_
        refine lv_iadd hx hb dL_law_163 ?_
        refine va_sld hx hb hX hbl hbA hS (by unfold vp_in; decide +kernel) dL_law_164 ?_
        refine lv_topi (fun x_7 ex_7 => ?_)
        obtain rfl : x_7 = xs 2 := by rw [ex_7]; rfl
        refine lv_if_eq (tgt := 172) hx hb dL_law_165 (by decide) (fun _ => ?_) (fun c165 => absurd c143 c165)
        refine lv_iconst (v := 0) hx hb dL_law_172 (by decide +kernel) ?_
        refine mt_calli (va_runV (As := [.int (xs 1), .int 0]) (rest := [.int r151]) ⟨hx, hb, hml, hown, hts⟩ (c_M_condition0 l D cy e a8 q_12 (xs 1) 0 H.size ) (cwV 2 hts gL_law_X9_condition rfl rfl rfl (by decide +kernel) ⟨Nat.le_of_ble_eq_true rfl, Nat.le_of_ble_eq_true rfl⟩) (mt_preV hP hD hK hS hA hG [7] rfl (by decide) (q := (RX9, TX9, 32)) (ci := 10) (q0 := 7) rfl rfl) rfl rfl hl.1 rfl (lv_room (Nat.le_of_ble_eq_true rfl)) dL_law_173 ⟨(Nat.le_of_ble_eq_true rfl), (Nat.le_of_ble_eq_true rfl)⟩) hP hD hS hA [7] [0, 1, 2, 3, 4, 5, 6, 8, 9, 10, 11, 12, 13, 14, 15, 16, 17, 18, 19, 20, 21, 22, 23, 24, 25, 26, 27] rfl rfl (by decide) (by decide) (fun r173 u H locs hw hP hD hS => ?_)
        have hP : va_P D vwCl [(tx_4, .inr (1, [.int (nI 3000), .ref rm_4, .int (nI 0)])), (rm_4, .inl (cy 0, 64, .inl (fun _ => 0))), (tb_4, .inr (6, [.ref ro_4, .ref xp_4, .null, .int 0])), (ro_4, .inr (0, [.int 0, .ref (e 0), .int (nI 0)])), (xp_4, .inr (2, [.ref cd_4, .int (nI 0), .ref st_4])), (cd_4, .inl (cy 0, 0, .inl (fun _ => 0))), (st_4, .inl (cy 2, 32, .inr (.inl (fun _ => 0)))), (q_12 0, .inl (cy 0, 3000, .inl (fun _ => 0))), (q_12 1, .inl (cy 1, 3001, .inl (fun _ => 0))), (q_12 2, .inl (cy 1, 3001, .inl (fun _ => 0))), (q_12 3, .inl (cy 1, 6000, .inl (fun _ => 0))), (q_12 4, .inl (cy 1, 6000, .inl (fun _ => 0))), (q_12 5, .inl (cy 1, 6000, .inl (fun _ => 0))), (q_12 6, .inl (cy 1, 80, .inl (fun _ => 0))), (q_12 7, .inl (cy 1, 80, .inl (fun _ => 0))), (q_12 8, .inl (cy 1, 640, .inl (fun _ => 0))), (q_12 9, .inl (cy 1, 80, .inl (fun _ => 0))), (q_12 10, .inl (cy 4, 80, .inl (fun _ => 0))), (q_12 11, .inl (cy 1, 80, .inl (fun _ => 0))), (q_12 12, .inl (cy 1, 40, .inl (fun _ => 0))), (q_12 13, .inl (cy 4, 40, .inl (fun _ => 0))), (q_12 14, .inl (cy 1, 40, .inl (fun _ => 0))), (q_12 15, .inl (cy 2, 40960, .inr (.inl (fun _ => 0)))), (q_12 16, .inl (cy 2, 71680, .inr (.inl (fun _ => 0)))), (q_12 17, .inl (cy 2, 1024, .inr (.inl (fun _ => 0)))), (q_12 18, .inl (cy 4, 40, .inl (fun _ => 0))), (q_12 19, .inl (cy 0, 256, .inl (fun _ => 0)))] H := hP
        have hD : va_D A [(tx_4, .inr (1, [.int (nI 3000), .ref rm_4, .int (nI 0)])), (rm_4, .inl (cy 0, 64, .inl (fun _ => 0))), (tb_4, .inr (6, [.ref ro_4, .ref xp_4, .null, .int 0])), (ro_4, .inr (0, [.int 0, .ref (e 0), .int (nI 0)])), (xp_4, .inr (2, [.ref cd_4, .int (nI 0), .ref st_4])), (cd_4, .inl (cy 0, 0, .inl (fun _ => 0))), (st_4, .inl (cy 2, 32, .inr (.inl (fun _ => 0)))), (q_12 0, .inl (cy 0, 3000, .inl (fun _ => 0))), (q_12 1, .inl (cy 1, 3001, .inl (fun _ => 0))), (q_12 2, .inl (cy 1, 3001, .inl (fun _ => 0))), (q_12 3, .inl (cy 1, 6000, .inl (fun _ => 0))), (q_12 4, .inl (cy 1, 6000, .inl (fun _ => 0))), (q_12 5, .inl (cy 1, 6000, .inl (fun _ => 0))), (q_12 6, .inl (cy 1, 80, .inl (fun _ => 0))), (q_12 7, .inl (cy 1, 80, .inl (fun _ => 0))), (q_12 8, .inl (cy 1, 640, .inl (fun _ => 0))), (q_12 9, .inl (cy 1, 80, .inl (fun _ => 0))), (q_12 10, .inl (cy 4, 80, .inl (fun _ => 0))), (q_12 11, .inl (cy 1, 80, .inl (fun _ => 0))), (q_12 12, .inl (cy 1, 40, .inl (fun _ => 0))), (q_12 13, .inl (cy 4, 40, .inl (fun _ => 0))), (q_12 14, .inl (cy 1, 40, .inl (fun _ => 0))), (q_12 15, .inl (cy 2, 40960, .inr (.inl (fun _ => 0)))), (q_12 16, .inl (cy 2, 71680, .inr (.inl (fun _ => 0)))), (q_12 17, .inl (cy 2, 1024, .inr (.inl (fun _ => 0)))), (q_12 18, .inl (cy 4, 40, .inl (fun _ => 0))), (q_12 19, .inl (cy 0, 256, .inl (fun _ => 0)))] := hD
        replace hw : r173 = if xs 1 < 0 ∨ ¬ xs 1 < 16 then 0 else if 0 = 0 then 0 else 1 := hw
        refine W.widen (k := 30) (n := 142282) (by omega) (by omega) ?_
        have hw173 := hw
        refine lv_icmp_eq (tgt := 416) hx hb dL_law_176 (by decide) (fun _ => ?_) (fun c176 => absurd (by rw [hw151, hw173]) c176)
        refine lv_iinc (v := 0 + 5) (lv' := [(3, .int (0 + 5)), (2, .ref a8), (1, .ref a0), (0, .ref b)]) hx hb dL_law_416 hl (k := 0) rfl (rfl) (by decide) rfl (fun ls hl => ?_)
        refine lv_goto (tgt := 18) hx hb dL_law_419 (by decide) ?_
        refine lv_iload_n hx hb dL_law_18 rfl (lv_at hl 0 rfl) ?_
        refine lv_aload_n hx hb dL_law_19 rfl (lv_at hl 3 rfl) ?_
        refine va_slen hx hb hX hbl hbA hS dL_law_20 ?_
        refine lv_iconst (v := 5) hx hb dL_law_21 (by decide +kernel) ?_
        refine lv_isub hx hb dL_law_22 ?_
        refine lv_icmp_gt (tgt := 422) hx hb dL_law_23 (by decide) (fun _ => ?_) (fun c23 => absurd (by decide +kernel) c23)
        refine lv_iconst (v := 1) hx hb dL_law_422 (by decide +kernel) ?_
        refine va_forget (fun q hq => by have := hS.2.2 q hq; rw [hAe] at this; exact this) ?_
        refine W.widen (k := 600000) (n := 7302250) (by omega) (by omega) ?_
        exact lw_ret hx hb hr hlocks dL_law_423
      · refine lv_iconst (v := 1) hx hb dL_law_146 (by decide +kernel) ?_
        refine lv_goto (tgt := 151) hx hb dL_law_147 (by decide) ?_
        refine mt_calli (va_runV (As := [.int (xs 1), .int 1]) (rest := []) ⟨hx, hb, hml, hown, hts⟩ (c_IT_condition0 l D cy e a0 tx_4 cn_4 tb_4 (xs 1) 1 H.size ) (cwV 2 hts gL_law_X8_condition rfl rfl rfl (by decide +kernel) ⟨Nat.le_of_ble_eq_true rfl, Nat.le_of_ble_eq_true rfl⟩) (mt_preV hP hD hK hS hA hG [0, 3] rfl (by decide) (q := (RX8, TX8, 3)) (ci := 9) (q0 := 0) rfl rfl) rfl rfl hl.1 rfl (lv_room (Nat.le_of_ble_eq_true rfl)) dL_law_151 ⟨(Nat.le_of_ble_eq_true rfl), (Nat.le_of_ble_eq_true rfl)⟩) hP hD hS hA [0, 3] [1, 2, 4, 5, 6, 7, 8, 9, 10, 11, 12, 13, 14, 15, 16, 17, 18, 19, 20, 21, 22, 23, 24, 25, 26, 27, 28, 29] rfl rfl (by decide) (by decide) (fun r151 u H locs hw hP hD hS => ?_)
        have hP : va_P D vwCl [(tx_4, .inr (1, [.int (nI 3000), .ref rm_4, .int (nI 0)])), (rm_4, .inl (cy 0, 64, .inl (fun _ => 0))), (tb_4, .inr (6, [.ref ro_4, .ref xp_4, .null, .int 0])), (ro_4, .inr (0, [.int 0, .ref (e 0), .int (nI 0)])), (xp_4, .inr (2, [.ref cd_4, .int (nI 0), .ref st_4])), (cd_4, .inl (cy 0, 0, .inl (fun _ => 0))), (st_4, .inl (cy 2, 32, .inr (.inl (fun _ => 0)))), (a8, .inr (10, [.ref (q_12 0), .int (nI 0), .ref (q_12 1), .ref (q_12 2), .int (nI 0), .int (nI 0), .int 0, .int 0, .ref (q_12 3), .ref (q_12 4), .ref (q_12 5), .int (nI 0), .int (nI 0), .int (nI 0), .ref (q_12 6), .ref (q_12 7), .ref (q_12 8), .ref (q_12 9), .ref (q_12 10), .ref (q_12 11), .int (nI 0), .ref (q_12 12), .ref (q_12 13), .ref (q_12 14), .int 0, .ref (q_12 15), .ref (q_12 16), .ref (q_12 17), .int 0, .ref (q_12 18), .ref (q_12 19), .int 0])), (q_12 0, .inl (cy 0, 3000, .inl (fun _ => 0))), (q_12 1, .inl (cy 1, 3001, .inl (fun _ => 0))), (q_12 2, .inl (cy 1, 3001, .inl (fun _ => 0))), (q_12 3, .inl (cy 1, 6000, .inl (fun _ => 0))), (q_12 4, .inl (cy 1, 6000, .inl (fun _ => 0))), (q_12 5, .inl (cy 1, 6000, .inl (fun _ => 0))), (q_12 6, .inl (cy 1, 80, .inl (fun _ => 0))), (q_12 7, .inl (cy 1, 80, .inl (fun _ => 0))), (q_12 8, .inl (cy 1, 640, .inl (fun _ => 0))), (q_12 9, .inl (cy 1, 80, .inl (fun _ => 0))), (q_12 10, .inl (cy 4, 80, .inl (fun _ => 0))), (q_12 11, .inl (cy 1, 80, .inl (fun _ => 0))), (q_12 12, .inl (cy 1, 40, .inl (fun _ => 0))), (q_12 13, .inl (cy 4, 40, .inl (fun _ => 0))), (q_12 14, .inl (cy 1, 40, .inl (fun _ => 0))), (q_12 15, .inl (cy 2, 40960, .inr (.inl (fun _ => 0)))), (q_12 16, .inl (cy 2, 71680, .inr (.inl (fun _ => 0)))), (q_12 17, .inl (cy 2, 1024, .inr (.inl (fun _ => 0)))), (q_12 18, .inl (cy 4, 40, .inl (fun _ => 0))), (q_12 19, .inl (cy 0, 256, .inl (fun _ => 0)))] H := hP
        have hD : va_D A [(tx_4, .inr (1, [.int (nI 3000), .ref rm_4, .int (nI 0)])), (rm_4, .inl (cy 0, 64, .inl (fun _ => 0))), (tb_4, .inr (6, [.ref ro_4, .ref xp_4, .null, .int 0])), (ro_4, .inr (0, [.int 0, .ref (e 0), .int (nI 0)])), (xp_4, .inr (2, [.ref cd_4, .int (nI 0), .ref st_4])), (cd_4, .inl (cy 0, 0, .inl (fun _ => 0))), (st_4, .inl (cy 2, 32, .inr (.inl (fun _ => 0)))), (a8, .inr (10, [.ref (q_12 0), .int (nI 0), .ref (q_12 1), .ref (q_12 2), .int (nI 0), .int (nI 0), .int 0, .int 0, .ref (q_12 3), .ref (q_12 4), .ref (q_12 5), .int (nI 0), .int (nI 0), .int (nI 0), .ref (q_12 6), .ref (q_12 7), .ref (q_12 8), .ref (q_12 9), .ref (q_12 10), .ref (q_12 11), .int (nI 0), .ref (q_12 12), .ref (q_12 13), .ref (q_12 14), .int 0, .ref (q_12 15), .ref (q_12 16), .ref (q_12 17), .int 0, .ref (q_12 18), .ref (q_12 19), .int 0])), (q_12 0, .inl (cy 0, 3000, .inl (fun _ => 0))), (q_12 1, .inl (cy 1, 3001, .inl (fun _ => 0))), (q_12 2, .inl (cy 1, 3001, .inl (fun _ => 0))), (q_12 3, .inl (cy 1, 6000, .inl (fun _ => 0))), (q_12 4, .inl (cy 1, 6000, .inl (fun _ => 0))), (q_12 5, .inl (cy 1, 6000, .inl (fun _ => 0))), (q_12 6, .inl (cy 1, 80, .inl (fun _ => 0))), (q_12 7, .inl (cy 1, 80, .inl (fun _ => 0))), (q_12 8, .inl (cy 1, 640, .inl (fun _ => 0))), (q_12 9, .inl (cy 1, 80, .inl (fun _ => 0))), (q_12 10, .inl (cy 4, 80, .inl (fun _ => 0))), (q_12 11, .inl (cy 1, 80, .inl (fun _ => 0))), (q_12 12, .inl (cy 1, 40, .inl (fun _ => 0))), (q_12 13, .inl (cy 4, 40, .inl (fun _ => 0))), (q_12 14, .inl (cy 1, 40, .inl (fun _ => 0))), (q_12 15, .inl (cy 2, 40960, .inr (.inl (fun _ => 0)))), (q_12 16, .inl (cy 2, 71680, .inr (.inl (fun _ => 0)))), (q_12 17, .inl (cy 2, 1024, .inr (.inl (fun _ => 0)))), (q_12 18, .inl (cy 4, 40, .inl (fun _ => 0))), (q_12 19, .inl (cy 0, 256, .inl (fun _ => 0)))] := hD
        replace hw : r151 = if xs 1 < 0 ∨ ¬ xs 1 < 16 then 0 else if 1 = 0 then 0 else 1 := hw
        refine W.widen (k := 30) (n := 142282) (by omega) (by omega) ?_
        have hw151 := hw
        refine lv_aload_n hx hb dL_law_154 rfl (lv_at hl 1 rfl) ?_
        refine lv_aload_n hx hb dL_law_155 rfl (lv_at hl 3 rfl) ?_
        refine lv_iload_n hx hb dL_law_156 rfl (lv_at hl 0 rfl) ?_
        refine lv_iconst (v := 1) hx hb dL_law_157 (by decide +kernel) ?_
        refine lv_iadd hx hb dL_law_158 ?_
        refine va_sld hx hb hX hbl hbA hS (by unfold vp_in; decide +kernel) dL_law_159 ?_
        refine lv_topi (fun x_8 ex_8 => ?_)
        obtain rfl : x_8 = xs 1 := by rw [ex_8]; rfl
        refine lv_aload_n hx hb dL_law_160 rfl (lv_at hl 3 rfl) ?_
        refine lv_iload_n hx hb dL_law_161 rfl (lv_at hl 0 rfl) ?_
        refine lv_iconst (v := 2) hx hb dL_law_162 (by decide +kernel) ?_
        refine lv_iadd hx hb dL_law_163 ?_
        refine va_sld hx hb hX hbl hbA hS (by unfold vp_in; decide +kernel) dL_law_164 ?_
        refine lv_topi (fun x_9 ex_9 => ?_)
        obtain rfl : x_9 = xs 2 := by rw [ex_9]; rfl
        refine lv_if_eq (tgt := 172) hx hb dL_law_165 (by decide) (fun c165 => absurd c165 c143) (fun _ => ?_)
        refine lv_iconst (v := 1) hx hb dL_law_168 (by decide +kernel) ?_
        refine lv_goto (tgt := 173) hx hb dL_law_169 (by decide) ?_
        refine mt_calli (va_runV (As := [.int (xs 1), .int 1]) (rest := [.int r151]) ⟨hx, hb, hml, hown, hts⟩ (c_M_condition0 l D cy e a8 q_12 (xs 1) 1 H.size ) (cwV 2 hts gL_law_X9_condition rfl rfl rfl (by decide +kernel) ⟨Nat.le_of_ble_eq_true rfl, Nat.le_of_ble_eq_true rfl⟩) (mt_preV hP hD hK hS hA hG [7] rfl (by decide) (q := (RX9, TX9, 32)) (ci := 10) (q0 := 7) rfl rfl) rfl rfl hl.1 rfl (lv_room (Nat.le_of_ble_eq_true rfl)) dL_law_173 ⟨(Nat.le_of_ble_eq_true rfl), (Nat.le_of_ble_eq_true rfl)⟩) hP hD hS hA [7] [0, 1, 2, 3, 4, 5, 6, 8, 9, 10, 11, 12, 13, 14, 15, 16, 17, 18, 19, 20, 21, 22, 23, 24, 25, 26, 27] rfl rfl (by decide) (by decide) (fun r173 u H locs hw hP hD hS => ?_)
        have hP : va_P D vwCl [(tx_4, .inr (1, [.int (nI 3000), .ref rm_4, .int (nI 0)])), (rm_4, .inl (cy 0, 64, .inl (fun _ => 0))), (tb_4, .inr (6, [.ref ro_4, .ref xp_4, .null, .int 0])), (ro_4, .inr (0, [.int 0, .ref (e 0), .int (nI 0)])), (xp_4, .inr (2, [.ref cd_4, .int (nI 0), .ref st_4])), (cd_4, .inl (cy 0, 0, .inl (fun _ => 0))), (st_4, .inl (cy 2, 32, .inr (.inl (fun _ => 0)))), (q_12 0, .inl (cy 0, 3000, .inl (fun _ => 0))), (q_12 1, .inl (cy 1, 3001, .inl (fun _ => 0))), (q_12 2, .inl (cy 1, 3001, .inl (fun _ => 0))), (q_12 3, .inl (cy 1, 6000, .inl (fun _ => 0))), (q_12 4, .inl (cy 1, 6000, .inl (fun _ => 0))), (q_12 5, .inl (cy 1, 6000, .inl (fun _ => 0))), (q_12 6, .inl (cy 1, 80, .inl (fun _ => 0))), (q_12 7, .inl (cy 1, 80, .inl (fun _ => 0))), (q_12 8, .inl (cy 1, 640, .inl (fun _ => 0))), (q_12 9, .inl (cy 1, 80, .inl (fun _ => 0))), (q_12 10, .inl (cy 4, 80, .inl (fun _ => 0))), (q_12 11, .inl (cy 1, 80, .inl (fun _ => 0))), (q_12 12, .inl (cy 1, 40, .inl (fun _ => 0))), (q_12 13, .inl (cy 4, 40, .inl (fun _ => 0))), (q_12 14, .inl (cy 1, 40, .inl (fun _ => 0))), (q_12 15, .inl (cy 2, 40960, .inr (.inl (fun _ => 0)))), (q_12 16, .inl (cy 2, 71680, .inr (.inl (fun _ => 0)))), (q_12 17, .inl (cy 2, 1024, .inr (.inl (fun _ => 0)))), (q_12 18, .inl (cy 4, 40, .inl (fun _ => 0))), (q_12 19, .inl (cy 0, 256, .inl (fun _ => 0)))] H := hP
        have hD : va_D A [(tx_4, .inr (1, [.int (nI 3000), .ref rm_4, .int (nI 0)])), (rm_4, .inl (cy 0, 64, .inl (fun _ => 0))), (tb_4, .inr (6, [.ref ro_4, .ref xp_4, .null, .int 0])), (ro_4, .inr (0, [.int 0, .ref (e 0), .int (nI 0)])), (xp_4, .inr (2, [.ref cd_4, .int (nI 0), .ref st_4])), (cd_4, .inl (cy 0, 0, .inl (fun _ => 0))), (st_4, .inl (cy 2, 32, .inr (.inl (fun _ => 0)))), (q_12 0, .inl (cy 0, 3000, .inl (fun _ => 0))), (q_12 1, .inl (cy 1, 3001, .inl (fun _ => 0))), (q_12 2, .inl (cy 1, 3001, .inl (fun _ => 0))), (q_12 3, .inl (cy 1, 6000, .inl (fun _ => 0))), (q_12 4, .inl (cy 1, 6000, .inl (fun _ => 0))), (q_12 5, .inl (cy 1, 6000, .inl (fun _ => 0))), (q_12 6, .inl (cy 1, 80, .inl (fun _ => 0))), (q_12 7, .inl (cy 1, 80, .inl (fun _ => 0))), (q_12 8, .inl (cy 1, 640, .inl (fun _ => 0))), (q_12 9, .inl (cy 1, 80, .inl (fun _ => 0))), (q_12 10, .inl (cy 4, 80, .inl (fun _ => 0))), (q_12 11, .inl (cy 1, 80, .inl (fun _ => 0))), (q_12 12, .inl (cy 1, 40, .inl (fun _ => 0))), (q_12 13, .inl (cy 4, 40, .inl (fun _ => 0))), (q_12 14, .inl (cy 1, 40, .inl (fun _ => 0))), (q_12 15, .inl (cy 2, 40960, .inr (.inl (fun _ => 0)))), (q_12 16, .inl (cy 2, 71680, .inr (.inl (fun _ => 0)))), (q_12 17, .inl (cy 2, 1024, .inr (.inl (fun _ => 0)))), (q_12 18, .inl (cy 4, 40, .inl (fun _ => 0))), (q_12 19, .inl (cy 0, 256, .inl (fun _ => 0)))] := hD
        replace hw : r173 = if xs 1 < 0 ∨ ¬ xs 1 < 16 then 0 else if 1 = 0 then 0 else 1 := hw
        refine W.widen (k := 30) (n := 142282) (by omega) (by omega) ?_
        have hw173 := hw
        refine lv_icmp_eq (tgt := 416) hx hb dL_law_176 (by decide) (fun _ => ?_) (fun c176 => absurd (by rw [hw151, hw173]) c176)
        refine lv_iinc (v := 0 + 5) (lv' := [(3, .int (0 + 5)), (2, .ref a8), (1, .ref a0), (0, .ref b)]) hx hb dL_law_416 hl (k := 0) rfl (rfl) (by decide) rfl (fun ls hl => ?_)
        refine lv_goto (tgt := 18) hx hb dL_law_419 (by decide) ?_
        refine lv_iload_n hx hb dL_law_18 rfl (lv_at hl 0 rfl) ?_
        refine lv_aload_n hx hb dL_law_19 rfl (lv_at hl 3 rfl) ?_
        refine va_slen hx hb hX hbl hbA hS dL_law_20 ?_
        refine lv_iconst (v := 5) hx hb dL_law_21 (by decide +kernel) ?_
        refine lv_isub hx hb dL_law_22 ?_
        refine lv_icmp_gt (tgt := 422) hx hb dL_law_23 (by decide) (fun _ => ?_) (fun c23 => absurd (by decide +kernel) c23)
        refine lv_iconst (v := 1) hx hb dL_law_422 (by decide +kernel) ?_
        refine va_forget (fun q hq => by have := hS.2.2 q hq; rw [hAe] at this; exact this) ?_
        refine W.widen (k := 600000) (n := 7302250) (by omega) (by omega) ?_
        exact lw_ret hx hb hr hlocks dL_law_423
    · refine lv_tableIn (off := 149) (tgt := 181) hx hb dL_law_32 (by decide +kernel) (by decide +kernel) rfl (by decide) ?_
      refine lv_aload_n hx hb dL_law_181 rfl (lv_at hl 2 rfl) ?_
      refine lv_aload_n hx hb dL_law_182 rfl (lv_at hl 3 rfl) ?_
      refine lv_iload_n hx hb dL_law_183 rfl (lv_at hl 0 rfl) ?_
      refine lv_iconst (v := 1) hx hb dL_law_184 (by decide +kernel) ?_
      refine lv_iadd hx hb dL_law_185 ?_
      refine va_sld hx hb hX hbl hbA hS (by unfold vp_in; decide +kernel) dL_law_186 ?_
      refine lv_topi (fun x_10 ex_10 => ?_)
      obtain rfl : x_10 = xs 1 := by rw [ex_10]; rfl
      refine pu_calli (va_runV (As := [.int (xs 1)]) (rest := []) ⟨hx, hb, hml, hown, hts⟩ (c_IT_tick0 l D cy e a0 tx_4 cn_4 tb_4 ro_4 xp_4 (xs 1) ) (cwV 1 hts gL_law_X8_tick rfl rfl rfl (by decide +kernel) ⟨Nat.le_of_ble_eq_true rfl, Nat.le_of_ble_eq_true rfl⟩) (pu_preV hP hK hS hG [0, 4, 5] rfl (q := (RX8, TX8, 3)) (ci := 9) (q0 := 0) rfl rfl) rfl rfl hl.1 rfl (lv_room (Nat.le_of_ble_eq_true rfl)) dL_law_187 ⟨(Nat.le_of_ble_eq_true rfl), (Nat.le_of_ble_eq_true rfl)⟩) hP hS (fun H locs hP hS => ?_)
      have hP : va_P D vwCl [(a0, .inr (9, [.ref tx_4, .ref cn_4, .ref tb_4])), (tx_4, .inr (1, [.int (nI 3000), .ref rm_4, .int (nI 0)])), (rm_4, .inl (cy 0, 64, .inl (fun _ => 0))), (cn_4, .inl (cy 2, 16, .inr (.inl (fun _ => 0)))), (tb_4, .inr (6, [.ref ro_4, .ref xp_4, .null, .int 0])), (ro_4, .inr (0, [.int 0, .ref (e 0), .int (nI 0)])), (xp_4, .inr (2, [.ref cd_4, .int (nI 0), .ref st_4])), (cd_4, .inl (cy 0, 0, .inl (fun _ => 0))), (st_4, .inl (cy 2, 32, .inr (.inl (fun _ => 0)))), (a8, .inr (10, [.ref (q_12 0), .int (nI 0), .ref (q_12 1), .ref (q_12 2), .int (nI 0), .int (nI 0), .int 0, .int 0, .ref (q_12 3), .ref (q_12 4), .ref (q_12 5), .int (nI 0), .int (nI 0), .int (nI 0), .ref (q_12 6), .ref (q_12 7), .ref (q_12 8), .ref (q_12 9), .ref (q_12 10), .ref (q_12 11), .int (nI 0), .ref (q_12 12), .ref (q_12 13), .ref (q_12 14), .int 0, .ref (q_12 15), .ref (q_12 16), .ref (q_12 17), .int 0, .ref (q_12 18), .ref (q_12 19), .int 0])), (q_12 0, .inl (cy 0, 3000, .inl (fun _ => 0))), (q_12 1, .inl (cy 1, 3001, .inl (fun _ => 0))), (q_12 2, .inl (cy 1, 3001, .inl (fun _ => 0))), (q_12 3, .inl (cy 1, 6000, .inl (fun _ => 0))), (q_12 4, .inl (cy 1, 6000, .inl (fun _ => 0))), (q_12 5, .inl (cy 1, 6000, .inl (fun _ => 0))), (q_12 6, .inl (cy 1, 80, .inl (fun _ => 0))), (q_12 7, .inl (cy 1, 80, .inl (fun _ => 0))), (q_12 8, .inl (cy 1, 640, .inl (fun _ => 0))), (q_12 9, .inl (cy 1, 80, .inl (fun _ => 0))), (q_12 10, .inl (cy 4, 80, .inl (fun _ => 0))), (q_12 11, .inl (cy 1, 80, .inl (fun _ => 0))), (q_12 12, .inl (cy 1, 40, .inl (fun _ => 0))), (q_12 13, .inl (cy 4, 40, .inl (fun _ => 0))), (q_12 14, .inl (cy 1, 40, .inl (fun _ => 0))), (q_12 15, .inl (cy 2, 40960, .inr (.inl (fun _ => 0)))), (q_12 16, .inl (cy 2, 71680, .inr (.inl (fun _ => 0)))), (q_12 17, .inl (cy 2, 1024, .inr (.inl (fun _ => 0)))), (q_12 18, .inl (cy 4, 40, .inl (fun _ => 0))), (q_12 19, .inl (cy 0, 256, .inl (fun _ => 0)))] H := hP
      refine lv_aload_n hx hb dL_law_190 rfl (lv_at hl 1 rfl) ?_
      refine lv_aload_n hx hb dL_law_191 rfl (lv_at hl 3 rfl) ?_
      refine lv_iload_n hx hb dL_law_192 rfl (lv_at hl 0 rfl) ?_
      refine lv_iconst (v := 1) hx hb dL_law_193 (by decide +kernel) ?_
      refine lv_iadd hx hb dL_law_194 ?_
      refine va_sld hx hb hX hbl hbA hS (by unfold vp_in; decide +kernel) dL_law_195 ?_
      refine lv_topi (fun x_11 ex_11 => ?_)
      obtain rfl : x_11 = xs 1 := by rw [ex_11]; rfl
      refine pu_calli (va_runV (As := [.int (xs 1)]) (rest := [.int (if xs 1 < 0 ∨ ¬ xs 1 ≤ 100000 then 0 else 1)]) ⟨hx, hb, hml, hown, hts⟩ (c_M_tick0 l D cy e a8 q_12 (xs 1) ) (cwV 1 hts gL_law_X9_tick rfl rfl rfl (by decide +kernel) ⟨Nat.le_of_ble_eq_true rfl, Nat.le_of_ble_eq_true rfl⟩) (pu_preV hP hK hS hG [9] rfl (q := (RX9, TX9, 32)) (ci := 10) (q0 := 9) rfl rfl) rfl rfl hl.1 rfl (lv_room (Nat.le_of_ble_eq_true rfl)) dL_law_196 ⟨(Nat.le_of_ble_eq_true rfl), (Nat.le_of_ble_eq_true rfl)⟩) hP hS (fun H locs hP hS => ?_)
      have hP : va_P D vwCl [(a0, .inr (9, [.ref tx_4, .ref cn_4, .ref tb_4])), (tx_4, .inr (1, [.int (nI 3000), .ref rm_4, .int (nI 0)])), (rm_4, .inl (cy 0, 64, .inl (fun _ => 0))), (cn_4, .inl (cy 2, 16, .inr (.inl (fun _ => 0)))), (tb_4, .inr (6, [.ref ro_4, .ref xp_4, .null, .int 0])), (ro_4, .inr (0, [.int 0, .ref (e 0), .int (nI 0)])), (xp_4, .inr (2, [.ref cd_4, .int (nI 0), .ref st_4])), (cd_4, .inl (cy 0, 0, .inl (fun _ => 0))), (st_4, .inl (cy 2, 32, .inr (.inl (fun _ => 0)))), (a8, .inr (10, [.ref (q_12 0), .int (nI 0), .ref (q_12 1), .ref (q_12 2), .int (nI 0), .int (nI 0), .int 0, .int 0, .ref (q_12 3), .ref (q_12 4), .ref (q_12 5), .int (nI 0), .int (nI 0), .int (nI 0), .ref (q_12 6), .ref (q_12 7), .ref (q_12 8), .ref (q_12 9), .ref (q_12 10), .ref (q_12 11), .int (nI 0), .ref (q_12 12), .ref (q_12 13), .ref (q_12 14), .int 0, .ref (q_12 15), .ref (q_12 16), .ref (q_12 17), .int 0, .ref (q_12 18), .ref (q_12 19), .int 0])), (q_12 0, .inl (cy 0, 3000, .inl (fun _ => 0))), (q_12 1, .inl (cy 1, 3001, .inl (fun _ => 0))), (q_12 2, .inl (cy 1, 3001, .inl (fun _ => 0))), (q_12 3, .inl (cy 1, 6000, .inl (fun _ => 0))), (q_12 4, .inl (cy 1, 6000, .inl (fun _ => 0))), (q_12 5, .inl (cy 1, 6000, .inl (fun _ => 0))), (q_12 6, .inl (cy 1, 80, .inl (fun _ => 0))), (q_12 7, .inl (cy 1, 80, .inl (fun _ => 0))), (q_12 8, .inl (cy 1, 640, .inl (fun _ => 0))), (q_12 9, .inl (cy 1, 80, .inl (fun _ => 0))), (q_12 10, .inl (cy 4, 80, .inl (fun _ => 0))), (q_12 11, .inl (cy 1, 80, .inl (fun _ => 0))), (q_12 12, .inl (cy 1, 40, .inl (fun _ => 0))), (q_12 13, .inl (cy 4, 40, .inl (fun _ => 0))), (q_12 14, .inl (cy 1, 40, .inl (fun _ => 0))), (q_12 15, .inl (cy 2, 40960, .inr (.inl (fun _ => 0)))), (q_12 16, .inl (cy 2, 71680, .inr (.inl (fun _ => 0)))), (q_12 17, .inl (cy 2, 1024, .inr (.inl (fun _ => 0)))), (q_12 18, .inl (cy 4, 40, .inl (fun _ => 0))), (q_12 19, .inl (cy 0, 256, .inl (fun _ => 0)))] H := hP
      refine lv_icmp_eq (tgt := 416) hx hb dL_law_199 (by decide) (fun _ => ?_) (fun c199 => absurd rfl c199)
      refine lv_iinc (v := 0 + 5) (lv' := [(3, .int (0 + 5)), (2, .ref a8), (1, .ref a0), (0, .ref b)]) hx hb dL_law_416 hl (k := 0) rfl (rfl) (by decide) rfl (fun ls hl => ?_)
      refine lv_goto (tgt := 18) hx hb dL_law_419 (by decide) ?_
      refine lv_iload_n hx hb dL_law_18 rfl (lv_at hl 0 rfl) ?_
      refine lv_aload_n hx hb dL_law_19 rfl (lv_at hl 3 rfl) ?_
      refine va_slen hx hb hX hbl hbA hS dL_law_20 ?_
      refine lv_iconst (v := 5) hx hb dL_law_21 (by decide +kernel) ?_
      refine lv_isub hx hb dL_law_22 ?_
      refine lv_icmp_gt (tgt := 422) hx hb dL_law_23 (by decide) (fun _ => ?_) (fun c23 => absurd (by decide +kernel) c23)
      refine lv_iconst (v := 1) hx hb dL_law_422 (by decide +kernel) ?_
      refine va_forget (fun q hq => by have := hS.2.2 q hq; rw [hAe] at this; exact this) ?_
      refine W.widen (k := 600000) (n := 7302250) (by omega) (by omega) ?_
      exact lw_ret hx hb hr hlocks dL_law_423
    · refine lv_tableIn (off := 172) (tgt := 204) hx hb dL_law_32 (by decide +kernel) (by decide +kernel) rfl (by decide) ?_
      refine lv_aload_n hx hb dL_law_204 rfl (lv_at hl 2 rfl) ?_
      refine lv_aload_n hx hb dL_law_205 rfl (lv_at hl 3 rfl) ?_
      refine lv_iload_n hx hb dL_law_206 rfl (lv_at hl 0 rfl) ?_
      refine lv_iconst (v := 1) hx hb dL_law_207 (by decide +kernel) ?_
      refine lv_iadd hx hb dL_law_208 ?_
      refine va_sld hx hb hX hbl hbA hS (by unfold vp_in; decide +kernel) dL_law_209 ?_
      refine lv_topi (fun x_12 ex_12 => ?_)
      obtain rfl : x_12 = xs 1 := by rw [ex_12]; rfl
      refine pu_calli (va_runV (As := [.int (xs 1)]) (rest := []) ⟨hx, hb, hml, hown, hts⟩ (c_IT_act0 l D cy e a0 tx_4 cn_4 tb_4 ro_4 xp_4 (xs 1) ) (cwV 1 hts gL_law_X8_act rfl rfl rfl (by decide +kernel) ⟨Nat.le_of_ble_eq_true rfl, Nat.le_of_ble_eq_true rfl⟩) (pu_preV hP hK hS hG [0, 4, 5] rfl (q := (RX8, TX8, 3)) (ci := 9) (q0 := 0) rfl rfl) rfl rfl hl.1 rfl (lv_room (Nat.le_of_ble_eq_true rfl)) dL_law_210 ⟨(Nat.le_of_ble_eq_true rfl), (Nat.le_of_ble_eq_true rfl)⟩) hP hS (fun H locs hP hS => ?_)
      have hP : va_P D vwCl [(a0, .inr (9, [.ref tx_4, .ref cn_4, .ref tb_4])), (tx_4, .inr (1, [.int (nI 3000), .ref rm_4, .int (nI 0)])), (rm_4, .inl (cy 0, 64, .inl (fun _ => 0))), (cn_4, .inl (cy 2, 16, .inr (.inl (fun _ => 0)))), (tb_4, .inr (6, [.ref ro_4, .ref xp_4, .null, .int 0])), (ro_4, .inr (0, [.int 0, .ref (e 0), .int (nI 0)])), (xp_4, .inr (2, [.ref cd_4, .int (nI 0), .ref st_4])), (cd_4, .inl (cy 0, 0, .inl (fun _ => 0))), (st_4, .inl (cy 2, 32, .inr (.inl (fun _ => 0)))), (a8, .inr (10, [.ref (q_12 0), .int (nI 0), .ref (q_12 1), .ref (q_12 2), .int (nI 0), .int (nI 0), .int 0, .int 0, .ref (q_12 3), .ref (q_12 4), .ref (q_12 5), .int (nI 0), .int (nI 0), .int (nI 0), .ref (q_12 6), .ref (q_12 7), .ref (q_12 8), .ref (q_12 9), .ref (q_12 10), .ref (q_12 11), .int (nI 0), .ref (q_12 12), .ref (q_12 13), .ref (q_12 14), .int 0, .ref (q_12 15), .ref (q_12 16), .ref (q_12 17), .int 0, .ref (q_12 18), .ref (q_12 19), .int 0])), (q_12 0, .inl (cy 0, 3000, .inl (fun _ => 0))), (q_12 1, .inl (cy 1, 3001, .inl (fun _ => 0))), (q_12 2, .inl (cy 1, 3001, .inl (fun _ => 0))), (q_12 3, .inl (cy 1, 6000, .inl (fun _ => 0))), (q_12 4, .inl (cy 1, 6000, .inl (fun _ => 0))), (q_12 5, .inl (cy 1, 6000, .inl (fun _ => 0))), (q_12 6, .inl (cy 1, 80, .inl (fun _ => 0))), (q_12 7, .inl (cy 1, 80, .inl (fun _ => 0))), (q_12 8, .inl (cy 1, 640, .inl (fun _ => 0))), (q_12 9, .inl (cy 1, 80, .inl (fun _ => 0))), (q_12 10, .inl (cy 4, 80, .inl (fun _ => 0))), (q_12 11, .inl (cy 1, 80, .inl (fun _ => 0))), (q_12 12, .inl (cy 1, 40, .inl (fun _ => 0))), (q_12 13, .inl (cy 4, 40, .inl (fun _ => 0))), (q_12 14, .inl (cy 1, 40, .inl (fun _ => 0))), (q_12 15, .inl (cy 2, 40960, .inr (.inl (fun _ => 0)))), (q_12 16, .inl (cy 2, 71680, .inr (.inl (fun _ => 0)))), (q_12 17, .inl (cy 2, 1024, .inr (.inl (fun _ => 0)))), (q_12 18, .inl (cy 4, 40, .inl (fun _ => 0))), (q_12 19, .inl (cy 0, 256, .inl (fun _ => 0)))] H := hP
      refine lv_aload_n hx hb dL_law_213 rfl (lv_at hl 1 rfl) ?_
      refine lv_aload_n hx hb dL_law_214 rfl (lv_at hl 3 rfl) ?_
      refine lv_iload_n hx hb dL_law_215 rfl (lv_at hl 0 rfl) ?_
      refine lv_iconst (v := 1) hx hb dL_law_216 (by decide +kernel) ?_
      refine lv_iadd hx hb dL_law_217 ?_
      refine va_sld hx hb hX hbl hbA hS (by unfold vp_in; decide +kernel) dL_law_218 ?_
      refine lv_topi (fun x_13 ex_13 => ?_)
      obtain rfl : x_13 = xs 1 := by rw [ex_13]; rfl
      refine pu_calli (va_runV (As := [.int (xs 1)]) (rest := [.int (if xs 1 < 0 ∨ ¬ xs 1 < 32 then -1 else 0)]) ⟨hx, hb, hml, hown, hts⟩ (c_M_act0 l D cy e a8 q_12 (xs 1) ) (cwV 1 hts gL_law_X9_act_ rfl rfl rfl (by decide +kernel) ⟨Nat.le_of_ble_eq_true rfl, Nat.le_of_ble_eq_true rfl⟩) (pu_preV hP hK hS hG [9] rfl (q := (RX9, TX9, 32)) (ci := 10) (q0 := 9) rfl rfl) rfl rfl hl.1 rfl (lv_room (Nat.le_of_ble_eq_true rfl)) dL_law_219 ⟨(Nat.le_of_ble_eq_true rfl), (Nat.le_of_ble_eq_true rfl)⟩) hP hS (fun H locs hP hS => ?_)
      have hP : va_P D vwCl [(a0, .inr (9, [.ref tx_4, .ref cn_4, .ref tb_4])), (tx_4, .inr (1, [.int (nI 3000), .ref rm_4, .int (nI 0)])), (rm_4, .inl (cy 0, 64, .inl (fun _ => 0))), (cn_4, .inl (cy 2, 16, .inr (.inl (fun _ => 0)))), (tb_4, .inr (6, [.ref ro_4, .ref xp_4, .null, .int 0])), (ro_4, .inr (0, [.int 0, .ref (e 0), .int (nI 0)])), (xp_4, .inr (2, [.ref cd_4, .int (nI 0), .ref st_4])), (cd_4, .inl (cy 0, 0, .inl (fun _ => 0))), (st_4, .inl (cy 2, 32, .inr (.inl (fun _ => 0)))), (a8, .inr (10, [.ref (q_12 0), .int (nI 0), .ref (q_12 1), .ref (q_12 2), .int (nI 0), .int (nI 0), .int 0, .int 0, .ref (q_12 3), .ref (q_12 4), .ref (q_12 5), .int (nI 0), .int (nI 0), .int (nI 0), .ref (q_12 6), .ref (q_12 7), .ref (q_12 8), .ref (q_12 9), .ref (q_12 10), .ref (q_12 11), .int (nI 0), .ref (q_12 12), .ref (q_12 13), .ref (q_12 14), .int 0, .ref (q_12 15), .ref (q_12 16), .ref (q_12 17), .int 0, .ref (q_12 18), .ref (q_12 19), .int 0])), (q_12 0, .inl (cy 0, 3000, .inl (fun _ => 0))), (q_12 1, .inl (cy 1, 3001, .inl (fun _ => 0))), (q_12 2, .inl (cy 1, 3001, .inl (fun _ => 0))), (q_12 3, .inl (cy 1, 6000, .inl (fun _ => 0))), (q_12 4, .inl (cy 1, 6000, .inl (fun _ => 0))), (q_12 5, .inl (cy 1, 6000, .inl (fun _ => 0))), (q_12 6, .inl (cy 1, 80, .inl (fun _ => 0))), (q_12 7, .inl (cy 1, 80, .inl (fun _ => 0))), (q_12 8, .inl (cy 1, 640, .inl (fun _ => 0))), (q_12 9, .inl (cy 1, 80, .inl (fun _ => 0))), (q_12 10, .inl (cy 4, 80, .inl (fun _ => 0))), (q_12 11, .inl (cy 1, 80, .inl (fun _ => 0))), (q_12 12, .inl (cy 1, 40, .inl (fun _ => 0))), (q_12 13, .inl (cy 4, 40, .inl (fun _ => 0))), (q_12 14, .inl (cy 1, 40, .inl (fun _ => 0))), (q_12 15, .inl (cy 2, 40960, .inr (.inl (fun _ => 0)))), (q_12 16, .inl (cy 2, 71680, .inr (.inl (fun _ => 0)))), (q_12 17, .inl (cy 2, 1024, .inr (.inl (fun _ => 0)))), (q_12 18, .inl (cy 4, 40, .inl (fun _ => 0))), (q_12 19, .inl (cy 0, 256, .inl (fun _ => 0)))] H := hP
      refine lv_icmp_eq (tgt := 416) hx hb dL_law_222 (by decide) (fun _ => ?_) (fun c222 => absurd rfl c222)
      refine lv_iinc (v := 0 + 5) (lv' := [(3, .int (0 + 5)), (2, .ref a8), (1, .ref a0), (0, .ref b)]) hx hb dL_law_416 hl (k := 0) rfl (rfl) (by decide) rfl (fun ls hl => ?_)
      refine lv_goto (tgt := 18) hx hb dL_law_419 (by decide) ?_
      refine lv_iload_n hx hb dL_law_18 rfl (lv_at hl 0 rfl) ?_
      refine lv_aload_n hx hb dL_law_19 rfl (lv_at hl 3 rfl) ?_
      refine va_slen hx hb hX hbl hbA hS dL_law_20 ?_
      refine lv_iconst (v := 5) hx hb dL_law_21 (by decide +kernel) ?_
      refine lv_isub hx hb dL_law_22 ?_
      refine lv_icmp_gt (tgt := 422) hx hb dL_law_23 (by decide) (fun _ => ?_) (fun c23 => absurd (by decide +kernel) c23)
      refine lv_iconst (v := 1) hx hb dL_law_422 (by decide +kernel) ?_
      refine va_forget (fun q hq => by have := hS.2.2 q hq; rw [hAe] at this; exact this) ?_
      refine W.widen (k := 600000) (n := 7302250) (by omega) (by omega) ?_
      exact lw_ret hx hb hr hlocks dL_law_423
    · refine lv_tableIn (off := 195) (tgt := 227) hx hb dL_law_32 (by decide +kernel) (by decide +kernel) rfl (by decide) ?_
      refine lv_aload_n hx hb dL_law_227 rfl (lv_at hl 2 rfl) ?_
      refine lv_aload_n hx hb dL_law_228 rfl (lv_at hl 3 rfl) ?_
      refine lv_iload_n hx hb dL_law_229 rfl (lv_at hl 0 rfl) ?_
      refine lv_iconst (v := 1) hx hb dL_law_230 (by decide +kernel) ?_
      refine lv_iadd hx hb dL_law_231 ?_
      refine va_sld hx hb hX hbl hbA hS (by unfold vp_in; decide +kernel) dL_law_232 ?_
      refine lv_topi (fun x_14 ex_14 => ?_)
      obtain rfl : x_14 = xs 1 := by rw [ex_14]; rfl
      refine lv_aload_n hx hb dL_law_233 rfl (lv_at hl 3 rfl) ?_
      refine lv_iload_n hx hb dL_law_234 rfl (lv_at hl 0 rfl) ?_
      refine lv_iconst (v := 2) hx hb dL_law_235 (by decide +kernel) ?_
      refine lv_iadd hx hb dL_law_236 ?_
      refine va_sld hx hb hX hbl hbA hS (by unfold vp_in; decide +kernel) dL_law_237 ?_
      refine lv_topi (fun x_15 ex_15 => ?_)
      obtain rfl : x_15 = xs 2 := by rw [ex_15]; rfl
      refine lv_aload_n hx hb dL_law_238 rfl (lv_at hl 3 rfl) ?_
      refine lv_iload_n hx hb dL_law_239 rfl (lv_at hl 0 rfl) ?_
      refine lv_iconst (v := 3) hx hb dL_law_240 (by decide +kernel) ?_
      refine lv_iadd hx hb dL_law_241 ?_
      refine va_sld hx hb hX hbl hbA hS (by unfold vp_in; decide +kernel) dL_law_242 ?_
      refine lv_topi (fun x_16 ex_16 => ?_)
      obtain rfl : x_16 = xs 3 := by rw [ex_16]; rfl
      refine lv_aload_n hx hb dL_law_243 rfl (lv_at hl 3 rfl) ?_
      refine lv_iload_n hx hb dL_law_244 rfl (lv_at hl 0 rfl) ?_
      refine lv_iconst (v := 4) hx hb dL_law_245 (by decide +kernel) ?_
      refine lv_iadd hx hb dL_law_246 ?_
      refine va_sld hx hb hX hbl hbA hS (by unfold vp_in; decide +kernel) dL_law_247 ?_
      refine lv_topi (fun x_17 ex_17 => ?_)
      obtain rfl : x_17 = xs 4 := by rw [ex_17]; rfl
      refine pu_calli (va_runV (As := [.int (xs 1), .int (xs 2), .int (xs 3), .int (xs 4)]) (rest := []) ⟨hx, hb, hml, hown, hts⟩ (c_IT_pass0 l D cy e a0 tx_4 cn_4 tb_4 ro_4 xp_4 (xs 1) (xs 2) (xs 3) (xs 4) ) (cwV 4 hts gL_law_X8_pass rfl rfl rfl (by decide +kernel) ⟨Nat.le_of_ble_eq_true rfl, Nat.le_of_ble_eq_true rfl⟩) (pu_preV hP hK hS hG [0, 4, 5] rfl (q := (RX8, TX8, 3)) (ci := 9) (q0 := 0) rfl rfl) rfl rfl hl.1 rfl (lv_room (Nat.le_of_ble_eq_true rfl)) dL_law_248 ⟨(Nat.le_of_ble_eq_true rfl), (Nat.le_of_ble_eq_true rfl)⟩) hP hS (fun H locs hP hS => ?_)
      have hP : va_P D vwCl [(a0, .inr (9, [.ref tx_4, .ref cn_4, .ref tb_4])), (tx_4, .inr (1, [.int (nI 3000), .ref rm_4, .int (nI 0)])), (rm_4, .inl (cy 0, 64, .inl (fun _ => 0))), (cn_4, .inl (cy 2, 16, .inr (.inl (fun _ => 0)))), (tb_4, .inr (6, [.ref ro_4, .ref xp_4, .null, .int 0])), (ro_4, .inr (0, [.int 0, .ref (e 0), .int (nI 0)])), (xp_4, .inr (2, [.ref cd_4, .int (nI 0), .ref st_4])), (cd_4, .inl (cy 0, 0, .inl (fun _ => 0))), (st_4, .inl (cy 2, 32, .inr (.inl (fun _ => 0)))), (a8, .inr (10, [.ref (q_12 0), .int (nI 0), .ref (q_12 1), .ref (q_12 2), .int (nI 0), .int (nI 0), .int 0, .int 0, .ref (q_12 3), .ref (q_12 4), .ref (q_12 5), .int (nI 0), .int (nI 0), .int (nI 0), .ref (q_12 6), .ref (q_12 7), .ref (q_12 8), .ref (q_12 9), .ref (q_12 10), .ref (q_12 11), .int (nI 0), .ref (q_12 12), .ref (q_12 13), .ref (q_12 14), .int 0, .ref (q_12 15), .ref (q_12 16), .ref (q_12 17), .int 0, .ref (q_12 18), .ref (q_12 19), .int 0])), (q_12 0, .inl (cy 0, 3000, .inl (fun _ => 0))), (q_12 1, .inl (cy 1, 3001, .inl (fun _ => 0))), (q_12 2, .inl (cy 1, 3001, .inl (fun _ => 0))), (q_12 3, .inl (cy 1, 6000, .inl (fun _ => 0))), (q_12 4, .inl (cy 1, 6000, .inl (fun _ => 0))), (q_12 5, .inl (cy 1, 6000, .inl (fun _ => 0))), (q_12 6, .inl (cy 1, 80, .inl (fun _ => 0))), (q_12 7, .inl (cy 1, 80, .inl (fun _ => 0))), (q_12 8, .inl (cy 1, 640, .inl (fun _ => 0))), (q_12 9, .inl (cy 1, 80, .inl (fun _ => 0))), (q_12 10, .inl (cy 4, 80, .inl (fun _ => 0))), (q_12 11, .inl (cy 1, 80, .inl (fun _ => 0))), (q_12 12, .inl (cy 1, 40, .inl (fun _ => 0))), (q_12 13, .inl (cy 4, 40, .inl (fun _ => 0))), (q_12 14, .inl (cy 1, 40, .inl (fun _ => 0))), (q_12 15, .inl (cy 2, 40960, .inr (.inl (fun _ => 0)))), (q_12 16, .inl (cy 2, 71680, .inr (.inl (fun _ => 0)))), (q_12 17, .inl (cy 2, 1024, .inr (.inl (fun _ => 0)))), (q_12 18, .inl (cy 4, 40, .inl (fun _ => 0))), (q_12 19, .inl (cy 0, 256, .inl (fun _ => 0)))] H := hP
      refine lv_aload_n hx hb dL_law_251 rfl (lv_at hl 1 rfl) ?_
      refine lv_aload_n hx hb dL_law_252 rfl (lv_at hl 3 rfl) ?_
      refine lv_iload_n hx hb dL_law_253 rfl (lv_at hl 0 rfl) ?_
      refine lv_iconst (v := 1) hx hb dL_law_254 (by decide +kernel) ?_
      refine lv_iadd hx hb dL_law_255 ?_
      refine va_sld hx hb hX hbl hbA hS (by unfold vp_in; decide +kernel) dL_law_256 ?_
      refine lv_topi (fun x_18 ex_18 => ?_)
      obtain rfl : x_18 = xs 1 := by rw [ex_18]; rfl
      refine lv_aload_n hx hb dL_law_257 rfl (lv_at hl 3 rfl) ?_
      refine lv_iload_n hx hb dL_law_258 rfl (lv_at hl 0 rfl) ?_
      refine lv_iconst (v := 2) hx hb dL_law_259 (by decide +kernel) ?_
      refine lv_iadd hx hb dL_law_260 ?_
      refine va_sld hx hb hX hbl hbA hS (by unfold vp_in; decide +kernel) dL_law_261 ?_
      refine lv_topi (fun x_19 ex_19 => ?_)
      obtain rfl : x_19 = xs 2 := by rw [ex_19]; rfl
      refine lv_aload_n hx hb dL_law_262 rfl (lv_at hl 3 rfl) ?_
      refine lv_iload_n hx hb dL_law_263 rfl (lv_at hl 0 rfl) ?_
      refine lv_iconst (v := 3) hx hb dL_law_264 (by decide +kernel) ?_
      refine lv_iadd hx hb dL_law_265 ?_
      refine va_sld hx hb hX hbl hbA hS (by unfold vp_in; decide +kernel) dL_law_266 ?_
      refine lv_topi (fun x_20 ex_20 => ?_)
      obtain rfl : x_20 = xs 3 := by rw [ex_20]; rfl
      refine lv_aload_n hx hb dL_law_267 rfl (lv_at hl 3 rfl) ?_
      refine lv_iload_n hx hb dL_law_268 rfl (lv_at hl 0 rfl) ?_
      refine lv_iconst (v := 4) hx hb dL_law_269 (by decide +kernel) ?_
      refine lv_iadd hx hb dL_law_270 ?_
      refine va_sld hx hb hX hbl hbA hS (by unfold vp_in; decide +kernel) dL_law_271 ?_
      refine lv_topi (fun x_21 ex_21 => ?_)
      obtain rfl : x_21 = xs 4 := by rw [ex_21]; rfl
      refine pu_calli (va_runV (As := [.int (xs 1), .int (xs 2), .int (xs 3), .int (xs 4)]) (rest := [.int (-1)]) ⟨hx, hb, hml, hown, hts⟩ (c_M_pass0 l D cy e a8 q_12 (xs 1) (xs 2) (xs 3) (xs 4) ) (cwV 4 hts gL_law_X9_pass rfl rfl rfl (by decide +kernel) ⟨Nat.le_of_ble_eq_true rfl, Nat.le_of_ble_eq_true rfl⟩) (pu_preV hP hK hS hG [9] rfl (q := (RX9, TX9, 32)) (ci := 10) (q0 := 9) rfl rfl) rfl rfl hl.1 rfl (lv_room (Nat.le_of_ble_eq_true rfl)) dL_law_272 ⟨(Nat.le_of_ble_eq_true rfl), (Nat.le_of_ble_eq_true rfl)⟩) hP hS (fun H locs hP hS => ?_)
      have hP : va_P D vwCl [(a0, .inr (9, [.ref tx_4, .ref cn_4, .ref tb_4])), (tx_4, .inr (1, [.int (nI 3000), .ref rm_4, .int (nI 0)])), (rm_4, .inl (cy 0, 64, .inl (fun _ => 0))), (cn_4, .inl (cy 2, 16, .inr (.inl (fun _ => 0)))), (tb_4, .inr (6, [.ref ro_4, .ref xp_4, .null, .int 0])), (ro_4, .inr (0, [.int 0, .ref (e 0), .int (nI 0)])), (xp_4, .inr (2, [.ref cd_4, .int (nI 0), .ref st_4])), (cd_4, .inl (cy 0, 0, .inl (fun _ => 0))), (st_4, .inl (cy 2, 32, .inr (.inl (fun _ => 0)))), (a8, .inr (10, [.ref (q_12 0), .int (nI 0), .ref (q_12 1), .ref (q_12 2), .int (nI 0), .int (nI 0), .int 0, .int 0, .ref (q_12 3), .ref (q_12 4), .ref (q_12 5), .int (nI 0), .int (nI 0), .int (nI 0), .ref (q_12 6), .ref (q_12 7), .ref (q_12 8), .ref (q_12 9), .ref (q_12 10), .ref (q_12 11), .int (nI 0), .ref (q_12 12), .ref (q_12 13), .ref (q_12 14), .int 0, .ref (q_12 15), .ref (q_12 16), .ref (q_12 17), .int 0, .ref (q_12 18), .ref (q_12 19), .int 0])), (q_12 0, .inl (cy 0, 3000, .inl (fun _ => 0))), (q_12 1, .inl (cy 1, 3001, .inl (fun _ => 0))), (q_12 2, .inl (cy 1, 3001, .inl (fun _ => 0))), (q_12 3, .inl (cy 1, 6000, .inl (fun _ => 0))), (q_12 4, .inl (cy 1, 6000, .inl (fun _ => 0))), (q_12 5, .inl (cy 1, 6000, .inl (fun _ => 0))), (q_12 6, .inl (cy 1, 80, .inl (fun _ => 0))), (q_12 7, .inl (cy 1, 80, .inl (fun _ => 0))), (q_12 8, .inl (cy 1, 640, .inl (fun _ => 0))), (q_12 9, .inl (cy 1, 80, .inl (fun _ => 0))), (q_12 10, .inl (cy 4, 80, .inl (fun _ => 0))), (q_12 11, .inl (cy 1, 80, .inl (fun _ => 0))), (q_12 12, .inl (cy 1, 40, .inl (fun _ => 0))), (q_12 13, .inl (cy 4, 40, .inl (fun _ => 0))), (q_12 14, .inl (cy 1, 40, .inl (fun _ => 0))), (q_12 15, .inl (cy 2, 40960, .inr (.inl (fun _ => 0)))), (q_12 16, .inl (cy 2, 71680, .inr (.inl (fun _ => 0)))), (q_12 17, .inl (cy 2, 1024, .inr (.inl (fun _ => 0)))), (q_12 18, .inl (cy 4, 40, .inl (fun _ => 0))), (q_12 19, .inl (cy 0, 256, .inl (fun _ => 0)))] H := hP
      refine lv_icmp_eq (tgt := 416) hx hb dL_law_275 (by decide) (fun _ => ?_) (fun c275 => absurd rfl c275)
      refine lv_iinc (v := 0 + 5) (lv' := [(3, .int (0 + 5)), (2, .ref a8), (1, .ref a0), (0, .ref b)]) hx hb dL_law_416 hl (k := 0) rfl (rfl) (by decide) rfl (fun ls hl => ?_)
      refine lv_goto (tgt := 18) hx hb dL_law_419 (by decide) ?_
      refine lv_iload_n hx hb dL_law_18 rfl (lv_at hl 0 rfl) ?_
      refine lv_aload_n hx hb dL_law_19 rfl (lv_at hl 3 rfl) ?_
      refine va_slen hx hb hX hbl hbA hS dL_law_20 ?_
      refine lv_iconst (v := 5) hx hb dL_law_21 (by decide +kernel) ?_
      refine lv_isub hx hb dL_law_22 ?_
      refine lv_icmp_gt (tgt := 422) hx hb dL_law_23 (by decide) (fun _ => ?_) (fun c23 => absurd (by decide +kernel) c23)
      refine lv_iconst (v := 1) hx hb dL_law_422 (by decide +kernel) ?_
      refine va_forget (fun q hq => by have := hS.2.2 q hq; rw [hAe] at this; exact this) ?_
      refine W.widen (k := 600000) (n := 7302250) (by omega) (by omega) ?_
      exact lw_ret hx hb hr hlocks dL_law_423
    · refine lv_tableIn (off := 248) (tgt := 280) hx hb dL_law_32 (by decide +kernel) (by decide +kernel) rfl (by decide) ?_
      refine lv_aload_n hx hb dL_law_280 rfl (lv_at hl 2 rfl) ?_
      refine lv_aload_n hx hb dL_law_281 rfl (lv_at hl 3 rfl) ?_
      refine lv_iload_n hx hb dL_law_282 rfl (lv_at hl 0 rfl) ?_
      refine lv_iconst (v := 1) hx hb dL_law_283 (by decide +kernel) ?_
      refine lv_iadd hx hb dL_law_284 ?_
      refine va_sld hx hb hX hbl hbA hS (by unfold vp_in; decide +kernel) dL_law_285 ?_
      refine lv_topi (fun x_22 ex_22 => ?_)
      obtain rfl : x_22 = xs 1 := by rw [ex_22]; rfl
      refine pu_calli (va_runV (As := [.int (xs 1)]) (rest := []) ⟨hx, hb, hml, hown, hts⟩ (c_IT_listed0 l D cy e a0 tx_4 cn_4 tb_4 ro_4 xp_4 (xs 1) ) (cwV 1 hts gL_law_X8_listed rfl rfl rfl (by decide +kernel) ⟨Nat.le_of_ble_eq_true rfl, Nat.le_of_ble_eq_true rfl⟩) (pu_preV hP hK hS hG [0, 4, 5] rfl (q := (RX8, TX8, 3)) (ci := 9) (q0 := 0) rfl rfl) rfl rfl hl.1 rfl (lv_room (Nat.le_of_ble_eq_true rfl)) dL_law_286 ⟨(Nat.le_of_ble_eq_true rfl), (Nat.le_of_ble_eq_true rfl)⟩) hP hS (fun H locs hP hS => ?_)
      have hP : va_P D vwCl [(a0, .inr (9, [.ref tx_4, .ref cn_4, .ref tb_4])), (tx_4, .inr (1, [.int (nI 3000), .ref rm_4, .int (nI 0)])), (rm_4, .inl (cy 0, 64, .inl (fun _ => 0))), (cn_4, .inl (cy 2, 16, .inr (.inl (fun _ => 0)))), (tb_4, .inr (6, [.ref ro_4, .ref xp_4, .null, .int 0])), (ro_4, .inr (0, [.int 0, .ref (e 0), .int (nI 0)])), (xp_4, .inr (2, [.ref cd_4, .int (nI 0), .ref st_4])), (cd_4, .inl (cy 0, 0, .inl (fun _ => 0))), (st_4, .inl (cy 2, 32, .inr (.inl (fun _ => 0)))), (a8, .inr (10, [.ref (q_12 0), .int (nI 0), .ref (q_12 1), .ref (q_12 2), .int (nI 0), .int (nI 0), .int 0, .int 0, .ref (q_12 3), .ref (q_12 4), .ref (q_12 5), .int (nI 0), .int (nI 0), .int (nI 0), .ref (q_12 6), .ref (q_12 7), .ref (q_12 8), .ref (q_12 9), .ref (q_12 10), .ref (q_12 11), .int (nI 0), .ref (q_12 12), .ref (q_12 13), .ref (q_12 14), .int 0, .ref (q_12 15), .ref (q_12 16), .ref (q_12 17), .int 0, .ref (q_12 18), .ref (q_12 19), .int 0])), (q_12 0, .inl (cy 0, 3000, .inl (fun _ => 0))), (q_12 1, .inl (cy 1, 3001, .inl (fun _ => 0))), (q_12 2, .inl (cy 1, 3001, .inl (fun _ => 0))), (q_12 3, .inl (cy 1, 6000, .inl (fun _ => 0))), (q_12 4, .inl (cy 1, 6000, .inl (fun _ => 0))), (q_12 5, .inl (cy 1, 6000, .inl (fun _ => 0))), (q_12 6, .inl (cy 1, 80, .inl (fun _ => 0))), (q_12 7, .inl (cy 1, 80, .inl (fun _ => 0))), (q_12 8, .inl (cy 1, 640, .inl (fun _ => 0))), (q_12 9, .inl (cy 1, 80, .inl (fun _ => 0))), (q_12 10, .inl (cy 4, 80, .inl (fun _ => 0))), (q_12 11, .inl (cy 1, 80, .inl (fun _ => 0))), (q_12 12, .inl (cy 1, 40, .inl (fun _ => 0))), (q_12 13, .inl (cy 4, 40, .inl (fun _ => 0))), (q_12 14, .inl (cy 1, 40, .inl (fun _ => 0))), (q_12 15, .inl (cy 2, 40960, .inr (.inl (fun _ => 0)))), (q_12 16, .inl (cy 2, 71680, .inr (.inl (fun _ => 0)))), (q_12 17, .inl (cy 2, 1024, .inr (.inl (fun _ => 0)))), (q_12 18, .inl (cy 4, 40, .inl (fun _ => 0))), (q_12 19, .inl (cy 0, 256, .inl (fun _ => 0)))] H := hP
      refine lv_aload_n hx hb dL_law_289 rfl (lv_at hl 1 rfl) ?_
      refine lv_aload_n hx hb dL_law_290 rfl (lv_at hl 3 rfl) ?_
      refine lv_iload_n hx hb dL_law_291 rfl (lv_at hl 0 rfl) ?_
      refine lv_iconst (v := 1) hx hb dL_law_292 (by decide +kernel) ?_
      refine lv_iadd hx hb dL_law_293 ?_
      refine va_sld hx hb hX hbl hbA hS (by unfold vp_in; decide +kernel) dL_law_294 ?_
      refine lv_topi (fun x_23 ex_23 => ?_)
      obtain rfl : x_23 = xs 1 := by rw [ex_23]; rfl
      refine pu_calli (va_runV (As := [.int (xs 1)]) (rest := [.int (-1)]) ⟨hx, hb, hml, hown, hts⟩ (c_M_listed0 l D cy e a8 q_12 (xs 1) ) (cwV 1 hts gL_law_X9_listed rfl rfl rfl (by decide +kernel) ⟨Nat.le_of_ble_eq_true rfl, Nat.le_of_ble_eq_true rfl⟩) (pu_preV hP hK hS hG [9] rfl (q := (RX9, TX9, 32)) (ci := 10) (q0 := 9) rfl rfl) rfl rfl hl.1 rfl (lv_room (Nat.le_of_ble_eq_true rfl)) dL_law_295 ⟨(Nat.le_of_ble_eq_true rfl), (Nat.le_of_ble_eq_true rfl)⟩) hP hS (fun H locs hP hS => ?_)
      have hP : va_P D vwCl [(a0, .inr (9, [.ref tx_4, .ref cn_4, .ref tb_4])), (tx_4, .inr (1, [.int (nI 3000), .ref rm_4, .int (nI 0)])), (rm_4, .inl (cy 0, 64, .inl (fun _ => 0))), (cn_4, .inl (cy 2, 16, .inr (.inl (fun _ => 0)))), (tb_4, .inr (6, [.ref ro_4, .ref xp_4, .null, .int 0])), (ro_4, .inr (0, [.int 0, .ref (e 0), .int (nI 0)])), (xp_4, .inr (2, [.ref cd_4, .int (nI 0), .ref st_4])), (cd_4, .inl (cy 0, 0, .inl (fun _ => 0))), (st_4, .inl (cy 2, 32, .inr (.inl (fun _ => 0)))), (a8, .inr (10, [.ref (q_12 0), .int (nI 0), .ref (q_12 1), .ref (q_12 2), .int (nI 0), .int (nI 0), .int 0, .int 0, .ref (q_12 3), .ref (q_12 4), .ref (q_12 5), .int (nI 0), .int (nI 0), .int (nI 0), .ref (q_12 6), .ref (q_12 7), .ref (q_12 8), .ref (q_12 9), .ref (q_12 10), .ref (q_12 11), .int (nI 0), .ref (q_12 12), .ref (q_12 13), .ref (q_12 14), .int 0, .ref (q_12 15), .ref (q_12 16), .ref (q_12 17), .int 0, .ref (q_12 18), .ref (q_12 19), .int 0])), (q_12 0, .inl (cy 0, 3000, .inl (fun _ => 0))), (q_12 1, .inl (cy 1, 3001, .inl (fun _ => 0))), (q_12 2, .inl (cy 1, 3001, .inl (fun _ => 0))), (q_12 3, .inl (cy 1, 6000, .inl (fun _ => 0))), (q_12 4, .inl (cy 1, 6000, .inl (fun _ => 0))), (q_12 5, .inl (cy 1, 6000, .inl (fun _ => 0))), (q_12 6, .inl (cy 1, 80, .inl (fun _ => 0))), (q_12 7, .inl (cy 1, 80, .inl (fun _ => 0))), (q_12 8, .inl (cy 1, 640, .inl (fun _ => 0))), (q_12 9, .inl (cy 1, 80, .inl (fun _ => 0))), (q_12 10, .inl (cy 4, 80, .inl (fun _ => 0))), (q_12 11, .inl (cy 1, 80, .inl (fun _ => 0))), (q_12 12, .inl (cy 1, 40, .inl (fun _ => 0))), (q_12 13, .inl (cy 4, 40, .inl (fun _ => 0))), (q_12 14, .inl (cy 1, 40, .inl (fun _ => 0))), (q_12 15, .inl (cy 2, 40960, .inr (.inl (fun _ => 0)))), (q_12 16, .inl (cy 2, 71680, .inr (.inl (fun _ => 0)))), (q_12 17, .inl (cy 2, 1024, .inr (.inl (fun _ => 0)))), (q_12 18, .inl (cy 4, 40, .inl (fun _ => 0))), (q_12 19, .inl (cy 0, 256, .inl (fun _ => 0)))] H := hP
      refine lv_icmp_eq (tgt := 416) hx hb dL_law_298 (by decide) (fun _ => ?_) (fun c298 => absurd rfl c298)
      refine lv_iinc (v := 0 + 5) (lv' := [(3, .int (0 + 5)), (2, .ref a8), (1, .ref a0), (0, .ref b)]) hx hb dL_law_416 hl (k := 0) rfl (rfl) (by decide) rfl (fun ls hl => ?_)
      refine lv_goto (tgt := 18) hx hb dL_law_419 (by decide) ?_
      refine lv_iload_n hx hb dL_law_18 rfl (lv_at hl 0 rfl) ?_
      refine lv_aload_n hx hb dL_law_19 rfl (lv_at hl 3 rfl) ?_
      refine va_slen hx hb hX hbl hbA hS dL_law_20 ?_
      refine lv_iconst (v := 5) hx hb dL_law_21 (by decide +kernel) ?_
      refine lv_isub hx hb dL_law_22 ?_
      refine lv_icmp_gt (tgt := 422) hx hb dL_law_23 (by decide) (fun _ => ?_) (fun c23 => absurd (by decide +kernel) c23)
      refine lv_iconst (v := 1) hx hb dL_law_422 (by decide +kernel) ?_
      refine va_forget (fun q hq => by have := hS.2.2 q hq; rw [hAe] at this; exact this) ?_
      refine W.widen (k := 600000) (n := 7302250) (by omega) (by omega) ?_
      exact lw_ret hx hb hr hlocks dL_law_423
    · refine lv_tableIn (off := 271) (tgt := 303) hx hb dL_law_32 (by decide +kernel) (by decide +kernel) rfl (by decide) ?_
      refine lv_aload_n hx hb dL_law_303 rfl (lv_at hl 2 rfl) ?_
      refine lv_aload_n hx hb dL_law_304 rfl (lv_at hl 3 rfl) ?_
      refine lv_iload_n hx hb dL_law_305 rfl (lv_at hl 0 rfl) ?_
      refine lv_iconst (v := 1) hx hb dL_law_306 (by decide +kernel) ?_
      refine lv_iadd hx hb dL_law_307 ?_
      refine va_sld hx hb hX hbl hbA hS (by unfold vp_in; decide +kernel) dL_law_308 ?_
      refine lv_topi (fun x_24 ex_24 => ?_)
      obtain rfl : x_24 = xs 1 := by rw [ex_24]; rfl
      refine pu_calli (va_runV (As := [.int (xs 1)]) (rest := []) ⟨hx, hb, hml, hown, hts⟩ (c_IT_reset0 l D cy e a0 tx_4 cn_4 tb_4 ro_4 xp_4 (xs 1) ) (cwV 1 hts gL_law_X8_reset rfl rfl rfl (by decide +kernel) ⟨Nat.le_of_ble_eq_true rfl, Nat.le_of_ble_eq_true rfl⟩) (pu_preV hP hK hS hG [0, 4, 5] rfl (q := (RX8, TX8, 3)) (ci := 9) (q0 := 0) rfl rfl) rfl rfl hl.1 rfl (lv_room (Nat.le_of_ble_eq_true rfl)) dL_law_309 ⟨(Nat.le_of_ble_eq_true rfl), (Nat.le_of_ble_eq_true rfl)⟩) hP hS (fun H locs hP hS => ?_)
      have hP : va_P D vwCl [(a0, .inr (9, [.ref tx_4, .ref cn_4, .ref tb_4])), (tx_4, .inr (1, [.int (nI 3000), .ref rm_4, .int (nI 0)])), (rm_4, .inl (cy 0, 64, .inl (fun _ => 0))), (cn_4, .inl (cy 2, 16, .inr (.inl (fun _ => 0)))), (tb_4, .inr (6, [.ref ro_4, .ref xp_4, .null, .int 0])), (ro_4, .inr (0, [.int 0, .ref (e 0), .int (nI 0)])), (xp_4, .inr (2, [.ref cd_4, .int (nI 0), .ref st_4])), (cd_4, .inl (cy 0, 0, .inl (fun _ => 0))), (st_4, .inl (cy 2, 32, .inr (.inl (fun _ => 0)))), (a8, .inr (10, [.ref (q_12 0), .int (nI 0), .ref (q_12 1), .ref (q_12 2), .int (nI 0), .int (nI 0), .int 0, .int 0, .ref (q_12 3), .ref (q_12 4), .ref (q_12 5), .int (nI 0), .int (nI 0), .int (nI 0), .ref (q_12 6), .ref (q_12 7), .ref (q_12 8), .ref (q_12 9), .ref (q_12 10), .ref (q_12 11), .int (nI 0), .ref (q_12 12), .ref (q_12 13), .ref (q_12 14), .int 0, .ref (q_12 15), .ref (q_12 16), .ref (q_12 17), .int 0, .ref (q_12 18), .ref (q_12 19), .int 0])), (q_12 0, .inl (cy 0, 3000, .inl (fun _ => 0))), (q_12 1, .inl (cy 1, 3001, .inl (fun _ => 0))), (q_12 2, .inl (cy 1, 3001, .inl (fun _ => 0))), (q_12 3, .inl (cy 1, 6000, .inl (fun _ => 0))), (q_12 4, .inl (cy 1, 6000, .inl (fun _ => 0))), (q_12 5, .inl (cy 1, 6000, .inl (fun _ => 0))), (q_12 6, .inl (cy 1, 80, .inl (fun _ => 0))), (q_12 7, .inl (cy 1, 80, .inl (fun _ => 0))), (q_12 8, .inl (cy 1, 640, .inl (fun _ => 0))), (q_12 9, .inl (cy 1, 80, .inl (fun _ => 0))), (q_12 10, .inl (cy 4, 80, .inl (fun _ => 0))), (q_12 11, .inl (cy 1, 80, .inl (fun _ => 0))), (q_12 12, .inl (cy 1, 40, .inl (fun _ => 0))), (q_12 13, .inl (cy 4, 40, .inl (fun _ => 0))), (q_12 14, .inl (cy 1, 40, .inl (fun _ => 0))), (q_12 15, .inl (cy 2, 40960, .inr (.inl (fun _ => 0)))), (q_12 16, .inl (cy 2, 71680, .inr (.inl (fun _ => 0)))), (q_12 17, .inl (cy 2, 1024, .inr (.inl (fun _ => 0)))), (q_12 18, .inl (cy 4, 40, .inl (fun _ => 0))), (q_12 19, .inl (cy 0, 256, .inl (fun _ => 0)))] H := hP
      refine lv_aload_n hx hb dL_law_312 rfl (lv_at hl 1 rfl) ?_
      refine lv_aload_n hx hb dL_law_313 rfl (lv_at hl 3 rfl) ?_
      refine lv_iload_n hx hb dL_law_314 rfl (lv_at hl 0 rfl) ?_
      refine lv_iconst (v := 1) hx hb dL_law_315 (by decide +kernel) ?_
      refine lv_iadd hx hb dL_law_316 ?_
      refine va_sld hx hb hX hbl hbA hS (by unfold vp_in; decide +kernel) dL_law_317 ?_
      refine lv_topi (fun x_25 ex_25 => ?_)
      obtain rfl : x_25 = xs 1 := by rw [ex_25]; rfl
      refine pu_calli (va_runV (As := [.int (xs 1)]) (rest := [.int 0]) ⟨hx, hb, hml, hown, hts⟩ (c_M_reset0 l D cy e a8 q_12 (xs 1) ) (cwV 1 hts gL_law_X9_reset rfl rfl rfl (by decide +kernel) ⟨Nat.le_of_ble_eq_true rfl, Nat.le_of_ble_eq_true rfl⟩) (pu_preV hP hK hS hG [9] rfl (q := (RX9, TX9, 32)) (ci := 10) (q0 := 9) rfl rfl) rfl rfl hl.1 rfl (lv_room (Nat.le_of_ble_eq_true rfl)) dL_law_318 ⟨(Nat.le_of_ble_eq_true rfl), (Nat.le_of_ble_eq_true rfl)⟩) hP hS (fun H locs hP hS => ?_)
      have hP : va_P D vwCl [(a0, .inr (9, [.ref tx_4, .ref cn_4, .ref tb_4])), (tx_4, .inr (1, [.int (nI 3000), .ref rm_4, .int (nI 0)])), (rm_4, .inl (cy 0, 64, .inl (fun _ => 0))), (cn_4, .inl (cy 2, 16, .inr (.inl (fun _ => 0)))), (tb_4, .inr (6, [.ref ro_4, .ref xp_4, .null, .int 0])), (ro_4, .inr (0, [.int 0, .ref (e 0), .int (nI 0)])), (xp_4, .inr (2, [.ref cd_4, .int (nI 0), .ref st_4])), (cd_4, .inl (cy 0, 0, .inl (fun _ => 0))), (st_4, .inl (cy 2, 32, .inr (.inl (fun _ => 0)))), (a8, .inr (10, [.ref (q_12 0), .int (nI 0), .ref (q_12 1), .ref (q_12 2), .int (nI 0), .int (nI 0), .int 0, .int 0, .ref (q_12 3), .ref (q_12 4), .ref (q_12 5), .int (nI 0), .int (nI 0), .int (nI 0), .ref (q_12 6), .ref (q_12 7), .ref (q_12 8), .ref (q_12 9), .ref (q_12 10), .ref (q_12 11), .int (nI 0), .ref (q_12 12), .ref (q_12 13), .ref (q_12 14), .int 0, .ref (q_12 15), .ref (q_12 16), .ref (q_12 17), .int 0, .ref (q_12 18), .ref (q_12 19), .int 0])), (q_12 0, .inl (cy 0, 3000, .inl (fun _ => 0))), (q_12 1, .inl (cy 1, 3001, .inl (fun _ => 0))), (q_12 2, .inl (cy 1, 3001, .inl (fun _ => 0))), (q_12 3, .inl (cy 1, 6000, .inl (fun _ => 0))), (q_12 4, .inl (cy 1, 6000, .inl (fun _ => 0))), (q_12 5, .inl (cy 1, 6000, .inl (fun _ => 0))), (q_12 6, .inl (cy 1, 80, .inl (fun _ => 0))), (q_12 7, .inl (cy 1, 80, .inl (fun _ => 0))), (q_12 8, .inl (cy 1, 640, .inl (fun _ => 0))), (q_12 9, .inl (cy 1, 80, .inl (fun _ => 0))), (q_12 10, .inl (cy 4, 80, .inl (fun _ => 0))), (q_12 11, .inl (cy 1, 80, .inl (fun _ => 0))), (q_12 12, .inl (cy 1, 40, .inl (fun _ => 0))), (q_12 13, .inl (cy 4, 40, .inl (fun _ => 0))), (q_12 14, .inl (cy 1, 40, .inl (fun _ => 0))), (q_12 15, .inl (cy 2, 40960, .inr (.inl (fun _ => 0)))), (q_12 16, .inl (cy 2, 71680, .inr (.inl (fun _ => 0)))), (q_12 17, .inl (cy 2, 1024, .inr (.inl (fun _ => 0)))), (q_12 18, .inl (cy 4, 40, .inl (fun _ => 0))), (q_12 19, .inl (cy 0, 256, .inl (fun _ => 0)))] H := hP
      refine lv_icmp_eq (tgt := 416) hx hb dL_law_321 (by decide) (fun _ => ?_) (fun c321 => absurd rfl c321)
      refine lv_iinc (v := 0 + 5) (lv' := [(3, .int (0 + 5)), (2, .ref a8), (1, .ref a0), (0, .ref b)]) hx hb dL_law_416 hl (k := 0) rfl (rfl) (by decide) rfl (fun ls hl => ?_)
      refine lv_goto (tgt := 18) hx hb dL_law_419 (by decide) ?_
      refine lv_iload_n hx hb dL_law_18 rfl (lv_at hl 0 rfl) ?_
      refine lv_aload_n hx hb dL_law_19 rfl (lv_at hl 3 rfl) ?_
      refine va_slen hx hb hX hbl hbA hS dL_law_20 ?_
      refine lv_iconst (v := 5) hx hb dL_law_21 (by decide +kernel) ?_
      refine lv_isub hx hb dL_law_22 ?_
      refine lv_icmp_gt (tgt := 422) hx hb dL_law_23 (by decide) (fun _ => ?_) (fun c23 => absurd (by decide +kernel) c23)
      refine lv_iconst (v := 1) hx hb dL_law_422 (by decide +kernel) ?_
      refine va_forget (fun q hq => by have := hS.2.2 q hq; rw [hAe] at this; exact this) ?_
      refine W.widen (k := 600000) (n := 7302250) (by omega) (by omega) ?_
      exact lw_ret hx hb hr hlocks dL_law_423
    · refine lv_tableIn (off := 294) (tgt := 326) hx hb dL_law_32 (by decide +kernel) (by decide +kernel) rfl (by decide) ?_
      refine lv_aload_n hx hb dL_law_326 rfl (lv_at hl 2 rfl) ?_
      refine lv_aload_n hx hb dL_law_327 rfl (lv_at hl 3 rfl) ?_
      refine lv_iload_n hx hb dL_law_328 rfl (lv_at hl 0 rfl) ?_
      refine lv_iconst (v := 1) hx hb dL_law_329 (by decide +kernel) ?_
      refine lv_iadd hx hb dL_law_330 ?_
      refine va_sld hx hb hX hbl hbA hS (by unfold vp_in; decide +kernel) dL_law_331 ?_
      refine lv_topi (fun x_26 ex_26 => ?_)
      obtain rfl : x_26 = xs 1 := by rw [ex_26]; rfl
      refine mt_calli (va_runV (As := [.int (xs 1)]) (rest := []) ⟨hx, hb, hml, hown, hts⟩ (c_IT_test0 l D cy e a0 tx_4 cn_4 tb_4 ro_4 xp_4 cd_4 st_4 (xs 1) H.size ) (cwV 1 hts gL_law_X8_test rfl rfl rfl (by decide +kernel) ⟨Nat.le_of_ble_eq_true rfl, Nat.le_of_ble_eq_true rfl⟩) (mt_preV hP hD hK hS hA hG [0, 4, 5, 6] rfl (by decide) (q := (RX8, TX8, 3)) (ci := 9) (q0 := 0) rfl rfl) rfl rfl hl.1 rfl (lv_room (Nat.le_of_ble_eq_true rfl)) dL_law_332 ⟨(Nat.le_of_ble_eq_true rfl), (Nat.le_of_ble_eq_true rfl)⟩) hP hD hS hA [0, 4, 5, 6] [1, 2, 3, 7, 8, 9, 10, 11, 12, 13, 14, 15, 16, 17, 18, 19, 20, 21, 22, 23, 24, 25, 26, 27, 28, 29] rfl rfl (by decide) (by decide) (fun r332 u H locs hw hP hD hS => ?_)
      have hP : va_P D vwCl [(tx_4, .inr (1, [.int (nI 3000), .ref rm_4, .int (nI 0)])), (rm_4, .inl (cy 0, 64, .inl (fun _ => 0))), (cn_4, .inl (cy 2, 16, .inr (.inl (fun _ => 0)))), (cd_4, .inl (cy 0, 0, .inl (fun _ => 0))), (st_4, .inl (cy 2, 32, .inr (.inl (fun _ => 0)))), (a8, .inr (10, [.ref (q_12 0), .int (nI 0), .ref (q_12 1), .ref (q_12 2), .int (nI 0), .int (nI 0), .int 0, .int 0, .ref (q_12 3), .ref (q_12 4), .ref (q_12 5), .int (nI 0), .int (nI 0), .int (nI 0), .ref (q_12 6), .ref (q_12 7), .ref (q_12 8), .ref (q_12 9), .ref (q_12 10), .ref (q_12 11), .int (nI 0), .ref (q_12 12), .ref (q_12 13), .ref (q_12 14), .int 0, .ref (q_12 15), .ref (q_12 16), .ref (q_12 17), .int 0, .ref (q_12 18), .ref (q_12 19), .int 0])), (q_12 0, .inl (cy 0, 3000, .inl (fun _ => 0))), (q_12 1, .inl (cy 1, 3001, .inl (fun _ => 0))), (q_12 2, .inl (cy 1, 3001, .inl (fun _ => 0))), (q_12 3, .inl (cy 1, 6000, .inl (fun _ => 0))), (q_12 4, .inl (cy 1, 6000, .inl (fun _ => 0))), (q_12 5, .inl (cy 1, 6000, .inl (fun _ => 0))), (q_12 6, .inl (cy 1, 80, .inl (fun _ => 0))), (q_12 7, .inl (cy 1, 80, .inl (fun _ => 0))), (q_12 8, .inl (cy 1, 640, .inl (fun _ => 0))), (q_12 9, .inl (cy 1, 80, .inl (fun _ => 0))), (q_12 10, .inl (cy 4, 80, .inl (fun _ => 0))), (q_12 11, .inl (cy 1, 80, .inl (fun _ => 0))), (q_12 12, .inl (cy 1, 40, .inl (fun _ => 0))), (q_12 13, .inl (cy 4, 40, .inl (fun _ => 0))), (q_12 14, .inl (cy 1, 40, .inl (fun _ => 0))), (q_12 15, .inl (cy 2, 40960, .inr (.inl (fun _ => 0)))), (q_12 16, .inl (cy 2, 71680, .inr (.inl (fun _ => 0)))), (q_12 17, .inl (cy 2, 1024, .inr (.inl (fun _ => 0)))), (q_12 18, .inl (cy 4, 40, .inl (fun _ => 0))), (q_12 19, .inl (cy 0, 256, .inl (fun _ => 0)))] H := hP
      have hD : va_D A [(tx_4, .inr (1, [.int (nI 3000), .ref rm_4, .int (nI 0)])), (rm_4, .inl (cy 0, 64, .inl (fun _ => 0))), (cn_4, .inl (cy 2, 16, .inr (.inl (fun _ => 0)))), (cd_4, .inl (cy 0, 0, .inl (fun _ => 0))), (st_4, .inl (cy 2, 32, .inr (.inl (fun _ => 0)))), (a8, .inr (10, [.ref (q_12 0), .int (nI 0), .ref (q_12 1), .ref (q_12 2), .int (nI 0), .int (nI 0), .int 0, .int 0, .ref (q_12 3), .ref (q_12 4), .ref (q_12 5), .int (nI 0), .int (nI 0), .int (nI 0), .ref (q_12 6), .ref (q_12 7), .ref (q_12 8), .ref (q_12 9), .ref (q_12 10), .ref (q_12 11), .int (nI 0), .ref (q_12 12), .ref (q_12 13), .ref (q_12 14), .int 0, .ref (q_12 15), .ref (q_12 16), .ref (q_12 17), .int 0, .ref (q_12 18), .ref (q_12 19), .int 0])), (q_12 0, .inl (cy 0, 3000, .inl (fun _ => 0))), (q_12 1, .inl (cy 1, 3001, .inl (fun _ => 0))), (q_12 2, .inl (cy 1, 3001, .inl (fun _ => 0))), (q_12 3, .inl (cy 1, 6000, .inl (fun _ => 0))), (q_12 4, .inl (cy 1, 6000, .inl (fun _ => 0))), (q_12 5, .inl (cy 1, 6000, .inl (fun _ => 0))), (q_12 6, .inl (cy 1, 80, .inl (fun _ => 0))), (q_12 7, .inl (cy 1, 80, .inl (fun _ => 0))), (q_12 8, .inl (cy 1, 640, .inl (fun _ => 0))), (q_12 9, .inl (cy 1, 80, .inl (fun _ => 0))), (q_12 10, .inl (cy 4, 80, .inl (fun _ => 0))), (q_12 11, .inl (cy 1, 80, .inl (fun _ => 0))), (q_12 12, .inl (cy 1, 40, .inl (fun _ => 0))), (q_12 13, .inl (cy 4, 40, .inl (fun _ => 0))), (q_12 14, .inl (cy 1, 40, .inl (fun _ => 0))), (q_12 15, .inl (cy 2, 40960, .inr (.inl (fun _ => 0)))), (q_12 16, .inl (cy 2, 71680, .inr (.inl (fun _ => 0)))), (q_12 17, .inl (cy 2, 1024, .inr (.inl (fun _ => 0)))), (q_12 18, .inl (cy 4, 40, .inl (fun _ => 0))), (q_12 19, .inl (cy 0, 256, .inl (fun _ => 0)))] := hD
      replace hw : r332 = -1 := hw
      refine W.widen (k := 34) (n := 142351) (by omega) (by omega) ?_
      have hw332 := hw
      refine lv_aload_n hx hb dL_law_335 rfl (lv_at hl 1 rfl) ?_
      refine lv_aload_n hx hb dL_law_336 rfl (lv_at hl 3 rfl) ?_
      refine lv_iload_n hx hb dL_law_337 rfl (lv_at hl 0 rfl) ?_
      refine lv_iconst (v := 1) hx hb dL_law_338 (by decide +kernel) ?_
      refine lv_iadd hx hb dL_law_339 ?_
      refine va_sld hx hb hX hbl hbA hS (by unfold vp_in; decide +kernel) dL_law_340 ?_
      refine lv_topi (fun x_27 ex_27 => ?_)
      obtain rfl : x_27 = xs 1 := by rw [ex_27]; rfl
      refine mt_calli (va_runV (As := [.int (xs 1)]) (rest := [.int r332]) ⟨hx, hb, hml, hown, hts⟩ (c_M_test0 l D cy e a8 q_12 (xs 1) H.size ) (cwV 1 hts gL_law_X9_test rfl rfl rfl (by decide +kernel) ⟨Nat.le_of_ble_eq_true rfl, Nat.le_of_ble_eq_true rfl⟩) (mt_preV hP hD hK hS hA hG [5] rfl (by decide) (q := (RX9, TX9, 32)) (ci := 10) (q0 := 5) rfl rfl) rfl rfl hl.1 rfl (lv_room (Nat.le_of_ble_eq_true rfl)) dL_law_341 ⟨(Nat.le_of_ble_eq_true rfl), (Nat.le_of_ble_eq_true rfl)⟩) hP hD hS hA [5] [0, 1, 2, 3, 4, 6, 7, 8, 9, 10, 11, 12, 13, 14, 15, 16, 17, 18, 19, 20, 21, 22, 23, 24, 25] rfl rfl (by decide) (by decide) (fun r341 u H locs hw hP hD hS => ?_)
      have hP : va_P D vwCl [(tx_4, .inr (1, [.int (nI 3000), .ref rm_4, .int (nI 0)])), (rm_4, .inl (cy 0, 64, .inl (fun _ => 0))), (cn_4, .inl (cy 2, 16, .inr (.inl (fun _ => 0)))), (cd_4, .inl (cy 0, 0, .inl (fun _ => 0))), (st_4, .inl (cy 2, 32, .inr (.inl (fun _ => 0)))), (q_12 0, .inl (cy 0, 3000, .inl (fun _ => 0))), (q_12 1, .inl (cy 1, 3001, .inl (fun _ => 0))), (q_12 2, .inl (cy 1, 3001, .inl (fun _ => 0))), (q_12 3, .inl (cy 1, 6000, .inl (fun _ => 0))), (q_12 4, .inl (cy 1, 6000, .inl (fun _ => 0))), (q_12 5, .inl (cy 1, 6000, .inl (fun _ => 0))), (q_12 6, .inl (cy 1, 80, .inl (fun _ => 0))), (q_12 7, .inl (cy 1, 80, .inl (fun _ => 0))), (q_12 8, .inl (cy 1, 640, .inl (fun _ => 0))), (q_12 9, .inl (cy 1, 80, .inl (fun _ => 0))), (q_12 10, .inl (cy 4, 80, .inl (fun _ => 0))), (q_12 11, .inl (cy 1, 80, .inl (fun _ => 0))), (q_12 12, .inl (cy 1, 40, .inl (fun _ => 0))), (q_12 13, .inl (cy 4, 40, .inl (fun _ => 0))), (q_12 14, .inl (cy 1, 40, .inl (fun _ => 0))), (q_12 15, .inl (cy 2, 40960, .inr (.inl (fun _ => 0)))), (q_12 16, .inl (cy 2, 71680, .inr (.inl (fun _ => 0)))), (q_12 17, .inl (cy 2, 1024, .inr (.inl (fun _ => 0)))), (q_12 18, .inl (cy 4, 40, .inl (fun _ => 0))), (q_12 19, .inl (cy 0, 256, .inl (fun _ => 0)))] H := hP
      have hD : va_D A [(tx_4, .inr (1, [.int (nI 3000), .ref rm_4, .int (nI 0)])), (rm_4, .inl (cy 0, 64, .inl (fun _ => 0))), (cn_4, .inl (cy 2, 16, .inr (.inl (fun _ => 0)))), (cd_4, .inl (cy 0, 0, .inl (fun _ => 0))), (st_4, .inl (cy 2, 32, .inr (.inl (fun _ => 0)))), (q_12 0, .inl (cy 0, 3000, .inl (fun _ => 0))), (q_12 1, .inl (cy 1, 3001, .inl (fun _ => 0))), (q_12 2, .inl (cy 1, 3001, .inl (fun _ => 0))), (q_12 3, .inl (cy 1, 6000, .inl (fun _ => 0))), (q_12 4, .inl (cy 1, 6000, .inl (fun _ => 0))), (q_12 5, .inl (cy 1, 6000, .inl (fun _ => 0))), (q_12 6, .inl (cy 1, 80, .inl (fun _ => 0))), (q_12 7, .inl (cy 1, 80, .inl (fun _ => 0))), (q_12 8, .inl (cy 1, 640, .inl (fun _ => 0))), (q_12 9, .inl (cy 1, 80, .inl (fun _ => 0))), (q_12 10, .inl (cy 4, 80, .inl (fun _ => 0))), (q_12 11, .inl (cy 1, 80, .inl (fun _ => 0))), (q_12 12, .inl (cy 1, 40, .inl (fun _ => 0))), (q_12 13, .inl (cy 4, 40, .inl (fun _ => 0))), (q_12 14, .inl (cy 1, 40, .inl (fun _ => 0))), (q_12 15, .inl (cy 2, 40960, .inr (.inl (fun _ => 0)))), (q_12 16, .inl (cy 2, 71680, .inr (.inl (fun _ => 0)))), (q_12 17, .inl (cy 2, 1024, .inr (.inl (fun _ => 0)))), (q_12 18, .inl (cy 4, 40, .inl (fun _ => 0))), (q_12 19, .inl (cy 0, 256, .inl (fun _ => 0)))] := hD
      replace hw : r341 = -1 := hw
      refine W.widen (k := 34) (n := 142351) (by omega) (by omega) ?_
      have hw341 := hw
      refine lv_icmp_eq (tgt := 416) hx hb dL_law_344 (by decide) (fun _ => ?_) (fun c344 => absurd (by rw [hw332, hw341]) c344)
      refine lv_iinc (v := 0 + 5) (lv' := [(3, .int (0 + 5)), (2, .ref a8), (1, .ref a0), (0, .ref b)]) hx hb dL_law_416 hl (k := 0) rfl (rfl) (by decide) rfl (fun ls hl => ?_)
      refine lv_goto (tgt := 18) hx hb dL_law_419 (by decide) ?_
      refine lv_iload_n hx hb dL_law_18 rfl (lv_at hl 0 rfl) ?_
      refine lv_aload_n hx hb dL_law_19 rfl (lv_at hl 3 rfl) ?_
      refine va_slen hx hb hX hbl hbA hS dL_law_20 ?_
      refine lv_iconst (v := 5) hx hb dL_law_21 (by decide +kernel) ?_
      refine lv_isub hx hb dL_law_22 ?_
      refine lv_icmp_gt (tgt := 422) hx hb dL_law_23 (by decide) (fun _ => ?_) (fun c23 => absurd (by decide +kernel) c23)
      refine lv_iconst (v := 1) hx hb dL_law_422 (by decide +kernel) ?_
      refine va_forget (fun q hq => by have := hS.2.2 q hq; rw [hAe] at this; exact this) ?_
      refine W.widen (k := 600000) (n := 7302250) (by omega) (by omega) ?_
      exact lw_ret hx hb hr hlocks dL_law_423
    · refine lv_tableIn (off := 317) (tgt := 349) hx hb dL_law_32 (by decide +kernel) (by decide +kernel) rfl (by decide) ?_
      refine lv_aload_n hx hb dL_law_349 rfl (lv_at hl 2 rfl) ?_
      refine lv_aload_n hx hb dL_law_350 rfl (lv_at hl 3 rfl) ?_
      refine lv_iload_n hx hb dL_law_351 rfl (lv_at hl 0 rfl) ?_
      refine lv_iconst (v := 1) hx hb dL_law_352 (by decide +kernel) ?_
      refine lv_iadd hx hb dL_law_353 ?_
      refine va_sld hx hb hX hbl hbA hS (by unfold vp_in; decide +kernel) dL_law_354 ?_
      refine lv_topi (fun x_28 ex_28 => ?_)
      obtain rfl : x_28 = xs 1 := by rw [ex_28]; rfl
      refine lv_aload_n hx hb dL_law_355 rfl (lv_at hl 3 rfl) ?_
      refine lv_iload_n hx hb dL_law_356 rfl (lv_at hl 0 rfl) ?_
      refine lv_iconst (v := 2) hx hb dL_law_357 (by decide +kernel) ?_
      refine lv_iadd hx hb dL_law_358 ?_
      refine va_sld hx hb hX hbl hbA hS (by unfold vp_in; decide +kernel) dL_law_359 ?_
      refine lv_topi (fun x_29 ex_29 => ?_)
      obtain rfl : x_29 = xs 2 := by rw [ex_29]; rfl
      refine pu_calli (va_runV (As := [.int (xs 1), .int (xs 2)]) (rest := []) ⟨hx, hb, hml, hown, hts⟩ (c_IT_row0 l D cy e a0 tx_4 cn_4 tb_4 ro_4 xp_4 (xs 1) (xs 2) ) (cwV 2 hts gL_law_X8_row rfl rfl rfl (by decide +kernel) ⟨Nat.le_of_ble_eq_true rfl, Nat.le_of_ble_eq_true rfl⟩) (pu_preV hP hK hS hG [0, 4, 5] rfl (q := (RX8, TX8, 3)) (ci := 9) (q0 := 0) rfl rfl) rfl rfl hl.1 rfl (lv_room (Nat.le_of_ble_eq_true rfl)) dL_law_360 ⟨(Nat.le_of_ble_eq_true rfl), (Nat.le_of_ble_eq_true rfl)⟩) hP hS (fun H locs hP hS => ?_)
      have hP : va_P D vwCl [(a0, .inr (9, [.ref tx_4, .ref cn_4, .ref tb_4])), (tx_4, .inr (1, [.int (nI 3000), .ref rm_4, .int (nI 0)])), (rm_4, .inl (cy 0, 64, .inl (fun _ => 0))), (cn_4, .inl (cy 2, 16, .inr (.inl (fun _ => 0)))), (tb_4, .inr (6, [.ref ro_4, .ref xp_4, .null, .int 0])), (ro_4, .inr (0, [.int 0, .ref (e 0), .int (nI 0)])), (xp_4, .inr (2, [.ref cd_4, .int (nI 0), .ref st_4])), (cd_4, .inl (cy 0, 0, .inl (fun _ => 0))), (st_4, .inl (cy 2, 32, .inr (.inl (fun _ => 0)))), (a8, .inr (10, [.ref (q_12 0), .int (nI 0), .ref (q_12 1), .ref (q_12 2), .int (nI 0), .int (nI 0), .int 0, .int 0, .ref (q_12 3), .ref (q_12 4), .ref (q_12 5), .int (nI 0), .int (nI 0), .int (nI 0), .ref (q_12 6), .ref (q_12 7), .ref (q_12 8), .ref (q_12 9), .ref (q_12 10), .ref (q_12 11), .int (nI 0), .ref (q_12 12), .ref (q_12 13), .ref (q_12 14), .int 0, .ref (q_12 15), .ref (q_12 16), .ref (q_12 17), .int 0, .ref (q_12 18), .ref (q_12 19), .int 0])), (q_12 0, .inl (cy 0, 3000, .inl (fun _ => 0))), (q_12 1, .inl (cy 1, 3001, .inl (fun _ => 0))), (q_12 2, .inl (cy 1, 3001, .inl (fun _ => 0))), (q_12 3, .inl (cy 1, 6000, .inl (fun _ => 0))), (q_12 4, .inl (cy 1, 6000, .inl (fun _ => 0))), (q_12 5, .inl (cy 1, 6000, .inl (fun _ => 0))), (q_12 6, .inl (cy 1, 80, .inl (fun _ => 0))), (q_12 7, .inl (cy 1, 80, .inl (fun _ => 0))), (q_12 8, .inl (cy 1, 640, .inl (fun _ => 0))), (q_12 9, .inl (cy 1, 80, .inl (fun _ => 0))), (q_12 10, .inl (cy 4, 80, .inl (fun _ => 0))), (q_12 11, .inl (cy 1, 80, .inl (fun _ => 0))), (q_12 12, .inl (cy 1, 40, .inl (fun _ => 0))), (q_12 13, .inl (cy 4, 40, .inl (fun _ => 0))), (q_12 14, .inl (cy 1, 40, .inl (fun _ => 0))), (q_12 15, .inl (cy 2, 40960, .inr (.inl (fun _ => 0)))), (q_12 16, .inl (cy 2, 71680, .inr (.inl (fun _ => 0)))), (q_12 17, .inl (cy 2, 1024, .inr (.inl (fun _ => 0)))), (q_12 18, .inl (cy 4, 40, .inl (fun _ => 0))), (q_12 19, .inl (cy 0, 256, .inl (fun _ => 0)))] H := hP
      refine lv_aload_n hx hb dL_law_363 rfl (lv_at hl 1 rfl) ?_
      refine lv_aload_n hx hb dL_law_364 rfl (lv_at hl 3 rfl) ?_
      refine lv_iload_n hx hb dL_law_365 rfl (lv_at hl 0 rfl) ?_
      refine lv_iconst (v := 1) hx hb dL_law_366 (by decide +kernel) ?_
      refine lv_iadd hx hb dL_law_367 ?_
      refine va_sld hx hb hX hbl hbA hS (by unfold vp_in; decide +kernel) dL_law_368 ?_
      refine lv_topi (fun x_30 ex_30 => ?_)
      obtain rfl : x_30 = xs 1 := by rw [ex_30]; rfl
      refine lv_aload_n hx hb dL_law_369 rfl (lv_at hl 3 rfl) ?_
      refine lv_iload_n hx hb dL_law_370 rfl (lv_at hl 0 rfl) ?_
      refine lv_iconst (v := 2) hx hb dL_law_371 (by decide +kernel) ?_
      refine lv_iadd hx hb dL_law_372 ?_
      refine va_sld hx hb hX hbl hbA hS (by unfold vp_in; decide +kernel) dL_law_373 ?_
      refine lv_topi (fun x_31 ex_31 => ?_)
      obtain rfl : x_31 = xs 2 := by rw [ex_31]; rfl
      refine pu_calli (va_runV (As := [.int (xs 1), .int (xs 2)]) (rest := [.int (-1)]) ⟨hx, hb, hml, hown, hts⟩ (c_M_row0 l D cy e a8 q_12 (xs 1) (xs 2) ) (cwV 2 hts gL_law_X9_row rfl rfl rfl (by decide +kernel) ⟨Nat.le_of_ble_eq_true rfl, Nat.le_of_ble_eq_true rfl⟩) (pu_preV hP hK hS hG [9] rfl (q := (RX9, TX9, 32)) (ci := 10) (q0 := 9) rfl rfl) rfl rfl hl.1 rfl (lv_room (Nat.le_of_ble_eq_true rfl)) dL_law_374 ⟨(Nat.le_of_ble_eq_true rfl), (Nat.le_of_ble_eq_true rfl)⟩) hP hS (fun H locs hP hS => ?_)
      have hP : va_P D vwCl [(a0, .inr (9, [.ref tx_4, .ref cn_4, .ref tb_4])), (tx_4, .inr (1, [.int (nI 3000), .ref rm_4, .int (nI 0)])), (rm_4, .inl (cy 0, 64, .inl (fun _ => 0))), (cn_4, .inl (cy 2, 16, .inr (.inl (fun _ => 0)))), (tb_4, .inr (6, [.ref ro_4, .ref xp_4, .null, .int 0])), (ro_4, .inr (0, [.int 0, .ref (e 0), .int (nI 0)])), (xp_4, .inr (2, [.ref cd_4, .int (nI 0), .ref st_4])), (cd_4, .inl (cy 0, 0, .inl (fun _ => 0))), (st_4, .inl (cy 2, 32, .inr (.inl (fun _ => 0)))), (a8, .inr (10, [.ref (q_12 0), .int (nI 0), .ref (q_12 1), .ref (q_12 2), .int (nI 0), .int (nI 0), .int 0, .int 0, .ref (q_12 3), .ref (q_12 4), .ref (q_12 5), .int (nI 0), .int (nI 0), .int (nI 0), .ref (q_12 6), .ref (q_12 7), .ref (q_12 8), .ref (q_12 9), .ref (q_12 10), .ref (q_12 11), .int (nI 0), .ref (q_12 12), .ref (q_12 13), .ref (q_12 14), .int 0, .ref (q_12 15), .ref (q_12 16), .ref (q_12 17), .int 0, .ref (q_12 18), .ref (q_12 19), .int 0])), (q_12 0, .inl (cy 0, 3000, .inl (fun _ => 0))), (q_12 1, .inl (cy 1, 3001, .inl (fun _ => 0))), (q_12 2, .inl (cy 1, 3001, .inl (fun _ => 0))), (q_12 3, .inl (cy 1, 6000, .inl (fun _ => 0))), (q_12 4, .inl (cy 1, 6000, .inl (fun _ => 0))), (q_12 5, .inl (cy 1, 6000, .inl (fun _ => 0))), (q_12 6, .inl (cy 1, 80, .inl (fun _ => 0))), (q_12 7, .inl (cy 1, 80, .inl (fun _ => 0))), (q_12 8, .inl (cy 1, 640, .inl (fun _ => 0))), (q_12 9, .inl (cy 1, 80, .inl (fun _ => 0))), (q_12 10, .inl (cy 4, 80, .inl (fun _ => 0))), (q_12 11, .inl (cy 1, 80, .inl (fun _ => 0))), (q_12 12, .inl (cy 1, 40, .inl (fun _ => 0))), (q_12 13, .inl (cy 4, 40, .inl (fun _ => 0))), (q_12 14, .inl (cy 1, 40, .inl (fun _ => 0))), (q_12 15, .inl (cy 2, 40960, .inr (.inl (fun _ => 0)))), (q_12 16, .inl (cy 2, 71680, .inr (.inl (fun _ => 0)))), (q_12 17, .inl (cy 2, 1024, .inr (.inl (fun _ => 0)))), (q_12 18, .inl (cy 4, 40, .inl (fun _ => 0))), (q_12 19, .inl (cy 0, 256, .inl (fun _ => 0)))] H := hP
      refine lv_icmp_eq (tgt := 416) hx hb dL_law_377 (by decide) (fun _ => ?_) (fun c377 => absurd rfl c377)
      refine lv_iinc (v := 0 + 5) (lv' := [(3, .int (0 + 5)), (2, .ref a8), (1, .ref a0), (0, .ref b)]) hx hb dL_law_416 hl (k := 0) rfl (rfl) (by decide) rfl (fun ls hl => ?_)
      refine lv_goto (tgt := 18) hx hb dL_law_419 (by decide) ?_
      refine lv_iload_n hx hb dL_law_18 rfl (lv_at hl 0 rfl) ?_
      refine lv_aload_n hx hb dL_law_19 rfl (lv_at hl 3 rfl) ?_
      refine va_slen hx hb hX hbl hbA hS dL_law_20 ?_
      refine lv_iconst (v := 5) hx hb dL_law_21 (by decide +kernel) ?_
      refine lv_isub hx hb dL_law_22 ?_
      refine lv_icmp_gt (tgt := 422) hx hb dL_law_23 (by decide) (fun _ => ?_) (fun c23 => absurd (by decide +kernel) c23)
      refine lv_iconst (v := 1) hx hb dL_law_422 (by decide +kernel) ?_
      refine va_forget (fun q hq => by have := hS.2.2 q hq; rw [hAe] at this; exact this) ?_
      refine W.widen (k := 600000) (n := 7302250) (by omega) (by omega) ?_
      exact lw_ret hx hb hr hlocks dL_law_423
    · refine lv_tableIn (off := 350) (tgt := 382) hx hb dL_law_32 (by decide +kernel) (by decide +kernel) rfl (by decide) ?_
      refine lv_aload_n hx hb dL_law_382 rfl (lv_at hl 2 rfl) ?_
      refine lv_aload_n hx hb dL_law_383 rfl (lv_at hl 3 rfl) ?_
      refine lv_iload_n hx hb dL_law_384 rfl (lv_at hl 0 rfl) ?_
      refine lv_iconst (v := 1) hx hb dL_law_385 (by decide +kernel) ?_
      refine lv_iadd hx hb dL_law_386 ?_
      refine va_sld hx hb hX hbl hbA hS (by unfold vp_in; decide +kernel) dL_law_387 ?_
      refine lv_topi (fun x_32 ex_32 => ?_)
      obtain rfl : x_32 = xs 1 := by rw [ex_32]; rfl
      refine mt_calli (va_runV (As := [.int (xs 1)]) (rest := []) ⟨hx, hb, hml, hown, hts⟩ (c_IT_write0 l D cy e a0 tx_4 cn_4 tb_4 ro_4 xp_4 (xs 1) H.size ) (cwV 1 hts gL_law_X8_write rfl rfl rfl (by decide +kernel) ⟨Nat.le_of_ble_eq_true rfl, Nat.le_of_ble_eq_true rfl⟩) (mt_preV hP hD hK hS hA hG [0, 4, 5] rfl (by decide) (q := (RX8, TX8, 3)) (ci := 9) (q0 := 0) rfl rfl) rfl rfl hl.1 rfl (lv_room (Nat.le_of_ble_eq_true rfl)) dL_law_388 ⟨(Nat.le_of_ble_eq_true rfl), (Nat.le_of_ble_eq_true rfl)⟩) hP hD hS hA [0, 4, 5] [1, 2, 3, 6, 7, 8, 9, 10, 11, 12, 13, 14, 15, 16, 17, 18, 19, 20, 21, 22, 23, 24, 25, 26, 27, 28, 29] rfl rfl (by decide) (by decide) (fun r388 u H locs hw hP hD hS => ?_)
      have hP : va_P D vwCl [(tx_4, .inr (1, [.int (nI 3000), .ref rm_4, .int (nI 0)])), (rm_4, .inl (cy 0, 64, .inl (fun _ => 0))), (cn_4, .inl (cy 2, 16, .inr (.inl (fun _ => 0)))), (xp_4, .inr (2, [.ref cd_4, .int (nI 0), .ref st_4])), (cd_4, .inl (cy 0, 0, .inl (fun _ => 0))), (st_4, .inl (cy 2, 32, .inr (.inl (fun _ => 0)))), (a8, .inr (10, [.ref (q_12 0), .int (nI 0), .ref (q_12 1), .ref (q_12 2), .int (nI 0), .int (nI 0), .int 0, .int 0, .ref (q_12 3), .ref (q_12 4), .ref (q_12 5), .int (nI 0), .int (nI 0), .int (nI 0), .ref (q_12 6), .ref (q_12 7), .ref (q_12 8), .ref (q_12 9), .ref (q_12 10), .ref (q_12 11), .int (nI 0), .ref (q_12 12), .ref (q_12 13), .ref (q_12 14), .int 0, .ref (q_12 15), .ref (q_12 16), .ref (q_12 17), .int 0, .ref (q_12 18), .ref (q_12 19), .int 0])), (q_12 0, .inl (cy 0, 3000, .inl (fun _ => 0))), (q_12 1, .inl (cy 1, 3001, .inl (fun _ => 0))), (q_12 2, .inl (cy 1, 3001, .inl (fun _ => 0))), (q_12 3, .inl (cy 1, 6000, .inl (fun _ => 0))), (q_12 4, .inl (cy 1, 6000, .inl (fun _ => 0))), (q_12 5, .inl (cy 1, 6000, .inl (fun _ => 0))), (q_12 6, .inl (cy 1, 80, .inl (fun _ => 0))), (q_12 7, .inl (cy 1, 80, .inl (fun _ => 0))), (q_12 8, .inl (cy 1, 640, .inl (fun _ => 0))), (q_12 9, .inl (cy 1, 80, .inl (fun _ => 0))), (q_12 10, .inl (cy 4, 80, .inl (fun _ => 0))), (q_12 11, .inl (cy 1, 80, .inl (fun _ => 0))), (q_12 12, .inl (cy 1, 40, .inl (fun _ => 0))), (q_12 13, .inl (cy 4, 40, .inl (fun _ => 0))), (q_12 14, .inl (cy 1, 40, .inl (fun _ => 0))), (q_12 15, .inl (cy 2, 40960, .inr (.inl (fun _ => 0)))), (q_12 16, .inl (cy 2, 71680, .inr (.inl (fun _ => 0)))), (q_12 17, .inl (cy 2, 1024, .inr (.inl (fun _ => 0)))), (q_12 18, .inl (cy 4, 40, .inl (fun _ => 0))), (q_12 19, .inl (cy 0, 256, .inl (fun _ => 0)))] H := hP
      have hD : va_D A [(tx_4, .inr (1, [.int (nI 3000), .ref rm_4, .int (nI 0)])), (rm_4, .inl (cy 0, 64, .inl (fun _ => 0))), (cn_4, .inl (cy 2, 16, .inr (.inl (fun _ => 0)))), (xp_4, .inr (2, [.ref cd_4, .int (nI 0), .ref st_4])), (cd_4, .inl (cy 0, 0, .inl (fun _ => 0))), (st_4, .inl (cy 2, 32, .inr (.inl (fun _ => 0)))), (a8, .inr (10, [.ref (q_12 0), .int (nI 0), .ref (q_12 1), .ref (q_12 2), .int (nI 0), .int (nI 0), .int 0, .int 0, .ref (q_12 3), .ref (q_12 4), .ref (q_12 5), .int (nI 0), .int (nI 0), .int (nI 0), .ref (q_12 6), .ref (q_12 7), .ref (q_12 8), .ref (q_12 9), .ref (q_12 10), .ref (q_12 11), .int (nI 0), .ref (q_12 12), .ref (q_12 13), .ref (q_12 14), .int 0, .ref (q_12 15), .ref (q_12 16), .ref (q_12 17), .int 0, .ref (q_12 18), .ref (q_12 19), .int 0])), (q_12 0, .inl (cy 0, 3000, .inl (fun _ => 0))), (q_12 1, .inl (cy 1, 3001, .inl (fun _ => 0))), (q_12 2, .inl (cy 1, 3001, .inl (fun _ => 0))), (q_12 3, .inl (cy 1, 6000, .inl (fun _ => 0))), (q_12 4, .inl (cy 1, 6000, .inl (fun _ => 0))), (q_12 5, .inl (cy 1, 6000, .inl (fun _ => 0))), (q_12 6, .inl (cy 1, 80, .inl (fun _ => 0))), (q_12 7, .inl (cy 1, 80, .inl (fun _ => 0))), (q_12 8, .inl (cy 1, 640, .inl (fun _ => 0))), (q_12 9, .inl (cy 1, 80, .inl (fun _ => 0))), (q_12 10, .inl (cy 4, 80, .inl (fun _ => 0))), (q_12 11, .inl (cy 1, 80, .inl (fun _ => 0))), (q_12 12, .inl (cy 1, 40, .inl (fun _ => 0))), (q_12 13, .inl (cy 4, 40, .inl (fun _ => 0))), (q_12 14, .inl (cy 1, 40, .inl (fun _ => 0))), (q_12 15, .inl (cy 2, 40960, .inr (.inl (fun _ => 0)))), (q_12 16, .inl (cy 2, 71680, .inr (.inl (fun _ => 0)))), (q_12 17, .inl (cy 2, 1024, .inr (.inl (fun _ => 0)))), (q_12 18, .inl (cy 4, 40, .inl (fun _ => 0))), (q_12 19, .inl (cy 0, 256, .inl (fun _ => 0)))] := hD
      replace hw : r388 = -1 := hw
      refine W.widen (k := 33) (n := 142352) (by omega) (by omega) ?_
      have hw388 := hw
      refine lv_aload_n hx hb dL_law_391 rfl (lv_at hl 1 rfl) ?_
      refine lv_aload_n hx hb dL_law_392 rfl (lv_at hl 3 rfl) ?_
      refine lv_iload_n hx hb dL_law_393 rfl (lv_at hl 0 rfl) ?_
      refine lv_iconst (v := 1) hx hb dL_law_394 (by decide +kernel) ?_
      refine lv_iadd hx hb dL_law_395 ?_
      refine va_sld hx hb hX hbl hbA hS (by unfold vp_in; decide +kernel) dL_law_396 ?_
      refine lv_topi (fun x_33 ex_33 => ?_)
      obtain rfl : x_33 = xs 1 := by rw [ex_33]; rfl
      refine mt_calli (va_runV (As := [.int (xs 1)]) (rest := [.int r388]) ⟨hx, hb, hml, hown, hts⟩ (c_M_write0 l D cy e a8 q_12 (xs 1) H.size ) (cwV 1 hts gL_law_X9_write rfl rfl rfl (by decide +kernel) ⟨Nat.le_of_ble_eq_true rfl, Nat.le_of_ble_eq_true rfl⟩) (mt_preV hP hD hK hS hA hG [6] rfl (by decide) (q := (RX9, TX9, 32)) (ci := 10) (q0 := 6) rfl rfl) rfl rfl hl.1 rfl (lv_room (Nat.le_of_ble_eq_true rfl)) dL_law_397 ⟨(Nat.le_of_ble_eq_true rfl), (Nat.le_of_ble_eq_true rfl)⟩) hP hD hS hA [6] [0, 1, 2, 3, 4, 5, 7, 8, 9, 10, 11, 12, 13, 14, 15, 16, 17, 18, 19, 20, 21, 22, 23, 24, 25, 26] rfl rfl (by decide) (by decide) (fun r397 u H locs hw hP hD hS => ?_)
      have hP : va_P D vwCl [(tx_4, .inr (1, [.int (nI 3000), .ref rm_4, .int (nI 0)])), (rm_4, .inl (cy 0, 64, .inl (fun _ => 0))), (cn_4, .inl (cy 2, 16, .inr (.inl (fun _ => 0)))), (xp_4, .inr (2, [.ref cd_4, .int (nI 0), .ref st_4])), (cd_4, .inl (cy 0, 0, .inl (fun _ => 0))), (st_4, .inl (cy 2, 32, .inr (.inl (fun _ => 0)))), (q_12 0, .inl (cy 0, 3000, .inl (fun _ => 0))), (q_12 1, .inl (cy 1, 3001, .inl (fun _ => 0))), (q_12 2, .inl (cy 1, 3001, .inl (fun _ => 0))), (q_12 3, .inl (cy 1, 6000, .inl (fun _ => 0))), (q_12 4, .inl (cy 1, 6000, .inl (fun _ => 0))), (q_12 5, .inl (cy 1, 6000, .inl (fun _ => 0))), (q_12 6, .inl (cy 1, 80, .inl (fun _ => 0))), (q_12 7, .inl (cy 1, 80, .inl (fun _ => 0))), (q_12 8, .inl (cy 1, 640, .inl (fun _ => 0))), (q_12 9, .inl (cy 1, 80, .inl (fun _ => 0))), (q_12 10, .inl (cy 4, 80, .inl (fun _ => 0))), (q_12 11, .inl (cy 1, 80, .inl (fun _ => 0))), (q_12 12, .inl (cy 1, 40, .inl (fun _ => 0))), (q_12 13, .inl (cy 4, 40, .inl (fun _ => 0))), (q_12 14, .inl (cy 1, 40, .inl (fun _ => 0))), (q_12 15, .inl (cy 2, 40960, .inr (.inl (fun _ => 0)))), (q_12 16, .inl (cy 2, 71680, .inr (.inl (fun _ => 0)))), (q_12 17, .inl (cy 2, 1024, .inr (.inl (fun _ => 0)))), (q_12 18, .inl (cy 4, 40, .inl (fun _ => 0))), (q_12 19, .inl (cy 0, 256, .inl (fun _ => 0)))] H := hP
      have hD : va_D A [(tx_4, .inr (1, [.int (nI 3000), .ref rm_4, .int (nI 0)])), (rm_4, .inl (cy 0, 64, .inl (fun _ => 0))), (cn_4, .inl (cy 2, 16, .inr (.inl (fun _ => 0)))), (xp_4, .inr (2, [.ref cd_4, .int (nI 0), .ref st_4])), (cd_4, .inl (cy 0, 0, .inl (fun _ => 0))), (st_4, .inl (cy 2, 32, .inr (.inl (fun _ => 0)))), (q_12 0, .inl (cy 0, 3000, .inl (fun _ => 0))), (q_12 1, .inl (cy 1, 3001, .inl (fun _ => 0))), (q_12 2, .inl (cy 1, 3001, .inl (fun _ => 0))), (q_12 3, .inl (cy 1, 6000, .inl (fun _ => 0))), (q_12 4, .inl (cy 1, 6000, .inl (fun _ => 0))), (q_12 5, .inl (cy 1, 6000, .inl (fun _ => 0))), (q_12 6, .inl (cy 1, 80, .inl (fun _ => 0))), (q_12 7, .inl (cy 1, 80, .inl (fun _ => 0))), (q_12 8, .inl (cy 1, 640, .inl (fun _ => 0))), (q_12 9, .inl (cy 1, 80, .inl (fun _ => 0))), (q_12 10, .inl (cy 4, 80, .inl (fun _ => 0))), (q_12 11, .inl (cy 1, 80, .inl (fun _ => 0))), (q_12 12, .inl (cy 1, 40, .inl (fun _ => 0))), (q_12 13, .inl (cy 4, 40, .inl (fun _ => 0))), (q_12 14, .inl (cy 1, 40, .inl (fun _ => 0))), (q_12 15, .inl (cy 2, 40960, .inr (.inl (fun _ => 0)))), (q_12 16, .inl (cy 2, 71680, .inr (.inl (fun _ => 0)))), (q_12 17, .inl (cy 2, 1024, .inr (.inl (fun _ => 0)))), (q_12 18, .inl (cy 4, 40, .inl (fun _ => 0))), (q_12 19, .inl (cy 0, 256, .inl (fun _ => 0)))] := hD
      replace hw : r397 = -1 := hw
      refine W.widen (k := 33) (n := 142352) (by omega) (by omega) ?_
      have hw397 := hw
      refine lv_icmp_eq (tgt := 416) hx hb dL_law_400 (by decide) (fun _ => ?_) (fun c400 => absurd (by rw [hw388, hw397]) c400)
      refine lv_iinc (v := 0 + 5) (lv' := [(3, .int (0 + 5)), (2, .ref a8), (1, .ref a0), (0, .ref b)]) hx hb dL_law_416 hl (k := 0) rfl (rfl) (by decide) rfl (fun ls hl => ?_)
      refine lv_goto (tgt := 18) hx hb dL_law_419 (by decide) ?_
      refine lv_iload_n hx hb dL_law_18 rfl (lv_at hl 0 rfl) ?_
      refine lv_aload_n hx hb dL_law_19 rfl (lv_at hl 3 rfl) ?_
      refine va_slen hx hb hX hbl hbA hS dL_law_20 ?_
      refine lv_iconst (v := 5) hx hb dL_law_21 (by decide +kernel) ?_
      refine lv_isub hx hb dL_law_22 ?_
      refine lv_icmp_gt (tgt := 422) hx hb dL_law_23 (by decide) (fun _ => ?_) (fun c23 => absurd (by decide +kernel) c23)
      refine lv_iconst (v := 1) hx hb dL_law_422 (by decide +kernel) ?_
      refine va_forget (fun q hq => by have := hS.2.2 q hq; rw [hAe] at this; exact this) ?_
      refine W.widen (k := 600000) (n := 7302250) (by omega) (by omega) ?_
      exact lw_ret hx hb hr hlocks dL_law_423
    · refine lv_tableIn (off := 373) (tgt := 405) hx hb dL_law_32 (by decide +kernel) (by decide +kernel) rfl (by decide) ?_
      refine lv_aload_n hx hb dL_law_405 rfl (lv_at hl 2 rfl) ?_
      refine mt_callv (va_runV (As := []) (rest := []) ⟨hx, hb, hml, hown, hts⟩ (c_IT_clear0 l D cy e a0 tx_4 cn_4 tb_4 rm_4 H.size ) (cwV 0 hts gL_law_X8_clear rfl rfl rfl (by decide +kernel) ⟨Nat.le_of_ble_eq_true rfl, Nat.le_of_ble_eq_true rfl⟩) (mt_preV hP hD hK hS hA hG [0, 1] rfl (by decide) (q := (RX8, TX8, 3)) (ci := 9) (q0 := 0) rfl rfl) rfl rfl hl.1 rfl (lv_room (Nat.le_of_ble_eq_true rfl)) dL_law_406 ⟨(Nat.le_of_ble_eq_true rfl), (Nat.le_of_ble_eq_true rfl)⟩) hP hD hS hA [0, 1] [2, 3, 4, 5, 6, 7, 8, 9, 10, 11, 12, 13, 14, 15, 16, 17, 18, 19, 20, 21, 22, 23, 24, 25, 26, 27, 28, 29] rfl rfl (by decide) (by decide) (fun u H locs hw hP hD hS => ?_)
      have hP : va_P D vwCl [(rm_4, .inl (cy 0, 64, .inl (fun _ => 0))), (cn_4, .inl (cy 2, 16, .inr (.inl (fun _ => 0)))), (tb_4, .inr (6, [.ref ro_4, .ref xp_4, .null, .int 0])), (ro_4, .inr (0, [.int 0, .ref (e 0), .int (nI 0)])), (xp_4, .inr (2, [.ref cd_4, .int (nI 0), .ref st_4])), (cd_4, .inl (cy 0, 0, .inl (fun _ => 0))), (st_4, .inl (cy 2, 32, .inr (.inl (fun _ => 0)))), (a8, .inr (10, [.ref (q_12 0), .int (nI 0), .ref (q_12 1), .ref (q_12 2), .int (nI 0), .int (nI 0), .int 0, .int 0, .ref (q_12 3), .ref (q_12 4), .ref (q_12 5), .int (nI 0), .int (nI 0), .int (nI 0), .ref (q_12 6), .ref (q_12 7), .ref (q_12 8), .ref (q_12 9), .ref (q_12 10), .ref (q_12 11), .int (nI 0), .ref (q_12 12), .ref (q_12 13), .ref (q_12 14), .int 0, .ref (q_12 15), .ref (q_12 16), .ref (q_12 17), .int 0, .ref (q_12 18), .ref (q_12 19), .int 0])), (q_12 0, .inl (cy 0, 3000, .inl (fun _ => 0))), (q_12 1, .inl (cy 1, 3001, .inl (fun _ => 0))), (q_12 2, .inl (cy 1, 3001, .inl (fun _ => 0))), (q_12 3, .inl (cy 1, 6000, .inl (fun _ => 0))), (q_12 4, .inl (cy 1, 6000, .inl (fun _ => 0))), (q_12 5, .inl (cy 1, 6000, .inl (fun _ => 0))), (q_12 6, .inl (cy 1, 80, .inl (fun _ => 0))), (q_12 7, .inl (cy 1, 80, .inl (fun _ => 0))), (q_12 8, .inl (cy 1, 640, .inl (fun _ => 0))), (q_12 9, .inl (cy 1, 80, .inl (fun _ => 0))), (q_12 10, .inl (cy 4, 80, .inl (fun _ => 0))), (q_12 11, .inl (cy 1, 80, .inl (fun _ => 0))), (q_12 12, .inl (cy 1, 40, .inl (fun _ => 0))), (q_12 13, .inl (cy 4, 40, .inl (fun _ => 0))), (q_12 14, .inl (cy 1, 40, .inl (fun _ => 0))), (q_12 15, .inl (cy 2, 40960, .inr (.inl (fun _ => 0)))), (q_12 16, .inl (cy 2, 71680, .inr (.inl (fun _ => 0)))), (q_12 17, .inl (cy 2, 1024, .inr (.inl (fun _ => 0)))), (q_12 18, .inl (cy 4, 40, .inl (fun _ => 0))), (q_12 19, .inl (cy 0, 256, .inl (fun _ => 0)))] H := hP
      have hD : va_D A [(rm_4, .inl (cy 0, 64, .inl (fun _ => 0))), (cn_4, .inl (cy 2, 16, .inr (.inl (fun _ => 0)))), (tb_4, .inr (6, [.ref ro_4, .ref xp_4, .null, .int 0])), (ro_4, .inr (0, [.int 0, .ref (e 0), .int (nI 0)])), (xp_4, .inr (2, [.ref cd_4, .int (nI 0), .ref st_4])), (cd_4, .inl (cy 0, 0, .inl (fun _ => 0))), (st_4, .inl (cy 2, 32, .inr (.inl (fun _ => 0)))), (a8, .inr (10, [.ref (q_12 0), .int (nI 0), .ref (q_12 1), .ref (q_12 2), .int (nI 0), .int (nI 0), .int 0, .int 0, .ref (q_12 3), .ref (q_12 4), .ref (q_12 5), .int (nI 0), .int (nI 0), .int (nI 0), .ref (q_12 6), .ref (q_12 7), .ref (q_12 8), .ref (q_12 9), .ref (q_12 10), .ref (q_12 11), .int (nI 0), .ref (q_12 12), .ref (q_12 13), .ref (q_12 14), .int 0, .ref (q_12 15), .ref (q_12 16), .ref (q_12 17), .int 0, .ref (q_12 18), .ref (q_12 19), .int 0])), (q_12 0, .inl (cy 0, 3000, .inl (fun _ => 0))), (q_12 1, .inl (cy 1, 3001, .inl (fun _ => 0))), (q_12 2, .inl (cy 1, 3001, .inl (fun _ => 0))), (q_12 3, .inl (cy 1, 6000, .inl (fun _ => 0))), (q_12 4, .inl (cy 1, 6000, .inl (fun _ => 0))), (q_12 5, .inl (cy 1, 6000, .inl (fun _ => 0))), (q_12 6, .inl (cy 1, 80, .inl (fun _ => 0))), (q_12 7, .inl (cy 1, 80, .inl (fun _ => 0))), (q_12 8, .inl (cy 1, 640, .inl (fun _ => 0))), (q_12 9, .inl (cy 1, 80, .inl (fun _ => 0))), (q_12 10, .inl (cy 4, 80, .inl (fun _ => 0))), (q_12 11, .inl (cy 1, 80, .inl (fun _ => 0))), (q_12 12, .inl (cy 1, 40, .inl (fun _ => 0))), (q_12 13, .inl (cy 4, 40, .inl (fun _ => 0))), (q_12 14, .inl (cy 1, 40, .inl (fun _ => 0))), (q_12 15, .inl (cy 2, 40960, .inr (.inl (fun _ => 0)))), (q_12 16, .inl (cy 2, 71680, .inr (.inl (fun _ => 0)))), (q_12 17, .inl (cy 2, 1024, .inr (.inl (fun _ => 0)))), (q_12 18, .inl (cy 4, 40, .inl (fun _ => 0))), (q_12 19, .inl (cy 0, 256, .inl (fun _ => 0)))] := hD
      replace hw : True := hw
      refine W.widen (k := 35) (n := 142324) (by omega) (by omega) ?_
      have hw406 := hw
      refine lv_aload_n hx hb dL_law_409 rfl (lv_at hl 1 rfl) ?_
      refine mt_callv (va_runV (As := []) (rest := []) ⟨hx, hb, hml, hown, hts⟩ (c_M_clear0 l D cy e a8 q_12 H.size ) (cwV 0 hts gL_law_X9_clear rfl rfl rfl (by decide +kernel) ⟨Nat.le_of_ble_eq_true rfl, Nat.le_of_ble_eq_true rfl⟩) (mt_preV hP hD hK hS hA hG [7] rfl (by decide) (q := (RX9, TX9, 32)) (ci := 10) (q0 := 7) rfl rfl) rfl rfl hl.1 rfl (lv_room (Nat.le_of_ble_eq_true rfl)) dL_law_410 ⟨(Nat.le_of_ble_eq_true rfl), (Nat.le_of_ble_eq_true rfl)⟩) hP hD hS hA [7] [0, 1, 2, 3, 4, 5, 6, 8, 9, 10, 11, 12, 13, 14, 15, 16, 17, 18, 19, 20, 21, 22, 23, 24, 25, 26, 27] rfl rfl (by decide) (by decide) (fun u H locs hw hP hD hS => ?_)
      have hP : va_P D vwCl [(rm_4, .inl (cy 0, 64, .inl (fun _ => 0))), (cn_4, .inl (cy 2, 16, .inr (.inl (fun _ => 0)))), (tb_4, .inr (6, [.ref ro_4, .ref xp_4, .null, .int 0])), (ro_4, .inr (0, [.int 0, .ref (e 0), .int (nI 0)])), (xp_4, .inr (2, [.ref cd_4, .int (nI 0), .ref st_4])), (cd_4, .inl (cy 0, 0, .inl (fun _ => 0))), (st_4, .inl (cy 2, 32, .inr (.inl (fun _ => 0)))), (q_12 0, .inl (cy 0, 3000, .inl (fun _ => 0))), (q_12 1, .inl (cy 1, 3001, .inl (fun _ => 0))), (q_12 2, .inl (cy 1, 3001, .inl (fun _ => 0))), (q_12 3, .inl (cy 1, 6000, .inl (fun _ => 0))), (q_12 4, .inl (cy 1, 6000, .inl (fun _ => 0))), (q_12 5, .inl (cy 1, 6000, .inl (fun _ => 0))), (q_12 6, .inl (cy 1, 80, .inl (fun _ => 0))), (q_12 7, .inl (cy 1, 80, .inl (fun _ => 0))), (q_12 8, .inl (cy 1, 640, .inl (fun _ => 0))), (q_12 9, .inl (cy 1, 80, .inl (fun _ => 0))), (q_12 10, .inl (cy 4, 80, .inl (fun _ => 0))), (q_12 11, .inl (cy 1, 80, .inl (fun _ => 0))), (q_12 12, .inl (cy 1, 40, .inl (fun _ => 0))), (q_12 13, .inl (cy 4, 40, .inl (fun _ => 0))), (q_12 14, .inl (cy 1, 40, .inl (fun _ => 0))), (q_12 15, .inl (cy 2, 40960, .inr (.inl (fun _ => 0)))), (q_12 16, .inl (cy 2, 71680, .inr (.inl (fun _ => 0)))), (q_12 17, .inl (cy 2, 1024, .inr (.inl (fun _ => 0)))), (q_12 18, .inl (cy 4, 40, .inl (fun _ => 0))), (q_12 19, .inl (cy 0, 256, .inl (fun _ => 0)))] H := hP
      have hD : va_D A [(rm_4, .inl (cy 0, 64, .inl (fun _ => 0))), (cn_4, .inl (cy 2, 16, .inr (.inl (fun _ => 0)))), (tb_4, .inr (6, [.ref ro_4, .ref xp_4, .null, .int 0])), (ro_4, .inr (0, [.int 0, .ref (e 0), .int (nI 0)])), (xp_4, .inr (2, [.ref cd_4, .int (nI 0), .ref st_4])), (cd_4, .inl (cy 0, 0, .inl (fun _ => 0))), (st_4, .inl (cy 2, 32, .inr (.inl (fun _ => 0)))), (q_12 0, .inl (cy 0, 3000, .inl (fun _ => 0))), (q_12 1, .inl (cy 1, 3001, .inl (fun _ => 0))), (q_12 2, .inl (cy 1, 3001, .inl (fun _ => 0))), (q_12 3, .inl (cy 1, 6000, .inl (fun _ => 0))), (q_12 4, .inl (cy 1, 6000, .inl (fun _ => 0))), (q_12 5, .inl (cy 1, 6000, .inl (fun _ => 0))), (q_12 6, .inl (cy 1, 80, .inl (fun _ => 0))), (q_12 7, .inl (cy 1, 80, .inl (fun _ => 0))), (q_12 8, .inl (cy 1, 640, .inl (fun _ => 0))), (q_12 9, .inl (cy 1, 80, .inl (fun _ => 0))), (q_12 10, .inl (cy 4, 80, .inl (fun _ => 0))), (q_12 11, .inl (cy 1, 80, .inl (fun _ => 0))), (q_12 12, .inl (cy 1, 40, .inl (fun _ => 0))), (q_12 13, .inl (cy 4, 40, .inl (fun _ => 0))), (q_12 14, .inl (cy 1, 40, .inl (fun _ => 0))), (q_12 15, .inl (cy 2, 40960, .inr (.inl (fun _ => 0)))), (q_12 16, .inl (cy 2, 71680, .inr (.inl (fun _ => 0)))), (q_12 17, .inl (cy 2, 1024, .inr (.inl (fun _ => 0)))), (q_12 18, .inl (cy 4, 40, .inl (fun _ => 0))), (q_12 19, .inl (cy 0, 256, .inl (fun _ => 0)))] := hD
      replace hw : True := hw
      refine W.widen (k := 35) (n := 142324) (by omega) (by omega) ?_
      have hw410 := hw
      refine lv_goto (tgt := 416) hx hb dL_law_413 (by decide) ?_
      refine lv_iinc (v := 0 + 5) (lv' := [(3, .int (0 + 5)), (2, .ref a8), (1, .ref a0), (0, .ref b)]) hx hb dL_law_416 hl (k := 0) rfl (rfl) (by decide) rfl (fun ls hl => ?_)
      refine lv_goto (tgt := 18) hx hb dL_law_419 (by decide) ?_
      refine lv_iload_n hx hb dL_law_18 rfl (lv_at hl 0 rfl) ?_
      refine lv_aload_n hx hb dL_law_19 rfl (lv_at hl 3 rfl) ?_
      refine va_slen hx hb hX hbl hbA hS dL_law_20 ?_
      refine lv_iconst (v := 5) hx hb dL_law_21 (by decide +kernel) ?_
      refine lv_isub hx hb dL_law_22 ?_
      refine lv_icmp_gt (tgt := 422) hx hb dL_law_23 (by decide) (fun _ => ?_) (fun c23 => absurd (by decide +kernel) c23)
      refine lv_iconst (v := 1) hx hb dL_law_422 (by decide +kernel) ?_
      refine va_forget (fun q hq => by have := hS.2.2 q hq; rw [hAe] at this; exact this) ?_
      refine W.widen (k := 600000) (n := 7302250) (by omega) (by omega) ?_
      exact lw_ret hx hb hr hlocks dL_law_423
    · refine lv_tableOut (tgt := 416) hx hb dL_law_32 (by decide +kernel) (by decide) ?_
      refine lv_iinc (v := 0 + 5) (lv' := [(3, .int (0 + 5)), (2, .ref a8), (1, .ref a0), (0, .ref b)]) hx hb dL_law_416 hl (k := 0) rfl (rfl) (by decide) rfl (fun ls hl => ?_)
      refine lv_goto (tgt := 18) hx hb dL_law_419 (by decide) ?_
      refine lv_iload_n hx hb dL_law_18 rfl (lv_at hl 0 rfl) ?_
      refine lv_aload_n hx hb dL_law_19 rfl (lv_at hl 3 rfl) ?_
      refine va_slen hx hb hX hbl hbA hS dL_law_20 ?_
      refine lv_iconst (v := 5) hx hb dL_law_21 (by decide +kernel) ?_
      refine lv_isub hx hb dL_law_22 ?_
      refine lv_icmp_gt (tgt := 422) hx hb dL_law_23 (by decide) (fun _ => ?_) (fun c23 => absurd (by decide +kernel) c23)
      refine lv_iconst (v := 1) hx hb dL_law_422 (by decide +kernel) ?_
      refine va_forget (fun q hq => by have := hS.2.2 q hq; rw [hAe] at this; exact this) ?_
      refine W.widen (k := 600000) (n := 7302250) (by omega) (by omega) ?_
      exact lw_ret hx hb hr hlocks dL_law_423
    · refine lv_tableOut (tgt := 416) hx hb dL_law_32 (by decide +kernel) (by decide) ?_
      refine lv_iinc (v := 0 + 5) (lv' := [(3, .int (0 + 5)), (2, .ref a8), (1, .ref a0), (0, .ref b)]) hx hb dL_law_416 hl (k := 0) rfl (rfl) (by decide) rfl (fun ls hl => ?_)
      refine lv_goto (tgt := 18) hx hb dL_law_419 (by decide) ?_
      refine lv_iload_n hx hb dL_law_18 rfl (lv_at hl 0 rfl) ?_
      refine lv_aload_n hx hb dL_law_19 rfl (lv_at hl 3 rfl) ?_
      refine va_slen hx hb hX hbl hbA hS dL_law_20 ?_
      refine lv_iconst (v := 5) hx hb dL_law_21 (by decide +kernel) ?_
      refine lv_isub hx hb dL_law_22 ?_
      refine lv_icmp_gt (tgt := 422) hx hb dL_law_23 (by decide) (fun _ => ?_) (fun c23 => absurd (by decide +kernel) c23)
      refine lv_iconst (v := 1) hx hb dL_law_422 (by decide +kernel) ?_
      refine va_forget (fun q hq => by have := hS.2.2 q hq; rw [hAe] at this; exact this) ?_
      refine W.widen (k := 600000) (n := 7302250) (by omega) (by omega) ?_
      exact lw_ret hx hb hr hlocks dL_law_423
    · refine lv_tableOut (tgt := 416) hx hb dL_law_32 (by decide +kernel) (by decide) ?_
      refine lv_iinc (v := 0 + 5) (lv' := [(3, .int (0 + 5)), (2, .ref a8), (1, .ref a0), (0, .ref b)]) hx hb dL_law_416 hl (k := 0) rfl (rfl) (by decide) rfl (fun ls hl => ?_)
      refine lv_goto (tgt := 18) hx hb dL_law_419 (by decide) ?_
      refine lv_iload_n hx hb dL_law_18 rfl (lv_at hl 0 rfl) ?_
      refine lv_aload_n hx hb dL_law_19 rfl (lv_at hl 3 rfl) ?_
      refine va_slen hx hb hX hbl hbA hS dL_law_20 ?_
      refine lv_iconst (v := 5) hx hb dL_law_21 (by decide +kernel) ?_
      refine lv_isub hx hb dL_law_22 ?_
      refine lv_icmp_gt (tgt := 422) hx hb dL_law_23 (by decide) (fun _ => ?_) (fun c23 => absurd (by decide +kernel) c23)
      refine lv_iconst (v := 1) hx hb dL_law_422 (by decide +kernel) ?_
      refine va_forget (fun q hq => by have := hS.2.2 q hq; rw [hAe] at this; exact this) ?_
      refine W.widen (k := 600000) (n := 7302250) (by omega) (by omega) ?_
      exact lw_ret hx hb hr hlocks dL_law_423
    · refine lv_tableOut (tgt := 416) hx hb dL_law_32 (by decide +kernel) (by decide) ?_
      refine lv_iinc (v := 0 + 5) (lv' := [(3, .int (0 + 5)), (2, .ref a8), (1, .ref a0), (0, .ref b)]) hx hb dL_law_416 hl (k := 0) rfl (rfl) (by decide) rfl (fun ls hl => ?_)
      refine lv_goto (tgt := 18) hx hb dL_law_419 (by decide) ?_
      refine lv_iload_n hx hb dL_law_18 rfl (lv_at hl 0 rfl) ?_
      refine lv_aload_n hx hb dL_law_19 rfl (lv_at hl 3 rfl) ?_
      refine va_slen hx hb hX hbl hbA hS dL_law_20 ?_
      refine lv_iconst (v := 5) hx hb dL_law_21 (by decide +kernel) ?_
      refine lv_isub hx hb dL_law_22 ?_
      refine lv_icmp_gt (tgt := 422) hx hb dL_law_23 (by decide) (fun _ => ?_) (fun c23 => absurd (by decide +kernel) c23)
      refine lv_iconst (v := 1) hx hb dL_law_422 (by decide +kernel) ?_
      refine va_forget (fun q hq => by have := hS.2.2 q hq; rw [hAe] at this; exact this) ?_
      refine W.widen (k := 600000) (n := 7302250) (by omega) (by omega) ?_
      exact lw_ret hx hb hr hlocks dL_law_423
