set_option maxHeartbeats 4000000 in
set_option maxRecDepth 100000 in
/-- act -/
theorem c_M_act_ (l : Launch) (D : va_G) (cy : Nat → ClassId) (e : Nat → Nat)  (h0 : Nat) (q : Nat → Nat) (wa : Nat) (i_size : Int32) (i_words : Int32) (i_next : Int32) (i_open : Int32) (i_stood : Int32) (i_nodes : Int32) (i_made : Int32) (i_tested : Int32) (i_length : Int32) (x : Int32) (h : Nat) (rw : Nat) (W0 : Nat → Int32) (F0_ : Nat → Int32) (S0 : Nat → Int32) (tp0 : Nat → Int32) (cn0 : Nat → Int32) (ac0 : Nat → Int32) (nu0 : Nat → Int32) (la0 : Nat → Int32) (ct0 : Nat → Int32) (lt0 : Nat → Int32) (ps0 : Nat → Int32) (i : Int32) (hh : h ≤ 1) (hrw : rw ≤ 40) (hrs : rws tp0 cn0 ac0 nu0 W0 F0_ S0 h rw) : Met l yX9_act_ wsX9_act_ ({ frames := 514, cells := 0, slots := 0, locals := 11021 }) (va_Pc [.ref h0, .int i] (pu_B D cy e [(h0, .inr (10, [.ref (q 0), .int i_size, .ref (q 1), .ref (q 2), .int i_words, .int i_next, .int i_open, .int i_stood, .ref (q 3), .ref (q 4), .ref (q 5), .int i_nodes, .int (nI h), .int i_made, .ref (q 6), .ref (q 7), .ref (q 8), .ref (q 9), .ref (q 10), .ref (q 11), .int (nI rw), .ref (q 12), .ref (q 13), .ref (q 14), .int x, .ref (q 15), .ref (q 16), .ref (q 17), .int i_tested, .ref (q 18), .ref wa, .int i_length])), (q 3, .inl (cy 1, 6000, .inl W0)), (q 4, .inl (cy 1, 6000, .inl F0_)), (q 5, .inl (cy 1, 6000, .inl S0)), (q 6, .inl (cy 1, 80, .inl tp0)), (q 7, .inl (cy 1, 80, .inl cn0)), (q 8, .inl (cy 1, 640, .inl ac0)), (q 9, .inl (cy 1, 80, .inl nu0)), (q 12, .inl (cy 1, 40, .inl ct0)), (q 13, .inl (cy 4, 40, .inl lt0)), (q 14, .inl (cy 1, 40, .inl ps0))])) (va_Qi (fun (r : Int32) (_ : Unit) => (((i < 0 ∨ 31 < i) ∧ r = -1) ∨ (¬ (i < 0 ∨ 31 < i) ∧ fp_first rw (fun j => (ps0 j = 0 ∧ (¬ lt0 j = 0 ∨ (¬ ron W0 F0_ S0 tp0 x h j = 0 ∧ ¬ ct0 j < nu0 (40 * h + j)))) ∧ ra_has cn0 ac0 (40 * h + j) i) r))) (fun _ _ => True) (fun _ => False)) 0 0 (fun _ => False) := by
  refine Met.ofW (cc := cX9_act_) (maxL := 4) (ret := (some .int)) (by decide) rfl ?_
  intro p ev s m args below meth c s₁ B hml hv
  obtain ⟨rfl, hP, hK, hG⟩ := hv
  have hx := B.exec
  have hb := B.bytes
  have hr := B.returns
  have hts := atoms_spec (ws := wsX9_act_) B.pre
  have hown : s.vm.findClass RX9 = some m.cls := findClass_of_methodNamed B.named
  have hlocks := B.notSynchronized
  have hS : va_S (fun _ => False) s.heap s.heap [] := va_S.rf
  have hP : va_P D vwCl [(h0, .inr (10, [.ref (q 0), .int i_size, .ref (q 1), .ref (q 2), .int i_words, .int i_next, .int i_open, .int i_stood, .ref (q 3), .ref (q 4), .ref (q 5), .int i_nodes, .int (nI h), .int i_made, .ref (q 6), .ref (q 7), .ref (q 8), .ref (q 9), .ref (q 10), .ref (q 11), .int (nI rw), .ref (q 12), .ref (q 13), .ref (q 14), .int x, .ref (q 15), .ref (q 16), .ref (q 17), .int i_tested, .ref (q 18), .ref wa, .int i_length])), (q 3, .inl (cy 1, 6000, .inl W0)), (q 4, .inl (cy 1, 6000, .inl F0_)), (q 5, .inl (cy 1, 6000, .inl S0)), (q 6, .inl (cy 1, 80, .inl tp0)), (q 7, .inl (cy 1, 80, .inl cn0)), (q 8, .inl (cy 1, 640, .inl ac0)), (q 9, .inl (cy 1, 80, .inl nu0)), (q 12, .inl (cy 1, 40, .inl ct0)), (q 13, .inl (cy 4, 40, .inl lt0)), (q 14, .inl (cy 1, 40, .inl ps0))] s.heap := hP
  have iX9 : ∀ w ∈ wsX90, w ∈ wsX9_act_ := fun w h => List.mem_cons_of_mem _ (List.mem_append_right _ h)
  have hl := lv_entry ([.ref h0, .int i]) (n := 4) (Nat.le_of_ble_eq_true rfl)
  rw [lg_entry_eq]
  generalize (lg_sl ([.ref h0, .int i]) ++ List.replicate (4 - (lg_sl ([.ref h0, .int i])).length) Slot.unset).toArray = ls at hl ⊢
  have hl : lv_has ls 4 [(0, .ref h0), (1, .int i)] := hl
  refine lv_iload_n hx hb dX9_act__0 rfl (lv_at hl 1 rfl) ?_
  refine lv_if_lt (tgt := 10) hx hb dX9_act__1 (by decide) (fun c1 => ?_) (fun c1 => ?_)
  · refine lv_iconst (v := -1) hx hb dX9_act__10 (by decide +kernel) ?_
    exact W.iret hx hb hr (fun t ht hW => ⟨⟨_, (), rfl, Or.inl ⟨Or.inl c1, rfl⟩, trivial⟩, hS.F ht⟩) hS.2.2 dX9_act__11
  · refine lv_iload_n hx hb dX9_act__4 rfl (lv_at hl 1 rfl) ?_
    refine lv_bipush (v := 31) hx hb dX9_act__5 (by decide +kernel) ?_
    refine lv_icmp_le (tgt := 12) hx hb dX9_act__7 (by decide) (fun c7 => ?_) (fun c7 => ?_)
    · refine lv_iconst (v := 0) hx hb dX9_act__12 (by decide +kernel) ?_
      refine lv_topi (fun x_1 ex_1 => ?_)
      obtain rfl : x_1 = nI 0 := by rw [ex_1]; exact nI_0.symm
      refine lv_istore_n (lv' := [(2, .int (nI 0)), (0, .ref h0), (1, .int i)]) hx hb dX9_act__13 rfl hl (by decide) rfl (fun ls hl => ?_)
      refine lp_W (σ := Nat) (Wf := fun H locs ls => W p l ev _ s m _ below meth c H locs (0) (0) _ (F0 m 14 ls [])) (fun k H locs ls => va_P D vwCl [(h0, .inr (10, [.ref (q 0), .int i_size, .ref (q 1), .ref (q 2), .int i_words, .int i_next, .int i_open, .int i_stood, .ref (q 3), .ref (q 4), .ref (q 5), .int i_nodes, .int (nI h), .int i_made, .ref (q 6), .ref (q 7), .ref (q 8), .ref (q 9), .ref (q 10), .ref (q 11), .int (nI rw), .ref (q 12), .ref (q 13), .ref (q 14), .int x, .ref (q 15), .ref (q 16), .ref (q 17), .int i_tested, .ref (q 18), .ref wa, .int i_length])), (q 3, .inl (cy 1, 6000, .inl W0)), (q 4, .inl (cy 1, 6000, .inl F0_)), (q 5, .inl (cy 1, 6000, .inl S0)), (q 6, .inl (cy 1, 80, .inl tp0)), (q 7, .inl (cy 1, 80, .inl cn0)), (q 8, .inl (cy 1, 640, .inl ac0)), (q 9, .inl (cy 1, 80, .inl nu0)), (q 12, .inl (cy 1, 40, .inl ct0)), (q 13, .inl (cy 4, 40, .inl lt0)), (q 14, .inl (cy 1, 40, .inl ps0))] H ∧ va_S (fun _ => False) s.heap H locs ∧ lv_has ls 4 [(2, .int (nI k)), (0, .ref h0), (1, .int i)] ∧ (k ≤ rw ∧ ∀ j, j < k → ¬ ((ps0 j = 0 ∧ (¬ lt0 j = 0 ∨ (¬ ron W0 F0_ S0 tp0 x h j = 0 ∧ ¬ ct0 j < nu0 (40 * h + j)))) ∧ ra_has cn0 ac0 (40 * h + j) i))) (fun k => rw - k) ?_ 0 _ _ ls ⟨hP, hS, lv_sub hl [0, 1, 2] rfl, ⟨Nat.zero_le _, fun j hj => absurd hj (Nat.not_lt_zero _)⟩⟩
      intro zz9 H locs ls hI ih
      obtain ⟨k, rfl⟩ : ∃ z, z = zz9 := ⟨_, rfl⟩
      obtain ⟨hP, hS, hl, hI⟩ := hI
      have ih14 := ih
      have hI14 := hI
      have hP : va_P D vwCl [(h0, .inr (10, [.ref (q 0), .int i_size, .ref (q 1), .ref (q 2), .int i_words, .int i_next, .int i_open, .int i_stood, .ref (q 3), .ref (q 4), .ref (q 5), .int i_nodes, .int (nI h), .int i_made, .ref (q 6), .ref (q 7), .ref (q 8), .ref (q 9), .ref (q 10), .ref (q 11), .int (nI rw), .ref (q 12), .ref (q 13), .ref (q 14), .int x, .ref (q 15), .ref (q 16), .ref (q 17), .int i_tested, .ref (q 18), .ref wa, .int i_length])), (q 3, .inl (cy 1, 6000, .inl W0)), (q 4, .inl (cy 1, 6000, .inl F0_)), (q 5, .inl (cy 1, 6000, .inl S0)), (q 6, .inl (cy 1, 80, .inl tp0)), (q 7, .inl (cy 1, 80, .inl cn0)), (q 8, .inl (cy 1, 640, .inl ac0)), (q 9, .inl (cy 1, 80, .inl nu0)), (q 12, .inl (cy 1, 40, .inl ct0)), (q 13, .inl (cy 4, 40, .inl lt0)), (q 14, .inl (cy 1, 40, .inl ps0))] H := hP
      have hl : lv_has ls 4 [(2, .int (nI k)), (0, .ref h0), (1, .int i)] := hl
      obtain ⟨hI1, hF⟩ := hI
      refine lv_iload_n hx hb dX9_act__14 rfl (lv_at hl 0 rfl) ?_
      refine lv_aload_n hx hb dX9_act__15 rfl (lv_at hl 1 rfl) ?_
      refine va_get (D := D) (ci := 10) (v := .int (nI rw)) (C := RX9) (T := TX9) (N := 32) hx hb hts iX9 hown hK hP 0 rfl rfl 20 (by decide) (hts (.fieldLink RX9 149 "InterlockTablesModel" "rows" "I") (by decide +kernel)) (fun _ h9 => h9) rfl dX9_act__16 ?_
      refine lv_icmp_ge (tgt := 100) hx hb dX9_act__19 (by decide) (fun c19 => ?_) (fun c19 => ?_)
      · have hge : rw ≤ k := (nI_leI (by omega) (by omega)).mp c19
        refine lv_iconst (v := 0) hx hb dX9_act__100 (by decide +kernel) ?_
        exact W.iret hx hb hr (fun t ht hW => ⟨⟨_, (), rfl, Or.inr ⟨not_or.mpr ⟨c1, Int32.not_lt.mpr c7⟩, Or.inl ⟨rfl, fun j hj => hF j (by omega)⟩⟩, trivial⟩, hS.F ht⟩) hS.2.2 dX9_act__101
      · have hk : k < rw := pk_nle (by omega) c19
        obtain ⟨n_, lo_, a_, hn_, htp_, ht_, hcn_, ha1_, ha8_⟩ := rws_row hrs hk hh
        refine lv_aload_n hx hb dX9_act__22 rfl (lv_at hl 1 rfl) ?_
        refine va_get (D := D) (ci := 10) (v := .ref (q 14)) (C := RX9) (T := TX9) (N := 32) hx hb hts iX9 hown hK hP 0 rfl rfl 23 (by decide) (hts (.fieldLink RX9 54 "InterlockTablesModel" "passes" "[I") (by decide +kernel)) (fun _ h9 => h9) rfl dX9_act__23 ?_
        refine lv_iload_n hx hb dX9_act__26 rfl (lv_at hl 0 rfl) ?_
        refine va_iald hx hb hK hP 10 1 rfl rfl (vp_in_nI (by omega) (by omega)) dX9_act__27 ?_
        refine lv_topi (fun x_2 ex_2 => ?_)
        obtain rfl : x_2 = ps0 k := by rw [ex_2]; rw [nI_clamp (by omega)]
        refine lv_if_ne (tgt := 75) hx hb dX9_act__28 (by decide) (fun c28 => ?_) (fun c28 => ?_)
        · refine lv_iconst (v := 0) hx hb dX9_act__75 (by decide +kernel) ?_
          refine lv_istore_n (lv' := [(3, .int 0), (2, .int (nI k)), (0, .ref h0), (1, .int i)]) hx hb dX9_act__76 rfl hl (by decide) rfl (fun ls hl => ?_)
          refine lv_iload_n hx hb dX9_act__77 rfl (lv_at hl 0 rfl) ?_
          refine lv_if_eq (tgt := 94) hx hb dX9_act__78 (by decide) (fun _ => ?_) (fun c78 => absurd rfl c78)
          refine lv_iinc (v := nI (k + 1)) (lv' := [(2, .int (nI (k + 1))), (3, .int 0), (0, .ref h0), (1, .int i)]) hx hb dX9_act__94 hl (k := 1) rfl (nI_1 k) (by decide) rfl (fun ls hl => ?_)
          refine lv_goto (tgt := 14) hx hb dX9_act__97 (by decide) ?_
          exact ih14 (k + 1) _ _ ls ⟨hP.sub [0, 1, 2, 3, 4, 5, 6, 7, 8, 9, 10] rfl, hS, lv_sub hl [0, 2, 3] rfl, ⟨by omega, fp_nx hF (fun q9 => c28 q9.1.1)⟩⟩ (by (try dsimp only); omega)
        · refine lv_aload_n hx hb dX9_act__31 rfl (lv_at hl 1 rfl) ?_
          refine va_get (D := D) (ci := 10) (v := .ref (q 13)) (C := RX9) (T := TX9) (N := 32) hx hb hts iX9 hown hK hP 0 rfl rfl 22 (by decide) (hts (.fieldLink RX9 51 "InterlockTablesModel" "latched" "[Z") (by decide +kernel)) (fun _ h9 => h9) rfl dX9_act__32 ?_
          refine lv_iload_n hx hb dX9_act__35 rfl (lv_at hl 0 rfl) ?_
          refine va_zald hx hb hK hP 9 4 rfl rfl (vp_in_nI (by omega) (by omega)) dX9_act__36 ?_
          refine lv_topi (fun x_3 ex_3 => ?_)
          obtain rfl : x_3 = lt0 k := by rw [ex_3]; rw [nI_clamp (by omega)]
          refine lv_if_ne (tgt := 71) hx hb dX9_act__37 (by decide) (fun c37 => ?_) (fun c37 => ?_)
          · refine lv_iconst (v := 1) hx hb dX9_act__71 (by decide +kernel) ?_
            refine lv_goto (tgt := 76) hx hb dX9_act__72 (by decide) ?_
            refine lv_istore_n (lv' := [(3, .int 1), (2, .int (nI k)), (0, .ref h0), (1, .int i)]) hx hb dX9_act__76 rfl hl (by decide) rfl (fun ls hl => ?_)
            refine lv_iload_n hx hb dX9_act__77 rfl (lv_at hl 0 rfl) ?_
            refine lv_if_eq (tgt := 94) hx hb dX9_act__78 (by decide) (fun c78 => absurd c78 (by decide)) (fun _ => ?_)
            refine lv_aload_n hx hb dX9_act__81 rfl (lv_at hl 2 rfl) ?_
            refine lv_iload_n hx hb dX9_act__82 rfl (lv_at hl 1 rfl) ?_
            refine lv_iload_n hx hb dX9_act__83 rfl (lv_at hl 3 rfl) ?_
            refine pu_callni (va_runV (As := [.int (nI k), .int i]) (rest := []) ⟨hx, hb, hml, hown, hts⟩ (c_M_hasAct l D cy e h0 q wa i_size i_words i_next i_open i_stood i_nodes i_made (nI rw) x i_tested i_length h cn0 ac0 k a_ i hh (by omega) hcn_ ha8_) (cwV 2 hts gX9_act__X9_hasAct rfl rfl rfl (by decide +kernel) ⟨Nat.le_of_ble_eq_true rfl, Nat.le_of_ble_eq_true rfl⟩) (pu_preV hP hK hS hG [0, 5, 6] rfl (q := (RX9, TX9, 32)) (ci := 10) (q0 := 0) rfl rfl) rfl rfl hl.1 rfl (lv_room (Nat.le_of_ble_eq_true rfl)) dX9_act__84 ⟨(Nat.le_of_ble_eq_true rfl), (Nat.le_of_ble_eq_true rfl)⟩) hP hS (fun r84 H locs hw hP hS => ?_)
            have hP : va_P D vwCl [(h0, .inr (10, [.ref (q 0), .int i_size, .ref (q 1), .ref (q 2), .int i_words, .int i_next, .int i_open, .int i_stood, .ref (q 3), .ref (q 4), .ref (q 5), .int i_nodes, .int (nI h), .int i_made, .ref (q 6), .ref (q 7), .ref (q 8), .ref (q 9), .ref (q 10), .ref (q 11), .int (nI rw), .ref (q 12), .ref (q 13), .ref (q 14), .int x, .ref (q 15), .ref (q 16), .ref (q 17), .int i_tested, .ref (q 18), .ref wa, .int i_length])), (q 3, .inl (cy 1, 6000, .inl W0)), (q 4, .inl (cy 1, 6000, .inl F0_)), (q 5, .inl (cy 1, 6000, .inl S0)), (q 6, .inl (cy 1, 80, .inl tp0)), (q 7, .inl (cy 1, 80, .inl cn0)), (q 8, .inl (cy 1, 640, .inl ac0)), (q 9, .inl (cy 1, 80, .inl nu0)), (q 12, .inl (cy 1, 40, .inl ct0)), (q 13, .inl (cy 4, 40, .inl lt0)), (q 14, .inl (cy 1, 40, .inl ps0))] H := hP
            replace hw : (r84 = 1 ∧ ra_has cn0 ac0 (40 * h + k) i) ∨ (r84 = 0 ∧ ¬ ra_has cn0 ac0 (40 * h + k) i) := hw
            have hw84 := hw
            refine lv_if_eq (tgt := 94) hx hb dX9_act__87 (by decide) (fun c87 => ?_) (fun c87 => ?_)
            · refine lv_iinc (v := nI (k + 1)) (lv' := [(2, .int (nI (k + 1))), (3, .int 1), (0, .ref h0), (1, .int i)]) hx hb dX9_act__94 hl (k := 1) rfl (nI_1 k) (by decide) rfl (fun ls hl => ?_)
              refine lv_goto (tgt := 14) hx hb dX9_act__97 (by decide) ?_
              exact ih14 (k + 1) _ _ ls ⟨hP.sub [0, 1, 2, 3, 4, 5, 6, 7, 8, 9, 10] rfl, hS, lv_sub hl [0, 2, 3] rfl, ⟨by omega, fp_nx hF (fun q9 => (fq_t0 hw84 c87) q9.2)⟩⟩ (by (try dsimp only); omega)
            · refine lv_iload_n hx hb dX9_act__90 rfl (lv_at hl 1 rfl) ?_
              refine lv_iconst (v := 1) hx hb dX9_act__91 (by decide +kernel) ?_
              refine lv_iadd hx hb dX9_act__92 ?_
              refine lv_topi (fun x_4 ex_4 => ?_)
              obtain rfl : x_4 = nI (k + 1) := by rw [ex_4]; exact nI_1 k
              exact W.iret hx hb hr (fun t ht hW => ⟨⟨_, (), rfl, Or.inr ⟨not_or.mpr ⟨c1, Int32.not_lt.mpr c7⟩, Or.inr ⟨k, hk, rfl, ⟨⟨c28, Or.inl c37⟩, fq_t1 hw84 c87⟩, hF⟩⟩, trivial⟩, hS.F ht⟩) hS.2.2 dX9_act__93
          · refine lv_aload_n hx hb dX9_act__40 rfl (lv_at hl 1 rfl) ?_
            refine lv_iload_n hx hb dX9_act__41 rfl (lv_at hl 0 rfl) ?_
            refine pu_calli (va_runV (As := [.int (nI k)]) (rest := []) ⟨hx, hb, hml, hown, hts⟩ (c_M_isOn l D cy e h0 q wa i_size i_words i_next i_open i_stood i_nodes i_made (nI rw) i_tested i_length x h W0 F0_ S0 tp0 42 lo_ n_ k hh (by omega) hn_ htp_ ht_) (cwV 1 hts gX9_act__X9_isOn rfl rfl rfl (by decide +kernel) ⟨Nat.le_of_ble_eq_true rfl, Nat.le_of_ble_eq_true rfl⟩) (pu_preV hP hK hS hG [0, 1, 2, 3, 4] rfl (q := (RX9, TX9, 32)) (ci := 10) (q0 := 0) rfl rfl) rfl rfl hl.1 rfl (lv_room (Nat.le_of_ble_eq_true rfl)) dX9_act__42 ⟨(Nat.le_of_ble_eq_true rfl), (Nat.le_of_ble_eq_true rfl)⟩) hP hS (fun H locs hP hS => ?_)
            have hP : va_P D vwCl [(h0, .inr (10, [.ref (q 0), .int i_size, .ref (q 1), .ref (q 2), .int i_words, .int i_next, .int i_open, .int i_stood, .ref (q 3), .ref (q 4), .ref (q 5), .int i_nodes, .int (nI h), .int i_made, .ref (q 6), .ref (q 7), .ref (q 8), .ref (q 9), .ref (q 10), .ref (q 11), .int (nI rw), .ref (q 12), .ref (q 13), .ref (q 14), .int x, .ref (q 15), .ref (q 16), .ref (q 17), .int i_tested, .ref (q 18), .ref wa, .int i_length])), (q 3, .inl (cy 1, 6000, .inl W0)), (q 4, .inl (cy 1, 6000, .inl F0_)), (q 5, .inl (cy 1, 6000, .inl S0)), (q 6, .inl (cy 1, 80, .inl tp0)), (q 7, .inl (cy 1, 80, .inl cn0)), (q 8, .inl (cy 1, 640, .inl ac0)), (q 9, .inl (cy 1, 80, .inl nu0)), (q 12, .inl (cy 1, 40, .inl ct0)), (q 13, .inl (cy 4, 40, .inl lt0)), (q 14, .inl (cy 1, 40, .inl ps0))] H := hP
            refine lv_topi (fun x_5 ex_5 => ?_)
            obtain rfl : x_5 = ron W0 F0_ S0 tp0 x h k := by rw [ex_5]; exact ron_eq htp_ hn_
            refine lv_if_eq (tgt := 75) hx hb dX9_act__45 (by decide) (fun c45 => ?_) (fun c45 => ?_)
            · refine lv_iconst (v := 0) hx hb dX9_act__75 (by decide +kernel) ?_
              refine lv_istore_n (lv' := [(3, .int 0), (2, .int (nI k)), (0, .ref h0), (1, .int i)]) hx hb dX9_act__76 rfl hl (by decide) rfl (fun ls hl => ?_)
              refine lv_iload_n hx hb dX9_act__77 rfl (lv_at hl 0 rfl) ?_
              refine lv_if_eq (tgt := 94) hx hb dX9_act__78 (by decide) (fun _ => ?_) (fun c78 => absurd rfl c78)
              refine lv_iinc (v := nI (k + 1)) (lv' := [(2, .int (nI (k + 1))), (3, .int 0), (0, .ref h0), (1, .int i)]) hx hb dX9_act__94 hl (k := 1) rfl (nI_1 k) (by decide) rfl (fun ls hl => ?_)
              refine lv_goto (tgt := 14) hx hb dX9_act__97 (by decide) ?_
              exact ih14 (k + 1) _ _ ls ⟨hP.sub [0, 1, 2, 3, 4, 5, 6, 7, 8, 9, 10] rfl, hS, lv_sub hl [0, 2, 3] rfl, ⟨by omega, fp_nx hF (fun q9 => q9.1.2.elim (fun q8 => q8 c37) (fun q8 => q8.1 c45))⟩⟩ (by (try dsimp only); omega)
            · refine lv_aload_n hx hb dX9_act__48 rfl (lv_at hl 1 rfl) ?_
              refine va_get (D := D) (ci := 10) (v := .ref (q 12)) (C := RX9) (T := TX9) (N := 32) hx hb hts iX9 hown hK hP 0 rfl rfl 21 (by decide) (hts (.fieldLink RX9 48 "InterlockTablesModel" "counts" "[I") (by decide +kernel)) (fun _ h9 => h9) rfl dX9_act__49 ?_
              refine lv_iload_n hx hb dX9_act__52 rfl (lv_at hl 0 rfl) ?_
              refine va_iald hx hb hK hP 8 1 rfl rfl (vp_in_nI (by omega) (by omega)) dX9_act__53 ?_
              refine lv_topi (fun x_6 ex_6 => ?_)
              obtain rfl : x_6 = ct0 k := by rw [ex_6]; rw [nI_clamp (by omega)]
              refine lv_aload_n hx hb dX9_act__54 rfl (lv_at hl 1 rfl) ?_
              refine va_get (D := D) (ci := 10) (v := .ref (q 9)) (C := RX9) (T := TX9) (N := 32) hx hb hts iX9 hown hK hP 0 rfl rfl 17 (by decide) (hts (.fieldLink RX9 38 "InterlockTablesModel" "numbers" "[I") (by decide +kernel)) (fun _ h9 => h9) rfl dX9_act__55 ?_
              refine lv_bipush (v := 40) hx hb dX9_act__58 (by decide +kernel) ?_
              refine lv_aload_n hx hb dX9_act__60 rfl (lv_at hl 1 rfl) ?_
              refine va_get (D := D) (ci := 10) (v := .int (nI h)) (C := RX9) (T := TX9) (N := 32) hx hb hts iX9 hown hK hP 0 rfl rfl 12 (by decide) (hts (.fieldLink RX9 101 "InterlockTablesModel" "half" "I") (by decide +kernel)) (fun _ h9 => h9) rfl dX9_act__61 ?_
              refine lv_imul hx hb dX9_act__64 ?_
              refine lv_topi (fun x_7 ex_7 => ?_)
              obtain rfl : x_7 = nI (40 * h) := by rw [ex_7]; exact pk_mul 40 h
              refine lv_iload_n hx hb dX9_act__65 rfl (lv_at hl 0 rfl) ?_
              refine lv_iadd hx hb dX9_act__66 ?_
              refine lv_topi (fun x_8 ex_8 => ?_)
              obtain rfl : x_8 = nI (40 * h + k) := by rw [ex_8]; exact nI_add _ _
              refine va_iald hx hb hK hP 7 1 rfl rfl (vp_in_nI (by omega) (by omega)) dX9_act__67 ?_
              refine lv_topi (fun x_9 ex_9 => ?_)
              obtain rfl : x_9 = nu0 (40 * h + k) := by rw [ex_9]; rw [nI_clamp (by omega)]
              refine lv_icmp_lt (tgt := 75) hx hb dX9_act__68 (by decide) (fun c68 => ?_) (fun c68 => ?_)
              · refine lv_iconst (v := 0) hx hb dX9_act__75 (by decide +kernel) ?_
                refine lv_istore_n (lv' := [(3, .int 0), (2, .int (nI k)), (0, .ref h0), (1, .int i)]) hx hb dX9_act__76 rfl hl (by decide) rfl (fun ls hl => ?_)
                refine lv_iload_n hx hb dX9_act__77 rfl (lv_at hl 0 rfl) ?_
                refine lv_if_eq (tgt := 94) hx hb dX9_act__78 (by decide) (fun _ => ?_) (fun c78 => absurd rfl c78)
                refine lv_iinc (v := nI (k + 1)) (lv' := [(2, .int (nI (k + 1))), (3, .int 0), (0, .ref h0), (1, .int i)]) hx hb dX9_act__94 hl (k := 1) rfl (nI_1 k) (by decide) rfl (fun ls hl => ?_)
                refine lv_goto (tgt := 14) hx hb dX9_act__97 (by decide) ?_
                exact ih14 (k + 1) _ _ ls ⟨hP.sub [0, 1, 2, 3, 4, 5, 6, 7, 8, 9, 10] rfl, hS, lv_sub hl [0, 2, 3] rfl, ⟨by omega, fp_nx hF (fun q9 => q9.1.2.elim (fun q8 => q8 c37) (fun q8 => q8.2 c68))⟩⟩ (by (try dsimp only); omega)
              · refine lv_iconst (v := 1) hx hb dX9_act__71 (by decide +kernel) ?_
                refine lv_goto (tgt := 76) hx hb dX9_act__72 (by decide) ?_
                refine lv_istore_n (lv' := [(3, .int 1), (2, .int (nI k)), (0, .ref h0), (1, .int i)]) hx hb dX9_act__76 rfl hl (by decide) rfl (fun ls hl => ?_)
                refine lv_iload_n hx hb dX9_act__77 rfl (lv_at hl 0 rfl) ?_
                refine lv_if_eq (tgt := 94) hx hb dX9_act__78 (by decide) (fun c78 => absurd c78 (by decide)) (fun _ => ?_)
                refine lv_aload_n hx hb dX9_act__81 rfl (lv_at hl 2 rfl) ?_
                refine lv_iload_n hx hb dX9_act__82 rfl (lv_at hl 1 rfl) ?_
                refine lv_iload_n hx hb dX9_act__83 rfl (lv_at hl 3 rfl) ?_
                refine pu_callni (va_runV (As := [.int (nI k), .int i]) (rest := []) ⟨hx, hb, hml, hown, hts⟩ (c_M_hasAct l D cy e h0 q wa i_size i_words i_next i_open i_stood i_nodes i_made (nI rw) x i_tested i_length h cn0 ac0 k a_ i hh (by omega) hcn_ ha8_) (cwV 2 hts gX9_act__X9_hasAct rfl rfl rfl (by decide +kernel) ⟨Nat.le_of_ble_eq_true rfl, Nat.le_of_ble_eq_true rfl⟩) (pu_preV hP hK hS hG [0, 5, 6] rfl (q := (RX9, TX9, 32)) (ci := 10) (q0 := 0) rfl rfl) rfl rfl hl.1 rfl (lv_room (Nat.le_of_ble_eq_true rfl)) dX9_act__84 ⟨(Nat.le_of_ble_eq_true rfl), (Nat.le_of_ble_eq_true rfl)⟩) hP hS (fun r84 H locs hw hP hS => ?_)
                have hP : va_P D vwCl [(h0, .inr (10, [.ref (q 0), .int i_size, .ref (q 1), .ref (q 2), .int i_words, .int i_next, .int i_open, .int i_stood, .ref (q 3), .ref (q 4), .ref (q 5), .int i_nodes, .int (nI h), .int i_made, .ref (q 6), .ref (q 7), .ref (q 8), .ref (q 9), .ref (q 10), .ref (q 11), .int (nI rw), .ref (q 12), .ref (q 13), .ref (q 14), .int x, .ref (q 15), .ref (q 16), .ref (q 17), .int i_tested, .ref (q 18), .ref wa, .int i_length])), (q 3, .inl (cy 1, 6000, .inl W0)), (q 4, .inl (cy 1, 6000, .inl F0_)), (q 5, .inl (cy 1, 6000, .inl S0)), (q 6, .inl (cy 1, 80, .inl tp0)), (q 7, .inl (cy 1, 80, .inl cn0)), (q 8, .inl (cy 1, 640, .inl ac0)), (q 9, .inl (cy 1, 80, .inl nu0)), (q 12, .inl (cy 1, 40, .inl ct0)), (q 13, .inl (cy 4, 40, .inl lt0)), (q 14, .inl (cy 1, 40, .inl ps0))] H := hP
                replace hw : (r84 = 1 ∧ ra_has cn0 ac0 (40 * h + k) i) ∨ (r84 = 0 ∧ ¬ ra_has cn0 ac0 (40 * h + k) i) := hw
                have hw84 := hw
                refine lv_if_eq (tgt := 94) hx hb dX9_act__87 (by decide) (fun c87 => ?_) (fun c87 => ?_)
                · refine lv_iinc (v := nI (k + 1)) (lv' := [(2, .int (nI (k + 1))), (3, .int 1), (0, .ref h0), (1, .int i)]) hx hb dX9_act__94 hl (k := 1) rfl (nI_1 k) (by decide) rfl (fun ls hl => ?_)
                  refine lv_goto (tgt := 14) hx hb dX9_act__97 (by decide) ?_
                  exact ih14 (k + 1) _ _ ls ⟨hP.sub [0, 1, 2, 3, 4, 5, 6, 7, 8, 9, 10] rfl, hS, lv_sub hl [0, 2, 3] rfl, ⟨by omega, fp_nx hF (fun q9 => (fq_t0 hw84 c87) q9.2)⟩⟩ (by (try dsimp only); omega)
                · refine lv_iload_n hx hb dX9_act__90 rfl (lv_at hl 1 rfl) ?_
                  refine lv_iconst (v := 1) hx hb dX9_act__91 (by decide +kernel) ?_
                  refine lv_iadd hx hb dX9_act__92 ?_
                  refine lv_topi (fun x_10 ex_10 => ?_)
                  obtain rfl : x_10 = nI (k + 1) := by rw [ex_10]; exact nI_1 k
                  exact W.iret hx hb hr (fun t ht hW => ⟨⟨_, (), rfl, Or.inr ⟨not_or.mpr ⟨c1, Int32.not_lt.mpr c7⟩, Or.inr ⟨k, hk, rfl, ⟨⟨c28, Or.inr ⟨c45, c68⟩⟩, fq_t1 hw84 c87⟩, hF⟩⟩, trivial⟩, hS.F ht⟩) hS.2.2 dX9_act__93
    · refine lv_iconst (v := -1) hx hb dX9_act__10 (by decide +kernel) ?_
      exact W.iret hx hb hr (fun t ht hW => ⟨⟨_, (), rfl, Or.inl ⟨Or.inr (Int32.not_le.mp c7), rfl⟩, trivial⟩, hS.F ht⟩) hS.2.2 dX9_act__11

set_option maxHeartbeats 4000000 in
set_option maxRecDepth 100000 in
/-- pass -/
theorem c_M_pass (l : Launch) (D : va_G) (cy : Nat → ClassId) (e : Nat → Nat)  (h0 : Nat) (q : Nat → Nat) (wa : Nat) (i_size : Int32) (i_words : Int32) (i_next : Int32) (i_open : Int32) (i_stood : Int32) (i_nodes : Int32) (i_half : Int32) (i_made : Int32) (i_state : Int32) (i_tested : Int32) (i_length : Int32) (rw : Nat) (ps0 : Nat → Int32) (i : Int32) (a : Int32) (b : Int32) (w : Int32) (sz : Nat) (hrw : rw ≤ 40) : Met l yX9_pass wsX9_pass ({ frames := 1, cells := 0, slots := 0, locals := 21 }) (va_Pc [.ref h0, .int i, .int a, .int b, .int w] (mt_B D cy e [(h0, .inr (10, [.ref (q 0), .int i_size, .ref (q 1), .ref (q 2), .int i_words, .int i_next, .int i_open, .int i_stood, .ref (q 3), .ref (q 4), .ref (q 5), .int i_nodes, .int i_half, .int i_made, .ref (q 6), .ref (q 7), .ref (q 8), .ref (q 9), .ref (q 10), .ref (q 11), .int (nI rw), .ref (q 12), .ref (q 13), .ref (q 14), .int i_state, .ref (q 15), .ref (q 16), .ref (q 17), .int i_tested, .ref (q 18), .ref wa, .int i_length])), (q 14, .inl (cy 1, 40, .inl ps0))] sz)) (va_Qi (fun (r : Int32) (ps2 : (Nat → Int32)) => ((fp_rq rw i ∧ r = -1 ∧ ps2 = ps0) ∨ (∃ j, i = nI (j + 1) ∧ j < rw ∧ r = fp_pas a b w (ps0 j) ∧ ps2 = if r = 0 then upd ps0 j w else ps0))) (mt_Q D (fun ps2 => [(h0, .inr (10, [.ref (q 0), .int i_size, .ref (q 1), .ref (q 2), .int i_words, .int i_next, .int i_open, .int i_stood, .ref (q 3), .ref (q 4), .ref (q 5), .int i_nodes, .int i_half, .int i_made, .ref (q 6), .ref (q 7), .ref (q 8), .ref (q 9), .ref (q 10), .ref (q 11), .int (nI rw), .ref (q 12), .ref (q 13), .ref (q 14), .int i_state, .ref (q 15), .ref (q 16), .ref (q 17), .int i_tested, .ref (q 18), .ref wa, .int i_length])), (q 14, .inl (cy 1, 40, .inl ps2))]) (va_A [(h0, .inr (10, [.ref (q 0), .int i_size, .ref (q 1), .ref (q 2), .int i_words, .int i_next, .int i_open, .int i_stood, .ref (q 3), .ref (q 4), .ref (q 5), .int i_nodes, .int i_half, .int i_made, .ref (q 6), .ref (q 7), .ref (q 8), .ref (q 9), .ref (q 10), .ref (q 11), .int (nI rw), .ref (q 12), .ref (q 13), .ref (q 14), .int i_state, .ref (q 15), .ref (q 16), .ref (q 17), .int i_tested, .ref (q 18), .ref wa, .int i_length])), (q 14, .inl (cy 1, 40, .inl ps0))] sz)) (va_A [(h0, .inr (10, [.ref (q 0), .int i_size, .ref (q 1), .ref (q 2), .int i_words, .int i_next, .int i_open, .int i_stood, .ref (q 3), .ref (q 4), .ref (q 5), .int i_nodes, .int i_half, .int i_made, .ref (q 6), .ref (q 7), .ref (q 8), .ref (q 9), .ref (q 10), .ref (q 11), .int (nI rw), .ref (q 12), .ref (q 13), .ref (q 14), .int i_state, .ref (q 15), .ref (q 16), .ref (q 17), .int i_tested, .ref (q 18), .ref wa, .int i_length])), (q 14, .inl (cy 1, 40, .inl ps0))] sz)) (0) (0) (va_A [(h0, .inr (10, [.ref (q 0), .int i_size, .ref (q 1), .ref (q 2), .int i_words, .int i_next, .int i_open, .int i_stood, .ref (q 3), .ref (q 4), .ref (q 5), .int i_nodes, .int i_half, .int i_made, .ref (q 6), .ref (q 7), .ref (q 8), .ref (q 9), .ref (q 10), .ref (q 11), .int (nI rw), .ref (q 12), .ref (q 13), .ref (q 14), .int i_state, .ref (q 15), .ref (q 16), .ref (q 17), .int i_tested, .ref (q 18), .ref wa, .int i_length])), (q 14, .inl (cy 1, 40, .inl ps0))] sz) := by
  refine Met.ofW (cc := cX9_pass) (maxL := 5) (ret := (some .int)) (by decide) rfl ?_
  intro p ev s m args below meth c s₁ B hml hv
  obtain ⟨rfl, hsz, hP, hK, hD0, hG⟩ := hv
  have hx := B.exec
  have hb := B.bytes
  have hr := B.returns
  have hts := atoms_spec (ws := wsX9_pass) B.pre
  have hown : s.vm.findClass RX9 = some m.cls := findClass_of_methodNamed B.named
  have hlocks := B.notSynchronized
  subst hsz
  have hD := hD0.self (sz := s.heap.size)
  generalize hAe : va_A [(h0, .inr (10, [.ref (q 0), .int i_size, .ref (q 1), .ref (q 2), .int i_words, .int i_next, .int i_open, .int i_stood, .ref (q 3), .ref (q 4), .ref (q 5), .int i_nodes, .int i_half, .int i_made, .ref (q 6), .ref (q 7), .ref (q 8), .ref (q 9), .ref (q 10), .ref (q 11), .int (nI rw), .ref (q 12), .ref (q 13), .ref (q 14), .int i_state, .ref (q 15), .ref (q 16), .ref (q 17), .int i_tested, .ref (q 18), .ref wa, .int i_length])), (q 14, .inl (cy 1, 40, .inl ps0))] s.heap.size = A at hD hG ⊢
  have hA : ∀ q : Nat, s.heap.size ≤ q → A q := fun q h => by rw [← hAe]; exact Or.inr h
  have hS : va_S A s.heap s.heap [] := va_S.rf
  have hP : va_P D vwCl [(h0, .inr (10, [.ref (q 0), .int i_size, .ref (q 1), .ref (q 2), .int i_words, .int i_next, .int i_open, .int i_stood, .ref (q 3), .ref (q 4), .ref (q 5), .int i_nodes, .int i_half, .int i_made, .ref (q 6), .ref (q 7), .ref (q 8), .ref (q 9), .ref (q 10), .ref (q 11), .int (nI rw), .ref (q 12), .ref (q 13), .ref (q 14), .int i_state, .ref (q 15), .ref (q 16), .ref (q 17), .int i_tested, .ref (q 18), .ref wa, .int i_length])), (q 14, .inl (cy 1, 40, .inl ps0))] s.heap := hP
  have iX9 : ∀ w ∈ wsX90, w ∈ wsX9_pass := fun w h => List.mem_cons_of_mem _ (List.mem_append_right _ h)
  have hl := lv_entry ([.ref h0, .int i, .int a, .int b, .int w]) (n := 5) (Nat.le_of_ble_eq_true rfl)
  rw [lg_entry_eq]
  generalize (lg_sl ([.ref h0, .int i, .int a, .int b, .int w]) ++ List.replicate (5 - (lg_sl ([.ref h0, .int i, .int a, .int b, .int w])).length) Slot.unset).toArray = ls at hl ⊢
  have hl : lv_has ls 5 [(0, .ref h0), (1, .int i), (2, .int a), (3, .int b), (4, .int w)] := hl
  refine lv_aload_n hx hb dX9_pass_0 rfl (lv_at hl 0 rfl) ?_
  refine lv_iload_n hx hb dX9_pass_1 rfl (lv_at hl 1 rfl) ?_
  refine pu_calli (va_runV (As := [.int i]) (rest := []) ⟨hx, hb, hml, hown, hts⟩ (c_M_isRow l D cy e h0 q wa i_size i_words i_next i_open i_stood i_nodes i_half i_made i_state i_tested i_length rw i ) (cwV 1 hts gX9_pass_X9_isRow rfl rfl rfl (by decide +kernel) ⟨Nat.le_of_ble_eq_true rfl, Nat.le_of_ble_eq_true rfl⟩) (pu_preV hP hK hS hG [0] rfl (q := (RX9, TX9, 32)) (ci := 10) (q0 := 0) rfl rfl) rfl rfl hl.1 rfl (lv_room (Nat.le_of_ble_eq_true rfl)) dX9_pass_2 ⟨(Nat.le_of_ble_eq_true rfl), (Nat.le_of_ble_eq_true rfl)⟩) hP hS (fun H locs hP hS => ?_)
  have hP : va_P D vwCl [(h0, .inr (10, [.ref (q 0), .int i_size, .ref (q 1), .ref (q 2), .int i_words, .int i_next, .int i_open, .int i_stood, .ref (q 3), .ref (q 4), .ref (q 5), .int i_nodes, .int i_half, .int i_made, .ref (q 6), .ref (q 7), .ref (q 8), .ref (q 9), .ref (q 10), .ref (q 11), .int (nI rw), .ref (q 12), .ref (q 13), .ref (q 14), .int i_state, .ref (q 15), .ref (q 16), .ref (q 17), .int i_tested, .ref (q 18), .ref wa, .int i_length])), (q 14, .inl (cy 1, 40, .inl ps0))] H := hP
  refine lv_if_ne (tgt := 10) hx hb dX9_pass_5 (by decide) (fun c5 => ?_) (fun c5 => ?_)
  · obtain ⟨j, hij, hj⟩ := row_ix c5 hrw
    refine lv_iload_n hx hb dX9_pass_10 rfl (lv_at hl 2 rfl) ?_
    refine lv_iconst (v := 1) hx hb dX9_pass_11 (by decide +kernel) ?_
    refine lv_icmp_lt (tgt := 39) hx hb dX9_pass_12 (by decide) (fun c12 => ?_) (fun c12 => ?_)
    · refine lv_bipush (v := -2) hx hb dX9_pass_39 (by decide +kernel) ?_
      have hP9 : va_P D vwCl [(h0, .inr (10, [.ref (q 0), .int i_size, .ref (q 1), .ref (q 2), .int i_words, .int i_next, .int i_open, .int i_stood, .ref (q 3), .ref (q 4), .ref (q 5), .int i_nodes, .int i_half, .int i_made, .ref (q 6), .ref (q 7), .ref (q 8), .ref (q 9), .ref (q 10), .ref (q 11), .int (nI rw), .ref (q 12), .ref (q 13), .ref (q 14), .int i_state, .ref (q 15), .ref (q 16), .ref (q 17), .int i_tested, .ref (q 18), .ref wa, .int i_length])), (q 14, .inl (cy 1, 40, .inl ps0))] H := hP.sub [0, 1] rfl
      have hD9 : va_D A [(h0, .inr (10, [.ref (q 0), .int i_size, .ref (q 1), .ref (q 2), .int i_words, .int i_next, .int i_open, .int i_stood, .ref (q 3), .ref (q 4), .ref (q 5), .int i_nodes, .int i_half, .int i_made, .ref (q 6), .ref (q 7), .ref (q 8), .ref (q 9), .ref (q 10), .ref (q 11), .int (nI rw), .ref (q 12), .ref (q 13), .ref (q 14), .int i_state, .ref (q 15), .ref (q 16), .ref (q 17), .int i_tested, .ref (q 18), .ref wa, .int i_length])), (q 14, .inl (cy 1, 40, .inl ps0))] := hD.sub [0, 1] (by decide) rfl
      refine W.widen (k := 0) (n := 0) (by omega) (by omega) ?_
      exact W.iret hx hb hr (fun t ht hW => ⟨⟨_, ps0, rfl, Or.inr ⟨j, hij, hj, (if_pos (Or.inl c12)).symm, (if_neg (by decide)).symm⟩, by rw [ht]; exact hP9, hD9⟩, hS.F ht⟩) hS.2.2 dX9_pass_41
    · refine lv_iload_n hx hb dX9_pass_15 rfl (lv_at hl 2 rfl) ?_
      refine lv_sipush (v := 999) hx hb dX9_pass_16 (by decide +kernel) ?_
      refine lv_icmp_gt (tgt := 39) hx hb dX9_pass_19 (by decide) (fun c19 => ?_) (fun c19 => ?_)
      · refine lv_bipush (v := -2) hx hb dX9_pass_39 (by decide +kernel) ?_
        have hP9 : va_P D vwCl [(h0, .inr (10, [.ref (q 0), .int i_size, .ref (q 1), .ref (q 2), .int i_words, .int i_next, .int i_open, .int i_stood, .ref (q 3), .ref (q 4), .ref (q 5), .int i_nodes, .int i_half, .int i_made, .ref (q 6), .ref (q 7), .ref (q 8), .ref (q 9), .ref (q 10), .ref (q 11), .int (nI rw), .ref (q 12), .ref (q 13), .ref (q 14), .int i_state, .ref (q 15), .ref (q 16), .ref (q 17), .int i_tested, .ref (q 18), .ref wa, .int i_length])), (q 14, .inl (cy 1, 40, .inl ps0))] H := hP.sub [0, 1] rfl
        have hD9 : va_D A [(h0, .inr (10, [.ref (q 0), .int i_size, .ref (q 1), .ref (q 2), .int i_words, .int i_next, .int i_open, .int i_stood, .ref (q 3), .ref (q 4), .ref (q 5), .int i_nodes, .int i_half, .int i_made, .ref (q 6), .ref (q 7), .ref (q 8), .ref (q 9), .ref (q 10), .ref (q 11), .int (nI rw), .ref (q 12), .ref (q 13), .ref (q 14), .int i_state, .ref (q 15), .ref (q 16), .ref (q 17), .int i_tested, .ref (q 18), .ref wa, .int i_length])), (q 14, .inl (cy 1, 40, .inl ps0))] := hD.sub [0, 1] (by decide) rfl
        refine W.widen (k := 0) (n := 0) (by omega) (by omega) ?_
        exact W.iret hx hb hr (fun t ht hW => ⟨⟨_, ps0, rfl, Or.inr ⟨j, hij, hj, (if_pos (Or.inr (Or.inl c19))).symm, (if_neg (by decide)).symm⟩, by rw [ht]; exact hP9, hD9⟩, hS.F ht⟩) hS.2.2 dX9_pass_41
      · refine lv_iload_n hx hb dX9_pass_22 rfl (lv_at hl 3 rfl) ?_
        refine lv_iconst (v := 1) hx hb dX9_pass_23 (by decide +kernel) ?_
        refine lv_icmp_lt (tgt := 39) hx hb dX9_pass_24 (by decide) (fun c24 => ?_) (fun c24 => ?_)
        · refine lv_bipush (v := -2) hx hb dX9_pass_39 (by decide +kernel) ?_
          have hP9 : va_P D vwCl [(h0, .inr (10, [.ref (q 0), .int i_size, .ref (q 1), .ref (q 2), .int i_words, .int i_next, .int i_open, .int i_stood, .ref (q 3), .ref (q 4), .ref (q 5), .int i_nodes, .int i_half, .int i_made, .ref (q 6), .ref (q 7), .ref (q 8), .ref (q 9), .ref (q 10), .ref (q 11), .int (nI rw), .ref (q 12), .ref (q 13), .ref (q 14), .int i_state, .ref (q 15), .ref (q 16), .ref (q 17), .int i_tested, .ref (q 18), .ref wa, .int i_length])), (q 14, .inl (cy 1, 40, .inl ps0))] H := hP.sub [0, 1] rfl
          have hD9 : va_D A [(h0, .inr (10, [.ref (q 0), .int i_size, .ref (q 1), .ref (q 2), .int i_words, .int i_next, .int i_open, .int i_stood, .ref (q 3), .ref (q 4), .ref (q 5), .int i_nodes, .int i_half, .int i_made, .ref (q 6), .ref (q 7), .ref (q 8), .ref (q 9), .ref (q 10), .ref (q 11), .int (nI rw), .ref (q 12), .ref (q 13), .ref (q 14), .int i_state, .ref (q 15), .ref (q 16), .ref (q 17), .int i_tested, .ref (q 18), .ref wa, .int i_length])), (q 14, .inl (cy 1, 40, .inl ps0))] := hD.sub [0, 1] (by decide) rfl
          refine W.widen (k := 0) (n := 0) (by omega) (by omega) ?_
          exact W.iret hx hb hr (fun t ht hW => ⟨⟨_, ps0, rfl, Or.inr ⟨j, hij, hj, (if_pos (Or.inr (Or.inr (Or.inl c24)))).symm, (if_neg (by decide)).symm⟩, by rw [ht]; exact hP9, hD9⟩, hS.F ht⟩) hS.2.2 dX9_pass_41
        · refine lv_iload_n hx hb dX9_pass_27 rfl (lv_at hl 3 rfl) ?_
          refine lv_sipush (v := 999) hx hb dX9_pass_28 (by decide +kernel) ?_
          refine lv_icmp_gt (tgt := 39) hx hb dX9_pass_31 (by decide) (fun c31 => ?_) (fun c31 => ?_)
          · refine lv_bipush (v := -2) hx hb dX9_pass_39 (by decide +kernel) ?_
            have hP9 : va_P D vwCl [(h0, .inr (10, [.ref (q 0), .int i_size, .ref (q 1), .ref (q 2), .int i_words, .int i_next, .int i_open, .int i_stood, .ref (q 3), .ref (q 4), .ref (q 5), .int i_nodes, .int i_half, .int i_made, .ref (q 6), .ref (q 7), .ref (q 8), .ref (q 9), .ref (q 10), .ref (q 11), .int (nI rw), .ref (q 12), .ref (q 13), .ref (q 14), .int i_state, .ref (q 15), .ref (q 16), .ref (q 17), .int i_tested, .ref (q 18), .ref wa, .int i_length])), (q 14, .inl (cy 1, 40, .inl ps0))] H := hP.sub [0, 1] rfl
            have hD9 : va_D A [(h0, .inr (10, [.ref (q 0), .int i_size, .ref (q 1), .ref (q 2), .int i_words, .int i_next, .int i_open, .int i_stood, .ref (q 3), .ref (q 4), .ref (q 5), .int i_nodes, .int i_half, .int i_made, .ref (q 6), .ref (q 7), .ref (q 8), .ref (q 9), .ref (q 10), .ref (q 11), .int (nI rw), .ref (q 12), .ref (q 13), .ref (q 14), .int i_state, .ref (q 15), .ref (q 16), .ref (q 17), .int i_tested, .ref (q 18), .ref wa, .int i_length])), (q 14, .inl (cy 1, 40, .inl ps0))] := hD.sub [0, 1] (by decide) rfl
            refine W.widen (k := 0) (n := 0) (by omega) (by omega) ?_
            exact W.iret hx hb hr (fun t ht hW => ⟨⟨_, ps0, rfl, Or.inr ⟨j, hij, hj, (if_pos (Or.inr (Or.inr (Or.inr (Or.inl c31))))).symm, (if_neg (by decide)).symm⟩, by rw [ht]; exact hP9, hD9⟩, hS.F ht⟩) hS.2.2 dX9_pass_41
          · refine lv_iload_n hx hb dX9_pass_34 rfl (lv_at hl 2 rfl) ?_
            refine lv_iload_n hx hb dX9_pass_35 rfl (lv_at hl 3 rfl) ?_
            refine lv_icmp_ne (tgt := 42) hx hb dX9_pass_36 (by decide) (fun c36 => ?_) (fun c36 => ?_)
            · have hn2 : ¬ (a < 1 ∨ 999 < a ∨ b < 1 ∨ 999 < b ∨ a = b) := fun q9 => q9.elim c12 (fun q9 => q9.elim c19 (fun q9 => q9.elim c24 (fun q9 => q9.elim c31 c36)))
              refine lv_iload hx hb dX9_pass_42 (lv_at hl 4 rfl) ?_
              refine lv_iconst (v := 1) hx hb dX9_pass_44 (by decide +kernel) ?_
              refine lv_icmp_lt (tgt := 56) hx hb dX9_pass_45 (by decide) (fun c45 => ?_) (fun c45 => ?_)
              · refine lv_bipush (v := -3) hx hb dX9_pass_56 (by decide +kernel) ?_
                have hP9 : va_P D vwCl [(h0, .inr (10, [.ref (q 0), .int i_size, .ref (q 1), .ref (q 2), .int i_words, .int i_next, .int i_open, .int i_stood, .ref (q 3), .ref (q 4), .ref (q 5), .int i_nodes, .int i_half, .int i_made, .ref (q 6), .ref (q 7), .ref (q 8), .ref (q 9), .ref (q 10), .ref (q 11), .int (nI rw), .ref (q 12), .ref (q 13), .ref (q 14), .int i_state, .ref (q 15), .ref (q 16), .ref (q 17), .int i_tested, .ref (q 18), .ref wa, .int i_length])), (q 14, .inl (cy 1, 40, .inl ps0))] H := hP.sub [0, 1] rfl
                have hD9 : va_D A [(h0, .inr (10, [.ref (q 0), .int i_size, .ref (q 1), .ref (q 2), .int i_words, .int i_next, .int i_open, .int i_stood, .ref (q 3), .ref (q 4), .ref (q 5), .int i_nodes, .int i_half, .int i_made, .ref (q 6), .ref (q 7), .ref (q 8), .ref (q 9), .ref (q 10), .ref (q 11), .int (nI rw), .ref (q 12), .ref (q 13), .ref (q 14), .int i_state, .ref (q 15), .ref (q 16), .ref (q 17), .int i_tested, .ref (q 18), .ref wa, .int i_length])), (q 14, .inl (cy 1, 40, .inl ps0))] := hD.sub [0, 1] (by decide) rfl
                refine W.widen (k := 0) (n := 0) (by omega) (by omega) ?_
                exact W.iret hx hb hr (fun t ht hW => ⟨⟨_, ps0, rfl, Or.inr ⟨j, hij, hj, ((if_neg hn2).trans (if_pos (Or.inl c45))).symm, (if_neg (by decide)).symm⟩, by rw [ht]; exact hP9, hD9⟩, hS.F ht⟩) hS.2.2 dX9_pass_58
              · refine lv_iload hx hb dX9_pass_48 (lv_at hl 4 rfl) ?_
                refine lv_sipush (v := 3600) hx hb dX9_pass_50 (by decide +kernel) ?_
                refine lv_icmp_le (tgt := 59) hx hb dX9_pass_53 (by decide) (fun c53 => ?_) (fun c53 => ?_)
                · have hn3 : ¬ (w < 1 ∨ 3600 < w) := fun q9 => q9.elim c45 (fun q9 => absurd c53 (Int32.not_le.mpr q9))
                  refine lv_aload_n hx hb dX9_pass_59 rfl (lv_at hl 0 rfl) ?_
                  refine va_get (D := D) (ci := 10) (v := .ref (q 14)) (C := RX9) (T := TX9) (N := 32) hx hb hts iX9 hown hK hP 0 rfl rfl 23 (by decide) (hts (.fieldLink RX9 54 "InterlockTablesModel" "passes" "[I") (by decide +kernel)) (fun _ h9 => h9) rfl dX9_pass_60 ?_
                  refine lv_iload_n hx hb dX9_pass_63 rfl (lv_at hl 1 rfl) ?_
                  refine lv_iconst (v := 1) hx hb dX9_pass_64 (by decide +kernel) ?_
                  refine lv_isub hx hb dX9_pass_65 ?_
                  refine lv_topi (fun x_1 ex_1 => ?_)
                  obtain rfl : x_1 = nI j := by rw [ex_1]; rw [hij]; exact nI_pred j
                  refine va_iald hx hb hK hP 1 1 rfl rfl (vp_in_nI (by omega) (by omega)) dX9_pass_66 ?_
                  refine lv_topi (fun x_2 ex_2 => ?_)
                  obtain rfl : x_2 = ps0 j := by rw [ex_2]; rw [nI_clamp (by omega)]
                  refine lv_if_le (tgt := 73) hx hb dX9_pass_67 (by decide) (fun c67 => ?_) (fun c67 => ?_)
                  · refine lv_aload_n hx hb dX9_pass_73 rfl (lv_at hl 0 rfl) ?_
                    refine va_get (D := D) (ci := 10) (v := .ref (q 14)) (C := RX9) (T := TX9) (N := 32) hx hb hts iX9 hown hK hP 0 rfl rfl 23 (by decide) (hts (.fieldLink RX9 54 "InterlockTablesModel" "passes" "[I") (by decide +kernel)) (fun _ h9 => h9) rfl dX9_pass_74 ?_
                    refine lv_iload_n hx hb dX9_pass_77 rfl (lv_at hl 1 rfl) ?_
                    refine lv_iconst (v := 1) hx hb dX9_pass_78 (by decide +kernel) ?_
                    refine lv_isub hx hb dX9_pass_79 ?_
                    refine lv_topi (fun x_3 ex_3 => ?_)
                    obtain rfl : x_3 = nI j := by rw [ex_3]; rw [hij]; exact nI_pred j
                    refine lv_iload hx hb dX9_pass_80 (lv_at hl 4 rfl) ?_
                    refine va_iast hx hb hK hP hD hS 1 1 rfl rfl (vp_in_nI (by omega) (by omega)) dX9_pass_82 (fun H locs hP hD hS => ?_)
                    have hP : va_P D vwCl [(h0, .inr (10, [.ref (q 0), .int i_size, .ref (q 1), .ref (q 2), .int i_words, .int i_next, .int i_open, .int i_stood, .ref (q 3), .ref (q 4), .ref (q 5), .int i_nodes, .int i_half, .int i_made, .ref (q 6), .ref (q 7), .ref (q 8), .ref (q 9), .ref (q 10), .ref (q 11), .int (nI rw), .ref (q 12), .ref (q 13), .ref (q 14), .int i_state, .ref (q 15), .ref (q 16), .ref (q 17), .int i_tested, .ref (q 18), .ref wa, .int i_length])), (q 14, .inl (cy 1, 40, .inl (upd ps0 (nI j).toNatClampNeg w)))] H := hP
                    have hD : va_D A [(h0, .inr (10, [.ref (q 0), .int i_size, .ref (q 1), .ref (q 2), .int i_words, .int i_next, .int i_open, .int i_stood, .ref (q 3), .ref (q 4), .ref (q 5), .int i_nodes, .int i_half, .int i_made, .ref (q 6), .ref (q 7), .ref (q 8), .ref (q 9), .ref (q 10), .ref (q 11), .int (nI rw), .ref (q 12), .ref (q 13), .ref (q 14), .int i_state, .ref (q 15), .ref (q 16), .ref (q 17), .int i_tested, .ref (q 18), .ref wa, .int i_length])), (q 14, .inl (cy 1, 40, .inl (upd ps0 (nI j).toNatClampNeg w)))] := hD
                    have ef_82 : (upd ps0 (nI j).toNatClampNeg w) = (upd ps0 j w) := by rw [nI_clamp (by omega)]
                    rw [ef_82] at hP hD
                    refine lv_iconst (v := 0) hx hb dX9_pass_83 (by decide +kernel) ?_
                    have hP9 : va_P D vwCl [(h0, .inr (10, [.ref (q 0), .int i_size, .ref (q 1), .ref (q 2), .int i_words, .int i_next, .int i_open, .int i_stood, .ref (q 3), .ref (q 4), .ref (q 5), .int i_nodes, .int i_half, .int i_made, .ref (q 6), .ref (q 7), .ref (q 8), .ref (q 9), .ref (q 10), .ref (q 11), .int (nI rw), .ref (q 12), .ref (q 13), .ref (q 14), .int i_state, .ref (q 15), .ref (q 16), .ref (q 17), .int i_tested, .ref (q 18), .ref wa, .int i_length])), (q 14, .inl (cy 1, 40, .inl (upd ps0 j w)))] H := hP.sub [0, 1] rfl
                    have hD9 : va_D A [(h0, .inr (10, [.ref (q 0), .int i_size, .ref (q 1), .ref (q 2), .int i_words, .int i_next, .int i_open, .int i_stood, .ref (q 3), .ref (q 4), .ref (q 5), .int i_nodes, .int i_half, .int i_made, .ref (q 6), .ref (q 7), .ref (q 8), .ref (q 9), .ref (q 10), .ref (q 11), .int (nI rw), .ref (q 12), .ref (q 13), .ref (q 14), .int i_state, .ref (q 15), .ref (q 16), .ref (q 17), .int i_tested, .ref (q 18), .ref wa, .int i_length])), (q 14, .inl (cy 1, 40, .inl (upd ps0 j w)))] := hD.sub [0, 1] (by decide) rfl
                    refine W.widen (k := 0) (n := 0) (by omega) (by omega) ?_
                    exact W.iret hx hb hr (fun t ht hW => ⟨⟨_, (upd ps0 j w), rfl, Or.inr ⟨j, hij, hj, ((if_neg hn2).trans ((if_neg hn3).trans (if_neg (Int32.not_lt.mpr c67)))).symm, (if_pos rfl).symm⟩, by rw [ht]; exact hP9, hD9⟩, hS.F ht⟩) hS.2.2 dX9_pass_84
                  · refine lv_bipush (v := -4) hx hb dX9_pass_70 (by decide +kernel) ?_
                    have hP9 : va_P D vwCl [(h0, .inr (10, [.ref (q 0), .int i_size, .ref (q 1), .ref (q 2), .int i_words, .int i_next, .int i_open, .int i_stood, .ref (q 3), .ref (q 4), .ref (q 5), .int i_nodes, .int i_half, .int i_made, .ref (q 6), .ref (q 7), .ref (q 8), .ref (q 9), .ref (q 10), .ref (q 11), .int (nI rw), .ref (q 12), .ref (q 13), .ref (q 14), .int i_state, .ref (q 15), .ref (q 16), .ref (q 17), .int i_tested, .ref (q 18), .ref wa, .int i_length])), (q 14, .inl (cy 1, 40, .inl ps0))] H := hP.sub [0, 1] rfl
                    have hD9 : va_D A [(h0, .inr (10, [.ref (q 0), .int i_size, .ref (q 1), .ref (q 2), .int i_words, .int i_next, .int i_open, .int i_stood, .ref (q 3), .ref (q 4), .ref (q 5), .int i_nodes, .int i_half, .int i_made, .ref (q 6), .ref (q 7), .ref (q 8), .ref (q 9), .ref (q 10), .ref (q 11), .int (nI rw), .ref (q 12), .ref (q 13), .ref (q 14), .int i_state, .ref (q 15), .ref (q 16), .ref (q 17), .int i_tested, .ref (q 18), .ref wa, .int i_length])), (q 14, .inl (cy 1, 40, .inl ps0))] := hD.sub [0, 1] (by decide) rfl
                    refine W.widen (k := 0) (n := 0) (by omega) (by omega) ?_
                    exact W.iret hx hb hr (fun t ht hW => ⟨⟨_, ps0, rfl, Or.inr ⟨j, hij, hj, ((if_neg hn2).trans ((if_neg hn3).trans (if_pos (Int32.not_le.mp c67)))).symm, (if_neg (by decide)).symm⟩, by rw [ht]; exact hP9, hD9⟩, hS.F ht⟩) hS.2.2 dX9_pass_72
                · refine lv_bipush (v := -3) hx hb dX9_pass_56 (by decide +kernel) ?_
                  have hP9 : va_P D vwCl [(h0, .inr (10, [.ref (q 0), .int i_size, .ref (q 1), .ref (q 2), .int i_words, .int i_next, .int i_open, .int i_stood, .ref (q 3), .ref (q 4), .ref (q 5), .int i_nodes, .int i_half, .int i_made, .ref (q 6), .ref (q 7), .ref (q 8), .ref (q 9), .ref (q 10), .ref (q 11), .int (nI rw), .ref (q 12), .ref (q 13), .ref (q 14), .int i_state, .ref (q 15), .ref (q 16), .ref (q 17), .int i_tested, .ref (q 18), .ref wa, .int i_length])), (q 14, .inl (cy 1, 40, .inl ps0))] H := hP.sub [0, 1] rfl
                  have hD9 : va_D A [(h0, .inr (10, [.ref (q 0), .int i_size, .ref (q 1), .ref (q 2), .int i_words, .int i_next, .int i_open, .int i_stood, .ref (q 3), .ref (q 4), .ref (q 5), .int i_nodes, .int i_half, .int i_made, .ref (q 6), .ref (q 7), .ref (q 8), .ref (q 9), .ref (q 10), .ref (q 11), .int (nI rw), .ref (q 12), .ref (q 13), .ref (q 14), .int i_state, .ref (q 15), .ref (q 16), .ref (q 17), .int i_tested, .ref (q 18), .ref wa, .int i_length])), (q 14, .inl (cy 1, 40, .inl ps0))] := hD.sub [0, 1] (by decide) rfl
                  refine W.widen (k := 0) (n := 0) (by omega) (by omega) ?_
                  exact W.iret hx hb hr (fun t ht hW => ⟨⟨_, ps0, rfl, Or.inr ⟨j, hij, hj, ((if_neg hn2).trans (if_pos (Or.inr (Int32.not_le.mp c53)))).symm, (if_neg (by decide)).symm⟩, by rw [ht]; exact hP9, hD9⟩, hS.F ht⟩) hS.2.2 dX9_pass_58
            · refine lv_bipush (v := -2) hx hb dX9_pass_39 (by decide +kernel) ?_
              have hP9 : va_P D vwCl [(h0, .inr (10, [.ref (q 0), .int i_size, .ref (q 1), .ref (q 2), .int i_words, .int i_next, .int i_open, .int i_stood, .ref (q 3), .ref (q 4), .ref (q 5), .int i_nodes, .int i_half, .int i_made, .ref (q 6), .ref (q 7), .ref (q 8), .ref (q 9), .ref (q 10), .ref (q 11), .int (nI rw), .ref (q 12), .ref (q 13), .ref (q 14), .int i_state, .ref (q 15), .ref (q 16), .ref (q 17), .int i_tested, .ref (q 18), .ref wa, .int i_length])), (q 14, .inl (cy 1, 40, .inl ps0))] H := hP.sub [0, 1] rfl
              have hD9 : va_D A [(h0, .inr (10, [.ref (q 0), .int i_size, .ref (q 1), .ref (q 2), .int i_words, .int i_next, .int i_open, .int i_stood, .ref (q 3), .ref (q 4), .ref (q 5), .int i_nodes, .int i_half, .int i_made, .ref (q 6), .ref (q 7), .ref (q 8), .ref (q 9), .ref (q 10), .ref (q 11), .int (nI rw), .ref (q 12), .ref (q 13), .ref (q 14), .int i_state, .ref (q 15), .ref (q 16), .ref (q 17), .int i_tested, .ref (q 18), .ref wa, .int i_length])), (q 14, .inl (cy 1, 40, .inl ps0))] := hD.sub [0, 1] (by decide) rfl
              refine W.widen (k := 0) (n := 0) (by omega) (by omega) ?_
              exact W.iret hx hb hr (fun t ht hW => ⟨⟨_, ps0, rfl, Or.inr ⟨j, hij, hj, (if_pos (Or.inr (Or.inr (Or.inr (Or.inr c36))))).symm, (if_neg (by decide)).symm⟩, by rw [ht]; exact hP9, hD9⟩, hS.F ht⟩) hS.2.2 dX9_pass_41
  · refine lv_iconst (v := -1) hx hb dX9_pass_8 (by decide +kernel) ?_
    have hP9 : va_P D vwCl [(h0, .inr (10, [.ref (q 0), .int i_size, .ref (q 1), .ref (q 2), .int i_words, .int i_next, .int i_open, .int i_stood, .ref (q 3), .ref (q 4), .ref (q 5), .int i_nodes, .int i_half, .int i_made, .ref (q 6), .ref (q 7), .ref (q 8), .ref (q 9), .ref (q 10), .ref (q 11), .int (nI rw), .ref (q 12), .ref (q 13), .ref (q 14), .int i_state, .ref (q 15), .ref (q 16), .ref (q 17), .int i_tested, .ref (q 18), .ref wa, .int i_length])), (q 14, .inl (cy 1, 40, .inl ps0))] H := hP.sub [0, 1] rfl
    have hD9 : va_D A [(h0, .inr (10, [.ref (q 0), .int i_size, .ref (q 1), .ref (q 2), .int i_words, .int i_next, .int i_open, .int i_stood, .ref (q 3), .ref (q 4), .ref (q 5), .int i_nodes, .int i_half, .int i_made, .ref (q 6), .ref (q 7), .ref (q 8), .ref (q 9), .ref (q 10), .ref (q 11), .int (nI rw), .ref (q 12), .ref (q 13), .ref (q 14), .int i_state, .ref (q 15), .ref (q 16), .ref (q 17), .int i_tested, .ref (q 18), .ref wa, .int i_length])), (q 14, .inl (cy 1, 40, .inl ps0))] := hD.sub [0, 1] (by decide) rfl
    refine W.widen (k := 0) (n := 0) (by omega) (by omega) ?_
    exact W.iret hx hb hr (fun t ht hW => ⟨⟨_, ps0, rfl, Or.inl ⟨fp_rq_out c5, rfl, rfl⟩, by rw [ht]; exact hP9, hD9⟩, hS.F ht⟩) hS.2.2 dX9_pass_9

set_option maxHeartbeats 4000000 in
set_option maxRecDepth 100000 in
/-- listed -/
theorem c_M_listed (l : Launch) (D : va_G) (cy : Nat → ClassId) (e : Nat → Nat)  (h0 : Nat) (q : Nat → Nat) (wa : Nat) (i_size : Int32) (i_words : Int32) (i_next : Int32) (i_open : Int32) (i_stood : Int32) (i_nodes : Int32) (i_half : Int32) (i_made : Int32) (i_state : Int32) (i_tested : Int32) (i_length : Int32) (rw : Nat) (ps0 : Nat → Int32) (i : Int32) (hrw : rw ≤ 40) : Met l yX9_listed wsX9_listed ({ frames := 0, cells := 0, slots := 0, locals := 0 }) (va_Pc [.ref h0, .int i] (pu_B D cy e [(h0, .inr (10, [.ref (q 0), .int i_size, .ref (q 1), .ref (q 2), .int i_words, .int i_next, .int i_open, .int i_stood, .ref (q 3), .ref (q 4), .ref (q 5), .int i_nodes, .int i_half, .int i_made, .ref (q 6), .ref (q 7), .ref (q 8), .ref (q 9), .ref (q 10), .ref (q 11), .int (nI rw), .ref (q 12), .ref (q 13), .ref (q 14), .int i_state, .ref (q 15), .ref (q 16), .ref (q 17), .int i_tested, .ref (q 18), .ref wa, .int i_length])), (q 14, .inl (cy 1, 40, .inl ps0))])) (va_Qi (fun (r : Int32) (_ : Unit) => r = fp_pk (fun j => decide (0 < ps0 j)) rw 0 i) (fun _ _ => True) (fun _ => False)) 0 0 (fun _ => False) := by
  refine Met.ofW (cc := cX9_listed) (maxL := 4) (ret := (some .int)) (by decide) rfl ?_
  intro p ev s m args below meth c s₁ B hml hv
  obtain ⟨rfl, hP, hK, hG⟩ := hv
  have hx := B.exec
  have hb := B.bytes
  have hr := B.returns
  have hts := atoms_spec (ws := wsX9_listed) B.pre
  have hown : s.vm.findClass RX9 = some m.cls := findClass_of_methodNamed B.named
  have hlocks := B.notSynchronized
  have hS : va_S (fun _ => False) s.heap s.heap [] := va_S.rf
  have hP : va_P D vwCl [(h0, .inr (10, [.ref (q 0), .int i_size, .ref (q 1), .ref (q 2), .int i_words, .int i_next, .int i_open, .int i_stood, .ref (q 3), .ref (q 4), .ref (q 5), .int i_nodes, .int i_half, .int i_made, .ref (q 6), .ref (q 7), .ref (q 8), .ref (q 9), .ref (q 10), .ref (q 11), .int (nI rw), .ref (q 12), .ref (q 13), .ref (q 14), .int i_state, .ref (q 15), .ref (q 16), .ref (q 17), .int i_tested, .ref (q 18), .ref wa, .int i_length])), (q 14, .inl (cy 1, 40, .inl ps0))] s.heap := hP
  have iX9 : ∀ w ∈ wsX90, w ∈ wsX9_listed := fun w h => List.mem_cons_of_mem _ (List.mem_append_right _ h)
  have hl := lv_entry ([.ref h0, .int i]) (n := 4) (Nat.le_of_ble_eq_true rfl)
  rw [lg_entry_eq]
  generalize (lg_sl ([.ref h0, .int i]) ++ List.replicate (4 - (lg_sl ([.ref h0, .int i])).length) Slot.unset).toArray = ls at hl ⊢
  have hl : lv_has ls 4 [(0, .ref h0), (1, .int i)] := hl
  refine lv_iload_n hx hb dX9_listed_0 rfl (lv_at hl 1 rfl) ?_
  refine lv_istore_n (lv' := [(2, .int i), (0, .ref h0), (1, .int i)]) hx hb dX9_listed_1 rfl hl (by decide) rfl (fun ls hl => ?_)
  refine lv_iconst (v := 0) hx hb dX9_listed_2 (by decide +kernel) ?_
  refine lv_topi (fun x_1 ex_1 => ?_)
  obtain rfl : x_1 = nI 0 := by rw [ex_1]; exact nI_0.symm
  refine lv_istore_n (lv' := [(3, .int (nI 0)), (2, .int i), (0, .ref h0), (1, .int i)]) hx hb dX9_listed_3 rfl hl (by decide) rfl (fun ls hl => ?_)
  refine lp_W (σ := Nat × Int32) (Wf := fun H locs ls => W p l ev _ s m _ below meth c H locs (0) (0) _ (F0 m 4 ls [])) (fun zz9 H locs ls => match zz9 with | (k, lf) => va_P D vwCl [(h0, .inr (10, [.ref (q 0), .int i_size, .ref (q 1), .ref (q 2), .int i_words, .int i_next, .int i_open, .int i_stood, .ref (q 3), .ref (q 4), .ref (q 5), .int i_nodes, .int i_half, .int i_made, .ref (q 6), .ref (q 7), .ref (q 8), .ref (q 9), .ref (q 10), .ref (q 11), .int (nI rw), .ref (q 12), .ref (q 13), .ref (q 14), .int i_state, .ref (q 15), .ref (q 16), .ref (q 17), .int i_tested, .ref (q 18), .ref wa, .int i_length])), (q 14, .inl (cy 1, 40, .inl ps0))] H ∧ va_S (fun _ => False) s.heap H locs ∧ lv_has ls 4 [(3, .int (nI k)), (2, .int lf), (0, .ref h0), (1, .int i)] ∧ (k ≤ rw ∧ fp_pk (fun j => decide (0 < ps0 j)) rw 0 i = fp_pk (fun j => decide (0 < ps0 j)) (rw - k) k lf)) (fun zz9 => match zz9 with | (k, lf) => rw - k) ?_ (0, i) _ _ ls ⟨hP, hS, lv_sub hl [0, 1, 2, 3] rfl, ⟨Nat.zero_le _, rfl⟩⟩
  intro zz9 H locs ls hI ih
  obtain ⟨k, lf⟩ := zz9
  obtain ⟨hP, hS, hl, hI⟩ := hI
  have ih4 := ih
  have hI4 := hI
  have hP : va_P D vwCl [(h0, .inr (10, [.ref (q 0), .int i_size, .ref (q 1), .ref (q 2), .int i_words, .int i_next, .int i_open, .int i_stood, .ref (q 3), .ref (q 4), .ref (q 5), .int i_nodes, .int i_half, .int i_made, .ref (q 6), .ref (q 7), .ref (q 8), .ref (q 9), .ref (q 10), .ref (q 11), .int (nI rw), .ref (q 12), .ref (q 13), .ref (q 14), .int i_state, .ref (q 15), .ref (q 16), .ref (q 17), .int i_tested, .ref (q 18), .ref wa, .int i_length])), (q 14, .inl (cy 1, 40, .inl ps0))] H := hP
  have hl : lv_has ls 4 [(3, .int (nI k)), (2, .int lf), (0, .ref h0), (1, .int i)] := hl
  obtain ⟨hI1, hL⟩ := hI
  refine lv_iload_n hx hb dX9_listed_4 rfl (lv_at hl 0 rfl) ?_
  refine lv_aload_n hx hb dX9_listed_5 rfl (lv_at hl 2 rfl) ?_
  refine va_get (D := D) (ci := 10) (v := .int (nI rw)) (C := RX9) (T := TX9) (N := 32) hx hb hts iX9 hown hK hP 0 rfl rfl 20 (by decide) (hts (.fieldLink RX9 149 "InterlockTablesModel" "rows" "I") (by decide +kernel)) (fun _ h9 => h9) rfl dX9_listed_6 ?_
  refine lv_icmp_ge (tgt := 42) hx hb dX9_listed_9 (by decide) (fun c9 => ?_) (fun c9 => ?_)
  · have hge : rw ≤ k := (nI_leI (by omega) (by omega)).mp c9
    refine lv_iconst (v := -1) hx hb dX9_listed_42 (by decide +kernel) ?_
    exact W.iret hx hb hr (fun t ht hW => ⟨⟨_, (), rfl, fp_pk_e' hL hge, trivial⟩, hS.F ht⟩) hS.2.2 dX9_listed_43
  · have hk : k < rw := pk_nle (by omega) c9
    refine lv_iload_n hx hb dX9_listed_12 rfl (lv_at hl 1 rfl) ?_
    refine lv_if_lt (tgt := 42) hx hb dX9_listed_13 (by decide) (fun c13 => ?_) (fun c13 => ?_)
    · refine lv_iconst (v := -1) hx hb dX9_listed_42 (by decide +kernel) ?_
      exact W.iret hx hb hr (fun t ht hW => ⟨⟨_, (), rfl, fp_pk_n' hL hrw c13, trivial⟩, hS.F ht⟩) hS.2.2 dX9_listed_43
    · refine lv_aload_n hx hb dX9_listed_16 rfl (lv_at hl 2 rfl) ?_
      refine va_get (D := D) (ci := 10) (v := .ref (q 14)) (C := RX9) (T := TX9) (N := 32) hx hb hts iX9 hown hK hP 0 rfl rfl 23 (by decide) (hts (.fieldLink RX9 54 "InterlockTablesModel" "passes" "[I") (by decide +kernel)) (fun _ h9 => h9) rfl dX9_listed_17 ?_
      refine lv_iload_n hx hb dX9_listed_20 rfl (lv_at hl 0 rfl) ?_
      refine va_iald hx hb hK hP 1 1 rfl rfl (vp_in_nI (by omega) (by omega)) dX9_listed_21 ?_
      refine lv_topi (fun x_2 ex_2 => ?_)
      obtain rfl : x_2 = ps0 k := by rw [ex_2]; rw [nI_clamp (by omega)]
      refine lv_if_le (tgt := 36) hx hb dX9_listed_22 (by decide) (fun c22 => ?_) (fun c22 => ?_)
      · refine lv_iinc (v := nI (k + 1)) (lv' := [(3, .int (nI (k + 1))), (2, .int lf), (0, .ref h0), (1, .int i)]) hx hb dX9_listed_36 hl (k := 0) rfl (nI_1 k) (by decide) rfl (fun ls hl => ?_)
        refine lv_goto (tgt := 4) hx hb dX9_listed_39 (by decide) ?_
        exact ih4 ((k + 1), lf) _ _ ls ⟨hP.sub [0, 1] rfl, hS, lv_sub hl [0, 1, 2, 3] rfl, ⟨by omega, fp_pk_s0' hL hk (by rw [decide_eq_true_iff]; exact Int32.not_lt.mpr c22)⟩⟩ (by (try dsimp only); omega)
      · refine lv_iload_n hx hb dX9_listed_25 rfl (lv_at hl 1 rfl) ?_
        refine lv_if_ne (tgt := 33) hx hb dX9_listed_26 (by decide) (fun c26 => ?_) (fun c26 => ?_)
        · refine lv_iinc (v := lf - 1) (lv' := [(2, .int (lf - 1)), (3, .int (nI k)), (0, .ref h0), (1, .int i)]) hx hb dX9_listed_33 hl (k := 1) rfl ((Int32.sub_eq_add_neg lf 1).symm) (by decide) rfl (fun ls hl => ?_)
          refine lv_iinc (v := nI (k + 1)) (lv' := [(3, .int (nI (k + 1))), (2, .int (lf - 1)), (0, .ref h0), (1, .int i)]) hx hb dX9_listed_36 hl (k := 1) rfl (nI_1 k) (by decide) rfl (fun ls hl => ?_)
          refine lv_goto (tgt := 4) hx hb dX9_listed_39 (by decide) ?_
          exact ih4 ((k + 1), (lf - 1)) _ _ ls ⟨hP.sub [0, 1] rfl, hS, lv_sub hl [0, 1, 2, 3] rfl, ⟨by omega, fp_pk_s1' hL hk (decide_eq_true (Int32.not_le.mp c22)) c26⟩⟩ (by (try dsimp only); omega)
        · refine lv_iload_n hx hb dX9_listed_29 rfl (lv_at hl 0 rfl) ?_
          refine lv_iconst (v := 1) hx hb dX9_listed_30 (by decide +kernel) ?_
          refine lv_iadd hx hb dX9_listed_31 ?_
          refine lv_topi (fun x_3 ex_3 => ?_)
          obtain rfl : x_3 = nI (k + 1) := by rw [ex_3]; exact nI_1 k
          exact W.iret hx hb hr (fun t ht hW => ⟨⟨_, (), rfl, fp_pk_s2' hL hk (decide_eq_true (Int32.not_le.mp c22)) c26, trivial⟩, hS.F ht⟩) hS.2.2 dX9_listed_32

set_option maxHeartbeats 4000000 in
set_option maxRecDepth 100000 in
/-- reset -/
theorem c_M_reset (l : Launch) (D : va_G) (cy : Nat → ClassId) (e : Nat → Nat)  (h0 : Nat) (q : Nat → Nat) (wa : Nat) (i_size : Int32) (i_words : Int32) (i_next : Int32) (i_open : Int32) (i_stood : Int32) (i_nodes : Int32) (i_made : Int32) (i_tested : Int32) (i_length : Int32) (x : Int32) (h : Nat) (rw : Nat) (W0 : Nat → Int32) (F0_ : Nat → Int32) (S0 : Nat → Int32) (tp0 : Nat → Int32) (cn0 : Nat → Int32) (ac0 : Nat → Int32) (nu0 : Nat → Int32) (la0 : Nat → Int32) (lt0 : Nat → Int32) (i : Int32) (sz : Nat) (hh : h ≤ 1) (hrw : rw ≤ 40) (hrs : rws tp0 cn0 ac0 nu0 W0 F0_ S0 h rw) : Met l yX9_reset wsX9_reset ({ frames := 514, cells := 0, slots := 0, locals := 11021 }) (va_Pc [.ref h0, .int i] (mt_B D cy e [(h0, .inr (10, [.ref (q 0), .int i_size, .ref (q 1), .ref (q 2), .int i_words, .int i_next, .int i_open, .int i_stood, .ref (q 3), .ref (q 4), .ref (q 5), .int i_nodes, .int (nI h), .int i_made, .ref (q 6), .ref (q 7), .ref (q 8), .ref (q 9), .ref (q 10), .ref (q 11), .int (nI rw), .ref (q 12), .ref (q 13), .ref (q 14), .int x, .ref (q 15), .ref (q 16), .ref (q 17), .int i_tested, .ref (q 18), .ref wa, .int i_length])), (q 3, .inl (cy 1, 6000, .inl W0)), (q 4, .inl (cy 1, 6000, .inl F0_)), (q 5, .inl (cy 1, 6000, .inl S0)), (q 6, .inl (cy 1, 80, .inl tp0)), (q 13, .inl (cy 4, 40, .inl lt0))] sz)) (va_Qi (fun (r : Int32) (lt2 : (Nat → Int32)) => ((fp_rq rw i ∧ r = 0 ∧ lt2 = lt0) ∨ (∃ j, i = nI (j + 1) ∧ j < rw ∧ (r = if lt0 j = 0 ∨ ¬ ron W0 F0_ S0 tp0 x h j = 0 then 0 else 1) ∧ lt2 = if r = 0 then lt0 else upd lt0 j (vp_nar .boolean 0)))) (mt_Q D (fun lt2 => [(h0, .inr (10, [.ref (q 0), .int i_size, .ref (q 1), .ref (q 2), .int i_words, .int i_next, .int i_open, .int i_stood, .ref (q 3), .ref (q 4), .ref (q 5), .int i_nodes, .int (nI h), .int i_made, .ref (q 6), .ref (q 7), .ref (q 8), .ref (q 9), .ref (q 10), .ref (q 11), .int (nI rw), .ref (q 12), .ref (q 13), .ref (q 14), .int x, .ref (q 15), .ref (q 16), .ref (q 17), .int i_tested, .ref (q 18), .ref wa, .int i_length])), (q 3, .inl (cy 1, 6000, .inl W0)), (q 4, .inl (cy 1, 6000, .inl F0_)), (q 5, .inl (cy 1, 6000, .inl S0)), (q 6, .inl (cy 1, 80, .inl tp0)), (q 13, .inl (cy 4, 40, .inl lt2))]) (va_A [(h0, .inr (10, [.ref (q 0), .int i_size, .ref (q 1), .ref (q 2), .int i_words, .int i_next, .int i_open, .int i_stood, .ref (q 3), .ref (q 4), .ref (q 5), .int i_nodes, .int (nI h), .int i_made, .ref (q 6), .ref (q 7), .ref (q 8), .ref (q 9), .ref (q 10), .ref (q 11), .int (nI rw), .ref (q 12), .ref (q 13), .ref (q 14), .int x, .ref (q 15), .ref (q 16), .ref (q 17), .int i_tested, .ref (q 18), .ref wa, .int i_length])), (q 3, .inl (cy 1, 6000, .inl W0)), (q 4, .inl (cy 1, 6000, .inl F0_)), (q 5, .inl (cy 1, 6000, .inl S0)), (q 6, .inl (cy 1, 80, .inl tp0)), (q 13, .inl (cy 4, 40, .inl lt0))] sz)) (va_A [(h0, .inr (10, [.ref (q 0), .int i_size, .ref (q 1), .ref (q 2), .int i_words, .int i_next, .int i_open, .int i_stood, .ref (q 3), .ref (q 4), .ref (q 5), .int i_nodes, .int (nI h), .int i_made, .ref (q 6), .ref (q 7), .ref (q 8), .ref (q 9), .ref (q 10), .ref (q 11), .int (nI rw), .ref (q 12), .ref (q 13), .ref (q 14), .int x, .ref (q 15), .ref (q 16), .ref (q 17), .int i_tested, .ref (q 18), .ref wa, .int i_length])), (q 3, .inl (cy 1, 6000, .inl W0)), (q 4, .inl (cy 1, 6000, .inl F0_)), (q 5, .inl (cy 1, 6000, .inl S0)), (q 6, .inl (cy 1, 80, .inl tp0)), (q 13, .inl (cy 4, 40, .inl lt0))] sz)) (0) (0) (va_A [(h0, .inr (10, [.ref (q 0), .int i_size, .ref (q 1), .ref (q 2), .int i_words, .int i_next, .int i_open, .int i_stood, .ref (q 3), .ref (q 4), .ref (q 5), .int i_nodes, .int (nI h), .int i_made, .ref (q 6), .ref (q 7), .ref (q 8), .ref (q 9), .ref (q 10), .ref (q 11), .int (nI rw), .ref (q 12), .ref (q 13), .ref (q 14), .int x, .ref (q 15), .ref (q 16), .ref (q 17), .int i_tested, .ref (q 18), .ref wa, .int i_length])), (q 3, .inl (cy 1, 6000, .inl W0)), (q 4, .inl (cy 1, 6000, .inl F0_)), (q 5, .inl (cy 1, 6000, .inl S0)), (q 6, .inl (cy 1, 80, .inl tp0)), (q 13, .inl (cy 4, 40, .inl lt0))] sz) := by
  refine Met.ofW (cc := cX9_reset) (maxL := 2) (ret := (some .boolean)) (by decide) rfl ?_
  intro p ev s m args below meth c s₁ B hml hv
  obtain ⟨rfl, hsz, hP, hK, hD0, hG⟩ := hv
  have hx := B.exec
  have hb := B.bytes
  have hr := B.returns
  have hts := atoms_spec (ws := wsX9_reset) B.pre
  have hown : s.vm.findClass RX9 = some m.cls := findClass_of_methodNamed B.named
  have hlocks := B.notSynchronized
  subst hsz
  have hD := hD0.self (sz := s.heap.size)
  generalize hAe : va_A [(h0, .inr (10, [.ref (q 0), .int i_size, .ref (q 1), .ref (q 2), .int i_words, .int i_next, .int i_open, .int i_stood, .ref (q 3), .ref (q 4), .ref (q 5), .int i_nodes, .int (nI h), .int i_made, .ref (q 6), .ref (q 7), .ref (q 8), .ref (q 9), .ref (q 10), .ref (q 11), .int (nI rw), .ref (q 12), .ref (q 13), .ref (q 14), .int x, .ref (q 15), .ref (q 16), .ref (q 17), .int i_tested, .ref (q 18), .ref wa, .int i_length])), (q 3, .inl (cy 1, 6000, .inl W0)), (q 4, .inl (cy 1, 6000, .inl F0_)), (q 5, .inl (cy 1, 6000, .inl S0)), (q 6, .inl (cy 1, 80, .inl tp0)), (q 13, .inl (cy 4, 40, .inl lt0))] s.heap.size = A at hD hG ⊢
  have hA : ∀ q : Nat, s.heap.size ≤ q → A q := fun q h => by rw [← hAe]; exact Or.inr h
  have hS : va_S A s.heap s.heap [] := va_S.rf
  have hP : va_P D vwCl [(h0, .inr (10, [.ref (q 0), .int i_size, .ref (q 1), .ref (q 2), .int i_words, .int i_next, .int i_open, .int i_stood, .ref (q 3), .ref (q 4), .ref (q 5), .int i_nodes, .int (nI h), .int i_made, .ref (q 6), .ref (q 7), .ref (q 8), .ref (q 9), .ref (q 10), .ref (q 11), .int (nI rw), .ref (q 12), .ref (q 13), .ref (q 14), .int x, .ref (q 15), .ref (q 16), .ref (q 17), .int i_tested, .ref (q 18), .ref wa, .int i_length])), (q 3, .inl (cy 1, 6000, .inl W0)), (q 4, .inl (cy 1, 6000, .inl F0_)), (q 5, .inl (cy 1, 6000, .inl S0)), (q 6, .inl (cy 1, 80, .inl tp0)), (q 13, .inl (cy 4, 40, .inl lt0))] s.heap := hP
  have iX9 : ∀ w ∈ wsX90, w ∈ wsX9_reset := fun w h => List.mem_cons_of_mem _ (List.mem_append_right _ h)
  have hl := lv_entry ([.ref h0, .int i]) (n := 2) (Nat.le_of_ble_eq_true rfl)
  rw [lg_entry_eq]
  generalize (lg_sl ([.ref h0, .int i]) ++ List.replicate (2 - (lg_sl ([.ref h0, .int i])).length) Slot.unset).toArray = ls at hl ⊢
  have hl : lv_has ls 2 [(0, .ref h0), (1, .int i)] := hl
  refine lv_aload_n hx hb dX9_reset_0 rfl (lv_at hl 0 rfl) ?_
  refine lv_iload_n hx hb dX9_reset_1 rfl (lv_at hl 1 rfl) ?_
  refine pu_calli (va_runV (As := [.int i]) (rest := []) ⟨hx, hb, hml, hown, hts⟩ (c_M_isRow l D cy e h0 q wa i_size i_words i_next i_open i_stood i_nodes (nI h) i_made x i_tested i_length rw i ) (cwV 1 hts gX9_reset_X9_isRow rfl rfl rfl (by decide +kernel) ⟨Nat.le_of_ble_eq_true rfl, Nat.le_of_ble_eq_true rfl⟩) (pu_preV hP hK hS hG [0] rfl (q := (RX9, TX9, 32)) (ci := 10) (q0 := 0) rfl rfl) rfl rfl hl.1 rfl (lv_room (Nat.le_of_ble_eq_true rfl)) dX9_reset_2 ⟨(Nat.le_of_ble_eq_true rfl), (Nat.le_of_ble_eq_true rfl)⟩) hP hS (fun H locs hP hS => ?_)
  have hP : va_P D vwCl [(h0, .inr (10, [.ref (q 0), .int i_size, .ref (q 1), .ref (q 2), .int i_words, .int i_next, .int i_open, .int i_stood, .ref (q 3), .ref (q 4), .ref (q 5), .int i_nodes, .int (nI h), .int i_made, .ref (q 6), .ref (q 7), .ref (q 8), .ref (q 9), .ref (q 10), .ref (q 11), .int (nI rw), .ref (q 12), .ref (q 13), .ref (q 14), .int x, .ref (q 15), .ref (q 16), .ref (q 17), .int i_tested, .ref (q 18), .ref wa, .int i_length])), (q 3, .inl (cy 1, 6000, .inl W0)), (q 4, .inl (cy 1, 6000, .inl F0_)), (q 5, .inl (cy 1, 6000, .inl S0)), (q 6, .inl (cy 1, 80, .inl tp0)), (q 13, .inl (cy 4, 40, .inl lt0))] H := hP
  refine lv_if_eq (tgt := 29) hx hb dX9_reset_5 (by decide) (fun c5 => ?_) (fun c5 => ?_)
  · refine lv_iconst (v := 0) hx hb dX9_reset_29 (by decide +kernel) ?_
    have hP9 : va_P D vwCl [(h0, .inr (10, [.ref (q 0), .int i_size, .ref (q 1), .ref (q 2), .int i_words, .int i_next, .int i_open, .int i_stood, .ref (q 3), .ref (q 4), .ref (q 5), .int i_nodes, .int (nI h), .int i_made, .ref (q 6), .ref (q 7), .ref (q 8), .ref (q 9), .ref (q 10), .ref (q 11), .int (nI rw), .ref (q 12), .ref (q 13), .ref (q 14), .int x, .ref (q 15), .ref (q 16), .ref (q 17), .int i_tested, .ref (q 18), .ref wa, .int i_length])), (q 3, .inl (cy 1, 6000, .inl W0)), (q 4, .inl (cy 1, 6000, .inl F0_)), (q 5, .inl (cy 1, 6000, .inl S0)), (q 6, .inl (cy 1, 80, .inl tp0)), (q 13, .inl (cy 4, 40, .inl lt0))] H := hP.sub [0, 1, 2, 3, 4, 5] rfl
    have hD9 : va_D A [(h0, .inr (10, [.ref (q 0), .int i_size, .ref (q 1), .ref (q 2), .int i_words, .int i_next, .int i_open, .int i_stood, .ref (q 3), .ref (q 4), .ref (q 5), .int i_nodes, .int (nI h), .int i_made, .ref (q 6), .ref (q 7), .ref (q 8), .ref (q 9), .ref (q 10), .ref (q 11), .int (nI rw), .ref (q 12), .ref (q 13), .ref (q 14), .int x, .ref (q 15), .ref (q 16), .ref (q 17), .int i_tested, .ref (q 18), .ref wa, .int i_length])), (q 3, .inl (cy 1, 6000, .inl W0)), (q 4, .inl (cy 1, 6000, .inl F0_)), (q 5, .inl (cy 1, 6000, .inl S0)), (q 6, .inl (cy 1, 80, .inl tp0)), (q 13, .inl (cy 4, 40, .inl lt0))] := hD.sub [0, 1, 2, 3, 4, 5] (by decide) rfl
    refine W.widen (k := 0) (n := 0) (by omega) (by omega) ?_
    exact W.zret hx hb hr rfl (fun t ht hW => ⟨⟨_, lt0, rfl, Or.inl ⟨fp_rq_out c5, rfl, rfl⟩, by rw [ht]; exact hP9, hD9⟩, hS.F ht⟩) hS.2.2 dX9_reset_30
  · obtain ⟨j, hij, hj⟩ := row_ix c5 hrw
    have hk : j < rw := hj
    obtain ⟨n_, lo_, a_, hn_, htp_, ht_, hcn_, ha1_, ha8_⟩ := rws_row hrs hk hh
    refine lv_aload_n hx hb dX9_reset_8 rfl (lv_at hl 0 rfl) ?_
    refine va_get (D := D) (ci := 10) (v := .ref (q 13)) (C := RX9) (T := TX9) (N := 32) hx hb hts iX9 hown hK hP 0 rfl rfl 22 (by decide) (hts (.fieldLink RX9 51 "InterlockTablesModel" "latched" "[Z") (by decide +kernel)) (fun _ h9 => h9) rfl dX9_reset_9 ?_
    refine lv_iload_n hx hb dX9_reset_12 rfl (lv_at hl 1 rfl) ?_
    refine lv_iconst (v := 1) hx hb dX9_reset_13 (by decide +kernel) ?_
    refine lv_isub hx hb dX9_reset_14 ?_
    refine lv_topi (fun x_1 ex_1 => ?_)
    obtain rfl : x_1 = nI j := by rw [ex_1]; rw [hij]; exact nI_pred j
    refine va_zald hx hb hK hP 5 4 rfl rfl (vp_in_nI (by omega) (by omega)) dX9_reset_15 ?_
    refine lv_topi (fun x_2 ex_2 => ?_)
    obtain rfl : x_2 = lt0 j := by rw [ex_2]; rw [nI_clamp (by omega)]
    refine lv_if_eq (tgt := 29) hx hb dX9_reset_16 (by decide) (fun c16 => ?_) (fun c16 => ?_)
    · refine lv_iconst (v := 0) hx hb dX9_reset_29 (by decide +kernel) ?_
      have hP9 : va_P D vwCl [(h0, .inr (10, [.ref (q 0), .int i_size, .ref (q 1), .ref (q 2), .int i_words, .int i_next, .int i_open, .int i_stood, .ref (q 3), .ref (q 4), .ref (q 5), .int i_nodes, .int (nI h), .int i_made, .ref (q 6), .ref (q 7), .ref (q 8), .ref (q 9), .ref (q 10), .ref (q 11), .int (nI rw), .ref (q 12), .ref (q 13), .ref (q 14), .int x, .ref (q 15), .ref (q 16), .ref (q 17), .int i_tested, .ref (q 18), .ref wa, .int i_length])), (q 3, .inl (cy 1, 6000, .inl W0)), (q 4, .inl (cy 1, 6000, .inl F0_)), (q 5, .inl (cy 1, 6000, .inl S0)), (q 6, .inl (cy 1, 80, .inl tp0)), (q 13, .inl (cy 4, 40, .inl lt0))] H := hP.sub [0, 1, 2, 3, 4, 5] rfl
      have hD9 : va_D A [(h0, .inr (10, [.ref (q 0), .int i_size, .ref (q 1), .ref (q 2), .int i_words, .int i_next, .int i_open, .int i_stood, .ref (q 3), .ref (q 4), .ref (q 5), .int i_nodes, .int (nI h), .int i_made, .ref (q 6), .ref (q 7), .ref (q 8), .ref (q 9), .ref (q 10), .ref (q 11), .int (nI rw), .ref (q 12), .ref (q 13), .ref (q 14), .int x, .ref (q 15), .ref (q 16), .ref (q 17), .int i_tested, .ref (q 18), .ref wa, .int i_length])), (q 3, .inl (cy 1, 6000, .inl W0)), (q 4, .inl (cy 1, 6000, .inl F0_)), (q 5, .inl (cy 1, 6000, .inl S0)), (q 6, .inl (cy 1, 80, .inl tp0)), (q 13, .inl (cy 4, 40, .inl lt0))] := hD.sub [0, 1, 2, 3, 4, 5] (by decide) rfl
      refine W.widen (k := 0) (n := 0) (by omega) (by omega) ?_
      exact W.zret hx hb hr rfl (fun t ht hW => ⟨⟨_, lt0, rfl, Or.inr ⟨j, hij, hj, (if_pos (Or.inl c16)).symm, (if_pos rfl).symm⟩, by rw [ht]; exact hP9, hD9⟩, hS.F ht⟩) hS.2.2 dX9_reset_30
    · refine lv_aload_n hx hb dX9_reset_19 rfl (lv_at hl 0 rfl) ?_
      refine lv_iload_n hx hb dX9_reset_20 rfl (lv_at hl 1 rfl) ?_
      refine lv_iconst (v := 1) hx hb dX9_reset_21 (by decide +kernel) ?_
      refine lv_isub hx hb dX9_reset_22 ?_
      refine lv_topi (fun x_3 ex_3 => ?_)
      obtain rfl : x_3 = nI j := by rw [ex_3]; rw [hij]; exact nI_pred j
      refine pu_calli (va_runV (As := [.int (nI j)]) (rest := []) ⟨hx, hb, hml, hown, hts⟩ (c_M_isOn l D cy e h0 q wa i_size i_words i_next i_open i_stood i_nodes i_made (nI rw) i_tested i_length x h W0 F0_ S0 tp0 42 lo_ n_ j hh (by omega) hn_ htp_ ht_) (cwV 1 hts gX9_reset_X9_isOn rfl rfl rfl (by decide +kernel) ⟨Nat.le_of_ble_eq_true rfl, Nat.le_of_ble_eq_true rfl⟩) (pu_preV hP hK hS hG [0, 1, 2, 3, 4] rfl (q := (RX9, TX9, 32)) (ci := 10) (q0 := 0) rfl rfl) rfl rfl hl.1 rfl (lv_room (Nat.le_of_ble_eq_true rfl)) dX9_reset_23 ⟨(Nat.le_of_ble_eq_true rfl), (Nat.le_of_ble_eq_true rfl)⟩) hP hS (fun H locs hP hS => ?_)
      have hP : va_P D vwCl [(h0, .inr (10, [.ref (q 0), .int i_size, .ref (q 1), .ref (q 2), .int i_words, .int i_next, .int i_open, .int i_stood, .ref (q 3), .ref (q 4), .ref (q 5), .int i_nodes, .int (nI h), .int i_made, .ref (q 6), .ref (q 7), .ref (q 8), .ref (q 9), .ref (q 10), .ref (q 11), .int (nI rw), .ref (q 12), .ref (q 13), .ref (q 14), .int x, .ref (q 15), .ref (q 16), .ref (q 17), .int i_tested, .ref (q 18), .ref wa, .int i_length])), (q 3, .inl (cy 1, 6000, .inl W0)), (q 4, .inl (cy 1, 6000, .inl F0_)), (q 5, .inl (cy 1, 6000, .inl S0)), (q 6, .inl (cy 1, 80, .inl tp0)), (q 13, .inl (cy 4, 40, .inl lt0))] H := hP
      refine lv_topi (fun x_4 ex_4 => ?_)
      obtain rfl : x_4 = ron W0 F0_ S0 tp0 x h j := by rw [ex_4]; exact ron_eq htp_ hn_
      refine lv_if_eq (tgt := 31) hx hb dX9_reset_26 (by decide) (fun c26 => ?_) (fun c26 => ?_)
      · refine lv_aload_n hx hb dX9_reset_31 rfl (lv_at hl 0 rfl) ?_
        refine va_get (D := D) (ci := 10) (v := .ref (q 13)) (C := RX9) (T := TX9) (N := 32) hx hb hts iX9 hown hK hP 0 rfl rfl 22 (by decide) (hts (.fieldLink RX9 51 "InterlockTablesModel" "latched" "[Z") (by decide +kernel)) (fun _ h9 => h9) rfl dX9_reset_32 ?_
        refine lv_iload_n hx hb dX9_reset_35 rfl (lv_at hl 1 rfl) ?_
        refine lv_iconst (v := 1) hx hb dX9_reset_36 (by decide +kernel) ?_
        refine lv_isub hx hb dX9_reset_37 ?_
        refine lv_topi (fun x_5 ex_5 => ?_)
        obtain rfl : x_5 = nI j := by rw [ex_5]; rw [hij]; exact nI_pred j
        refine lv_iconst (v := 0) hx hb dX9_reset_38 (by decide +kernel) ?_
        refine va_zast hx hb hK hP hD hS 5 4 rfl rfl (vp_in_nI (by omega) (by omega)) dX9_reset_39 (fun H locs hP hD hS => ?_)
        have hP : va_P D vwCl [(h0, .inr (10, [.ref (q 0), .int i_size, .ref (q 1), .ref (q 2), .int i_words, .int i_next, .int i_open, .int i_stood, .ref (q 3), .ref (q 4), .ref (q 5), .int i_nodes, .int (nI h), .int i_made, .ref (q 6), .ref (q 7), .ref (q 8), .ref (q 9), .ref (q 10), .ref (q 11), .int (nI rw), .ref (q 12), .ref (q 13), .ref (q 14), .int x, .ref (q 15), .ref (q 16), .ref (q 17), .int i_tested, .ref (q 18), .ref wa, .int i_length])), (q 3, .inl (cy 1, 6000, .inl W0)), (q 4, .inl (cy 1, 6000, .inl F0_)), (q 5, .inl (cy 1, 6000, .inl S0)), (q 6, .inl (cy 1, 80, .inl tp0)), (q 13, .inl (cy 4, 40, .inl (upd lt0 (nI j).toNatClampNeg (vp_nar .boolean 0))))] H := hP
        have hD : va_D A [(h0, .inr (10, [.ref (q 0), .int i_size, .ref (q 1), .ref (q 2), .int i_words, .int i_next, .int i_open, .int i_stood, .ref (q 3), .ref (q 4), .ref (q 5), .int i_nodes, .int (nI h), .int i_made, .ref (q 6), .ref (q 7), .ref (q 8), .ref (q 9), .ref (q 10), .ref (q 11), .int (nI rw), .ref (q 12), .ref (q 13), .ref (q 14), .int x, .ref (q 15), .ref (q 16), .ref (q 17), .int i_tested, .ref (q 18), .ref wa, .int i_length])), (q 3, .inl (cy 1, 6000, .inl W0)), (q 4, .inl (cy 1, 6000, .inl F0_)), (q 5, .inl (cy 1, 6000, .inl S0)), (q 6, .inl (cy 1, 80, .inl tp0)), (q 13, .inl (cy 4, 40, .inl (upd lt0 (nI j).toNatClampNeg (vp_nar .boolean 0))))] := hD
        have ef_39 : (upd lt0 (nI j).toNatClampNeg (vp_nar .boolean 0)) = (upd lt0 j (vp_nar .boolean 0)) := by rw [nI_clamp (by omega)]
        rw [ef_39] at hP hD
        refine lv_iconst (v := 1) hx hb dX9_reset_40 (by decide +kernel) ?_
        have hP9 : va_P D vwCl [(h0, .inr (10, [.ref (q 0), .int i_size, .ref (q 1), .ref (q 2), .int i_words, .int i_next, .int i_open, .int i_stood, .ref (q 3), .ref (q 4), .ref (q 5), .int i_nodes, .int (nI h), .int i_made, .ref (q 6), .ref (q 7), .ref (q 8), .ref (q 9), .ref (q 10), .ref (q 11), .int (nI rw), .ref (q 12), .ref (q 13), .ref (q 14), .int x, .ref (q 15), .ref (q 16), .ref (q 17), .int i_tested, .ref (q 18), .ref wa, .int i_length])), (q 3, .inl (cy 1, 6000, .inl W0)), (q 4, .inl (cy 1, 6000, .inl F0_)), (q 5, .inl (cy 1, 6000, .inl S0)), (q 6, .inl (cy 1, 80, .inl tp0)), (q 13, .inl (cy 4, 40, .inl (upd lt0 j (vp_nar .boolean 0))))] H := hP.sub [0, 1, 2, 3, 4, 5] rfl
        have hD9 : va_D A [(h0, .inr (10, [.ref (q 0), .int i_size, .ref (q 1), .ref (q 2), .int i_words, .int i_next, .int i_open, .int i_stood, .ref (q 3), .ref (q 4), .ref (q 5), .int i_nodes, .int (nI h), .int i_made, .ref (q 6), .ref (q 7), .ref (q 8), .ref (q 9), .ref (q 10), .ref (q 11), .int (nI rw), .ref (q 12), .ref (q 13), .ref (q 14), .int x, .ref (q 15), .ref (q 16), .ref (q 17), .int i_tested, .ref (q 18), .ref wa, .int i_length])), (q 3, .inl (cy 1, 6000, .inl W0)), (q 4, .inl (cy 1, 6000, .inl F0_)), (q 5, .inl (cy 1, 6000, .inl S0)), (q 6, .inl (cy 1, 80, .inl tp0)), (q 13, .inl (cy 4, 40, .inl (upd lt0 j (vp_nar .boolean 0))))] := hD.sub [0, 1, 2, 3, 4, 5] (by decide) rfl
        refine W.widen (k := 0) (n := 0) (by omega) (by omega) ?_
        exact W.zret hx hb hr rfl (fun t ht hW => ⟨⟨_, (upd lt0 j (vp_nar .boolean 0)), rfl, Or.inr ⟨j, hij, hj, (if_neg (not_or.mpr ⟨c16, not_not_intro c26⟩)).symm, (if_neg (by decide)).symm⟩, by rw [ht]; exact hP9, hD9⟩, hS.F ht⟩) hS.2.2 dX9_reset_41
      · refine lv_iconst (v := 0) hx hb dX9_reset_29 (by decide +kernel) ?_
        have hP9 : va_P D vwCl [(h0, .inr (10, [.ref (q 0), .int i_size, .ref (q 1), .ref (q 2), .int i_words, .int i_next, .int i_open, .int i_stood, .ref (q 3), .ref (q 4), .ref (q 5), .int i_nodes, .int (nI h), .int i_made, .ref (q 6), .ref (q 7), .ref (q 8), .ref (q 9), .ref (q 10), .ref (q 11), .int (nI rw), .ref (q 12), .ref (q 13), .ref (q 14), .int x, .ref (q 15), .ref (q 16), .ref (q 17), .int i_tested, .ref (q 18), .ref wa, .int i_length])), (q 3, .inl (cy 1, 6000, .inl W0)), (q 4, .inl (cy 1, 6000, .inl F0_)), (q 5, .inl (cy 1, 6000, .inl S0)), (q 6, .inl (cy 1, 80, .inl tp0)), (q 13, .inl (cy 4, 40, .inl lt0))] H := hP.sub [0, 1, 2, 3, 4, 5] rfl
        have hD9 : va_D A [(h0, .inr (10, [.ref (q 0), .int i_size, .ref (q 1), .ref (q 2), .int i_words, .int i_next, .int i_open, .int i_stood, .ref (q 3), .ref (q 4), .ref (q 5), .int i_nodes, .int (nI h), .int i_made, .ref (q 6), .ref (q 7), .ref (q 8), .ref (q 9), .ref (q 10), .ref (q 11), .int (nI rw), .ref (q 12), .ref (q 13), .ref (q 14), .int x, .ref (q 15), .ref (q 16), .ref (q 17), .int i_tested, .ref (q 18), .ref wa, .int i_length])), (q 3, .inl (cy 1, 6000, .inl W0)), (q 4, .inl (cy 1, 6000, .inl F0_)), (q 5, .inl (cy 1, 6000, .inl S0)), (q 6, .inl (cy 1, 80, .inl tp0)), (q 13, .inl (cy 4, 40, .inl lt0))] := hD.sub [0, 1, 2, 3, 4, 5] (by decide) rfl
        refine W.widen (k := 0) (n := 0) (by omega) (by omega) ?_
        exact W.zret hx hb hr rfl (fun t ht hW => ⟨⟨_, lt0, rfl, Or.inr ⟨j, hij, hj, (if_pos (Or.inr c26)).symm, (if_pos rfl).symm⟩, by rw [ht]; exact hP9, hD9⟩, hS.F ht⟩) hS.2.2 dX9_reset_30

set_option maxHeartbeats 4000000 in
set_option maxRecDepth 100000 in
/-- row -/
theorem c_M_row (l : Launch) (D : va_G) (cy : Nat → ClassId) (e : Nat → Nat)  (h0 : Nat) (q : Nat → Nat) (wa : Nat) (i_size : Int32) (i_words : Int32) (i_next : Int32) (i_open : Int32) (i_stood : Int32) (i_nodes : Int32) (i_made : Int32) (i_tested : Int32) (i_length : Int32) (x : Int32) (h : Nat) (rw : Nat) (W0 : Nat → Int32) (F0_ : Nat → Int32) (S0 : Nat → Int32) (tp0 : Nat → Int32) (cn0 : Nat → Int32) (ac0 : Nat → Int32) (nu0 : Nat → Int32) (la0 : Nat → Int32) (ct0 : Nat → Int32) (lt0 : Nat → Int32) (ps0 : Nat → Int32) (co0 : Nat → Int32) (i : Int32) (w : Int32) (hh : h ≤ 1) (hrw : rw ≤ 40) (hrs : rws tp0 cn0 ac0 nu0 W0 F0_ S0 h rw) : Met l yX9_row wsX9_row ({ frames := 514, cells := 0, slots := 0, locals := 11021 }) (va_Pc [.ref h0, .int i, .int w] (pu_B D cy e [(h0, .inr (10, [.ref (q 0), .int i_size, .ref (q 1), .ref (q 2), .int i_words, .int i_next, .int i_open, .int i_stood, .ref (q 3), .ref (q 4), .ref (q 5), .int i_nodes, .int (nI h), .int i_made, .ref (q 6), .ref (q 7), .ref (q 8), .ref (q 9), .ref (q 10), .ref (q 11), .int (nI rw), .ref (q 12), .ref (q 13), .ref (q 14), .int x, .ref (q 15), .ref (q 16), .ref (q 17), .int i_tested, .ref (q 18), .ref wa, .int i_length])), (q 3, .inl (cy 1, 6000, .inl W0)), (q 4, .inl (cy 1, 6000, .inl F0_)), (q 5, .inl (cy 1, 6000, .inl S0)), (q 6, .inl (cy 1, 80, .inl tp0)), (q 7, .inl (cy 1, 80, .inl cn0)), (q 9, .inl (cy 1, 80, .inl nu0)), (q 10, .inl (cy 4, 80, .inl la0)), (q 12, .inl (cy 1, 40, .inl ct0)), (q 13, .inl (cy 4, 40, .inl lt0)), (q 14, .inl (cy 1, 40, .inl ps0)), (q 11, .inl (cy 1, 80, .inl co0))])) (va_Qi (fun (r : Int32) (_ : Unit) => ((fp_rq rw i ∧ r = -1) ∨ (∃ j, i = nI (j + 1) ∧ j < rw ∧ r = fp_r8 w (cn0 (40 * h + j)) (nu0 (40 * h + j)) (la0 (40 * h + j)) (ct0 j) (lt0 j) (ps0 j) (co0 (40 * h + j)) (ron W0 F0_ S0 tp0 x h j)))) (fun _ _ => True) (fun _ => False)) 0 0 (fun _ => False) := by
  refine Met.ofW (cc := cX9_row) (maxL := 4) (ret := (some .int)) (by decide) rfl ?_
  intro p ev s m args below meth c s₁ B hml hv
  obtain ⟨rfl, hP, hK, hG⟩ := hv
  have hx := B.exec
  have hb := B.bytes
  have hr := B.returns
  have hts := atoms_spec (ws := wsX9_row) B.pre
  have hown : s.vm.findClass RX9 = some m.cls := findClass_of_methodNamed B.named
  have hlocks := B.notSynchronized
  have hS : va_S (fun _ => False) s.heap s.heap [] := va_S.rf
  have hP : va_P D vwCl [(h0, .inr (10, [.ref (q 0), .int i_size, .ref (q 1), .ref (q 2), .int i_words, .int i_next, .int i_open, .int i_stood, .ref (q 3), .ref (q 4), .ref (q 5), .int i_nodes, .int (nI h), .int i_made, .ref (q 6), .ref (q 7), .ref (q 8), .ref (q 9), .ref (q 10), .ref (q 11), .int (nI rw), .ref (q 12), .ref (q 13), .ref (q 14), .int x, .ref (q 15), .ref (q 16), .ref (q 17), .int i_tested, .ref (q 18), .ref wa, .int i_length])), (q 3, .inl (cy 1, 6000, .inl W0)), (q 4, .inl (cy 1, 6000, .inl F0_)), (q 5, .inl (cy 1, 6000, .inl S0)), (q 6, .inl (cy 1, 80, .inl tp0)), (q 7, .inl (cy 1, 80, .inl cn0)), (q 9, .inl (cy 1, 80, .inl nu0)), (q 10, .inl (cy 4, 80, .inl la0)), (q 12, .inl (cy 1, 40, .inl ct0)), (q 13, .inl (cy 4, 40, .inl lt0)), (q 14, .inl (cy 1, 40, .inl ps0)), (q 11, .inl (cy 1, 80, .inl co0))] s.heap := hP
  have iX9 : ∀ w ∈ wsX90, w ∈ wsX9_row := fun w h => List.mem_cons_of_mem _ (List.mem_append_right _ h)
  have hl := lv_entry ([.ref h0, .int i, .int w]) (n := 4) (Nat.le_of_ble_eq_true rfl)
  rw [lg_entry_eq]
  generalize (lg_sl ([.ref h0, .int i, .int w]) ++ List.replicate (4 - (lg_sl ([.ref h0, .int i, .int w])).length) Slot.unset).toArray = ls at hl ⊢
  have hl : lv_has ls 4 [(0, .ref h0), (1, .int i), (2, .int w)] := hl
  refine lv_aload_n hx hb dX9_row_0 rfl (lv_at hl 0 rfl) ?_
  refine lv_iload_n hx hb dX9_row_1 rfl (lv_at hl 1 rfl) ?_
  refine pu_calli (va_runV (As := [.int i]) (rest := []) ⟨hx, hb, hml, hown, hts⟩ (c_M_isRow l D cy e h0 q wa i_size i_words i_next i_open i_stood i_nodes (nI h) i_made x i_tested i_length rw i ) (cwV 1 hts gX9_row_X9_isRow rfl rfl rfl (by decide +kernel) ⟨Nat.le_of_ble_eq_true rfl, Nat.le_of_ble_eq_true rfl⟩) (pu_preV hP hK hS hG [0] rfl (q := (RX9, TX9, 32)) (ci := 10) (q0 := 0) rfl rfl) rfl rfl hl.1 rfl (lv_room (Nat.le_of_ble_eq_true rfl)) dX9_row_2 ⟨(Nat.le_of_ble_eq_true rfl), (Nat.le_of_ble_eq_true rfl)⟩) hP hS (fun H locs hP hS => ?_)
  have hP : va_P D vwCl [(h0, .inr (10, [.ref (q 0), .int i_size, .ref (q 1), .ref (q 2), .int i_words, .int i_next, .int i_open, .int i_stood, .ref (q 3), .ref (q 4), .ref (q 5), .int i_nodes, .int (nI h), .int i_made, .ref (q 6), .ref (q 7), .ref (q 8), .ref (q 9), .ref (q 10), .ref (q 11), .int (nI rw), .ref (q 12), .ref (q 13), .ref (q 14), .int x, .ref (q 15), .ref (q 16), .ref (q 17), .int i_tested, .ref (q 18), .ref wa, .int i_length])), (q 3, .inl (cy 1, 6000, .inl W0)), (q 4, .inl (cy 1, 6000, .inl F0_)), (q 5, .inl (cy 1, 6000, .inl S0)), (q 6, .inl (cy 1, 80, .inl tp0)), (q 7, .inl (cy 1, 80, .inl cn0)), (q 9, .inl (cy 1, 80, .inl nu0)), (q 10, .inl (cy 4, 80, .inl la0)), (q 12, .inl (cy 1, 40, .inl ct0)), (q 13, .inl (cy 4, 40, .inl lt0)), (q 14, .inl (cy 1, 40, .inl ps0)), (q 11, .inl (cy 1, 80, .inl co0))] H := hP
  refine lv_if_ne (tgt := 10) hx hb dX9_row_5 (by decide) (fun c5 => ?_) (fun c5 => ?_)
  · obtain ⟨j, hij, hj⟩ := row_ix c5 hrw
    have hk : j < rw := hj
    obtain ⟨n_, lo_, a_, hn_, htp_, ht_, hcn_, ha1_, ha8_⟩ := rws_row hrs hk hh
    refine lv_bipush (v := 40) hx hb dX9_row_10 (by decide +kernel) ?_
    refine lv_aload_n hx hb dX9_row_12 rfl (lv_at hl 0 rfl) ?_
    refine va_get (D := D) (ci := 10) (v := .int (nI h)) (C := RX9) (T := TX9) (N := 32) hx hb hts iX9 hown hK hP 0 rfl rfl 12 (by decide) (hts (.fieldLink RX9 101 "InterlockTablesModel" "half" "I") (by decide +kernel)) (fun _ h9 => h9) rfl dX9_row_13 ?_
    refine lv_imul hx hb dX9_row_16 ?_
    refine lv_topi (fun x_1 ex_1 => ?_)
    obtain rfl : x_1 = nI (40 * h) := by rw [ex_1]; exact pk_mul 40 h
    refine lv_iload_n hx hb dX9_row_17 rfl (lv_at hl 1 rfl) ?_
    refine lv_iadd hx hb dX9_row_18 ?_
    refine lv_iconst (v := 1) hx hb dX9_row_19 (by decide +kernel) ?_
    refine lv_isub hx hb dX9_row_20 ?_
    refine lv_topi (fun x_2 ex_2 => ?_)
    obtain rfl : x_2 = nI (40 * h + j) := by rw [ex_2]; rw [hij, nI_add]; exact nI_pred (40 * h + j)
    refine lv_istore_n (lv' := [(3, .int (nI (40 * h + j))), (0, .ref h0), (1, .int i), (2, .int w)]) hx hb dX9_row_21 rfl hl (by decide) rfl (fun ls hl => ?_)
    refine lv_iload_n hx hb dX9_row_22 rfl (lv_at hl 3 rfl) ?_
    rcases pk_sw8 w with hsw | ⟨t9, ht9, hw9⟩
    · refine lv_tableOut (tgt := 155) hx hb dX9_row_23 hsw (by decide) ?_
      refine lv_iconst (v := -1) hx hb dX9_row_155 (by decide +kernel) ?_
      exact W.iret hx hb hr (fun t ht hW => ⟨⟨_, (), rfl, Or.inr ⟨j, hij, hj, (fp_r8_x hsw).symm⟩, trivial⟩, hS.F ht⟩) hS.2.2 dX9_row_156
    · rcases (show t9 = 0 ∨ t9 = 1 ∨ t9 = 2 ∨ t9 = 3 ∨ t9 = 4 ∨ t9 = 5 ∨ t9 = 6 ∨ t9 = 7 by omega) with h9 | h9 | h9 | h9 | h9 | h9 | h9 | h9
      · refine lv_topi (fun x_3 ex_3 => ?_)
        obtain rfl : x_3 = nI 0 := by rw [ex_3]; rw [hw9, h9]
        refine lv_tableIn (off := 45) (tgt := 68) hx hb dX9_row_23 (by decide) (by decide) rfl (by decide) ?_
        refine lv_aload_n hx hb dX9_row_68 rfl (lv_at hl 1 rfl) ?_
        refine va_get (D := D) (ci := 10) (v := .ref (q 7)) (C := RX9) (T := TX9) (N := 32) hx hb hts iX9 hown hK hP 0 rfl rfl 15 (by decide) (hts (.fieldLink RX9 32 "InterlockTablesModel" "actCounts" "[I") (by decide +kernel)) (fun _ h9 => h9) rfl dX9_row_69 ?_
        refine lv_iload_n hx hb dX9_row_72 rfl (lv_at hl 0 rfl) ?_
        refine va_iald hx hb hK hP 5 1 rfl rfl (vp_in_nI (by omega) (by omega)) dX9_row_73 ?_
        refine lv_topi (fun x_4 ex_4 => ?_)
        obtain rfl : x_4 = cn0 (40 * h + j) := by rw [ex_4]; rw [nI_clamp (by omega)]
        exact W.iret hx hb hr (fun t ht hW => ⟨⟨_, (), rfl, Or.inr ⟨j, hij, hj, by rw [hw9, h9]; exact (fp_r8_0).symm⟩, trivial⟩, hS.F ht⟩) hS.2.2 dX9_row_74
      · refine lv_topi (fun x_5 ex_5 => ?_)
        obtain rfl : x_5 = nI 1 := by rw [ex_5]; rw [hw9, h9]
        refine lv_tableIn (off := 52) (tgt := 75) hx hb dX9_row_23 (by decide) (by decide) rfl (by decide) ?_
        refine lv_aload_n hx hb dX9_row_75 rfl (lv_at hl 1 rfl) ?_
        refine va_get (D := D) (ci := 10) (v := .ref (q 9)) (C := RX9) (T := TX9) (N := 32) hx hb hts iX9 hown hK hP 0 rfl rfl 17 (by decide) (hts (.fieldLink RX9 38 "InterlockTablesModel" "numbers" "[I") (by decide +kernel)) (fun _ h9 => h9) rfl dX9_row_76 ?_
        refine lv_iload_n hx hb dX9_row_79 rfl (lv_at hl 0 rfl) ?_
        refine va_iald hx hb hK hP 6 1 rfl rfl (vp_in_nI (by omega) (by omega)) dX9_row_80 ?_
        refine lv_topi (fun x_6 ex_6 => ?_)
        obtain rfl : x_6 = nu0 (40 * h + j) := by rw [ex_6]; rw [nI_clamp (by omega)]
        exact W.iret hx hb hr (fun t ht hW => ⟨⟨_, (), rfl, Or.inr ⟨j, hij, hj, by rw [hw9, h9]; exact (fp_r8_1).symm⟩, trivial⟩, hS.F ht⟩) hS.2.2 dX9_row_81
      · refine lv_topi (fun x_7 ex_7 => ?_)
        obtain rfl : x_7 = nI 2 := by rw [ex_7]; rw [hw9, h9]
        refine lv_tableIn (off := 59) (tgt := 82) hx hb dX9_row_23 (by decide) (by decide) rfl (by decide) ?_
        refine lv_aload_n hx hb dX9_row_82 rfl (lv_at hl 1 rfl) ?_
        refine va_get (D := D) (ci := 10) (v := .ref (q 10)) (C := RX9) (T := TX9) (N := 32) hx hb hts iX9 hown hK hP 0 rfl rfl 18 (by decide) (hts (.fieldLink RX9 41 "InterlockTablesModel" "latches" "[Z") (by decide +kernel)) (fun _ h9 => h9) rfl dX9_row_83 ?_
        refine lv_iload_n hx hb dX9_row_86 rfl (lv_at hl 0 rfl) ?_
        refine va_zald hx hb hK hP 7 4 rfl rfl (vp_in_nI (by omega) (by omega)) dX9_row_87 ?_
        refine lv_topi (fun x_8 ex_8 => ?_)
        obtain rfl : x_8 = la0 (40 * h + j) := by rw [ex_8]; rw [nI_clamp (by omega)]
        refine lv_if_eq (tgt := 95) hx hb dX9_row_88 (by decide) (fun c88 => ?_) (fun c88 => ?_)
        · refine lv_iconst (v := 0) hx hb dX9_row_95 (by decide +kernel) ?_
          exact W.iret hx hb hr (fun t ht hW => ⟨⟨_, (), rfl, Or.inr ⟨j, hij, hj, by rw [hw9, h9]; exact (fp_r8_2.trans (if_pos c88)).symm⟩, trivial⟩, hS.F ht⟩) hS.2.2 dX9_row_96
        · refine lv_iconst (v := 1) hx hb dX9_row_91 (by decide +kernel) ?_
          refine lv_goto (tgt := 96) hx hb dX9_row_92 (by decide) ?_
          exact W.iret hx hb hr (fun t ht hW => ⟨⟨_, (), rfl, Or.inr ⟨j, hij, hj, by rw [hw9, h9]; exact (fp_r8_2.trans (if_neg c88)).symm⟩, trivial⟩, hS.F ht⟩) hS.2.2 dX9_row_96
      · refine lv_topi (fun x_9 ex_9 => ?_)
        obtain rfl : x_9 = nI 3 := by rw [ex_9]; rw [hw9, h9]
        refine lv_tableIn (off := 74) (tgt := 97) hx hb dX9_row_23 (by decide) (by decide) rfl (by decide) ?_
        refine lv_aload_n hx hb dX9_row_97 rfl (lv_at hl 1 rfl) ?_
        refine va_get (D := D) (ci := 10) (v := .ref (q 12)) (C := RX9) (T := TX9) (N := 32) hx hb hts iX9 hown hK hP 0 rfl rfl 21 (by decide) (hts (.fieldLink RX9 48 "InterlockTablesModel" "counts" "[I") (by decide +kernel)) (fun _ h9 => h9) rfl dX9_row_98 ?_
        refine lv_iload_n hx hb dX9_row_101 rfl (lv_at hl 2 rfl) ?_
        refine lv_iconst (v := 1) hx hb dX9_row_102 (by decide +kernel) ?_
        refine lv_isub hx hb dX9_row_103 ?_
        refine lv_topi (fun x_10 ex_10 => ?_)
        obtain rfl : x_10 = nI j := by rw [ex_10]; rw [hij]; exact nI_pred j
        refine va_iald hx hb hK hP 8 1 rfl rfl (vp_in_nI (by omega) (by omega)) dX9_row_104 ?_
        refine lv_topi (fun x_11 ex_11 => ?_)
        obtain rfl : x_11 = ct0 j := by rw [ex_11]; rw [nI_clamp (by omega)]
        exact W.iret hx hb hr (fun t ht hW => ⟨⟨_, (), rfl, Or.inr ⟨j, hij, hj, by rw [hw9, h9]; exact (fp_r8_3).symm⟩, trivial⟩, hS.F ht⟩) hS.2.2 dX9_row_105
      · refine lv_topi (fun x_12 ex_12 => ?_)
        obtain rfl : x_12 = nI 4 := by rw [ex_12]; rw [hw9, h9]
        refine lv_tableIn (off := 83) (tgt := 106) hx hb dX9_row_23 (by decide) (by decide) rfl (by decide) ?_
        refine lv_aload_n hx hb dX9_row_106 rfl (lv_at hl 1 rfl) ?_
        refine va_get (D := D) (ci := 10) (v := .ref (q 13)) (C := RX9) (T := TX9) (N := 32) hx hb hts iX9 hown hK hP 0 rfl rfl 22 (by decide) (hts (.fieldLink RX9 51 "InterlockTablesModel" "latched" "[Z") (by decide +kernel)) (fun _ h9 => h9) rfl dX9_row_107 ?_
        refine lv_iload_n hx hb dX9_row_110 rfl (lv_at hl 2 rfl) ?_
        refine lv_iconst (v := 1) hx hb dX9_row_111 (by decide +kernel) ?_
        refine lv_isub hx hb dX9_row_112 ?_
        refine lv_topi (fun x_13 ex_13 => ?_)
        obtain rfl : x_13 = nI j := by rw [ex_13]; rw [hij]; exact nI_pred j
        refine va_zald hx hb hK hP 9 4 rfl rfl (vp_in_nI (by omega) (by omega)) dX9_row_113 ?_
        refine lv_topi (fun x_14 ex_14 => ?_)
        obtain rfl : x_14 = lt0 j := by rw [ex_14]; rw [nI_clamp (by omega)]
        refine lv_if_eq (tgt := 121) hx hb dX9_row_114 (by decide) (fun c114 => ?_) (fun c114 => ?_)
        · refine lv_iconst (v := 0) hx hb dX9_row_121 (by decide +kernel) ?_
          exact W.iret hx hb hr (fun t ht hW => ⟨⟨_, (), rfl, Or.inr ⟨j, hij, hj, by rw [hw9, h9]; exact (fp_r8_4.trans (if_pos c114)).symm⟩, trivial⟩, hS.F ht⟩) hS.2.2 dX9_row_122
        · refine lv_iconst (v := 1) hx hb dX9_row_117 (by decide +kernel) ?_
          refine lv_goto (tgt := 122) hx hb dX9_row_118 (by decide) ?_
          exact W.iret hx hb hr (fun t ht hW => ⟨⟨_, (), rfl, Or.inr ⟨j, hij, hj, by rw [hw9, h9]; exact (fp_r8_4.trans (if_neg c114)).symm⟩, trivial⟩, hS.F ht⟩) hS.2.2 dX9_row_122
      · refine lv_topi (fun x_15 ex_15 => ?_)
        obtain rfl : x_15 = nI 5 := by rw [ex_15]; rw [hw9, h9]
        refine lv_tableIn (off := 100) (tgt := 123) hx hb dX9_row_23 (by decide) (by decide) rfl (by decide) ?_
        refine lv_aload_n hx hb dX9_row_123 rfl (lv_at hl 1 rfl) ?_
        refine va_get (D := D) (ci := 10) (v := .ref (q 14)) (C := RX9) (T := TX9) (N := 32) hx hb hts iX9 hown hK hP 0 rfl rfl 23 (by decide) (hts (.fieldLink RX9 54 "InterlockTablesModel" "passes" "[I") (by decide +kernel)) (fun _ h9 => h9) rfl dX9_row_124 ?_
        refine lv_iload_n hx hb dX9_row_127 rfl (lv_at hl 2 rfl) ?_
        refine lv_iconst (v := 1) hx hb dX9_row_128 (by decide +kernel) ?_
        refine lv_isub hx hb dX9_row_129 ?_
        refine lv_topi (fun x_16 ex_16 => ?_)
        obtain rfl : x_16 = nI j := by rw [ex_16]; rw [hij]; exact nI_pred j
        refine va_iald hx hb hK hP 10 1 rfl rfl (vp_in_nI (by omega) (by omega)) dX9_row_130 ?_
        refine lv_topi (fun x_17 ex_17 => ?_)
        obtain rfl : x_17 = ps0 j := by rw [ex_17]; rw [nI_clamp (by omega)]
        exact W.iret hx hb hr (fun t ht hW => ⟨⟨_, (), rfl, Or.inr ⟨j, hij, hj, by rw [hw9, h9]; exact (fp_r8_5).symm⟩, trivial⟩, hS.F ht⟩) hS.2.2 dX9_row_131
      · refine lv_topi (fun x_18 ex_18 => ?_)
        obtain rfl : x_18 = nI 6 := by rw [ex_18]; rw [hw9, h9]
        refine lv_tableIn (off := 109) (tgt := 132) hx hb dX9_row_23 (by decide) (by decide) rfl (by decide) ?_
        refine lv_aload_n hx hb dX9_row_132 rfl (lv_at hl 1 rfl) ?_
        refine va_get (D := D) (ci := 10) (v := .ref (q 11)) (C := RX9) (T := TX9) (N := 32) hx hb hts iX9 hown hK hP 0 rfl rfl 19 (by decide) (hts (.fieldLink RX9 45 "InterlockTablesModel" "conditions" "[I") (by decide +kernel)) (fun _ h9 => h9) rfl dX9_row_133 ?_
        refine lv_iload_n hx hb dX9_row_136 rfl (lv_at hl 0 rfl) ?_
        refine va_iald hx hb hK hP 11 1 rfl rfl (vp_in_nI (by omega) (by omega)) dX9_row_137 ?_
        refine lv_topi (fun x_19 ex_19 => ?_)
        obtain rfl : x_19 = co0 (40 * h + j) := by rw [ex_19]; rw [nI_clamp (by omega)]
        exact W.iret hx hb hr (fun t ht hW => ⟨⟨_, (), rfl, Or.inr ⟨j, hij, hj, by rw [hw9, h9]; exact (fp_r8_6).symm⟩, trivial⟩, hS.F ht⟩) hS.2.2 dX9_row_138
      · refine lv_topi (fun x_20 ex_20 => ?_)
        obtain rfl : x_20 = nI 7 := by rw [ex_20]; rw [hw9, h9]
        refine lv_tableIn (off := 116) (tgt := 139) hx hb dX9_row_23 (by decide) (by decide) rfl (by decide) ?_
        refine lv_aload_n hx hb dX9_row_139 rfl (lv_at hl 1 rfl) ?_
        refine lv_iload_n hx hb dX9_row_140 rfl (lv_at hl 2 rfl) ?_
        refine lv_iconst (v := 1) hx hb dX9_row_141 (by decide +kernel) ?_
        refine lv_isub hx hb dX9_row_142 ?_
        refine lv_topi (fun x_21 ex_21 => ?_)
        obtain rfl : x_21 = nI j := by rw [ex_21]; rw [hij]; exact nI_pred j
        refine pu_calli (va_runV (As := [.int (nI j)]) (rest := []) ⟨hx, hb, hml, hown, hts⟩ (c_M_isOn l D cy e h0 q wa i_size i_words i_next i_open i_stood i_nodes i_made (nI rw) i_tested i_length x h W0 F0_ S0 tp0 42 lo_ n_ j hh (by omega) hn_ htp_ ht_) (cwV 1 hts gX9_row_X9_isOn rfl rfl rfl (by decide +kernel) ⟨Nat.le_of_ble_eq_true rfl, Nat.le_of_ble_eq_true rfl⟩) (pu_preV hP hK hS hG [0, 1, 2, 3, 4] rfl (q := (RX9, TX9, 32)) (ci := 10) (q0 := 0) rfl rfl) rfl rfl hl.1 rfl (lv_room (Nat.le_of_ble_eq_true rfl)) dX9_row_143 ⟨(Nat.le_of_ble_eq_true rfl), (Nat.le_of_ble_eq_true rfl)⟩) hP hS (fun H locs hP hS => ?_)
        have hP : va_P D vwCl [(h0, .inr (10, [.ref (q 0), .int i_size, .ref (q 1), .ref (q 2), .int i_words, .int i_next, .int i_open, .int i_stood, .ref (q 3), .ref (q 4), .ref (q 5), .int i_nodes, .int (nI h), .int i_made, .ref (q 6), .ref (q 7), .ref (q 8), .ref (q 9), .ref (q 10), .ref (q 11), .int (nI rw), .ref (q 12), .ref (q 13), .ref (q 14), .int x, .ref (q 15), .ref (q 16), .ref (q 17), .int i_tested, .ref (q 18), .ref wa, .int i_length])), (q 3, .inl (cy 1, 6000, .inl W0)), (q 4, .inl (cy 1, 6000, .inl F0_)), (q 5, .inl (cy 1, 6000, .inl S0)), (q 6, .inl (cy 1, 80, .inl tp0)), (q 7, .inl (cy 1, 80, .inl cn0)), (q 9, .inl (cy 1, 80, .inl nu0)), (q 10, .inl (cy 4, 80, .inl la0)), (q 12, .inl (cy 1, 40, .inl ct0)), (q 13, .inl (cy 4, 40, .inl lt0)), (q 14, .inl (cy 1, 40, .inl ps0)), (q 11, .inl (cy 1, 80, .inl co0))] H := hP
        refine lv_topi (fun x_22 ex_22 => ?_)
        obtain rfl : x_22 = ron W0 F0_ S0 tp0 x h j := by rw [ex_22]; exact ron_eq htp_ hn_
        refine lv_if_eq (tgt := 153) hx hb dX9_row_146 (by decide) (fun c146 => ?_) (fun c146 => ?_)
        · refine lv_iconst (v := 0) hx hb dX9_row_153 (by decide +kernel) ?_
          exact W.iret hx hb hr (fun t ht hW => ⟨⟨_, (), rfl, Or.inr ⟨j, hij, hj, by rw [hw9, h9]; exact (fp_r8_7.trans (if_pos c146)).symm⟩, trivial⟩, hS.F ht⟩) hS.2.2 dX9_row_154
        · refine lv_iconst (v := 1) hx hb dX9_row_149 (by decide +kernel) ?_
          refine lv_goto (tgt := 154) hx hb dX9_row_150 (by decide) ?_
          exact W.iret hx hb hr (fun t ht hW => ⟨⟨_, (), rfl, Or.inr ⟨j, hij, hj, by rw [hw9, h9]; exact (fp_r8_7.trans (if_neg c146)).symm⟩, trivial⟩, hS.F ht⟩) hS.2.2 dX9_row_154
  · refine lv_iconst (v := -1) hx hb dX9_row_8 (by decide +kernel) ?_
    exact W.iret hx hb hr (fun t ht hW => ⟨⟨_, (), rfl, Or.inl ⟨fp_rq_out c5, rfl⟩, trivial⟩, hS.F ht⟩) hS.2.2 dX9_row_9
