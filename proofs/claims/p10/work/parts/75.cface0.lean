-- deps: 51 66 68

/-- what is written already: its cells -/
def wgrp (cy : Nat → ClassId) : Option (Nat × Nat × Nat × Nat × (Nat → Int32)) → va_W
  | none => []
  | some (wo, rmw, lw, nw, fwv) => [(wo, .inr (1, [.int (nI 6000), .ref rmw, .int (nI lw)])), (rmw, .inl (cy 0, nw, .inl fwv))]
def wrv : Option (Nat × Nat × Nat × Nat × (Nat → Int32)) → Value
  | none => .null
  | some x => .ref x.1
def wok : Option (Nat × Nat × Nat × Nat × (Nat → Int32)) → Prop
  | none => True
  | some x => x.2.2.1 ≤ x.2.2.2.1 ∧ x.2.2.2.1 ≤ 8192
def isp (k : Int32) : Int32 := if k < 1 ∨ 999 < k then 0 else 1
theorem isp_0 {k : Int32} (h : isp k = 0) : k < 1 ∨ 999 < k := by
  by_cases hc : k < 1 ∨ 999 < k
  · exact hc
  · exact absurd (h.symm.trans (if_neg hc)) (by decide)
theorem isp_1 {k : Int32} (h : ¬ isp k = 0) : ¬ (k < 1 ∨ 999 < k) := fun hc => h (if_pos hc)
theorem k32 {k : Int32} (h1 : ¬ k < 0) (h2 : k < 32) : ∃ kn : Nat, kn < 32 ∧ k = nI kn := by
  obtain ⟨j, hj, rfl⟩ := nI_of h1
  have h3 := (nI_ltI (a := j) (b := 32) hj (by decide)).mp h2
  exact ⟨j, h3, rfl⟩
def cnd (cf : Nat → Int64) (k on r : Int32) (cf2 : Nat → Int64) : Prop := if k < 0 ∨ ¬ k < 16 then r = 0 ∧ cf2 = cf else (r = if lg_cmp (cf k.toNatClampNeg) (if on = 0 then 0 else -1) = 0 then 0 else 1) ∧ cf2 = vp_updL cf k.toNatClampNeg (if on = 0 then 0 else -1)
set_option maxHeartbeats 4000000 in
set_option maxRecDepth 100000 in
theorem c_IT_unit (l : Launch) (D : va_G) (cy : Nat → ClassId) (e : Nat → Nat)  (o : Nat) (tx : Nat) (cn : Nat) (tb : Nat) (lt : Nat) (nt : Nat) (rmt : Nat) (ft : Nat → Int32) (k : Int32) (sz : Nat) (hlt : lt ≤ nt) (hnt : 1 ≤ nt ∧ nt ≤ 8192) (hft : sb_Fit ft) (hl5 : lt ≤ 512) : Met l yX8_unit wsX8_unit ({ frames := 3, cells := 1, slots := 1024, locals := 103 }) (va_Pc [.ref o, .int k] (mt_B D cy e [(o, .inr (9, [.ref tx, .ref cn, .ref tb])), (tx, .inr (1, [.int (nI 3000), .ref rmt, .int (nI lt)])), (rmt, .inl (cy 0, nt, .inl ft))] sz)) (va_Qi (fun (r : Int32) (u : Nat × Nat × Nat × (Nat → Int32)) => match u with | (lt2, nt2, rm2, f2) => (((k < 1 ∨ 127 < k) ∧ r = 0 ∧ lt2 = lt ∧ nt2 = nt ∧ sb_Fit f2 ∧ f2 = ft) ∨ (¬ k < 1 ∧ ¬ 127 < k ∧ r = 1 ∧ lt2 = lt + 1 ∧ lt2 ≤ nt2 ∧ (nt2 = nt ∨ nt2 = 2 * nt ∧ nt ≤ lt) ∧ sb_Fit f2 ∧ (∀ j, j < lt → f2 j = ft j) ∧ f2 lt = vp_nar .byte k.toInt8.toInt32))) (mt_Q D (fun (u : Nat × Nat × Nat × (Nat → Int32)) => match u with | (lt2, nt2, rm2, f2) => [(o, .inr (9, [.ref tx, .ref cn, .ref tb])), (tx, .inr (1, [.int (nI 3000), .ref rm2, .int (nI lt2)])), (rm2, .inl (cy 0, nt2, .inl f2))]) (va_A [(o, .inr (9, [.ref tx, .ref cn, .ref tb])), (tx, .inr (1, [.int (nI 3000), .ref rmt, .int (nI lt)])), (rmt, .inl (cy 0, nt, .inl ft))] sz)) (va_A [(o, .inr (9, [.ref tx, .ref cn, .ref tb])), (tx, .inr (1, [.int (nI 3000), .ref rmt, .int (nI lt)])), (rmt, .inl (cy 0, nt, .inl ft))] sz)) (1) (1024) (va_A [(o, .inr (9, [.ref tx, .ref cn, .ref tb])), (tx, .inr (1, [.int (nI 3000), .ref rmt, .int (nI lt)])), (rmt, .inl (cy 0, nt, .inl ft))] sz) := by
  refine Met.ofW (cc := cX8_unit) (maxL := 2) (ret := (some .boolean)) (by decide) rfl ?_
  intro p ev s m args below meth c s₁ B hml hv
  obtain ⟨rfl, hsz, hP, hK, hD0, hG⟩ := hv
  have hx := B.exec
  have hb := B.bytes
  have hr := B.returns
  have hts := atoms_spec (ws := wsX8_unit) B.pre
  have hown : s.vm.findClass RX8 = some m.cls := findClass_of_methodNamed B.named
  have hlocks := B.notSynchronized
  subst hsz
  have hD := hD0.self (sz := s.heap.size)
  generalize hAe : va_A [(o, .inr (9, [.ref tx, .ref cn, .ref tb])), (tx, .inr (1, [.int (nI 3000), .ref rmt, .int (nI lt)])), (rmt, .inl (cy 0, nt, .inl ft))] s.heap.size = A at hD hG ⊢
  have hA : ∀ q : Nat, s.heap.size ≤ q → A q := fun q h => by rw [← hAe]; exact Or.inr h
  have hS : va_S A s.heap s.heap [] := va_S.rf
  have hP : va_P D vwCl [(o, .inr (9, [.ref tx, .ref cn, .ref tb])), (tx, .inr (1, [.int (nI 3000), .ref rmt, .int (nI lt)])), (rmt, .inl (cy 0, nt, .inl ft))] s.heap := hP
  have iX8 : ∀ w ∈ wsX80, w ∈ wsX8_unit := fun w h => List.mem_cons_of_mem _ (List.mem_append_left _ (List.mem_append_right _ h))
  have iX0 : ∀ w ∈ wsX00, w ∈ wsX8_unit := fun w h => List.mem_cons_of_mem _ (List.mem_append_right _ h)
  have hl := lv_entry ([.ref o, .int k]) (n := 2) (Nat.le_of_ble_eq_true rfl)
  rw [lg_entry_eq]
  generalize (lg_sl ([.ref o, .int k]) ++ List.replicate (2 - (lg_sl ([.ref o, .int k])).length) Slot.unset).toArray = ls at hl ⊢
  have hl : lv_has ls 2 [(0, .ref o), (1, .int k)] := hl
  refine lv_iload_n hx hb dX8_unit_0 rfl (lv_at hl 1 rfl) ?_
  refine lv_iconst (v := 1) hx hb dX8_unit_1 (by decide +kernel) ?_
  refine lv_icmp_lt (tgt := 26) hx hb dX8_unit_2 (by decide) (fun c2 => ?_) (fun c2 => ?_)
  · refine lv_iconst (v := 0) hx hb dX8_unit_26 (by decide +kernel) ?_
    have hP9 : va_P D vwCl [(o, .inr (9, [.ref tx, .ref cn, .ref tb])), (tx, .inr (1, [.int (nI 3000), .ref rmt, .int (nI lt)])), (rmt, .inl (cy 0, nt, .inl ft))] s.heap := hP.sub [0, 1, 2] rfl
    have hD9 : va_D A [(o, .inr (9, [.ref tx, .ref cn, .ref tb])), (tx, .inr (1, [.int (nI 3000), .ref rmt, .int (nI lt)])), (rmt, .inl (cy 0, nt, .inl ft))] := hD.sub [0, 1, 2] (by decide) rfl
    refine W.widen (k := 1) (n := 1024) (by omega) (by omega) ?_
    exact W.zret hx hb hr rfl (fun t ht hW => ⟨⟨_, (lt, nt, rmt, ft), rfl, Or.inl ⟨Or.inl c2, rfl, rfl, rfl, hft, rfl⟩, by rw [ht]; exact hP9, hD9⟩, hS.F ht⟩) hS.2.2 dX8_unit_27
  · refine lv_iload_n hx hb dX8_unit_5 rfl (lv_at hl 1 rfl) ?_
    refine lv_bipush (v := 127) hx hb dX8_unit_6 (by decide +kernel) ?_
    refine lv_icmp_gt (tgt := 26) hx hb dX8_unit_8 (by decide) (fun c8 => ?_) (fun c8 => ?_)
    · refine lv_iconst (v := 0) hx hb dX8_unit_26 (by decide +kernel) ?_
      have hP9 : va_P D vwCl [(o, .inr (9, [.ref tx, .ref cn, .ref tb])), (tx, .inr (1, [.int (nI 3000), .ref rmt, .int (nI lt)])), (rmt, .inl (cy 0, nt, .inl ft))] s.heap := hP.sub [0, 1, 2] rfl
      have hD9 : va_D A [(o, .inr (9, [.ref tx, .ref cn, .ref tb])), (tx, .inr (1, [.int (nI 3000), .ref rmt, .int (nI lt)])), (rmt, .inl (cy 0, nt, .inl ft))] := hD.sub [0, 1, 2] (by decide) rfl
      refine W.widen (k := 1) (n := 1024) (by omega) (by omega) ?_
      exact W.zret hx hb hr rfl (fun t ht hW => ⟨⟨_, (lt, nt, rmt, ft), rfl, Or.inl ⟨Or.inr c8, rfl, rfl, rfl, hft, rfl⟩, by rw [ht]; exact hP9, hD9⟩, hS.F ht⟩) hS.2.2 dX8_unit_27
    · refine lv_aload_n hx hb dX8_unit_11 rfl (lv_at hl 0 rfl) ?_
      refine va_get (D := D) (ci := 9) (v := .ref tx) (C := RX8) (T := TX8) (N := 3) hx hb hts iX8 hown hK hP 0 rfl rfl 0 (by decide) (hts (.fieldLink RX8 14 "InterlockTables" "text" "LInterlockTables$Bytes;") (by decide +kernel)) (fun _ h9 => h9) rfl dX8_unit_12 ?_
      refine lv_iload_n hx hb dX8_unit_15 rfl (lv_at hl 1 rfl) ?_
      refine mt_calli (wr := [(o, .inr (9, [.ref tx, .ref cn, .ref tb]))]) (va_runV (As := [.int k]) (rest := []) ⟨hx, hb, hml, hown, hts⟩ (c_Bytes_add l D cy e tx 3000 rmt lt nt ft k s.heap.size (by decide) hlt hnt hft) (cwV 1 hts gX8_unit_X0_add rfl rfl rfl (by decide +kernel) ⟨Nat.le_of_ble_eq_true rfl, Nat.le_of_ble_eq_true rfl⟩) (mt_preV hP hD hK hS hA hG [1, 2] rfl (by decide) (q := (RX0, TX0, 3)) (ci := 1) (q0 := 1) rfl rfl) rfl rfl hl.1 rfl (lv_room (Nat.le_of_ble_eq_true rfl)) dX8_unit_16 ⟨show 0 + (if lt < 3000 ∧ nt ≤ lt then 1 else 0) ≤ 1 from by split <;> omega, show 0 + (if lt < 3000 ∧ nt ≤ lt then 2 * nt else 0) ≤ 1024 from by split <;> omega⟩) hP hD hS hA [1, 2] [0] rfl rfl (by decide) (by decide) (fun r16 u H locs hw hP hD hS => ?_)
      obtain ⟨rm2_16, n2_16, len2_16, f2_16⟩ := u
      have hP : va_P D vwCl [(o, .inr (9, [.ref tx, .ref cn, .ref tb])), (tx, .inr (1, [.int (nI 3000), .ref rm2_16, .int (nI len2_16)])), (rm2_16, .inl (cy 0, n2_16, .inl f2_16))] H := hP
      have hD : va_D A [(o, .inr (9, [.ref tx, .ref cn, .ref tb])), (tx, .inr (1, [.int (nI 3000), .ref rm2_16, .int (nI len2_16)])), (rm2_16, .inl (cy 0, n2_16, .inl f2_16))] := hD
      replace hw : (r16 = 0 ∧ 3000 ≤ lt ∧ rm2_16 = rmt ∧ n2_16 = nt ∧ len2_16 = lt ∧ f2_16 = ft) ∨ (r16 = 1 ∧ lt < 3000 ∧ len2_16 = lt + 1 ∧ sb_Fit f2_16 ∧ ((lt < nt ∧ n2_16 = nt ∧ rm2_16 = rmt) ∨ (nt ≤ lt ∧ n2_16 = 2 * nt)) ∧ (∀ j, j < lt → f2_16 j = ft j) ∧ f2_16 lt = vp_nar .byte k.toInt8.toInt32) := hw
      refine W.widen (k := 1) (n := 1024) (by split <;> omega) (by split <;> omega) ?_
      obtain ⟨rfl, hlt2, hl2, hf2, hn2, hct⟩ : r16 = 1 ∧ lt < 3000 ∧ len2_16 = lt + 1 ∧ sb_Fit f2_16 ∧ ((lt < nt ∧ n2_16 = nt ∧ rm2_16 = rmt) ∨ (nt ≤ lt ∧ n2_16 = 2 * nt)) ∧ (∀ j, j < lt → f2_16 j = ft j) ∧ f2_16 lt = vp_nar .byte k.toInt8.toInt32 := hw.elim (fun h9 => absurd h9.2.1 (by omega)) id
      refine lv_if_eq (tgt := 26) hx hb dX8_unit_19 (by decide) (fun c19 => absurd c19 (by decide)) (fun _ => ?_)
      refine lv_iconst (v := 1) hx hb dX8_unit_22 (by decide +kernel) ?_
      refine lv_goto (tgt := 27) hx hb dX8_unit_23 (by decide) ?_
      have hP9 : va_P D vwCl [(o, .inr (9, [.ref tx, .ref cn, .ref tb])), (tx, .inr (1, [.int (nI 3000), .ref rm2_16, .int (nI len2_16)])), (rm2_16, .inl (cy 0, n2_16, .inl f2_16))] H := hP.sub [0, 1, 2] rfl
      have hD9 : va_D A [(o, .inr (9, [.ref tx, .ref cn, .ref tb])), (tx, .inr (1, [.int (nI 3000), .ref rm2_16, .int (nI len2_16)])), (rm2_16, .inl (cy 0, n2_16, .inl f2_16))] := hD.sub [0, 1, 2] (by decide) rfl
      refine W.widen (k := 1) (n := 1024) (by omega) (by omega) ?_
      exact W.zret hx hb hr rfl (fun t ht hW => ⟨⟨_, (len2_16, n2_16, rm2_16, f2_16), rfl, Or.inr ⟨c2, c8, rfl, hl2, by omega, by omega, hf2, hct⟩, by rw [ht]; exact hP9, hD9⟩, hS.F ht⟩) hS.2.2 dX8_unit_27

set_option maxHeartbeats 4000000 in
set_option maxRecDepth 100000 in
theorem c_IT_condition (l : Launch) (D : va_G) (cy : Nat → ClassId) (e : Nat → Nat)  (o : Nat) (tx : Nat) (cn : Nat) (tb : Nat) (cf : Nat → Int64) (k : Int32) (on : Int32) (sz : Nat)  : Met l yX8_condition wsX8_condition ({ frames := 0, cells := 0, slots := 0, locals := 0 }) (va_Pc [.ref o, .int k, .int on] (mt_B D cy e [(o, .inr (9, [.ref tx, .ref cn, .ref tb])), (cn, .inl (cy 2, 16, .inr (.inl cf)))] sz)) (va_Qi (fun (r : Int32) (cf2 : (Nat → Int64)) => cnd cf k on r cf2) (mt_Q D (fun cf2 => [(o, .inr (9, [.ref tx, .ref cn, .ref tb])), (cn, .inl (cy 2, 16, .inr (.inl cf2)))]) (va_A [(o, .inr (9, [.ref tx, .ref cn, .ref tb])), (cn, .inl (cy 2, 16, .inr (.inl cf)))] sz)) (va_A [(o, .inr (9, [.ref tx, .ref cn, .ref tb])), (cn, .inl (cy 2, 16, .inr (.inl cf)))] sz)) (0) (0) (va_A [(o, .inr (9, [.ref tx, .ref cn, .ref tb])), (cn, .inl (cy 2, 16, .inr (.inl cf)))] sz) := by
  refine Met.ofW (cc := cX8_condition) (maxL := 6) (ret := (some .boolean)) (by decide) rfl ?_
  intro p ev s m args below meth c s₁ B hml hv
  obtain ⟨rfl, hsz, hP, hK, hD0, hG⟩ := hv
  have hx := B.exec
  have hb := B.bytes
  have hr := B.returns
  have hts := atoms_spec (ws := wsX8_condition) B.pre
  have hown : s.vm.findClass RX8 = some m.cls := findClass_of_methodNamed B.named
  have hlocks := B.notSynchronized
  subst hsz
  have hD := hD0.self (sz := s.heap.size)
  generalize hAe : va_A [(o, .inr (9, [.ref tx, .ref cn, .ref tb])), (cn, .inl (cy 2, 16, .inr (.inl cf)))] s.heap.size = A at hD hG ⊢
  have hA : ∀ q : Nat, s.heap.size ≤ q → A q := fun q h => by rw [← hAe]; exact Or.inr h
  have hS : va_S A s.heap s.heap [] := va_S.rf
  have hP : va_P D vwCl [(o, .inr (9, [.ref tx, .ref cn, .ref tb])), (cn, .inl (cy 2, 16, .inr (.inl cf)))] s.heap := hP
  have iX8 : ∀ w ∈ wsX80, w ∈ wsX8_condition := fun w h => List.mem_cons_of_mem _ (List.mem_append_right _ h)
  have hl := lv_entry ([.ref o, .int k, .int on]) (n := 6) (Nat.le_of_ble_eq_true rfl)
  rw [lg_entry_eq]
  generalize (lg_sl ([.ref o, .int k, .int on]) ++ List.replicate (6 - (lg_sl ([.ref o, .int k, .int on])).length) Slot.unset).toArray = ls at hl ⊢
  have hl : lv_has ls 6 [(0, .ref o), (1, .int k), (2, .int on)] := hl
  refine lv_iload_n hx hb dX8_condition_0 rfl (lv_at hl 1 rfl) ?_
  refine lv_if_lt (tgt := 10) hx hb dX8_condition_1 (by decide) (fun c1 => ?_) (fun c1 => ?_)
  · refine lv_iconst (v := 0) hx hb dX8_condition_10 (by decide +kernel) ?_
    have hP9 : va_P D vwCl [(o, .inr (9, [.ref tx, .ref cn, .ref tb])), (cn, .inl (cy 2, 16, .inr (.inl cf)))] s.heap := hP.sub [0, 1] rfl
    have hD9 : va_D A [(o, .inr (9, [.ref tx, .ref cn, .ref tb])), (cn, .inl (cy 2, 16, .inr (.inl cf)))] := hD.sub [0, 1] (by decide) rfl
    refine W.widen (k := 0) (n := 0) (by omega) (by omega) ?_
    exact W.zret hx hb hr rfl (fun t ht hW => ⟨⟨_, cf, rfl, by unfold cnd; simp [*], by rw [ht]; exact hP9, hD9⟩, hS.F ht⟩) hS.2.2 dX8_condition_11
  · refine lv_iload_n hx hb dX8_condition_4 rfl (lv_at hl 1 rfl) ?_
    refine lv_bipush (v := 16) hx hb dX8_condition_5 (by decide +kernel) ?_
    refine lv_icmp_lt (tgt := 12) hx hb dX8_condition_7 (by decide) (fun c7 => ?_) (fun c7 => ?_)
    · refine lv_iload_n hx hb dX8_condition_12 rfl (lv_at hl 2 rfl) ?_
      refine lv_if_eq (tgt := 22) hx hb dX8_condition_13 (by decide) (fun c13 => ?_) (fun c13 => ?_)
      · refine lv_lconst (v := 0) hx hb dX8_condition_22 (by decide +kernel) ?_
        refine lv_lstore_n (lv' := [(3, .long 0), (0, .ref o), (1, .int k), (2, .int on)]) hx hb dX8_condition_23 rfl hl (by decide) rfl (fun ls hl => ?_)
        refine lv_aload_n hx hb dX8_condition_24 rfl (lv_at hl 1 rfl) ?_
        refine va_get (D := D) (ci := 9) (v := .ref cn) (C := RX8) (T := TX8) (N := 3) hx hb hts iX8 hown hK hP 0 rfl rfl 1 (by decide) (hts (.fieldLink RX8 18 "InterlockTables" "conditions" "[J") (by decide +kernel)) (fun _ h9 => h9) rfl dX8_condition_25 ?_
        refine lv_iload_n hx hb dX8_condition_28 rfl (lv_at hl 2 rfl) ?_
        refine va_lald hx hb hK hP 1 2 rfl rfl (pk_inlt (len := 16) c1 c7 (Nat.le_refl _) (by decide)) dX8_condition_29 ?_
        refine lv_lload_n hx hb dX8_condition_30 rfl (lv_at hl 0 rfl) ?_
        refine W.lcmp hx hb dX8_condition_31 ?_
        refine lv_if_eq (tgt := 39) hx hb dX8_condition_32 (by decide) (fun c32 => ?_) (fun c32 => ?_)
        · refine lv_iconst (v := 0) hx hb dX8_condition_39 (by decide +kernel) ?_
          refine lv_istore (lv' := [(5, .int 0), (3, .long 0), (0, .ref o), (1, .int k), (2, .int on)]) hx hb dX8_condition_40 hl (by decide) rfl (fun ls hl => ?_)
          refine lv_aload_n hx hb dX8_condition_42 rfl (lv_at hl 2 rfl) ?_
          refine va_get (D := D) (ci := 9) (v := .ref cn) (C := RX8) (T := TX8) (N := 3) hx hb hts iX8 hown hK hP 0 rfl rfl 1 (by decide) (hts (.fieldLink RX8 18 "InterlockTables" "conditions" "[J") (by decide +kernel)) (fun _ h9 => h9) rfl dX8_condition_43 ?_
          refine lv_iload_n hx hb dX8_condition_46 rfl (lv_at hl 3 rfl) ?_
          refine lv_lload_n hx hb dX8_condition_47 rfl (lv_at hl 1 rfl) ?_
          refine va_last hx hb hK hP hD hS 1 2 rfl rfl (pk_inlt (len := 16) c1 c7 (Nat.le_refl _) (by decide)) dX8_condition_48 (fun H locs hP hD hS => ?_)
          have hP : va_P D vwCl [(o, .inr (9, [.ref tx, .ref cn, .ref tb])), (cn, .inl (cy 2, 16, .inr (.inl (vp_updL cf k.toNatClampNeg 0))))] H := hP
          have hD : va_D A [(o, .inr (9, [.ref tx, .ref cn, .ref tb])), (cn, .inl (cy 2, 16, .inr (.inl (vp_updL cf k.toNatClampNeg 0))))] := hD
          refine lv_iload hx hb dX8_condition_49 (lv_at hl 0 rfl) ?_
          have hP9 : va_P D vwCl [(o, .inr (9, [.ref tx, .ref cn, .ref tb])), (cn, .inl (cy 2, 16, .inr (.inl (vp_updL cf k.toNatClampNeg 0))))] H := hP.sub [0, 1] rfl
          have hD9 : va_D A [(o, .inr (9, [.ref tx, .ref cn, .ref tb])), (cn, .inl (cy 2, 16, .inr (.inl (vp_updL cf k.toNatClampNeg 0))))] := hD.sub [0, 1] (by decide) rfl
          refine W.widen (k := 0) (n := 0) (by omega) (by omega) ?_
          exact W.zret hx hb hr rfl (fun t ht hW => ⟨⟨_, (vp_updL cf k.toNatClampNeg 0), rfl, by unfold cnd; simp [c1, c7, c13, c32], by rw [ht]; exact hP9, hD9⟩, hS.F ht⟩) hS.2.2 dX8_condition_51
        · refine lv_iconst (v := 1) hx hb dX8_condition_35 (by decide +kernel) ?_
          refine lv_goto (tgt := 40) hx hb dX8_condition_36 (by decide) ?_
          refine lv_istore (lv' := [(5, .int 1), (3, .long 0), (0, .ref o), (1, .int k), (2, .int on)]) hx hb dX8_condition_40 hl (by decide) rfl (fun ls hl => ?_)
          refine lv_aload_n hx hb dX8_condition_42 rfl (lv_at hl 2 rfl) ?_
          refine va_get (D := D) (ci := 9) (v := .ref cn) (C := RX8) (T := TX8) (N := 3) hx hb hts iX8 hown hK hP 0 rfl rfl 1 (by decide) (hts (.fieldLink RX8 18 "InterlockTables" "conditions" "[J") (by decide +kernel)) (fun _ h9 => h9) rfl dX8_condition_43 ?_
          refine lv_iload_n hx hb dX8_condition_46 rfl (lv_at hl 3 rfl) ?_
          refine lv_lload_n hx hb dX8_condition_47 rfl (lv_at hl 1 rfl) ?_
          refine va_last hx hb hK hP hD hS 1 2 rfl rfl (pk_inlt (len := 16) c1 c7 (Nat.le_refl _) (by decide)) dX8_condition_48 (fun H locs hP hD hS => ?_)
          have hP : va_P D vwCl [(o, .inr (9, [.ref tx, .ref cn, .ref tb])), (cn, .inl (cy 2, 16, .inr (.inl (vp_updL cf k.toNatClampNeg 0))))] H := hP
          have hD : va_D A [(o, .inr (9, [.ref tx, .ref cn, .ref tb])), (cn, .inl (cy 2, 16, .inr (.inl (vp_updL cf k.toNatClampNeg 0))))] := hD
          refine lv_iload hx hb dX8_condition_49 (lv_at hl 0 rfl) ?_
          have hP9 : va_P D vwCl [(o, .inr (9, [.ref tx, .ref cn, .ref tb])), (cn, .inl (cy 2, 16, .inr (.inl (vp_updL cf k.toNatClampNeg 0))))] H := hP.sub [0, 1] rfl
          have hD9 : va_D A [(o, .inr (9, [.ref tx, .ref cn, .ref tb])), (cn, .inl (cy 2, 16, .inr (.inl (vp_updL cf k.toNatClampNeg 0))))] := hD.sub [0, 1] (by decide) rfl
          refine W.widen (k := 0) (n := 0) (by omega) (by omega) ?_
          exact W.zret hx hb hr rfl (fun t ht hW => ⟨⟨_, (vp_updL cf k.toNatClampNeg 0), rfl, by unfold cnd; simp [c1, c7, c13, c32], by rw [ht]; exact hP9, hD9⟩, hS.F ht⟩) hS.2.2 dX8_condition_51
      · refine lv_ldc2 (v := -1) hx hb hown (hts (.constantLong RX8 65 (-1)) (by decide +kernel)) dX8_condition_16 ?_
        refine lv_goto (tgt := 23) hx hb dX8_condition_19 (by decide) ?_
        refine lv_lstore_n (lv' := [(3, .long (-1)), (0, .ref o), (1, .int k), (2, .int on)]) hx hb dX8_condition_23 rfl hl (by decide) rfl (fun ls hl => ?_)
        refine lv_aload_n hx hb dX8_condition_24 rfl (lv_at hl 1 rfl) ?_
        refine va_get (D := D) (ci := 9) (v := .ref cn) (C := RX8) (T := TX8) (N := 3) hx hb hts iX8 hown hK hP 0 rfl rfl 1 (by decide) (hts (.fieldLink RX8 18 "InterlockTables" "conditions" "[J") (by decide +kernel)) (fun _ h9 => h9) rfl dX8_condition_25 ?_
        refine lv_iload_n hx hb dX8_condition_28 rfl (lv_at hl 2 rfl) ?_
        refine va_lald hx hb hK hP 1 2 rfl rfl (pk_inlt (len := 16) c1 c7 (Nat.le_refl _) (by decide)) dX8_condition_29 ?_
        refine lv_lload_n hx hb dX8_condition_30 rfl (lv_at hl 0 rfl) ?_
        refine W.lcmp hx hb dX8_condition_31 ?_
        refine lv_if_eq (tgt := 39) hx hb dX8_condition_32 (by decide) (fun c32 => ?_) (fun c32 => ?_)
        · refine lv_iconst (v := 0) hx hb dX8_condition_39 (by decide +kernel) ?_
          refine lv_istore (lv' := [(5, .int 0), (3, .long (-1)), (0, .ref o), (1, .int k), (2, .int on)]) hx hb dX8_condition_40 hl (by decide) rfl (fun ls hl => ?_)
          refine lv_aload_n hx hb dX8_condition_42 rfl (lv_at hl 2 rfl) ?_
          refine va_get (D := D) (ci := 9) (v := .ref cn) (C := RX8) (T := TX8) (N := 3) hx hb hts iX8 hown hK hP 0 rfl rfl 1 (by decide) (hts (.fieldLink RX8 18 "InterlockTables" "conditions" "[J") (by decide +kernel)) (fun _ h9 => h9) rfl dX8_condition_43 ?_
          refine lv_iload_n hx hb dX8_condition_46 rfl (lv_at hl 3 rfl) ?_
          refine lv_lload_n hx hb dX8_condition_47 rfl (lv_at hl 1 rfl) ?_
          refine va_last hx hb hK hP hD hS 1 2 rfl rfl (pk_inlt (len := 16) c1 c7 (Nat.le_refl _) (by decide)) dX8_condition_48 (fun H locs hP hD hS => ?_)
          have hP : va_P D vwCl [(o, .inr (9, [.ref tx, .ref cn, .ref tb])), (cn, .inl (cy 2, 16, .inr (.inl (vp_updL cf k.toNatClampNeg (-1)))))] H := hP
          have hD : va_D A [(o, .inr (9, [.ref tx, .ref cn, .ref tb])), (cn, .inl (cy 2, 16, .inr (.inl (vp_updL cf k.toNatClampNeg (-1)))))] := hD
          refine lv_iload hx hb dX8_condition_49 (lv_at hl 0 rfl) ?_
          have hP9 : va_P D vwCl [(o, .inr (9, [.ref tx, .ref cn, .ref tb])), (cn, .inl (cy 2, 16, .inr (.inl (vp_updL cf k.toNatClampNeg (-1)))))] H := hP.sub [0, 1] rfl
          have hD9 : va_D A [(o, .inr (9, [.ref tx, .ref cn, .ref tb])), (cn, .inl (cy 2, 16, .inr (.inl (vp_updL cf k.toNatClampNeg (-1)))))] := hD.sub [0, 1] (by decide) rfl
          refine W.widen (k := 0) (n := 0) (by omega) (by omega) ?_
          exact W.zret hx hb hr rfl (fun t ht hW => ⟨⟨_, (vp_updL cf k.toNatClampNeg (-1)), rfl, by unfold cnd; simp [c1, c7, c13, c32], by rw [ht]; exact hP9, hD9⟩, hS.F ht⟩) hS.2.2 dX8_condition_51
        · refine lv_iconst (v := 1) hx hb dX8_condition_35 (by decide +kernel) ?_
          refine lv_goto (tgt := 40) hx hb dX8_condition_36 (by decide) ?_
          refine lv_istore (lv' := [(5, .int 1), (3, .long (-1)), (0, .ref o), (1, .int k), (2, .int on)]) hx hb dX8_condition_40 hl (by decide) rfl (fun ls hl => ?_)
          refine lv_aload_n hx hb dX8_condition_42 rfl (lv_at hl 2 rfl) ?_
          refine va_get (D := D) (ci := 9) (v := .ref cn) (C := RX8) (T := TX8) (N := 3) hx hb hts iX8 hown hK hP 0 rfl rfl 1 (by decide) (hts (.fieldLink RX8 18 "InterlockTables" "conditions" "[J") (by decide +kernel)) (fun _ h9 => h9) rfl dX8_condition_43 ?_
          refine lv_iload_n hx hb dX8_condition_46 rfl (lv_at hl 3 rfl) ?_
          refine lv_lload_n hx hb dX8_condition_47 rfl (lv_at hl 1 rfl) ?_
          refine va_last hx hb hK hP hD hS 1 2 rfl rfl (pk_inlt (len := 16) c1 c7 (Nat.le_refl _) (by decide)) dX8_condition_48 (fun H locs hP hD hS => ?_)
          have hP : va_P D vwCl [(o, .inr (9, [.ref tx, .ref cn, .ref tb])), (cn, .inl (cy 2, 16, .inr (.inl (vp_updL cf k.toNatClampNeg (-1)))))] H := hP
          have hD : va_D A [(o, .inr (9, [.ref tx, .ref cn, .ref tb])), (cn, .inl (cy 2, 16, .inr (.inl (vp_updL cf k.toNatClampNeg (-1)))))] := hD
          refine lv_iload hx hb dX8_condition_49 (lv_at hl 0 rfl) ?_
          have hP9 : va_P D vwCl [(o, .inr (9, [.ref tx, .ref cn, .ref tb])), (cn, .inl (cy 2, 16, .inr (.inl (vp_updL cf k.toNatClampNeg (-1)))))] H := hP.sub [0, 1] rfl
          have hD9 : va_D A [(o, .inr (9, [.ref tx, .ref cn, .ref tb])), (cn, .inl (cy 2, 16, .inr (.inl (vp_updL cf k.toNatClampNeg (-1)))))] := hD.sub [0, 1] (by decide) rfl
          refine W.widen (k := 0) (n := 0) (by omega) (by omega) ?_
          exact W.zret hx hb hr rfl (fun t ht hW => ⟨⟨_, (vp_updL cf k.toNatClampNeg (-1)), rfl, by unfold cnd; simp [c1, c7, c13, c32], by rw [ht]; exact hP9, hD9⟩, hS.F ht⟩) hS.2.2 dX8_condition_51
    · refine lv_iconst (v := 0) hx hb dX8_condition_10 (by decide +kernel) ?_
      have hP9 : va_P D vwCl [(o, .inr (9, [.ref tx, .ref cn, .ref tb])), (cn, .inl (cy 2, 16, .inr (.inl cf)))] s.heap := hP.sub [0, 1] rfl
      have hD9 : va_D A [(o, .inr (9, [.ref tx, .ref cn, .ref tb])), (cn, .inl (cy 2, 16, .inr (.inl cf)))] := hD.sub [0, 1] (by decide) rfl
      refine W.widen (k := 0) (n := 0) (by omega) (by omega) ?_
      exact W.zret hx hb hr rfl (fun t ht hW => ⟨⟨_, cf, rfl, by unfold cnd; simp [*], by rw [ht]; exact hP9, hD9⟩, hS.F ht⟩) hS.2.2 dX8_condition_11

set_option maxHeartbeats 4000000 in
set_option maxRecDepth 100000 in
theorem c_IT_tick (l : Launch) (D : va_G) (cy : Nat → ClassId) (e : Nat → Nat)  (o : Nat) (tx : Nat) (cn : Nat) (tb : Nat) (cf : Nat → Int64) (ro : Nat) (xp : Nat) (sv : Int32) (cd : Nat) (sz0 : Nat) (st : Nat) (n1 : Nat) (fc : Nat → Int32) (g : Nat → Int64) (mod : Int32) (ea : Nat) (ln : Nat) (na : Nat) (fl : Nat → Option Nat) (rs : List rwT) (w : Option (Nat × Nat × Nat × Nat × (Nat → Int32))) (vv : Nat → Int64) (k : Int32) (sz : Nat) (hsz : sz0 ≤ n1) (hn1 : n1 < 65536) (hls : lsok e ea na fl rs) (hna : na ≤ 60) (hln : rs.length = ln) (hev : cev rs fc sz0 cf vv) : Met l yX8_tick wsX8_tick ({ frames := 5, cells := 0, slots := 0, locals := 118 }) (va_Pc [.ref o, .int k] (mt_B D cy e ([(o, .inr (9, [.ref tx, .ref cn, .ref tb])), (cn, .inl (cy 2, 16, .inr (.inl cf))), (tb, .inr (6, [.ref ro, .ref xp, wrv w, .int sv])), (ro, .inr (0, [.int mod, .ref ea, .int (nI ln)])), (xp, .inr (2, [.ref cd, .int (nI sz0), .ref st])), (cd, .inl (cy 0, n1, .inl fc)), (st, .inl (cy 2, 32, .inr (.inl g)))] ++ (wgrp cy w ++ ltail cy ea na fl rs)) sz)) (va_Qi (fun (r : Int32) (u : List rwT × (Nat → Int64)) => match u with | (rs2, g2) => (r = if k < 0 ∨ ¬ k ≤ 100000 then 0 else 1) ∧ (lsok e ea na fl rs2 ∧ rs2.length = ln) ∧ (¬ (0 < k ∧ k ≤ 100000) → rs2 = rs) ∧ ((0 < k ∧ k ≤ 100000) → rup rs rs2 (tkP k vv))) (mt_Q D (fun (u : List rwT × (Nat → Int64)) => match u with | (rs2, g2) => ([(o, .inr (9, [.ref tx, .ref cn, .ref tb])), (cn, .inl (cy 2, 16, .inr (.inl cf))), (tb, .inr (6, [.ref ro, .ref xp, wrv w, .int sv])), (ro, .inr (0, [.int mod, .ref ea, .int (nI ln)])), (xp, .inr (2, [.ref cd, .int (nI sz0), .ref st])), (cd, .inl (cy 0, n1, .inl fc)), (st, .inl (cy 2, 32, .inr (.inl g2)))] ++ (wgrp cy w ++ ltail cy ea na fl rs2))) (va_A ([(o, .inr (9, [.ref tx, .ref cn, .ref tb])), (cn, .inl (cy 2, 16, .inr (.inl cf))), (tb, .inr (6, [.ref ro, .ref xp, wrv w, .int sv])), (ro, .inr (0, [.int mod, .ref ea, .int (nI ln)])), (xp, .inr (2, [.ref cd, .int (nI sz0), .ref st])), (cd, .inl (cy 0, n1, .inl fc)), (st, .inl (cy 2, 32, .inr (.inl g)))] ++ (wgrp cy w ++ ltail cy ea na fl rs)) sz)) (va_A ([(o, .inr (9, [.ref tx, .ref cn, .ref tb])), (cn, .inl (cy 2, 16, .inr (.inl cf))), (tb, .inr (6, [.ref ro, .ref xp, wrv w, .int sv])), (ro, .inr (0, [.int mod, .ref ea, .int (nI ln)])), (xp, .inr (2, [.ref cd, .int (nI sz0), .ref st])), (cd, .inl (cy 0, n1, .inl fc)), (st, .inl (cy 2, 32, .inr (.inl g)))] ++ (wgrp cy w ++ ltail cy ea na fl rs)) sz)) (0) (0) (va_A ([(o, .inr (9, [.ref tx, .ref cn, .ref tb])), (cn, .inl (cy 2, 16, .inr (.inl cf))), (tb, .inr (6, [.ref ro, .ref xp, wrv w, .int sv])), (ro, .inr (0, [.int mod, .ref ea, .int (nI ln)])), (xp, .inr (2, [.ref cd, .int (nI sz0), .ref st])), (cd, .inl (cy 0, n1, .inl fc)), (st, .inl (cy 2, 32, .inr (.inl g)))] ++ (wgrp cy w ++ ltail cy ea na fl rs)) sz) := by
  refine Met.ofW (cc := cX8_tick) (maxL := 2) (ret := (some .boolean)) (by decide) rfl ?_
  intro p ev s m args below meth c s₁ B hml hv
  obtain ⟨rfl, hsz, hP, hK, hD0, hG⟩ := hv
  have hx := B.exec
  have hb := B.bytes
  have hr := B.returns
  have hts := atoms_spec (ws := wsX8_tick) B.pre
  have hown : s.vm.findClass RX8 = some m.cls := findClass_of_methodNamed B.named
  have hlocks := B.notSynchronized
  subst hsz
  have hD := hD0.self (sz := s.heap.size)
  generalize hAe : va_A ([(o, .inr (9, [.ref tx, .ref cn, .ref tb])), (cn, .inl (cy 2, 16, .inr (.inl cf))), (tb, .inr (6, [.ref ro, .ref xp, wrv w, .int sv])), (ro, .inr (0, [.int mod, .ref ea, .int (nI ln)])), (xp, .inr (2, [.ref cd, .int (nI sz0), .ref st])), (cd, .inl (cy 0, n1, .inl fc)), (st, .inl (cy 2, 32, .inr (.inl g)))] ++ (wgrp cy w ++ ltail cy ea na fl rs)) s.heap.size = A at hD hG ⊢
  have hA : ∀ q : Nat, s.heap.size ≤ q → A q := fun q h => by rw [← hAe]; exact Or.inr h
  have hS : va_S A s.heap s.heap [] := va_S.rf
  have hP : va_P D vwCl ([(o, .inr (9, [.ref tx, .ref cn, .ref tb])), (cn, .inl (cy 2, 16, .inr (.inl cf))), (tb, .inr (6, [.ref ro, .ref xp, wrv w, .int sv])), (ro, .inr (0, [.int mod, .ref ea, .int (nI ln)])), (xp, .inr (2, [.ref cd, .int (nI sz0), .ref st])), (cd, .inl (cy 0, n1, .inl fc)), (st, .inl (cy 2, 32, .inr (.inl g)))] ++ (wgrp cy w ++ ltail cy ea na fl rs)) s.heap := hP
  have iX8 : ∀ w ∈ wsX80, w ∈ wsX8_tick := fun w h => List.mem_cons_of_mem _ (List.mem_append_left _ (List.mem_append_left _ (List.mem_append_left _ (List.mem_append_left _ (List.mem_append_right _ h)))))
  have iX5 : ∀ w ∈ wsX50, w ∈ wsX8_tick := fun w h => List.mem_cons_of_mem _ (List.mem_append_left _ (List.mem_append_left _ (List.mem_append_left _ (List.mem_append_right _ h))))
  have iJx4a65c : ∀ w ∈ wsJx4a65c0, w ∈ wsX8_tick := fun w h => List.mem_cons_of_mem _ (List.mem_append_left _ (List.mem_append_left _ (List.mem_append_right _ h)))
  have iX3 : ∀ w ∈ wsX30, w ∈ wsX8_tick := fun w h => List.mem_cons_of_mem _ (List.mem_append_left _ (List.mem_append_right _ h))
  have iX1 : ∀ w ∈ wsX10, w ∈ wsX8_tick := fun w h => List.mem_cons_of_mem _ (List.mem_append_right _ h)
  have hl := lv_entry ([.ref o, .int k]) (n := 2) (Nat.le_of_ble_eq_true rfl)
  rw [lg_entry_eq]
  generalize (lg_sl ([.ref o, .int k]) ++ List.replicate (2 - (lg_sl ([.ref o, .int k])).length) Slot.unset).toArray = ls at hl ⊢
  have hl : lv_has ls 2 [(0, .ref o), (1, .int k)] := hl
  rcases w with _ | ⟨wo, rmw, lw, nw, fwv⟩
  · have hP : va_P D vwCl ([(o, .inr (9, [.ref tx, .ref cn, .ref tb])), (cn, .inl (cy 2, 16, .inr (.inl cf))), (tb, .inr (6, [.ref ro, .ref xp, .null, .int sv])), (ro, .inr (0, [.int mod, .ref ea, .int (nI ln)])), (xp, .inr (2, [.ref cd, .int (nI sz0), .ref st])), (cd, .inl (cy 0, n1, .inl fc)), (st, .inl (cy 2, 32, .inr (.inl g)))] ++ (ltail cy ea na fl rs)) s.heap := hP
    have hD : va_D A ([(o, .inr (9, [.ref tx, .ref cn, .ref tb])), (cn, .inl (cy 2, 16, .inr (.inl cf))), (tb, .inr (6, [.ref ro, .ref xp, .null, .int sv])), (ro, .inr (0, [.int mod, .ref ea, .int (nI ln)])), (xp, .inr (2, [.ref cd, .int (nI sz0), .ref st])), (cd, .inl (cy 0, n1, .inl fc)), (st, .inl (cy 2, 32, .inr (.inl g)))] ++ (ltail cy ea na fl rs)) := hD
    refine lv_iload_n hx hb dX8_tick_0 rfl (lv_at hl 1 rfl) ?_
    refine lv_if_lt (tgt := 10) hx hb dX8_tick_1 (by decide) (fun c1 => ?_) (fun c1 => ?_)
    · refine lv_iconst (v := 0) hx hb dX8_tick_10 (by decide +kernel) ?_
      have hP : va_P D vwCl ([(o, .inr (9, [.ref tx, .ref cn, .ref tb])), (cn, .inl (cy 2, 16, .inr (.inl cf))), (tb, .inr (6, [.ref ro, .ref xp, wrv none, .int sv])), (ro, .inr (0, [.int mod, .ref ea, .int (nI ln)])), (xp, .inr (2, [.ref cd, .int (nI sz0), .ref st])), (cd, .inl (cy 0, n1, .inl fc)), (st, .inl (cy 2, 32, .inr (.inl g)))] ++ (wgrp cy none ++ ltail cy ea na fl rs)) s.heap := hP
      have hD : va_D A ([(o, .inr (9, [.ref tx, .ref cn, .ref tb])), (cn, .inl (cy 2, 16, .inr (.inl cf))), (tb, .inr (6, [.ref ro, .ref xp, wrv none, .int sv])), (ro, .inr (0, [.int mod, .ref ea, .int (nI ln)])), (xp, .inr (2, [.ref cd, .int (nI sz0), .ref st])), (cd, .inl (cy 0, n1, .inl fc)), (st, .inl (cy 2, 32, .inr (.inl g)))] ++ (wgrp cy none ++ ltail cy ea na fl rs)) := hD
      have hP9 : va_P D vwCl ([(o, .inr (9, [.ref tx, .ref cn, .ref tb])), (cn, .inl (cy 2, 16, .inr (.inl cf))), (tb, .inr (6, [.ref ro, .ref xp, wrv none, .int sv])), (ro, .inr (0, [.int mod, .ref ea, .int (nI ln)])), (xp, .inr (2, [.ref cd, .int (nI sz0), .ref st])), (cd, .inl (cy 0, n1, .inl fc)), (st, .inl (cy 2, 32, .inr (.inl g)))] ++ (wgrp cy none ++ ltail cy ea na fl rs)) s.heap := tl_subP hP [0, 1, 2, 3, 4, 5, 6] rfl
      have hD9 : va_D A ([(o, .inr (9, [.ref tx, .ref cn, .ref tb])), (cn, .inl (cy 2, 16, .inr (.inl cf))), (tb, .inr (6, [.ref ro, .ref xp, wrv none, .int sv])), (ro, .inr (0, [.int mod, .ref ea, .int (nI ln)])), (xp, .inr (2, [.ref cd, .int (nI sz0), .ref st])), (cd, .inl (cy 0, n1, .inl fc)), (st, .inl (cy 2, 32, .inr (.inl g)))] ++ (wgrp cy none ++ ltail cy ea na fl rs)) := tl_subD hD [0, 1, 2, 3, 4, 5, 6] (by decide) rfl
      refine W.widen (k := 0) (n := 0) (by omega) (by omega) ?_
      exact W.zret hx hb hr rfl (fun t ht hW => ⟨⟨_, (rs, g), rfl, ⟨by simp [c1], ⟨hls, hln⟩, fun _ => rfl, fun q9 => absurd q9.1 (Int32.not_lt.mpr (Int32.le_of_lt c1))⟩, by rw [ht]; exact hP9, hD9⟩, hS.F ht⟩) hS.2.2 dX8_tick_11
    · refine lv_iload_n hx hb dX8_tick_4 rfl (lv_at hl 1 rfl) ?_
      refine lv_ldc (v := 100000) hx hb hown (hts (.constant RX8 67 (100000)) (by decide +kernel)) dX8_tick_5 ?_
      refine lv_icmp_le (tgt := 12) hx hb dX8_tick_7 (by decide) (fun c7 => ?_) (fun c7 => ?_)
      · refine lv_aload_n hx hb dX8_tick_12 rfl (lv_at hl 0 rfl) ?_
        refine va_get (D := D) (ci := 9) (v := .ref tb) (C := RX8) (T := TX8) (N := 3) hx hb hts iX8 hown hK hP 0 rfl rfl 2 (by decide) (hts (.fieldLink RX8 25 "InterlockTables" "table" "LInterlockTables$Table;") (by decide +kernel)) (fun _ h9 => h9) rfl dX8_tick_13 ?_
        refine lv_iload_n hx hb dX8_tick_16 rfl (lv_at hl 1 rfl) ?_
        refine lv_aload_n hx hb dX8_tick_17 rfl (lv_at hl 0 rfl) ?_
        refine va_get (D := D) (ci := 9) (v := .ref cn) (C := RX8) (T := TX8) (N := 3) hx hb hts iX8 hown hK hP 0 rfl rfl 1 (by decide) (hts (.fieldLink RX8 18 "InterlockTables" "conditions" "[J") (by decide +kernel)) (fun _ h9 => h9) rfl dX8_tick_18 ?_
        refine mt_callvP (w1 := (fun (u : List rwT × (Nat → Int64)) => match u with | (rs2, g2) => [(tb, .inr (6, [.ref ro, .ref xp, .null, .int sv])), (ro, .inr (0, [.int mod, .ref ea, .int (nI ln)])), (xp, .inr (2, [.ref cd, .int (nI sz0), .ref st])), (cd, .inl (cy 0, n1, .inl fc)), (st, .inl (cy 2, 32, .inr (.inl g2))), (cn, .inl (cy 2, 16, .inr (.inl cf)))])) (T1 := (fun (u : List rwT × (Nat → Int64)) => match u with | (rs2, g2) => ltail cy ea na fl rs2)) (wr := [(o, .inr (9, [.ref tx, .ref cn, .ref tb]))]) (va_runV (As := [.int k, .ref cn]) (rest := []) ⟨hx, hb, hml, hown, hts⟩ (c_Table_letGoBy l D cy e tb ro xp .null sv cd sz0 st n1 fc g cn cf mod ea ln na fl rs vv k s.heap.size hsz hn1 hls hna hln hev) (cwV 2 hts gX8_tick_X5_letGoBy rfl rfl rfl (by decide +kernel) ⟨Nat.le_of_ble_eq_true rfl, Nat.le_of_ble_eq_true rfl⟩) (mt_preVT hP hD hK hS hA hG [2, 3, 4, 5, 6, 1] rfl (by decide) (q := (RX5, TX5, 4)) (ci := 6) (q0 := 2) rfl rfl) rfl rfl hl.1 rfl (lv_room (Nat.le_of_ble_eq_true rfl)) dX8_tick_21 ⟨(Nat.le_of_ble_eq_true rfl), (Nat.le_of_ble_eq_true rfl)⟩) hP hD hS hA [2, 3, 4, 5, 6, 1] [0] rfl rfl (by decide) (by decide) (fun u H locs hw hP hD hS => ?_)
        obtain ⟨rs2_21, g2_21⟩ := u
        have hP : va_P D vwCl ([(o, .inr (9, [.ref tx, .ref cn, .ref tb])), (tb, .inr (6, [.ref ro, .ref xp, .null, .int sv])), (ro, .inr (0, [.int mod, .ref ea, .int (nI ln)])), (xp, .inr (2, [.ref cd, .int (nI sz0), .ref st])), (cd, .inl (cy 0, n1, .inl fc)), (st, .inl (cy 2, 32, .inr (.inl g2_21))), (cn, .inl (cy 2, 16, .inr (.inl cf)))] ++ (ltail cy ea na fl rs2_21)) H := hP
        have hD : va_D A ([(o, .inr (9, [.ref tx, .ref cn, .ref tb])), (tb, .inr (6, [.ref ro, .ref xp, .null, .int sv])), (ro, .inr (0, [.int mod, .ref ea, .int (nI ln)])), (xp, .inr (2, [.ref cd, .int (nI sz0), .ref st])), (cd, .inl (cy 0, n1, .inl fc)), (st, .inl (cy 2, 32, .inr (.inl g2_21))), (cn, .inl (cy 2, 16, .inr (.inl cf)))] ++ (ltail cy ea na fl rs2_21)) := hD
        replace hw : (lsok e ea na fl rs2_21 ∧ rs2_21.length = ln) ∧ (¬ 1 ≤ k → rs2_21 = rs) ∧ (1 ≤ k → rup rs rs2_21 (tkP k vv)) := hw
        refine W.widen (k := 0) (n := 0) (by omega) (by omega) ?_
        have hw21 := hw
        refine lv_iconst (v := 1) hx hb dX8_tick_24 (by decide +kernel) ?_
        have hP : va_P D vwCl ([(o, .inr (9, [.ref tx, .ref cn, .ref tb])), (tb, .inr (6, [.ref ro, .ref xp, wrv none, .int sv])), (ro, .inr (0, [.int mod, .ref ea, .int (nI ln)])), (xp, .inr (2, [.ref cd, .int (nI sz0), .ref st])), (cd, .inl (cy 0, n1, .inl fc)), (st, .inl (cy 2, 32, .inr (.inl g2_21))), (cn, .inl (cy 2, 16, .inr (.inl cf)))] ++ (wgrp cy none ++ ltail cy ea na fl rs2_21)) H := hP
        have hD : va_D A ([(o, .inr (9, [.ref tx, .ref cn, .ref tb])), (tb, .inr (6, [.ref ro, .ref xp, wrv none, .int sv])), (ro, .inr (0, [.int mod, .ref ea, .int (nI ln)])), (xp, .inr (2, [.ref cd, .int (nI sz0), .ref st])), (cd, .inl (cy 0, n1, .inl fc)), (st, .inl (cy 2, 32, .inr (.inl g2_21))), (cn, .inl (cy 2, 16, .inr (.inl cf)))] ++ (wgrp cy none ++ ltail cy ea na fl rs2_21)) := hD
        have hP9 : va_P D vwCl ([(o, .inr (9, [.ref tx, .ref cn, .ref tb])), (cn, .inl (cy 2, 16, .inr (.inl cf))), (tb, .inr (6, [.ref ro, .ref xp, wrv none, .int sv])), (ro, .inr (0, [.int mod, .ref ea, .int (nI ln)])), (xp, .inr (2, [.ref cd, .int (nI sz0), .ref st])), (cd, .inl (cy 0, n1, .inl fc)), (st, .inl (cy 2, 32, .inr (.inl g2_21)))] ++ (wgrp cy none ++ ltail cy ea na fl rs2_21)) H := tl_subP hP [0, 6, 1, 2, 3, 4, 5] rfl
        have hD9 : va_D A ([(o, .inr (9, [.ref tx, .ref cn, .ref tb])), (cn, .inl (cy 2, 16, .inr (.inl cf))), (tb, .inr (6, [.ref ro, .ref xp, wrv none, .int sv])), (ro, .inr (0, [.int mod, .ref ea, .int (nI ln)])), (xp, .inr (2, [.ref cd, .int (nI sz0), .ref st])), (cd, .inl (cy 0, n1, .inl fc)), (st, .inl (cy 2, 32, .inr (.inl g2_21)))] ++ (wgrp cy none ++ ltail cy ea na fl rs2_21)) := tl_subD hD [0, 6, 1, 2, 3, 4, 5] (by decide) rfl
        refine W.widen (k := 0) (n := 0) (by omega) (by omega) ?_
        exact W.zret hx hb hr rfl (fun t ht hW => ⟨⟨_, (rs2_21, g2_21), rfl, ⟨by simp [c1, c7], hw21.1, fun q9 => hw21.2.1 (fun q8 => q9 ⟨one_le.mp q8, c7⟩), fun q9 => hw21.2.2 (one_le.mpr q9.1)⟩, by rw [ht]; exact hP9, hD9⟩, hS.F ht⟩) hS.2.2 dX8_tick_25
      · refine lv_iconst (v := 0) hx hb dX8_tick_10 (by decide +kernel) ?_
        have hP : va_P D vwCl ([(o, .inr (9, [.ref tx, .ref cn, .ref tb])), (cn, .inl (cy 2, 16, .inr (.inl cf))), (tb, .inr (6, [.ref ro, .ref xp, wrv none, .int sv])), (ro, .inr (0, [.int mod, .ref ea, .int (nI ln)])), (xp, .inr (2, [.ref cd, .int (nI sz0), .ref st])), (cd, .inl (cy 0, n1, .inl fc)), (st, .inl (cy 2, 32, .inr (.inl g)))] ++ (wgrp cy none ++ ltail cy ea na fl rs)) s.heap := hP
        have hD : va_D A ([(o, .inr (9, [.ref tx, .ref cn, .ref tb])), (cn, .inl (cy 2, 16, .inr (.inl cf))), (tb, .inr (6, [.ref ro, .ref xp, wrv none, .int sv])), (ro, .inr (0, [.int mod, .ref ea, .int (nI ln)])), (xp, .inr (2, [.ref cd, .int (nI sz0), .ref st])), (cd, .inl (cy 0, n1, .inl fc)), (st, .inl (cy 2, 32, .inr (.inl g)))] ++ (wgrp cy none ++ ltail cy ea na fl rs)) := hD
        have hP9 : va_P D vwCl ([(o, .inr (9, [.ref tx, .ref cn, .ref tb])), (cn, .inl (cy 2, 16, .inr (.inl cf))), (tb, .inr (6, [.ref ro, .ref xp, wrv none, .int sv])), (ro, .inr (0, [.int mod, .ref ea, .int (nI ln)])), (xp, .inr (2, [.ref cd, .int (nI sz0), .ref st])), (cd, .inl (cy 0, n1, .inl fc)), (st, .inl (cy 2, 32, .inr (.inl g)))] ++ (wgrp cy none ++ ltail cy ea na fl rs)) s.heap := tl_subP hP [0, 1, 2, 3, 4, 5, 6] rfl
        have hD9 : va_D A ([(o, .inr (9, [.ref tx, .ref cn, .ref tb])), (cn, .inl (cy 2, 16, .inr (.inl cf))), (tb, .inr (6, [.ref ro, .ref xp, wrv none, .int sv])), (ro, .inr (0, [.int mod, .ref ea, .int (nI ln)])), (xp, .inr (2, [.ref cd, .int (nI sz0), .ref st])), (cd, .inl (cy 0, n1, .inl fc)), (st, .inl (cy 2, 32, .inr (.inl g)))] ++ (wgrp cy none ++ ltail cy ea na fl rs)) := tl_subD hD [0, 1, 2, 3, 4, 5, 6] (by decide) rfl
        refine W.widen (k := 0) (n := 0) (by omega) (by omega) ?_
        exact W.zret hx hb hr rfl (fun t ht hW => ⟨⟨_, (rs, g), rfl, ⟨by simp [c1, c7], ⟨hls, hln⟩, fun _ => rfl, fun q9 => absurd q9.2 c7⟩, by rw [ht]; exact hP9, hD9⟩, hS.F ht⟩) hS.2.2 dX8_tick_11
  · have hP : va_P D vwCl ([(o, .inr (9, [.ref tx, .ref cn, .ref tb])), (cn, .inl (cy 2, 16, .inr (.inl cf))), (tb, .inr (6, [.ref ro, .ref xp, .ref wo, .int sv])), (ro, .inr (0, [.int mod, .ref ea, .int (nI ln)])), (xp, .inr (2, [.ref cd, .int (nI sz0), .ref st])), (cd, .inl (cy 0, n1, .inl fc)), (st, .inl (cy 2, 32, .inr (.inl g))), (wo, .inr (1, [.int (nI 6000), .ref rmw, .int (nI lw)])), (rmw, .inl (cy 0, nw, .inl fwv))] ++ (ltail cy ea na fl rs)) s.heap := hP
    have hD : va_D A ([(o, .inr (9, [.ref tx, .ref cn, .ref tb])), (cn, .inl (cy 2, 16, .inr (.inl cf))), (tb, .inr (6, [.ref ro, .ref xp, .ref wo, .int sv])), (ro, .inr (0, [.int mod, .ref ea, .int (nI ln)])), (xp, .inr (2, [.ref cd, .int (nI sz0), .ref st])), (cd, .inl (cy 0, n1, .inl fc)), (st, .inl (cy 2, 32, .inr (.inl g))), (wo, .inr (1, [.int (nI 6000), .ref rmw, .int (nI lw)])), (rmw, .inl (cy 0, nw, .inl fwv))] ++ (ltail cy ea na fl rs)) := hD
    refine lv_iload_n hx hb dX8_tick_0 rfl (lv_at hl 1 rfl) ?_
    refine lv_if_lt (tgt := 10) hx hb dX8_tick_1 (by decide) (fun c1 => ?_) (fun c1 => ?_)
    · refine lv_iconst (v := 0) hx hb dX8_tick_10 (by decide +kernel) ?_
      replace hP : va_P D vwCl ([(o, .inr (9, [.ref tx, .ref cn, .ref tb])), (cn, .inl (cy 2, 16, .inr (.inl cf))), (tb, .inr (6, [.ref ro, .ref xp, .ref wo, .int sv])), (ro, .inr (0, [.int mod, .ref ea, .int (nI ln)])), (xp, .inr (2, [.ref cd, .int (nI sz0), .ref st])), (cd, .inl (cy 0, n1, .inl fc)), (st, .inl (cy 2, 32, .inr (.inl g))), (wo, .inr (1, [.int (nI 6000), .ref rmw, .int (nI lw)])), (rmw, .inl (cy 0, nw, .inl fwv))] ++ (ltail cy ea na fl rs)) s.heap := tl_subP hP [0, 1, 2, 3, 4, 5, 6, 7, 8] rfl
      replace hD : va_D A ([(o, .inr (9, [.ref tx, .ref cn, .ref tb])), (cn, .inl (cy 2, 16, .inr (.inl cf))), (tb, .inr (6, [.ref ro, .ref xp, .ref wo, .int sv])), (ro, .inr (0, [.int mod, .ref ea, .int (nI ln)])), (xp, .inr (2, [.ref cd, .int (nI sz0), .ref st])), (cd, .inl (cy 0, n1, .inl fc)), (st, .inl (cy 2, 32, .inr (.inl g))), (wo, .inr (1, [.int (nI 6000), .ref rmw, .int (nI lw)])), (rmw, .inl (cy 0, nw, .inl fwv))] ++ (ltail cy ea na fl rs)) := tl_subD hD [0, 1, 2, 3, 4, 5, 6, 7, 8] (by decide) rfl
      have hP : va_P D vwCl ([(o, .inr (9, [.ref tx, .ref cn, .ref tb])), (cn, .inl (cy 2, 16, .inr (.inl cf))), (tb, .inr (6, [.ref ro, .ref xp, wrv (some (wo, rmw, lw, nw, fwv)), .int sv])), (ro, .inr (0, [.int mod, .ref ea, .int (nI ln)])), (xp, .inr (2, [.ref cd, .int (nI sz0), .ref st])), (cd, .inl (cy 0, n1, .inl fc)), (st, .inl (cy 2, 32, .inr (.inl g)))] ++ (wgrp cy (some (wo, rmw, lw, nw, fwv)) ++ ltail cy ea na fl rs)) s.heap := hP
      have hD : va_D A ([(o, .inr (9, [.ref tx, .ref cn, .ref tb])), (cn, .inl (cy 2, 16, .inr (.inl cf))), (tb, .inr (6, [.ref ro, .ref xp, wrv (some (wo, rmw, lw, nw, fwv)), .int sv])), (ro, .inr (0, [.int mod, .ref ea, .int (nI ln)])), (xp, .inr (2, [.ref cd, .int (nI sz0), .ref st])), (cd, .inl (cy 0, n1, .inl fc)), (st, .inl (cy 2, 32, .inr (.inl g)))] ++ (wgrp cy (some (wo, rmw, lw, nw, fwv)) ++ ltail cy ea na fl rs)) := hD
      have hP9 : va_P D vwCl ([(o, .inr (9, [.ref tx, .ref cn, .ref tb])), (cn, .inl (cy 2, 16, .inr (.inl cf))), (tb, .inr (6, [.ref ro, .ref xp, wrv (some (wo, rmw, lw, nw, fwv)), .int sv])), (ro, .inr (0, [.int mod, .ref ea, .int (nI ln)])), (xp, .inr (2, [.ref cd, .int (nI sz0), .ref st])), (cd, .inl (cy 0, n1, .inl fc)), (st, .inl (cy 2, 32, .inr (.inl g)))] ++ (wgrp cy (some (wo, rmw, lw, nw, fwv)) ++ ltail cy ea na fl rs)) s.heap := tl_subP hP [0, 1, 2, 3, 4, 5, 6] rfl
      have hD9 : va_D A ([(o, .inr (9, [.ref tx, .ref cn, .ref tb])), (cn, .inl (cy 2, 16, .inr (.inl cf))), (tb, .inr (6, [.ref ro, .ref xp, wrv (some (wo, rmw, lw, nw, fwv)), .int sv])), (ro, .inr (0, [.int mod, .ref ea, .int (nI ln)])), (xp, .inr (2, [.ref cd, .int (nI sz0), .ref st])), (cd, .inl (cy 0, n1, .inl fc)), (st, .inl (cy 2, 32, .inr (.inl g)))] ++ (wgrp cy (some (wo, rmw, lw, nw, fwv)) ++ ltail cy ea na fl rs)) := tl_subD hD [0, 1, 2, 3, 4, 5, 6] (by decide) rfl
      refine W.widen (k := 0) (n := 0) (by omega) (by omega) ?_
      exact W.zret hx hb hr rfl (fun t ht hW => ⟨⟨_, (rs, g), rfl, ⟨by simp [c1], ⟨hls, hln⟩, fun _ => rfl, fun q9 => absurd q9.1 (Int32.not_lt.mpr (Int32.le_of_lt c1))⟩, by rw [ht]; exact hP9, hD9⟩, hS.F ht⟩) hS.2.2 dX8_tick_11
    · refine lv_iload_n hx hb dX8_tick_4 rfl (lv_at hl 1 rfl) ?_
      refine lv_ldc (v := 100000) hx hb hown (hts (.constant RX8 67 (100000)) (by decide +kernel)) dX8_tick_5 ?_
      refine lv_icmp_le (tgt := 12) hx hb dX8_tick_7 (by decide) (fun c7 => ?_) (fun c7 => ?_)
      · refine lv_aload_n hx hb dX8_tick_12 rfl (lv_at hl 0 rfl) ?_
        refine va_get (D := D) (ci := 9) (v := .ref tb) (C := RX8) (T := TX8) (N := 3) hx hb hts iX8 hown hK hP 0 rfl rfl 2 (by decide) (hts (.fieldLink RX8 25 "InterlockTables" "table" "LInterlockTables$Table;") (by decide +kernel)) (fun _ h9 => h9) rfl dX8_tick_13 ?_
        refine lv_iload_n hx hb dX8_tick_16 rfl (lv_at hl 1 rfl) ?_
        refine lv_aload_n hx hb dX8_tick_17 rfl (lv_at hl 0 rfl) ?_
        refine va_get (D := D) (ci := 9) (v := .ref cn) (C := RX8) (T := TX8) (N := 3) hx hb hts iX8 hown hK hP 0 rfl rfl 1 (by decide) (hts (.fieldLink RX8 18 "InterlockTables" "conditions" "[J") (by decide +kernel)) (fun _ h9 => h9) rfl dX8_tick_18 ?_
        refine mt_callvP (w1 := (fun (u : List rwT × (Nat → Int64)) => match u with | (rs2, g2) => [(tb, .inr (6, [.ref ro, .ref xp, .ref wo, .int sv])), (ro, .inr (0, [.int mod, .ref ea, .int (nI ln)])), (xp, .inr (2, [.ref cd, .int (nI sz0), .ref st])), (cd, .inl (cy 0, n1, .inl fc)), (st, .inl (cy 2, 32, .inr (.inl g2))), (cn, .inl (cy 2, 16, .inr (.inl cf)))])) (T1 := (fun (u : List rwT × (Nat → Int64)) => match u with | (rs2, g2) => ltail cy ea na fl rs2)) (wr := [(o, .inr (9, [.ref tx, .ref cn, .ref tb])), (wo, .inr (1, [.int (nI 6000), .ref rmw, .int (nI lw)])), (rmw, .inl (cy 0, nw, .inl fwv))]) (va_runV (As := [.int k, .ref cn]) (rest := []) ⟨hx, hb, hml, hown, hts⟩ (c_Table_letGoBy l D cy e tb ro xp (.ref wo) sv cd sz0 st n1 fc g cn cf mod ea ln na fl rs vv k s.heap.size hsz hn1 hls hna hln hev) (cwV 2 hts gX8_tick_X5_letGoBy rfl rfl rfl (by decide +kernel) ⟨Nat.le_of_ble_eq_true rfl, Nat.le_of_ble_eq_true rfl⟩) (mt_preVT hP hD hK hS hA hG [2, 3, 4, 5, 6, 1] rfl (by decide) (q := (RX5, TX5, 4)) (ci := 6) (q0 := 2) rfl rfl) rfl rfl hl.1 rfl (lv_room (Nat.le_of_ble_eq_true rfl)) dX8_tick_21 ⟨(Nat.le_of_ble_eq_true rfl), (Nat.le_of_ble_eq_true rfl)⟩) hP hD hS hA [2, 3, 4, 5, 6, 1] [0, 7, 8] rfl rfl (by decide) (by decide) (fun u H locs hw hP hD hS => ?_)
        obtain ⟨rs2_21, g2_21⟩ := u
        have hP : va_P D vwCl ([(o, .inr (9, [.ref tx, .ref cn, .ref tb])), (wo, .inr (1, [.int (nI 6000), .ref rmw, .int (nI lw)])), (rmw, .inl (cy 0, nw, .inl fwv)), (tb, .inr (6, [.ref ro, .ref xp, .ref wo, .int sv])), (ro, .inr (0, [.int mod, .ref ea, .int (nI ln)])), (xp, .inr (2, [.ref cd, .int (nI sz0), .ref st])), (cd, .inl (cy 0, n1, .inl fc)), (st, .inl (cy 2, 32, .inr (.inl g2_21))), (cn, .inl (cy 2, 16, .inr (.inl cf)))] ++ (ltail cy ea na fl rs2_21)) H := hP
        have hD : va_D A ([(o, .inr (9, [.ref tx, .ref cn, .ref tb])), (wo, .inr (1, [.int (nI 6000), .ref rmw, .int (nI lw)])), (rmw, .inl (cy 0, nw, .inl fwv)), (tb, .inr (6, [.ref ro, .ref xp, .ref wo, .int sv])), (ro, .inr (0, [.int mod, .ref ea, .int (nI ln)])), (xp, .inr (2, [.ref cd, .int (nI sz0), .ref st])), (cd, .inl (cy 0, n1, .inl fc)), (st, .inl (cy 2, 32, .inr (.inl g2_21))), (cn, .inl (cy 2, 16, .inr (.inl cf)))] ++ (ltail cy ea na fl rs2_21)) := hD
        replace hw : (lsok e ea na fl rs2_21 ∧ rs2_21.length = ln) ∧ (¬ 1 ≤ k → rs2_21 = rs) ∧ (1 ≤ k → rup rs rs2_21 (tkP k vv)) := hw
        refine W.widen (k := 0) (n := 0) (by omega) (by omega) ?_
        have hw21 := hw
        refine lv_iconst (v := 1) hx hb dX8_tick_24 (by decide +kernel) ?_
        replace hP : va_P D vwCl ([(o, .inr (9, [.ref tx, .ref cn, .ref tb])), (tb, .inr (6, [.ref ro, .ref xp, .ref wo, .int sv])), (ro, .inr (0, [.int mod, .ref ea, .int (nI ln)])), (xp, .inr (2, [.ref cd, .int (nI sz0), .ref st])), (cd, .inl (cy 0, n1, .inl fc)), (st, .inl (cy 2, 32, .inr (.inl g2_21))), (cn, .inl (cy 2, 16, .inr (.inl cf))), (wo, .inr (1, [.int (nI 6000), .ref rmw, .int (nI lw)])), (rmw, .inl (cy 0, nw, .inl fwv))] ++ (ltail cy ea na fl rs2_21)) H := tl_subP hP [0, 3, 4, 5, 6, 7, 8, 1, 2] rfl
        replace hD : va_D A ([(o, .inr (9, [.ref tx, .ref cn, .ref tb])), (tb, .inr (6, [.ref ro, .ref xp, .ref wo, .int sv])), (ro, .inr (0, [.int mod, .ref ea, .int (nI ln)])), (xp, .inr (2, [.ref cd, .int (nI sz0), .ref st])), (cd, .inl (cy 0, n1, .inl fc)), (st, .inl (cy 2, 32, .inr (.inl g2_21))), (cn, .inl (cy 2, 16, .inr (.inl cf))), (wo, .inr (1, [.int (nI 6000), .ref rmw, .int (nI lw)])), (rmw, .inl (cy 0, nw, .inl fwv))] ++ (ltail cy ea na fl rs2_21)) := tl_subD hD [0, 3, 4, 5, 6, 7, 8, 1, 2] (by decide) rfl
        have hP : va_P D vwCl ([(o, .inr (9, [.ref tx, .ref cn, .ref tb])), (tb, .inr (6, [.ref ro, .ref xp, wrv (some (wo, rmw, lw, nw, fwv)), .int sv])), (ro, .inr (0, [.int mod, .ref ea, .int (nI ln)])), (xp, .inr (2, [.ref cd, .int (nI sz0), .ref st])), (cd, .inl (cy 0, n1, .inl fc)), (st, .inl (cy 2, 32, .inr (.inl g2_21))), (cn, .inl (cy 2, 16, .inr (.inl cf)))] ++ (wgrp cy (some (wo, rmw, lw, nw, fwv)) ++ ltail cy ea na fl rs2_21)) H := hP
        have hD : va_D A ([(o, .inr (9, [.ref tx, .ref cn, .ref tb])), (tb, .inr (6, [.ref ro, .ref xp, wrv (some (wo, rmw, lw, nw, fwv)), .int sv])), (ro, .inr (0, [.int mod, .ref ea, .int (nI ln)])), (xp, .inr (2, [.ref cd, .int (nI sz0), .ref st])), (cd, .inl (cy 0, n1, .inl fc)), (st, .inl (cy 2, 32, .inr (.inl g2_21))), (cn, .inl (cy 2, 16, .inr (.inl cf)))] ++ (wgrp cy (some (wo, rmw, lw, nw, fwv)) ++ ltail cy ea na fl rs2_21)) := hD
        have hP9 : va_P D vwCl ([(o, .inr (9, [.ref tx, .ref cn, .ref tb])), (cn, .inl (cy 2, 16, .inr (.inl cf))), (tb, .inr (6, [.ref ro, .ref xp, wrv (some (wo, rmw, lw, nw, fwv)), .int sv])), (ro, .inr (0, [.int mod, .ref ea, .int (nI ln)])), (xp, .inr (2, [.ref cd, .int (nI sz0), .ref st])), (cd, .inl (cy 0, n1, .inl fc)), (st, .inl (cy 2, 32, .inr (.inl g2_21)))] ++ (wgrp cy (some (wo, rmw, lw, nw, fwv)) ++ ltail cy ea na fl rs2_21)) H := tl_subP hP [0, 6, 1, 2, 3, 4, 5] rfl
        have hD9 : va_D A ([(o, .inr (9, [.ref tx, .ref cn, .ref tb])), (cn, .inl (cy 2, 16, .inr (.inl cf))), (tb, .inr (6, [.ref ro, .ref xp, wrv (some (wo, rmw, lw, nw, fwv)), .int sv])), (ro, .inr (0, [.int mod, .ref ea, .int (nI ln)])), (xp, .inr (2, [.ref cd, .int (nI sz0), .ref st])), (cd, .inl (cy 0, n1, .inl fc)), (st, .inl (cy 2, 32, .inr (.inl g2_21)))] ++ (wgrp cy (some (wo, rmw, lw, nw, fwv)) ++ ltail cy ea na fl rs2_21)) := tl_subD hD [0, 6, 1, 2, 3, 4, 5] (by decide) rfl
        refine W.widen (k := 0) (n := 0) (by omega) (by omega) ?_
        exact W.zret hx hb hr rfl (fun t ht hW => ⟨⟨_, (rs2_21, g2_21), rfl, ⟨by simp [c1, c7], hw21.1, fun q9 => hw21.2.1 (fun q8 => q9 ⟨one_le.mp q8, c7⟩), fun q9 => hw21.2.2 (one_le.mpr q9.1)⟩, by rw [ht]; exact hP9, hD9⟩, hS.F ht⟩) hS.2.2 dX8_tick_25
      · refine lv_iconst (v := 0) hx hb dX8_tick_10 (by decide +kernel) ?_
        replace hP : va_P D vwCl ([(o, .inr (9, [.ref tx, .ref cn, .ref tb])), (cn, .inl (cy 2, 16, .inr (.inl cf))), (tb, .inr (6, [.ref ro, .ref xp, .ref wo, .int sv])), (ro, .inr (0, [.int mod, .ref ea, .int (nI ln)])), (xp, .inr (2, [.ref cd, .int (nI sz0), .ref st])), (cd, .inl (cy 0, n1, .inl fc)), (st, .inl (cy 2, 32, .inr (.inl g))), (wo, .inr (1, [.int (nI 6000), .ref rmw, .int (nI lw)])), (rmw, .inl (cy 0, nw, .inl fwv))] ++ (ltail cy ea na fl rs)) s.heap := tl_subP hP [0, 1, 2, 3, 4, 5, 6, 7, 8] rfl
        replace hD : va_D A ([(o, .inr (9, [.ref tx, .ref cn, .ref tb])), (cn, .inl (cy 2, 16, .inr (.inl cf))), (tb, .inr (6, [.ref ro, .ref xp, .ref wo, .int sv])), (ro, .inr (0, [.int mod, .ref ea, .int (nI ln)])), (xp, .inr (2, [.ref cd, .int (nI sz0), .ref st])), (cd, .inl (cy 0, n1, .inl fc)), (st, .inl (cy 2, 32, .inr (.inl g))), (wo, .inr (1, [.int (nI 6000), .ref rmw, .int (nI lw)])), (rmw, .inl (cy 0, nw, .inl fwv))] ++ (ltail cy ea na fl rs)) := tl_subD hD [0, 1, 2, 3, 4, 5, 6, 7, 8] (by decide) rfl
        have hP : va_P D vwCl ([(o, .inr (9, [.ref tx, .ref cn, .ref tb])), (cn, .inl (cy 2, 16, .inr (.inl cf))), (tb, .inr (6, [.ref ro, .ref xp, wrv (some (wo, rmw, lw, nw, fwv)), .int sv])), (ro, .inr (0, [.int mod, .ref ea, .int (nI ln)])), (xp, .inr (2, [.ref cd, .int (nI sz0), .ref st])), (cd, .inl (cy 0, n1, .inl fc)), (st, .inl (cy 2, 32, .inr (.inl g)))] ++ (wgrp cy (some (wo, rmw, lw, nw, fwv)) ++ ltail cy ea na fl rs)) s.heap := hP
        have hD : va_D A ([(o, .inr (9, [.ref tx, .ref cn, .ref tb])), (cn, .inl (cy 2, 16, .inr (.inl cf))), (tb, .inr (6, [.ref ro, .ref xp, wrv (some (wo, rmw, lw, nw, fwv)), .int sv])), (ro, .inr (0, [.int mod, .ref ea, .int (nI ln)])), (xp, .inr (2, [.ref cd, .int (nI sz0), .ref st])), (cd, .inl (cy 0, n1, .inl fc)), (st, .inl (cy 2, 32, .inr (.inl g)))] ++ (wgrp cy (some (wo, rmw, lw, nw, fwv)) ++ ltail cy ea na fl rs)) := hD
        have hP9 : va_P D vwCl ([(o, .inr (9, [.ref tx, .ref cn, .ref tb])), (cn, .inl (cy 2, 16, .inr (.inl cf))), (tb, .inr (6, [.ref ro, .ref xp, wrv (some (wo, rmw, lw, nw, fwv)), .int sv])), (ro, .inr (0, [.int mod, .ref ea, .int (nI ln)])), (xp, .inr (2, [.ref cd, .int (nI sz0), .ref st])), (cd, .inl (cy 0, n1, .inl fc)), (st, .inl (cy 2, 32, .inr (.inl g)))] ++ (wgrp cy (some (wo, rmw, lw, nw, fwv)) ++ ltail cy ea na fl rs)) s.heap := tl_subP hP [0, 1, 2, 3, 4, 5, 6] rfl
        have hD9 : va_D A ([(o, .inr (9, [.ref tx, .ref cn, .ref tb])), (cn, .inl (cy 2, 16, .inr (.inl cf))), (tb, .inr (6, [.ref ro, .ref xp, wrv (some (wo, rmw, lw, nw, fwv)), .int sv])), (ro, .inr (0, [.int mod, .ref ea, .int (nI ln)])), (xp, .inr (2, [.ref cd, .int (nI sz0), .ref st])), (cd, .inl (cy 0, n1, .inl fc)), (st, .inl (cy 2, 32, .inr (.inl g)))] ++ (wgrp cy (some (wo, rmw, lw, nw, fwv)) ++ ltail cy ea na fl rs)) := tl_subD hD [0, 1, 2, 3, 4, 5, 6] (by decide) rfl
        refine W.widen (k := 0) (n := 0) (by omega) (by omega) ?_
        exact W.zret hx hb hr rfl (fun t ht hW => ⟨⟨_, (rs, g), rfl, ⟨by simp [c1, c7], ⟨hls, hln⟩, fun _ => rfl, fun q9 => absurd q9.2 c7⟩, by rw [ht]; exact hP9, hD9⟩, hS.F ht⟩) hS.2.2 dX8_tick_11

set_option maxHeartbeats 4000000 in
set_option maxRecDepth 100000 in
theorem c_IT_act (l : Launch) (D : va_G) (cy : Nat → ClassId) (e : Nat → Nat)  (o : Nat) (tx : Nat) (cn : Nat) (tb : Nat) (cf : Nat → Int64) (ro : Nat) (xp : Nat) (sv : Int32) (cd : Nat) (sz0 : Nat) (st : Nat) (n1 : Nat) (fc : Nat → Int32) (g : Nat → Int64) (mod : Int32) (ea : Nat) (ln : Nat) (na : Nat) (fl : Nat → Option Nat) (rs : List rwT) (w : Option (Nat × Nat × Nat × Nat × (Nat → Int32))) (vv : Nat → Int64) (k : Int32) (sz : Nat) (hsz : sz0 ≤ n1) (hn1 : n1 < 65536) (hls : lsok e ea na fl rs) (hna : na ≤ 60) (hln : rs.length = ln) (hev : cev rs fc sz0 cf vv) : Met l yX8_act wsX8_act ({ frames := 5, cells := 0, slots := 0, locals := 118 }) (va_Pc [.ref o, .int k] (mt_B D cy e ([(o, .inr (9, [.ref tx, .ref cn, .ref tb])), (cn, .inl (cy 2, 16, .inr (.inl cf))), (tb, .inr (6, [.ref ro, .ref xp, wrv w, .int sv])), (ro, .inr (0, [.int mod, .ref ea, .int (nI ln)])), (xp, .inr (2, [.ref cd, .int (nI sz0), .ref st])), (cd, .inl (cy 0, n1, .inl fc)), (st, .inl (cy 2, 32, .inr (.inl g)))] ++ (wgrp cy w ++ ltail cy ea na fl rs)) sz)) (va_Qi (fun (r : Int32) (u : List rwT × (Nat → Int64)) => match u with | (rs2, g2) => (lsok e ea na fl rs2 ∧ rs2.length = ln) ∧ rs2 = rs ∧ (((k < 0 ∨ ¬ k < 32) ∧ r = -1) ∨ (∃ kn, k = nI kn ∧ kn < 32 ∧ fp_first ln (barC rs vv kn) r))) (mt_Q D (fun (u : List rwT × (Nat → Int64)) => match u with | (rs2, g2) => ([(o, .inr (9, [.ref tx, .ref cn, .ref tb])), (cn, .inl (cy 2, 16, .inr (.inl cf))), (tb, .inr (6, [.ref ro, .ref xp, wrv w, .int sv])), (ro, .inr (0, [.int mod, .ref ea, .int (nI ln)])), (xp, .inr (2, [.ref cd, .int (nI sz0), .ref st])), (cd, .inl (cy 0, n1, .inl fc)), (st, .inl (cy 2, 32, .inr (.inl g2)))] ++ (wgrp cy w ++ ltail cy ea na fl rs2))) (va_A ([(o, .inr (9, [.ref tx, .ref cn, .ref tb])), (cn, .inl (cy 2, 16, .inr (.inl cf))), (tb, .inr (6, [.ref ro, .ref xp, wrv w, .int sv])), (ro, .inr (0, [.int mod, .ref ea, .int (nI ln)])), (xp, .inr (2, [.ref cd, .int (nI sz0), .ref st])), (cd, .inl (cy 0, n1, .inl fc)), (st, .inl (cy 2, 32, .inr (.inl g)))] ++ (wgrp cy w ++ ltail cy ea na fl rs)) sz)) (va_A ([(o, .inr (9, [.ref tx, .ref cn, .ref tb])), (cn, .inl (cy 2, 16, .inr (.inl cf))), (tb, .inr (6, [.ref ro, .ref xp, wrv w, .int sv])), (ro, .inr (0, [.int mod, .ref ea, .int (nI ln)])), (xp, .inr (2, [.ref cd, .int (nI sz0), .ref st])), (cd, .inl (cy 0, n1, .inl fc)), (st, .inl (cy 2, 32, .inr (.inl g)))] ++ (wgrp cy w ++ ltail cy ea na fl rs)) sz)) (0) (0) (va_A ([(o, .inr (9, [.ref tx, .ref cn, .ref tb])), (cn, .inl (cy 2, 16, .inr (.inl cf))), (tb, .inr (6, [.ref ro, .ref xp, wrv w, .int sv])), (ro, .inr (0, [.int mod, .ref ea, .int (nI ln)])), (xp, .inr (2, [.ref cd, .int (nI sz0), .ref st])), (cd, .inl (cy 0, n1, .inl fc)), (st, .inl (cy 2, 32, .inr (.inl g)))] ++ (wgrp cy w ++ ltail cy ea na fl rs)) sz) := by
  refine Met.ofW (cc := cX8_act) (maxL := 2) (ret := (some .int)) (by decide) rfl ?_
  intro p ev s m args below meth c s₁ B hml hv
  obtain ⟨rfl, hsz, hP, hK, hD0, hG⟩ := hv
  have hx := B.exec
  have hb := B.bytes
  have hr := B.returns
  have hts := atoms_spec (ws := wsX8_act) B.pre
  have hown : s.vm.findClass RX8 = some m.cls := findClass_of_methodNamed B.named
  have hlocks := B.notSynchronized
  subst hsz
  have hD := hD0.self (sz := s.heap.size)
  generalize hAe : va_A ([(o, .inr (9, [.ref tx, .ref cn, .ref tb])), (cn, .inl (cy 2, 16, .inr (.inl cf))), (tb, .inr (6, [.ref ro, .ref xp, wrv w, .int sv])), (ro, .inr (0, [.int mod, .ref ea, .int (nI ln)])), (xp, .inr (2, [.ref cd, .int (nI sz0), .ref st])), (cd, .inl (cy 0, n1, .inl fc)), (st, .inl (cy 2, 32, .inr (.inl g)))] ++ (wgrp cy w ++ ltail cy ea na fl rs)) s.heap.size = A at hD hG ⊢
  have hA : ∀ q : Nat, s.heap.size ≤ q → A q := fun q h => by rw [← hAe]; exact Or.inr h
  have hS : va_S A s.heap s.heap [] := va_S.rf
  have hP : va_P D vwCl ([(o, .inr (9, [.ref tx, .ref cn, .ref tb])), (cn, .inl (cy 2, 16, .inr (.inl cf))), (tb, .inr (6, [.ref ro, .ref xp, wrv w, .int sv])), (ro, .inr (0, [.int mod, .ref ea, .int (nI ln)])), (xp, .inr (2, [.ref cd, .int (nI sz0), .ref st])), (cd, .inl (cy 0, n1, .inl fc)), (st, .inl (cy 2, 32, .inr (.inl g)))] ++ (wgrp cy w ++ ltail cy ea na fl rs)) s.heap := hP
  have iX8 : ∀ w ∈ wsX80, w ∈ wsX8_act := fun w h => List.mem_cons_of_mem _ (List.mem_append_left _ (List.mem_append_left _ (List.mem_append_left _ (List.mem_append_left _ (List.mem_append_right _ h)))))
  have iX5 : ∀ w ∈ wsX50, w ∈ wsX8_act := fun w h => List.mem_cons_of_mem _ (List.mem_append_left _ (List.mem_append_left _ (List.mem_append_left _ (List.mem_append_right _ h))))
  have iJx4a65c : ∀ w ∈ wsJx4a65c0, w ∈ wsX8_act := fun w h => List.mem_cons_of_mem _ (List.mem_append_left _ (List.mem_append_left _ (List.mem_append_right _ h)))
  have iX3 : ∀ w ∈ wsX30, w ∈ wsX8_act := fun w h => List.mem_cons_of_mem _ (List.mem_append_left _ (List.mem_append_right _ h))
  have iX1 : ∀ w ∈ wsX10, w ∈ wsX8_act := fun w h => List.mem_cons_of_mem _ (List.mem_append_right _ h)
  have hl := lv_entry ([.ref o, .int k]) (n := 2) (Nat.le_of_ble_eq_true rfl)
  rw [lg_entry_eq]
  generalize (lg_sl ([.ref o, .int k]) ++ List.replicate (2 - (lg_sl ([.ref o, .int k])).length) Slot.unset).toArray = ls at hl ⊢
  have hl : lv_has ls 2 [(0, .ref o), (1, .int k)] := hl
  rcases w with _ | ⟨wo, rmw, lw, nw, fwv⟩
  · have hP : va_P D vwCl ([(o, .inr (9, [.ref tx, .ref cn, .ref tb])), (cn, .inl (cy 2, 16, .inr (.inl cf))), (tb, .inr (6, [.ref ro, .ref xp, .null, .int sv])), (ro, .inr (0, [.int mod, .ref ea, .int (nI ln)])), (xp, .inr (2, [.ref cd, .int (nI sz0), .ref st])), (cd, .inl (cy 0, n1, .inl fc)), (st, .inl (cy 2, 32, .inr (.inl g)))] ++ (ltail cy ea na fl rs)) s.heap := hP
    have hD : va_D A ([(o, .inr (9, [.ref tx, .ref cn, .ref tb])), (cn, .inl (cy 2, 16, .inr (.inl cf))), (tb, .inr (6, [.ref ro, .ref xp, .null, .int sv])), (ro, .inr (0, [.int mod, .ref ea, .int (nI ln)])), (xp, .inr (2, [.ref cd, .int (nI sz0), .ref st])), (cd, .inl (cy 0, n1, .inl fc)), (st, .inl (cy 2, 32, .inr (.inl g)))] ++ (ltail cy ea na fl rs)) := hD
    refine lv_iload_n hx hb dX8_act_0 rfl (lv_at hl 1 rfl) ?_
    refine lv_if_lt (tgt := 10) hx hb dX8_act_1 (by decide) (fun c1 => ?_) (fun c1 => ?_)
    · refine lv_iconst (v := -1) hx hb dX8_act_10 (by decide +kernel) ?_
      have hP : va_P D vwCl ([(o, .inr (9, [.ref tx, .ref cn, .ref tb])), (cn, .inl (cy 2, 16, .inr (.inl cf))), (tb, .inr (6, [.ref ro, .ref xp, wrv none, .int sv])), (ro, .inr (0, [.int mod, .ref ea, .int (nI ln)])), (xp, .inr (2, [.ref cd, .int (nI sz0), .ref st])), (cd, .inl (cy 0, n1, .inl fc)), (st, .inl (cy 2, 32, .inr (.inl g)))] ++ (wgrp cy none ++ ltail cy ea na fl rs)) s.heap := hP
      have hD : va_D A ([(o, .inr (9, [.ref tx, .ref cn, .ref tb])), (cn, .inl (cy 2, 16, .inr (.inl cf))), (tb, .inr (6, [.ref ro, .ref xp, wrv none, .int sv])), (ro, .inr (0, [.int mod, .ref ea, .int (nI ln)])), (xp, .inr (2, [.ref cd, .int (nI sz0), .ref st])), (cd, .inl (cy 0, n1, .inl fc)), (st, .inl (cy 2, 32, .inr (.inl g)))] ++ (wgrp cy none ++ ltail cy ea na fl rs)) := hD
      have hP9 : va_P D vwCl ([(o, .inr (9, [.ref tx, .ref cn, .ref tb])), (cn, .inl (cy 2, 16, .inr (.inl cf))), (tb, .inr (6, [.ref ro, .ref xp, wrv none, .int sv])), (ro, .inr (0, [.int mod, .ref ea, .int (nI ln)])), (xp, .inr (2, [.ref cd, .int (nI sz0), .ref st])), (cd, .inl (cy 0, n1, .inl fc)), (st, .inl (cy 2, 32, .inr (.inl g)))] ++ (wgrp cy none ++ ltail cy ea na fl rs)) s.heap := tl_subP hP [0, 1, 2, 3, 4, 5, 6] rfl
      have hD9 : va_D A ([(o, .inr (9, [.ref tx, .ref cn, .ref tb])), (cn, .inl (cy 2, 16, .inr (.inl cf))), (tb, .inr (6, [.ref ro, .ref xp, wrv none, .int sv])), (ro, .inr (0, [.int mod, .ref ea, .int (nI ln)])), (xp, .inr (2, [.ref cd, .int (nI sz0), .ref st])), (cd, .inl (cy 0, n1, .inl fc)), (st, .inl (cy 2, 32, .inr (.inl g)))] ++ (wgrp cy none ++ ltail cy ea na fl rs)) := tl_subD hD [0, 1, 2, 3, 4, 5, 6] (by decide) rfl
      refine W.widen (k := 0) (n := 0) (by omega) (by omega) ?_
      exact W.iret hx hb hr (fun t ht hW => ⟨⟨_, (rs, g), rfl, ⟨⟨hls, hln⟩, rfl, Or.inl ⟨Or.inl c1, rfl⟩⟩, by rw [ht]; exact hP9, hD9⟩, hS.F ht⟩) hS.2.2 dX8_act_11
    · refine lv_iload_n hx hb dX8_act_4 rfl (lv_at hl 1 rfl) ?_
      refine lv_bipush (v := 32) hx hb dX8_act_5 (by decide +kernel) ?_
      refine lv_icmp_lt (tgt := 12) hx hb dX8_act_7 (by decide) (fun c7 => ?_) (fun c7 => ?_)
      · obtain ⟨kn, hkn, rfl⟩ : ∃ kn : Nat, kn < 32 ∧ k = nI kn := k32 c1 c7
        have hl : lv_has ls 2 [(0, .ref o), (1, .int (nI kn))] := hl
        refine lv_aload_n hx hb dX8_act_12 rfl (lv_at hl 0 rfl) ?_
        refine va_get (D := D) (ci := 9) (v := .ref tb) (C := RX8) (T := TX8) (N := 3) hx hb hts iX8 hown hK hP 0 rfl rfl 2 (by decide) (hts (.fieldLink RX8 25 "InterlockTables" "table" "LInterlockTables$Table;") (by decide +kernel)) (fun _ h9 => h9) rfl dX8_act_13 ?_
        refine lv_iload_n hx hb dX8_act_16 rfl (lv_at hl 1 rfl) ?_
        refine lv_aload_n hx hb dX8_act_17 rfl (lv_at hl 0 rfl) ?_
        refine va_get (D := D) (ci := 9) (v := .ref cn) (C := RX8) (T := TX8) (N := 3) hx hb hts iX8 hown hK hP 0 rfl rfl 1 (by decide) (hts (.fieldLink RX8 18 "InterlockTables" "conditions" "[J") (by decide +kernel)) (fun _ h9 => h9) rfl dX8_act_18 ?_
        refine mt_calliP (w1 := (fun (u : List rwT × (Nat → Int64)) => match u with | (rs2, g2) => [(tb, .inr (6, [.ref ro, .ref xp, .null, .int sv])), (ro, .inr (0, [.int mod, .ref ea, .int (nI ln)])), (xp, .inr (2, [.ref cd, .int (nI sz0), .ref st])), (cd, .inl (cy 0, n1, .inl fc)), (st, .inl (cy 2, 32, .inr (.inl g2))), (cn, .inl (cy 2, 16, .inr (.inl cf)))])) (T1 := (fun (u : List rwT × (Nat → Int64)) => match u with | (rs2, g2) => ltail cy ea na fl rs2)) (wr := [(o, .inr (9, [.ref tx, .ref cn, .ref tb]))]) (va_runV (As := [.int (nI kn), .ref cn]) (rest := []) ⟨hx, hb, hml, hown, hts⟩ (c_Table_firstToBar l D cy e tb ro xp .null sv cd sz0 st n1 fc g cn cf mod ea ln na fl rs vv kn s.heap.size hsz hn1 hls hna hln hev hkn) (cwV 2 hts gX8_act_X5_firstToBar rfl rfl rfl (by decide +kernel) ⟨Nat.le_of_ble_eq_true rfl, Nat.le_of_ble_eq_true rfl⟩) (mt_preVT hP hD hK hS hA hG [2, 3, 4, 5, 6, 1] rfl (by decide) (q := (RX5, TX5, 4)) (ci := 6) (q0 := 2) rfl rfl) rfl rfl hl.1 rfl (lv_room (Nat.le_of_ble_eq_true rfl)) dX8_act_21 ⟨(Nat.le_of_ble_eq_true rfl), (Nat.le_of_ble_eq_true rfl)⟩) hP hD hS hA [2, 3, 4, 5, 6, 1] [0] rfl rfl (by decide) (by decide) (fun r21 u H locs hw hP hD hS => ?_)
        obtain ⟨rs2_21, g2_21⟩ := u
        have hP : va_P D vwCl ([(o, .inr (9, [.ref tx, .ref cn, .ref tb])), (tb, .inr (6, [.ref ro, .ref xp, .null, .int sv])), (ro, .inr (0, [.int mod, .ref ea, .int (nI ln)])), (xp, .inr (2, [.ref cd, .int (nI sz0), .ref st])), (cd, .inl (cy 0, n1, .inl fc)), (st, .inl (cy 2, 32, .inr (.inl g2_21))), (cn, .inl (cy 2, 16, .inr (.inl cf)))] ++ (ltail cy ea na fl rs2_21)) H := hP
        have hD : va_D A ([(o, .inr (9, [.ref tx, .ref cn, .ref tb])), (tb, .inr (6, [.ref ro, .ref xp, .null, .int sv])), (ro, .inr (0, [.int mod, .ref ea, .int (nI ln)])), (xp, .inr (2, [.ref cd, .int (nI sz0), .ref st])), (cd, .inl (cy 0, n1, .inl fc)), (st, .inl (cy 2, 32, .inr (.inl g2_21))), (cn, .inl (cy 2, 16, .inr (.inl cf)))] ++ (ltail cy ea na fl rs2_21)) := hD
        replace hw : (lsok e ea na fl rs2_21 ∧ rs2_21.length = ln) ∧ rs2_21 = rs ∧ fp_first ln (barC rs vv kn) r21 := hw
        refine W.widen (k := 0) (n := 0) (by omega) (by omega) ?_
        have hw21 := hw
        have hP : va_P D vwCl ([(o, .inr (9, [.ref tx, .ref cn, .ref tb])), (tb, .inr (6, [.ref ro, .ref xp, wrv none, .int sv])), (ro, .inr (0, [.int mod, .ref ea, .int (nI ln)])), (xp, .inr (2, [.ref cd, .int (nI sz0), .ref st])), (cd, .inl (cy 0, n1, .inl fc)), (st, .inl (cy 2, 32, .inr (.inl g2_21))), (cn, .inl (cy 2, 16, .inr (.inl cf)))] ++ (wgrp cy none ++ ltail cy ea na fl rs2_21)) H := hP
        have hD : va_D A ([(o, .inr (9, [.ref tx, .ref cn, .ref tb])), (tb, .inr (6, [.ref ro, .ref xp, wrv none, .int sv])), (ro, .inr (0, [.int mod, .ref ea, .int (nI ln)])), (xp, .inr (2, [.ref cd, .int (nI sz0), .ref st])), (cd, .inl (cy 0, n1, .inl fc)), (st, .inl (cy 2, 32, .inr (.inl g2_21))), (cn, .inl (cy 2, 16, .inr (.inl cf)))] ++ (wgrp cy none ++ ltail cy ea na fl rs2_21)) := hD
        have hP9 : va_P D vwCl ([(o, .inr (9, [.ref tx, .ref cn, .ref tb])), (cn, .inl (cy 2, 16, .inr (.inl cf))), (tb, .inr (6, [.ref ro, .ref xp, wrv none, .int sv])), (ro, .inr (0, [.int mod, .ref ea, .int (nI ln)])), (xp, .inr (2, [.ref cd, .int (nI sz0), .ref st])), (cd, .inl (cy 0, n1, .inl fc)), (st, .inl (cy 2, 32, .inr (.inl g2_21)))] ++ (wgrp cy none ++ ltail cy ea na fl rs2_21)) H := tl_subP hP [0, 6, 1, 2, 3, 4, 5] rfl
        have hD9 : va_D A ([(o, .inr (9, [.ref tx, .ref cn, .ref tb])), (cn, .inl (cy 2, 16, .inr (.inl cf))), (tb, .inr (6, [.ref ro, .ref xp, wrv none, .int sv])), (ro, .inr (0, [.int mod, .ref ea, .int (nI ln)])), (xp, .inr (2, [.ref cd, .int (nI sz0), .ref st])), (cd, .inl (cy 0, n1, .inl fc)), (st, .inl (cy 2, 32, .inr (.inl g2_21)))] ++ (wgrp cy none ++ ltail cy ea na fl rs2_21)) := tl_subD hD [0, 6, 1, 2, 3, 4, 5] (by decide) rfl
        refine W.widen (k := 0) (n := 0) (by omega) (by omega) ?_
        exact W.iret hx hb hr (fun t ht hW => ⟨⟨_, (rs2_21, g2_21), rfl, ⟨hw21.1, hw21.2.1, Or.inr ⟨kn, rfl, hkn, hw21.2.2⟩⟩, by rw [ht]; exact hP9, hD9⟩, hS.F ht⟩) hS.2.2 dX8_act_24
      · refine lv_iconst (v := -1) hx hb dX8_act_10 (by decide +kernel) ?_
        have hP : va_P D vwCl ([(o, .inr (9, [.ref tx, .ref cn, .ref tb])), (cn, .inl (cy 2, 16, .inr (.inl cf))), (tb, .inr (6, [.ref ro, .ref xp, wrv none, .int sv])), (ro, .inr (0, [.int mod, .ref ea, .int (nI ln)])), (xp, .inr (2, [.ref cd, .int (nI sz0), .ref st])), (cd, .inl (cy 0, n1, .inl fc)), (st, .inl (cy 2, 32, .inr (.inl g)))] ++ (wgrp cy none ++ ltail cy ea na fl rs)) s.heap := hP
        have hD : va_D A ([(o, .inr (9, [.ref tx, .ref cn, .ref tb])), (cn, .inl (cy 2, 16, .inr (.inl cf))), (tb, .inr (6, [.ref ro, .ref xp, wrv none, .int sv])), (ro, .inr (0, [.int mod, .ref ea, .int (nI ln)])), (xp, .inr (2, [.ref cd, .int (nI sz0), .ref st])), (cd, .inl (cy 0, n1, .inl fc)), (st, .inl (cy 2, 32, .inr (.inl g)))] ++ (wgrp cy none ++ ltail cy ea na fl rs)) := hD
        have hP9 : va_P D vwCl ([(o, .inr (9, [.ref tx, .ref cn, .ref tb])), (cn, .inl (cy 2, 16, .inr (.inl cf))), (tb, .inr (6, [.ref ro, .ref xp, wrv none, .int sv])), (ro, .inr (0, [.int mod, .ref ea, .int (nI ln)])), (xp, .inr (2, [.ref cd, .int (nI sz0), .ref st])), (cd, .inl (cy 0, n1, .inl fc)), (st, .inl (cy 2, 32, .inr (.inl g)))] ++ (wgrp cy none ++ ltail cy ea na fl rs)) s.heap := tl_subP hP [0, 1, 2, 3, 4, 5, 6] rfl
        have hD9 : va_D A ([(o, .inr (9, [.ref tx, .ref cn, .ref tb])), (cn, .inl (cy 2, 16, .inr (.inl cf))), (tb, .inr (6, [.ref ro, .ref xp, wrv none, .int sv])), (ro, .inr (0, [.int mod, .ref ea, .int (nI ln)])), (xp, .inr (2, [.ref cd, .int (nI sz0), .ref st])), (cd, .inl (cy 0, n1, .inl fc)), (st, .inl (cy 2, 32, .inr (.inl g)))] ++ (wgrp cy none ++ ltail cy ea na fl rs)) := tl_subD hD [0, 1, 2, 3, 4, 5, 6] (by decide) rfl
        refine W.widen (k := 0) (n := 0) (by omega) (by omega) ?_
        exact W.iret hx hb hr (fun t ht hW => ⟨⟨_, (rs, g), rfl, ⟨⟨hls, hln⟩, rfl, Or.inl ⟨Or.inr c7, rfl⟩⟩, by rw [ht]; exact hP9, hD9⟩, hS.F ht⟩) hS.2.2 dX8_act_11
  · have hP : va_P D vwCl ([(o, .inr (9, [.ref tx, .ref cn, .ref tb])), (cn, .inl (cy 2, 16, .inr (.inl cf))), (tb, .inr (6, [.ref ro, .ref xp, .ref wo, .int sv])), (ro, .inr (0, [.int mod, .ref ea, .int (nI ln)])), (xp, .inr (2, [.ref cd, .int (nI sz0), .ref st])), (cd, .inl (cy 0, n1, .inl fc)), (st, .inl (cy 2, 32, .inr (.inl g))), (wo, .inr (1, [.int (nI 6000), .ref rmw, .int (nI lw)])), (rmw, .inl (cy 0, nw, .inl fwv))] ++ (ltail cy ea na fl rs)) s.heap := hP
    have hD : va_D A ([(o, .inr (9, [.ref tx, .ref cn, .ref tb])), (cn, .inl (cy 2, 16, .inr (.inl cf))), (tb, .inr (6, [.ref ro, .ref xp, .ref wo, .int sv])), (ro, .inr (0, [.int mod, .ref ea, .int (nI ln)])), (xp, .inr (2, [.ref cd, .int (nI sz0), .ref st])), (cd, .inl (cy 0, n1, .inl fc)), (st, .inl (cy 2, 32, .inr (.inl g))), (wo, .inr (1, [.int (nI 6000), .ref rmw, .int (nI lw)])), (rmw, .inl (cy 0, nw, .inl fwv))] ++ (ltail cy ea na fl rs)) := hD
    refine lv_iload_n hx hb dX8_act_0 rfl (lv_at hl 1 rfl) ?_
    refine lv_if_lt (tgt := 10) hx hb dX8_act_1 (by decide) (fun c1 => ?_) (fun c1 => ?_)
    · refine lv_iconst (v := -1) hx hb dX8_act_10 (by decide +kernel) ?_
      replace hP : va_P D vwCl ([(o, .inr (9, [.ref tx, .ref cn, .ref tb])), (cn, .inl (cy 2, 16, .inr (.inl cf))), (tb, .inr (6, [.ref ro, .ref xp, .ref wo, .int sv])), (ro, .inr (0, [.int mod, .ref ea, .int (nI ln)])), (xp, .inr (2, [.ref cd, .int (nI sz0), .ref st])), (cd, .inl (cy 0, n1, .inl fc)), (st, .inl (cy 2, 32, .inr (.inl g))), (wo, .inr (1, [.int (nI 6000), .ref rmw, .int (nI lw)])), (rmw, .inl (cy 0, nw, .inl fwv))] ++ (ltail cy ea na fl rs)) s.heap := tl_subP hP [0, 1, 2, 3, 4, 5, 6, 7, 8] rfl
      replace hD : va_D A ([(o, .inr (9, [.ref tx, .ref cn, .ref tb])), (cn, .inl (cy 2, 16, .inr (.inl cf))), (tb, .inr (6, [.ref ro, .ref xp, .ref wo, .int sv])), (ro, .inr (0, [.int mod, .ref ea, .int (nI ln)])), (xp, .inr (2, [.ref cd, .int (nI sz0), .ref st])), (cd, .inl (cy 0, n1, .inl fc)), (st, .inl (cy 2, 32, .inr (.inl g))), (wo, .inr (1, [.int (nI 6000), .ref rmw, .int (nI lw)])), (rmw, .inl (cy 0, nw, .inl fwv))] ++ (ltail cy ea na fl rs)) := tl_subD hD [0, 1, 2, 3, 4, 5, 6, 7, 8] (by decide) rfl
      have hP : va_P D vwCl ([(o, .inr (9, [.ref tx, .ref cn, .ref tb])), (cn, .inl (cy 2, 16, .inr (.inl cf))), (tb, .inr (6, [.ref ro, .ref xp, wrv (some (wo, rmw, lw, nw, fwv)), .int sv])), (ro, .inr (0, [.int mod, .ref ea, .int (nI ln)])), (xp, .inr (2, [.ref cd, .int (nI sz0), .ref st])), (cd, .inl (cy 0, n1, .inl fc)), (st, .inl (cy 2, 32, .inr (.inl g)))] ++ (wgrp cy (some (wo, rmw, lw, nw, fwv)) ++ ltail cy ea na fl rs)) s.heap := hP
      have hD : va_D A ([(o, .inr (9, [.ref tx, .ref cn, .ref tb])), (cn, .inl (cy 2, 16, .inr (.inl cf))), (tb, .inr (6, [.ref ro, .ref xp, wrv (some (wo, rmw, lw, nw, fwv)), .int sv])), (ro, .inr (0, [.int mod, .ref ea, .int (nI ln)])), (xp, .inr (2, [.ref cd, .int (nI sz0), .ref st])), (cd, .inl (cy 0, n1, .inl fc)), (st, .inl (cy 2, 32, .inr (.inl g)))] ++ (wgrp cy (some (wo, rmw, lw, nw, fwv)) ++ ltail cy ea na fl rs)) := hD
      have hP9 : va_P D vwCl ([(o, .inr (9, [.ref tx, .ref cn, .ref tb])), (cn, .inl (cy 2, 16, .inr (.inl cf))), (tb, .inr (6, [.ref ro, .ref xp, wrv (some (wo, rmw, lw, nw, fwv)), .int sv])), (ro, .inr (0, [.int mod, .ref ea, .int (nI ln)])), (xp, .inr (2, [.ref cd, .int (nI sz0), .ref st])), (cd, .inl (cy 0, n1, .inl fc)), (st, .inl (cy 2, 32, .inr (.inl g)))] ++ (wgrp cy (some (wo, rmw, lw, nw, fwv)) ++ ltail cy ea na fl rs)) s.heap := tl_subP hP [0, 1, 2, 3, 4, 5, 6] rfl
      have hD9 : va_D A ([(o, .inr (9, [.ref tx, .ref cn, .ref tb])), (cn, .inl (cy 2, 16, .inr (.inl cf))), (tb, .inr (6, [.ref ro, .ref xp, wrv (some (wo, rmw, lw, nw, fwv)), .int sv])), (ro, .inr (0, [.int mod, .ref ea, .int (nI ln)])), (xp, .inr (2, [.ref cd, .int (nI sz0), .ref st])), (cd, .inl (cy 0, n1, .inl fc)), (st, .inl (cy 2, 32, .inr (.inl g)))] ++ (wgrp cy (some (wo, rmw, lw, nw, fwv)) ++ ltail cy ea na fl rs)) := tl_subD hD [0, 1, 2, 3, 4, 5, 6] (by decide) rfl
      refine W.widen (k := 0) (n := 0) (by omega) (by omega) ?_
      exact W.iret hx hb hr (fun t ht hW => ⟨⟨_, (rs, g), rfl, ⟨⟨hls, hln⟩, rfl, Or.inl ⟨Or.inl c1, rfl⟩⟩, by rw [ht]; exact hP9, hD9⟩, hS.F ht⟩) hS.2.2 dX8_act_11
    · refine lv_iload_n hx hb dX8_act_4 rfl (lv_at hl 1 rfl) ?_
      refine lv_bipush (v := 32) hx hb dX8_act_5 (by decide +kernel) ?_
      refine lv_icmp_lt (tgt := 12) hx hb dX8_act_7 (by decide) (fun c7 => ?_) (fun c7 => ?_)
      · obtain ⟨kn, hkn, rfl⟩ : ∃ kn : Nat, kn < 32 ∧ k = nI kn := k32 c1 c7
        have hl : lv_has ls 2 [(0, .ref o), (1, .int (nI kn))] := hl
        refine lv_aload_n hx hb dX8_act_12 rfl (lv_at hl 0 rfl) ?_
        refine va_get (D := D) (ci := 9) (v := .ref tb) (C := RX8) (T := TX8) (N := 3) hx hb hts iX8 hown hK hP 0 rfl rfl 2 (by decide) (hts (.fieldLink RX8 25 "InterlockTables" "table" "LInterlockTables$Table;") (by decide +kernel)) (fun _ h9 => h9) rfl dX8_act_13 ?_
        refine lv_iload_n hx hb dX8_act_16 rfl (lv_at hl 1 rfl) ?_
        refine lv_aload_n hx hb dX8_act_17 rfl (lv_at hl 0 rfl) ?_
        refine va_get (D := D) (ci := 9) (v := .ref cn) (C := RX8) (T := TX8) (N := 3) hx hb hts iX8 hown hK hP 0 rfl rfl 1 (by decide) (hts (.fieldLink RX8 18 "InterlockTables" "conditions" "[J") (by decide +kernel)) (fun _ h9 => h9) rfl dX8_act_18 ?_
        refine mt_calliP (w1 := (fun (u : List rwT × (Nat → Int64)) => match u with | (rs2, g2) => [(tb, .inr (6, [.ref ro, .ref xp, .ref wo, .int sv])), (ro, .inr (0, [.int mod, .ref ea, .int (nI ln)])), (xp, .inr (2, [.ref cd, .int (nI sz0), .ref st])), (cd, .inl (cy 0, n1, .inl fc)), (st, .inl (cy 2, 32, .inr (.inl g2))), (cn, .inl (cy 2, 16, .inr (.inl cf)))])) (T1 := (fun (u : List rwT × (Nat → Int64)) => match u with | (rs2, g2) => ltail cy ea na fl rs2)) (wr := [(o, .inr (9, [.ref tx, .ref cn, .ref tb])), (wo, .inr (1, [.int (nI 6000), .ref rmw, .int (nI lw)])), (rmw, .inl (cy 0, nw, .inl fwv))]) (va_runV (As := [.int (nI kn), .ref cn]) (rest := []) ⟨hx, hb, hml, hown, hts⟩ (c_Table_firstToBar l D cy e tb ro xp (.ref wo) sv cd sz0 st n1 fc g cn cf mod ea ln na fl rs vv kn s.heap.size hsz hn1 hls hna hln hev hkn) (cwV 2 hts gX8_act_X5_firstToBar rfl rfl rfl (by decide +kernel) ⟨Nat.le_of_ble_eq_true rfl, Nat.le_of_ble_eq_true rfl⟩) (mt_preVT hP hD hK hS hA hG [2, 3, 4, 5, 6, 1] rfl (by decide) (q := (RX5, TX5, 4)) (ci := 6) (q0 := 2) rfl rfl) rfl rfl hl.1 rfl (lv_room (Nat.le_of_ble_eq_true rfl)) dX8_act_21 ⟨(Nat.le_of_ble_eq_true rfl), (Nat.le_of_ble_eq_true rfl)⟩) hP hD hS hA [2, 3, 4, 5, 6, 1] [0, 7, 8] rfl rfl (by decide) (by decide) (fun r21 u H locs hw hP hD hS => ?_)
        obtain ⟨rs2_21, g2_21⟩ := u
        have hP : va_P D vwCl ([(o, .inr (9, [.ref tx, .ref cn, .ref tb])), (wo, .inr (1, [.int (nI 6000), .ref rmw, .int (nI lw)])), (rmw, .inl (cy 0, nw, .inl fwv)), (tb, .inr (6, [.ref ro, .ref xp, .ref wo, .int sv])), (ro, .inr (0, [.int mod, .ref ea, .int (nI ln)])), (xp, .inr (2, [.ref cd, .int (nI sz0), .ref st])), (cd, .inl (cy 0, n1, .inl fc)), (st, .inl (cy 2, 32, .inr (.inl g2_21))), (cn, .inl (cy 2, 16, .inr (.inl cf)))] ++ (ltail cy ea na fl rs2_21)) H := hP
        have hD : va_D A ([(o, .inr (9, [.ref tx, .ref cn, .ref tb])), (wo, .inr (1, [.int (nI 6000), .ref rmw, .int (nI lw)])), (rmw, .inl (cy 0, nw, .inl fwv)), (tb, .inr (6, [.ref ro, .ref xp, .ref wo, .int sv])), (ro, .inr (0, [.int mod, .ref ea, .int (nI ln)])), (xp, .inr (2, [.ref cd, .int (nI sz0), .ref st])), (cd, .inl (cy 0, n1, .inl fc)), (st, .inl (cy 2, 32, .inr (.inl g2_21))), (cn, .inl (cy 2, 16, .inr (.inl cf)))] ++ (ltail cy ea na fl rs2_21)) := hD
        replace hw : (lsok e ea na fl rs2_21 ∧ rs2_21.length = ln) ∧ rs2_21 = rs ∧ fp_first ln (barC rs vv kn) r21 := hw
        refine W.widen (k := 0) (n := 0) (by omega) (by omega) ?_
        have hw21 := hw
        replace hP : va_P D vwCl ([(o, .inr (9, [.ref tx, .ref cn, .ref tb])), (tb, .inr (6, [.ref ro, .ref xp, .ref wo, .int sv])), (ro, .inr (0, [.int mod, .ref ea, .int (nI ln)])), (xp, .inr (2, [.ref cd, .int (nI sz0), .ref st])), (cd, .inl (cy 0, n1, .inl fc)), (st, .inl (cy 2, 32, .inr (.inl g2_21))), (cn, .inl (cy 2, 16, .inr (.inl cf))), (wo, .inr (1, [.int (nI 6000), .ref rmw, .int (nI lw)])), (rmw, .inl (cy 0, nw, .inl fwv))] ++ (ltail cy ea na fl rs2_21)) H := tl_subP hP [0, 3, 4, 5, 6, 7, 8, 1, 2] rfl
        replace hD : va_D A ([(o, .inr (9, [.ref tx, .ref cn, .ref tb])), (tb, .inr (6, [.ref ro, .ref xp, .ref wo, .int sv])), (ro, .inr (0, [.int mod, .ref ea, .int (nI ln)])), (xp, .inr (2, [.ref cd, .int (nI sz0), .ref st])), (cd, .inl (cy 0, n1, .inl fc)), (st, .inl (cy 2, 32, .inr (.inl g2_21))), (cn, .inl (cy 2, 16, .inr (.inl cf))), (wo, .inr (1, [.int (nI 6000), .ref rmw, .int (nI lw)])), (rmw, .inl (cy 0, nw, .inl fwv))] ++ (ltail cy ea na fl rs2_21)) := tl_subD hD [0, 3, 4, 5, 6, 7, 8, 1, 2] (by decide) rfl
        have hP : va_P D vwCl ([(o, .inr (9, [.ref tx, .ref cn, .ref tb])), (tb, .inr (6, [.ref ro, .ref xp, wrv (some (wo, rmw, lw, nw, fwv)), .int sv])), (ro, .inr (0, [.int mod, .ref ea, .int (nI ln)])), (xp, .inr (2, [.ref cd, .int (nI sz0), .ref st])), (cd, .inl (cy 0, n1, .inl fc)), (st, .inl (cy 2, 32, .inr (.inl g2_21))), (cn, .inl (cy 2, 16, .inr (.inl cf)))] ++ (wgrp cy (some (wo, rmw, lw, nw, fwv)) ++ ltail cy ea na fl rs2_21)) H := hP
        have hD : va_D A ([(o, .inr (9, [.ref tx, .ref cn, .ref tb])), (tb, .inr (6, [.ref ro, .ref xp, wrv (some (wo, rmw, lw, nw, fwv)), .int sv])), (ro, .inr (0, [.int mod, .ref ea, .int (nI ln)])), (xp, .inr (2, [.ref cd, .int (nI sz0), .ref st])), (cd, .inl (cy 0, n1, .inl fc)), (st, .inl (cy 2, 32, .inr (.inl g2_21))), (cn, .inl (cy 2, 16, .inr (.inl cf)))] ++ (wgrp cy (some (wo, rmw, lw, nw, fwv)) ++ ltail cy ea na fl rs2_21)) := hD
        have hP9 : va_P D vwCl ([(o, .inr (9, [.ref tx, .ref cn, .ref tb])), (cn, .inl (cy 2, 16, .inr (.inl cf))), (tb, .inr (6, [.ref ro, .ref xp, wrv (some (wo, rmw, lw, nw, fwv)), .int sv])), (ro, .inr (0, [.int mod, .ref ea, .int (nI ln)])), (xp, .inr (2, [.ref cd, .int (nI sz0), .ref st])), (cd, .inl (cy 0, n1, .inl fc)), (st, .inl (cy 2, 32, .inr (.inl g2_21)))] ++ (wgrp cy (some (wo, rmw, lw, nw, fwv)) ++ ltail cy ea na fl rs2_21)) H := tl_subP hP [0, 6, 1, 2, 3, 4, 5] rfl
        have hD9 : va_D A ([(o, .inr (9, [.ref tx, .ref cn, .ref tb])), (cn, .inl (cy 2, 16, .inr (.inl cf))), (tb, .inr (6, [.ref ro, .ref xp, wrv (some (wo, rmw, lw, nw, fwv)), .int sv])), (ro, .inr (0, [.int mod, .ref ea, .int (nI ln)])), (xp, .inr (2, [.ref cd, .int (nI sz0), .ref st])), (cd, .inl (cy 0, n1, .inl fc)), (st, .inl (cy 2, 32, .inr (.inl g2_21)))] ++ (wgrp cy (some (wo, rmw, lw, nw, fwv)) ++ ltail cy ea na fl rs2_21)) := tl_subD hD [0, 6, 1, 2, 3, 4, 5] (by decide) rfl
        refine W.widen (k := 0) (n := 0) (by omega) (by omega) ?_
        exact W.iret hx hb hr (fun t ht hW => ⟨⟨_, (rs2_21, g2_21), rfl, ⟨hw21.1, hw21.2.1, Or.inr ⟨kn, rfl, hkn, hw21.2.2⟩⟩, by rw [ht]; exact hP9, hD9⟩, hS.F ht⟩) hS.2.2 dX8_act_24
      · refine lv_iconst (v := -1) hx hb dX8_act_10 (by decide +kernel) ?_
        replace hP : va_P D vwCl ([(o, .inr (9, [.ref tx, .ref cn, .ref tb])), (cn, .inl (cy 2, 16, .inr (.inl cf))), (tb, .inr (6, [.ref ro, .ref xp, .ref wo, .int sv])), (ro, .inr (0, [.int mod, .ref ea, .int (nI ln)])), (xp, .inr (2, [.ref cd, .int (nI sz0), .ref st])), (cd, .inl (cy 0, n1, .inl fc)), (st, .inl (cy 2, 32, .inr (.inl g))), (wo, .inr (1, [.int (nI 6000), .ref rmw, .int (nI lw)])), (rmw, .inl (cy 0, nw, .inl fwv))] ++ (ltail cy ea na fl rs)) s.heap := tl_subP hP [0, 1, 2, 3, 4, 5, 6, 7, 8] rfl
        replace hD : va_D A ([(o, .inr (9, [.ref tx, .ref cn, .ref tb])), (cn, .inl (cy 2, 16, .inr (.inl cf))), (tb, .inr (6, [.ref ro, .ref xp, .ref wo, .int sv])), (ro, .inr (0, [.int mod, .ref ea, .int (nI ln)])), (xp, .inr (2, [.ref cd, .int (nI sz0), .ref st])), (cd, .inl (cy 0, n1, .inl fc)), (st, .inl (cy 2, 32, .inr (.inl g))), (wo, .inr (1, [.int (nI 6000), .ref rmw, .int (nI lw)])), (rmw, .inl (cy 0, nw, .inl fwv))] ++ (ltail cy ea na fl rs)) := tl_subD hD [0, 1, 2, 3, 4, 5, 6, 7, 8] (by decide) rfl
        have hP : va_P D vwCl ([(o, .inr (9, [.ref tx, .ref cn, .ref tb])), (cn, .inl (cy 2, 16, .inr (.inl cf))), (tb, .inr (6, [.ref ro, .ref xp, wrv (some (wo, rmw, lw, nw, fwv)), .int sv])), (ro, .inr (0, [.int mod, .ref ea, .int (nI ln)])), (xp, .inr (2, [.ref cd, .int (nI sz0), .ref st])), (cd, .inl (cy 0, n1, .inl fc)), (st, .inl (cy 2, 32, .inr (.inl g)))] ++ (wgrp cy (some (wo, rmw, lw, nw, fwv)) ++ ltail cy ea na fl rs)) s.heap := hP
        have hD : va_D A ([(o, .inr (9, [.ref tx, .ref cn, .ref tb])), (cn, .inl (cy 2, 16, .inr (.inl cf))), (tb, .inr (6, [.ref ro, .ref xp, wrv (some (wo, rmw, lw, nw, fwv)), .int sv])), (ro, .inr (0, [.int mod, .ref ea, .int (nI ln)])), (xp, .inr (2, [.ref cd, .int (nI sz0), .ref st])), (cd, .inl (cy 0, n1, .inl fc)), (st, .inl (cy 2, 32, .inr (.inl g)))] ++ (wgrp cy (some (wo, rmw, lw, nw, fwv)) ++ ltail cy ea na fl rs)) := hD
        have hP9 : va_P D vwCl ([(o, .inr (9, [.ref tx, .ref cn, .ref tb])), (cn, .inl (cy 2, 16, .inr (.inl cf))), (tb, .inr (6, [.ref ro, .ref xp, wrv (some (wo, rmw, lw, nw, fwv)), .int sv])), (ro, .inr (0, [.int mod, .ref ea, .int (nI ln)])), (xp, .inr (2, [.ref cd, .int (nI sz0), .ref st])), (cd, .inl (cy 0, n1, .inl fc)), (st, .inl (cy 2, 32, .inr (.inl g)))] ++ (wgrp cy (some (wo, rmw, lw, nw, fwv)) ++ ltail cy ea na fl rs)) s.heap := tl_subP hP [0, 1, 2, 3, 4, 5, 6] rfl
        have hD9 : va_D A ([(o, .inr (9, [.ref tx, .ref cn, .ref tb])), (cn, .inl (cy 2, 16, .inr (.inl cf))), (tb, .inr (6, [.ref ro, .ref xp, wrv (some (wo, rmw, lw, nw, fwv)), .int sv])), (ro, .inr (0, [.int mod, .ref ea, .int (nI ln)])), (xp, .inr (2, [.ref cd, .int (nI sz0), .ref st])), (cd, .inl (cy 0, n1, .inl fc)), (st, .inl (cy 2, 32, .inr (.inl g)))] ++ (wgrp cy (some (wo, rmw, lw, nw, fwv)) ++ ltail cy ea na fl rs)) := tl_subD hD [0, 1, 2, 3, 4, 5, 6] (by decide) rfl
        refine W.widen (k := 0) (n := 0) (by omega) (by omega) ?_
        exact W.iret hx hb hr (fun t ht hW => ⟨⟨_, (rs, g), rfl, ⟨⟨hls, hln⟩, rfl, Or.inl ⟨Or.inr c7, rfl⟩⟩, by rw [ht]; exact hP9, hD9⟩, hS.F ht⟩) hS.2.2 dX8_act_11

set_option maxHeartbeats 4000000 in
set_option maxRecDepth 100000 in
theorem c_isPerson (l : Launch) (D : va_G) (cy : Nat → ClassId) (e : Nat → Nat)  (k : Int32)  : Met l yX8_isPerson wsX8_isPerson ({ frames := 0, cells := 0, slots := 0, locals := 0 }) (va_Pc [.int k] (pu_B D cy e [])) (va_Qi (fun (r : Int32) (_ : Unit) => r = isp k) (fun _ _ => True) (fun _ => False)) 0 0 (fun _ => False) := by
  refine Met.ofW (cc := cX8_isPerson) (maxL := 1) (ret := (some .boolean)) (by decide) rfl ?_
  intro p ev s m args below meth c s₁ B hml hv
  obtain ⟨rfl, hP, hK, hG⟩ := hv
  have hx := B.exec
  have hb := B.bytes
  have hr := B.returns
  have hts := atoms_spec (ws := wsX8_isPerson) B.pre
  have hown : s.vm.findClass RX8 = some m.cls := findClass_of_methodNamed B.named
  have hlocks := B.notSynchronized
  have hS : va_S (fun _ => False) s.heap s.heap [] := va_S.rf
  have hP : va_P D vwCl [] s.heap := hP
  have hl := lv_entry ([.int k]) (n := 1) (Nat.le_of_ble_eq_true rfl)
  rw [lg_entry_eq]
  generalize (lg_sl ([.int k]) ++ List.replicate (1 - (lg_sl ([.int k])).length) Slot.unset).toArray = ls at hl ⊢
  have hl : lv_has ls 1 [(0, .int k)] := hl
  refine lv_iload_n hx hb dX8_isPerson_0 rfl (lv_at hl 0 rfl) ?_
  refine lv_iconst (v := 1) hx hb dX8_isPerson_1 (by decide +kernel) ?_
  refine lv_icmp_lt (tgt := 16) hx hb dX8_isPerson_2 (by decide) (fun c2 => ?_) (fun c2 => ?_)
  · refine lv_iconst (v := 0) hx hb dX8_isPerson_16 (by decide +kernel) ?_
    exact W.zret hx hb hr rfl (fun t ht hW => ⟨⟨_, (), rfl, (if_pos (Or.inl c2)).symm, trivial⟩, hS.F ht⟩) hS.2.2 dX8_isPerson_17
  · refine lv_iload_n hx hb dX8_isPerson_5 rfl (lv_at hl 0 rfl) ?_
    refine lv_sipush (v := 999) hx hb dX8_isPerson_6 (by decide +kernel) ?_
    refine lv_icmp_gt (tgt := 16) hx hb dX8_isPerson_9 (by decide) (fun c9 => ?_) (fun c9 => ?_)
    · refine lv_iconst (v := 0) hx hb dX8_isPerson_16 (by decide +kernel) ?_
      exact W.zret hx hb hr rfl (fun t ht hW => ⟨⟨_, (), rfl, (if_pos (Or.inr c9)).symm, trivial⟩, hS.F ht⟩) hS.2.2 dX8_isPerson_17
    · refine lv_iconst (v := 1) hx hb dX8_isPerson_12 (by decide +kernel) ?_
      refine lv_goto (tgt := 17) hx hb dX8_isPerson_13 (by decide) ?_
      exact W.zret hx hb hr rfl (fun t ht hW => ⟨⟨_, (), rfl, (if_neg (not_or.mpr ⟨c2, c9⟩)).symm, trivial⟩, hS.F ht⟩) hS.2.2 dX8_isPerson_17

set_option maxHeartbeats 4000000 in
set_option maxRecDepth 100000 in
theorem c_oneIf (l : Launch) (D : va_G) (cy : Nat → ClassId) (e : Nat → Nat)  (k : Int32)  : Met l yX8_oneIf wsX8_oneIf ({ frames := 0, cells := 0, slots := 0, locals := 0 }) (va_Pc [.int k] (pu_B D cy e [])) (va_Qi (fun (r : Int32) (_ : Unit) => r = if k = 0 then 0 else 1) (fun _ _ => True) (fun _ => False)) 0 0 (fun _ => False) := by
  refine Met.ofW (cc := cX8_oneIf) (maxL := 1) (ret := (some .int)) (by decide) rfl ?_
  intro p ev s m args below meth c s₁ B hml hv
  obtain ⟨rfl, hP, hK, hG⟩ := hv
  have hx := B.exec
  have hb := B.bytes
  have hr := B.returns
  have hts := atoms_spec (ws := wsX8_oneIf) B.pre
  have hown : s.vm.findClass RX8 = some m.cls := findClass_of_methodNamed B.named
  have hlocks := B.notSynchronized
  have hS : va_S (fun _ => False) s.heap s.heap [] := va_S.rf
  have hP : va_P D vwCl [] s.heap := hP
  have hl := lv_entry ([.int k]) (n := 1) (Nat.le_of_ble_eq_true rfl)
  rw [lg_entry_eq]
  generalize (lg_sl ([.int k]) ++ List.replicate (1 - (lg_sl ([.int k])).length) Slot.unset).toArray = ls at hl ⊢
  have hl : lv_has ls 1 [(0, .int k)] := hl
  refine lv_iload_n hx hb dX8_oneIf_0 rfl (lv_at hl 0 rfl) ?_
  refine lv_if_eq (tgt := 8) hx hb dX8_oneIf_1 (by decide) (fun c1 => ?_) (fun c1 => ?_)
  · refine lv_iconst (v := 0) hx hb dX8_oneIf_8 (by decide +kernel) ?_
    exact W.iret hx hb hr (fun t ht hW => ⟨⟨_, (), rfl, (if_pos c1).symm, trivial⟩, hS.F ht⟩) hS.2.2 dX8_oneIf_9
  · refine lv_iconst (v := 1) hx hb dX8_oneIf_4 (by decide +kernel) ?_
    refine lv_goto (tgt := 9) hx hb dX8_oneIf_5 (by decide) ?_
    exact W.iret hx hb hr (fun t ht hW => ⟨⟨_, (), rfl, (if_neg c1).symm, trivial⟩, hS.F ht⟩) hS.2.2 dX8_oneIf_9
